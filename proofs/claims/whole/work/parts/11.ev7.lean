set_option maxHeartbeats 4000000 in
set_option maxRecDepth 100000 in
theorem l_X11_spells_b58_b {x : Cx} (F : Nat) (a0 : Nat) (h0 : shK a0 = 10 + 9)  (hx : CxOK x RX11 cX11_spells 2 1 0 none)  (k58 : Int → aI → Option aI) (hk58 : ∀ (v1 : Int) (w : aI), En x jvV 0 0 58 [(0, .ref a0), (1, .int (oI v1))] [] (cm w) (k58 v1 w)) (v1 : Int) (w : aI) : En x jvV 0 0 58 [(0, .ref a0), (1, .int (oI v1))] [] (cm w) (f_X11_spells_b58_b F a0   k58 v1 w) := by
  unfold f_X11_spells_b58_b
  refine E_iload_n (pc := 58) hx 1 dX11_spells_58 rfl rfl ?_
  refine E_aload_n (pc := 59) hx 0 dX11_spells_59 rfl rfl ?_
  refine I_getI (pc := 60) hx 8 8 rfl fc9 h0 rfl ⟨rfl, rfl, rfl⟩ g1340 dX11_spells_60 ?_
  refine E_gd (fun hr5 => ?_)
  refine I_icmp_ge (pc := 63) hx 89 dX11_spells_63 rfl ⟨hr5.1, hr5.2⟩ ?_ ?_
  · exact E_vret (pc := 89) hx dX11_spells_89 rfl rfl (Nat.le_of_ble_eq_true rfl)
  refine E_aload_n (pc := 66) hx 0 dX11_spells_66 rfl rfl ?_
  refine E_getR (pc := 67) hx 7 fc9 h0 rfl ⟨rfl, rfl, rfl⟩ g1339 dX11_spells_67 ?_
  refine E_iload_n (pc := 70) hx 1 dX11_spells_70 rfl rfl ?_
  refine E_aload_n (pc := 71) hx 0 dX11_spells_71 rfl rfl ?_
  refine E_getR (pc := 72) hx 12 fc9 h0 rfl ⟨rfl, rfl, rfl⟩ g1344 dX11_spells_72 ?_
  refine E_aload_n (pc := 75) hx 0 dX11_spells_75 rfl rfl ?_
  refine I_getI (pc := 76) hx 16 16 rfl fc9 h0 rfl ⟨rfl, rfl, rfl⟩ g1348 dX11_spells_76 ?_
  refine E_iload_n (pc := 79) hx 1 dX11_spells_79 rfl rfl ?_
  refine I_iadd (pc := 80) hx dX11_spells_80 ?_
  refine I_bald (pc := 81) hx (kt_9_12 h0) dX11_spells_81 ?_
  refine I_iast (pc := 82) hx (kt_9_7 h0) dX11_spells_82 (fun w6 => ?_)
  refine I_iinc (pc := 83) hx 1 1 dX11_spells_83 rfl (Nat.le_of_ble_eq_true rfl) rfl ?_
  refine E_goto (pc := 86) hx 58 dX11_spells_86 rfl ?_
  refine En.sub [1, 0] rfl ?_
  exact hk58 (v1 + 1) w6
theorem l_X11_spells_b58 {x : Cx} (F : Nat) (a0 : Nat) (h0 : shK a0 = 10 + 9)  (hx : CxOK x RX11 cX11_spells 2 1 0 none)  : ∀ (n : Nat) (v1 : Int) (w : aI), En x jvV 0 0 58 [(0, .ref a0), (1, .int (oI v1))] [] (cm w) (f_X11_spells_b58 F a0   n v1 w) := by
  intro n
  induction n with
  | zero => intro v1 w; exact E_none
  | succ n ih => intro v1 w; exact l_X11_spells_b58_b F a0 h0  hx  _ ih v1 w
set_option maxHeartbeats 4000000 in
set_option maxRecDepth 100000 in
theorem l_X11_spells_b28 {x : Cx} (F : Nat) (a0 : Nat) (h0 : shK a0 = 10 + 9)  (hx : CxOK x RX11 cX11_spells 2 1 0 none)   (z0 : Int) (z1 : Nat) (hz1 : shK z1 = 10 + 9) (w : aI) : En x jvV 0 0 28 [(0, .ref a0)] [.int (oI z0), .ref z1] (cm w) (f_X11_spells_b28 F a0    z0 z1 w) := by
  unfold f_X11_spells_b28
  refine I_iconst (pc := 28) hx 1 dX11_spells_28 ?_
  refine I_cVV  (pc := 29) hx [.int (oI z0), .int (oI 1)] [] (ev_X11_need F z1 hz1 z0 1 w) vm_X11_need fc9 hz1 g1486 dX11_spells_29 rfl rfl (Nat.le_of_ble_eq_true rfl) (Nat.le_of_ble_eq_true rfl) (Nat.le_of_ble_eq_true rfl) (fun w2 => ?_)
  refine E_aload_n (pc := 32) hx 0 dX11_spells_32 rfl rfl ?_
  refine E_aload_n (pc := 33) hx 0 dX11_spells_33 rfl rfl ?_
  refine I_getI (pc := 34) hx 20 20 rfl fc9 h0 rfl ⟨rfl, rfl, rfl⟩ g1352 dX11_spells_34 ?_
  refine E_gd (fun hr3 => ?_)
  refine I_if_ne (pc := 37) hx 52 dX11_spells_37 rfl hr3 ?_ ?_
  · refine I_iconst (pc := 52) hx 0 dX11_spells_52 ?_
    refine I_put (pc := 53) hx 8 8 rfl .int tyX11 fc9 tyX11_ok h0 rfl ⟨rfl, rfl, rfl, rfl, pfd_I⟩ rfl rfl g1340 dX11_spells_53 (fun w4 => ?_)
    refine I_iconst (pc := 56) hx 0 dX11_spells_56 ?_
    refine E_istore_n (pc := 57) hx dX11_spells_57 rfl (Nat.le_of_ble_eq_true rfl) rfl ?_
    refine En.sub [1, 0] rfl ?_
    exact l_X11_spells_b58 F a0 h0 hx F 0 w4
  refine E_aload_n (pc := 40) hx 0 dX11_spells_40 rfl rfl ?_
  refine I_getI (pc := 41) hx 17 17 rfl fc9 h0 rfl ⟨rfl, rfl, rfl⟩ g1349 dX11_spells_41 ?_
  refine E_aload_n (pc := 44) hx 0 dX11_spells_44 rfl rfl ?_
  refine I_getI (pc := 45) hx 16 16 rfl fc9 h0 rfl ⟨rfl, rfl, rfl⟩ g1348 dX11_spells_45 ?_
  refine I_isub (pc := 48) hx dX11_spells_48 ?_
  refine E_goto (pc := 49) hx 53 dX11_spells_49 rfl ?_
  refine I_put (pc := 53) hx 8 8 rfl .int tyX11 fc9 tyX11_ok h0 rfl ⟨rfl, rfl, rfl, rfl, pfd_I⟩ rfl rfl g1340 dX11_spells_53 (fun w7 => ?_)
  refine I_iconst (pc := 56) hx 0 dX11_spells_56 ?_
  refine E_istore_n (pc := 57) hx dX11_spells_57 rfl (Nat.le_of_ble_eq_true rfl) rfl ?_
  refine En.sub [1, 0] rfl ?_
  exact l_X11_spells_b58 F a0 h0 hx F 0 w7
set_option maxHeartbeats 4000000 in
set_option maxRecDepth 100000 in
theorem l_X11_spells_b27 {x : Cx} (F : Nat) (a0 : Nat) (h0 : shK a0 = 10 + 9)  (hx : CxOK x RX11 cX11_spells 2 1 0 none)   (z0 : Nat) (hz0 : shK z0 = 10 + 9) (w : aI) : En x jvV 0 0 27 [(0, .ref a0)] [.ref z0] (cm w) (f_X11_spells_b27 F a0    z0 w) := by
  unfold f_X11_spells_b27
  refine I_iconst (pc := 27) hx 0 dX11_spells_27 ?_
  exact l_X11_spells_b28 F a0 h0 hx 0 z0 hz0 w
set_option maxHeartbeats 4000000 in
set_option maxRecDepth 100000 in
theorem ev_X11_spells (F : Nat) (a0 : Nat) (h0 : shK a0 = 10 + 9) (w : aI) : Ev yX11_spells cX11_spells 2 none 1 0 jvV [.ref a0] (cm w) (f_X11_spells F a0 w) := by
  refine Ev.of (own := RX11) (by decide +kernel) rfl (Nat.le_of_ble_eq_true rfl) (fun x hx => ?_)
  show En x jvV 0 0 0 [(0, .ref a0)] [] (cm w) _
  unfold f_X11_spells
  refine E_aload_n (pc := 0) hx 0 dX11_spells_0 rfl rfl ?_
  refine E_aload_n (pc := 1) hx 0 dX11_spells_1 rfl rfl ?_
  refine I_getI (pc := 2) hx 18 18 rfl fc9 h0 rfl ⟨rfl, rfl, rfl⟩ g1350 dX11_spells_2 ?_
  refine I_iconst (pc := 5) hx 1 dX11_spells_5 ?_
  refine E_gd (fun hr1 => ?_)
  refine I_icmp_ne (pc := 6) hx 27 dX11_spells_6 rfl ⟨hr1, (by decide)⟩ ?_ ?_
  · exact l_X11_spells_b27 F a0 h0 hx a0 h0 w
  refine E_aload_n (pc := 9) hx 0 dX11_spells_9 rfl rfl ?_
  refine I_getI (pc := 10) hx 17 17 rfl fc9 h0 rfl ⟨rfl, rfl, rfl⟩ g1349 dX11_spells_10 ?_
  refine E_aload_n (pc := 13) hx 0 dX11_spells_13 rfl rfl ?_
  refine I_getI (pc := 14) hx 16 16 rfl fc9 h0 rfl ⟨rfl, rfl, rfl⟩ g1348 dX11_spells_14 ?_
  refine I_isub (pc := 17) hx dX11_spells_17 ?_
  refine I_bipush (pc := 18) hx 6 dX11_spells_18 rfl ?_
  refine E_gd (fun hr8 => ?_)
  refine I_icmp_gt (pc := 20) hx 27 dX11_spells_20 rfl ⟨hr8, (by decide)⟩ ?_ ?_
  · exact l_X11_spells_b27 F a0 h0 hx a0 h0 w
  refine I_iconst (pc := 23) hx 1 dX11_spells_23 ?_
  refine E_goto (pc := 24) hx 28 dX11_spells_24 rfl ?_
  exact l_X11_spells_b28 F a0 h0 hx 1 a0 h0 w
set_option maxHeartbeats 4000000 in
set_option maxRecDepth 100000 in
theorem l_X11_roofHere_b38 {x : Cx} (F : Nat) (a0 : Nat) (h0 : shK a0 = 10 + 9) (p1 : Int)  (hx : CxOK x RX11 cX11_roofHere 3 2 0 (some .int))   (v2 : Int) (z0 : Nat) (hz0 : shK z0 = 10 + 9) (w : aI) : En x jvIW 0 0 38 [(2, .int (oI v2))] [.ref z0] (cm w) (f_X11_roofHere_b38 F a0 p1    v2 z0 w) := by
  unfold f_X11_roofHere_b38
  refine I_iconst (pc := 38) hx 1 dX11_roofHere_38 ?_
  refine E_goto (pc := 39) hx 43 dX11_roofHere_39 rfl ?_
  refine I_iconst (pc := 43) hx 3 dX11_roofHere_43 ?_
  refine I_cVV  (pc := 44) hx [.int (oI 1), .int (oI 3)] [] (ev_X11_need F z0 hz0 1 3 w) vm_X11_need fc9 hz0 g1486 dX11_roofHere_44 rfl rfl (Nat.le_of_ble_eq_true rfl) (Nat.le_of_ble_eq_true rfl) (Nat.le_of_ble_eq_true rfl) (fun w4 => ?_)
  refine I_iconst (pc := 47) hx 0 dX11_roofHere_47 ?_
  refine E_iload_n (pc := 48) hx 0 dX11_roofHere_48 rfl rfl ?_
  refine E_gd (fun hr5 => ?_)
  refine I_mmax (pc := 49) hx ⟨(by decide), hr5⟩ g1519 g746 g121 g747 (Nat.le_of_ble_eq_true rfl) (Nat.le_of_ble_eq_true rfl) (Nat.le_of_ble_eq_true rfl) dX11_roofHere_49 ?_
  exact E_iret (pc := 52) hx dX11_roofHere_52 rfl rfl (Nat.le_of_ble_eq_true rfl)
set_option maxHeartbeats 4000000 in
set_option maxRecDepth 100000 in
theorem l_X11_roofHere_b19 {x : Cx} (F : Nat) (a0 : Nat) (h0 : shK a0 = 10 + 9) (p1 : Int)  (hx : CxOK x RX11 cX11_roofHere 3 2 0 (some .int))   (z0 : Int) (w : aI) : En x jvIW 0 0 19 [(0, .ref a0), (1, .int (oI p1))] [.int (oI z0)] (cm w) (f_X11_roofHere_b19 F a0 p1    z0 w) := by
  unfold f_X11_roofHere_b19
  refine E_istore_n (pc := 19) hx dX11_roofHere_19 rfl (Nat.le_of_ble_eq_true rfl) rfl ?_
  refine E_aload_n (pc := 20) hx 1 dX11_roofHere_20 rfl rfl ?_
  refine E_aload_n (pc := 21) hx 1 dX11_roofHere_21 rfl rfl ?_
  refine I_getI (pc := 22) hx 20 20 rfl fc9 h0 rfl ⟨rfl, rfl, rfl⟩ g1352 dX11_roofHere_22 ?_
  refine E_gd (fun hr3 => ?_)
  refine I_if_gt (pc := 25) hx 38 dX11_roofHere_25 rfl hr3 ?_ ?_
  · refine En.sub [0] rfl ?_
    exact l_X11_roofHere_b38 F a0 h0 p1 hx z0 a0 h0 w
  refine E_iload_n (pc := 28) hx 0 dX11_roofHere_28 rfl rfl ?_
  refine I_iconst (pc := 29) hx (-1) dX11_roofHere_29 ?_
  refine E_gd (fun hr6 => ?_)
  refine I_icmp_eq (pc := 30) hx 42 dX11_roofHere_30 rfl ⟨hr6, (by decide)⟩ ?_ ?_
  · refine I_iconst (pc := 42) hx 0 dX11_roofHere_42 ?_
    refine I_iconst (pc := 43) hx 3 dX11_roofHere_43 ?_
    refine I_cVV  (pc := 44) hx [.int (oI 0), .int (oI 3)] [] (ev_X11_need F a0 h0 0 3 w) vm_X11_need fc9 h0 g1486 dX11_roofHere_44 rfl rfl (Nat.le_of_ble_eq_true rfl) (Nat.le_of_ble_eq_true rfl) (Nat.le_of_ble_eq_true rfl) (fun w7 => ?_)
    refine I_iconst (pc := 47) hx 0 dX11_roofHere_47 ?_
    refine E_iload_n (pc := 48) hx 0 dX11_roofHere_48 rfl rfl ?_
    refine I_mmax (pc := 49) hx ⟨(by decide), hr6⟩ g1519 g746 g121 g747 (Nat.le_of_ble_eq_true rfl) (Nat.le_of_ble_eq_true rfl) (Nat.le_of_ble_eq_true rfl) dX11_roofHere_49 ?_
    exact E_iret (pc := 52) hx dX11_roofHere_52 rfl rfl (Nat.le_of_ble_eq_true rfl)
  refine E_iload_n (pc := 33) hx 0 dX11_roofHere_33 rfl rfl ?_
  refine E_iload_n (pc := 34) hx 2 dX11_roofHere_34 rfl rfl ?_
  refine E_gd (fun hr8 => ?_)
  refine I_icmp_eq (pc := 35) hx 42 dX11_roofHere_35 rfl ⟨hr6, hr8⟩ ?_ ?_
  · refine I_iconst (pc := 42) hx 0 dX11_roofHere_42 ?_
    refine I_iconst (pc := 43) hx 3 dX11_roofHere_43 ?_
    refine I_cVV  (pc := 44) hx [.int (oI 0), .int (oI 3)] [] (ev_X11_need F a0 h0 0 3 w) vm_X11_need fc9 h0 g1486 dX11_roofHere_44 rfl rfl (Nat.le_of_ble_eq_true rfl) (Nat.le_of_ble_eq_true rfl) (Nat.le_of_ble_eq_true rfl) (fun w9 => ?_)
    refine I_iconst (pc := 47) hx 0 dX11_roofHere_47 ?_
    refine E_iload_n (pc := 48) hx 0 dX11_roofHere_48 rfl rfl ?_
    refine I_mmax (pc := 49) hx ⟨(by decide), hr6⟩ g1519 g746 g121 g747 (Nat.le_of_ble_eq_true rfl) (Nat.le_of_ble_eq_true rfl) (Nat.le_of_ble_eq_true rfl) dX11_roofHere_49 ?_
    exact E_iret (pc := 52) hx dX11_roofHere_52 rfl rfl (Nat.le_of_ble_eq_true rfl)
  refine En.sub [0] rfl ?_
  exact l_X11_roofHere_b38 F a0 h0 p1 hx z0 a0 h0 w
set_option maxHeartbeats 4000000 in
set_option maxRecDepth 100000 in
theorem ev_X11_roofHere (F : Nat) (a0 : Nat) (h0 : shK a0 = 10 + 9) (p1 : Int) (w : aI) : Ev yX11_roofHere cX11_roofHere 3 (some .int) 2 0 jvIW [.ref a0, .int (oI p1)] (cm w) (f_X11_roofHere F a0 p1 w) := by
  refine Ev.of (own := RX11) (by decide +kernel) rfl (Nat.le_of_ble_eq_true rfl) (fun x hx => ?_)
  show En x jvIW 0 0 0 [(0, .ref a0), (1, .int (oI p1))] [] (cm w) _
  unfold f_X11_roofHere
  refine E_aload_n (pc := 0) hx 0 dX11_roofHere_0 rfl rfl ?_
  refine I_cVV  (pc := 1) hx [] [] (ev_X11_spells F a0 h0 w) vm_X11_spells fc9 h0 g1490 dX11_roofHere_1 rfl rfl (Nat.le_of_ble_eq_true rfl) (Nat.le_of_ble_eq_true rfl) (Nat.le_of_ble_eq_true rfl) (fun w1 => ?_)
  refine E_aload_n (pc := 4) hx 0 dX11_roofHere_4 rfl rfl ?_
  refine I_getI (pc := 5) hx 20 20 rfl fc9 h0 rfl ⟨rfl, rfl, rfl⟩ g1352 dX11_roofHere_5 ?_
  refine E_gd (fun hr2 => ?_)
  refine I_if_ne (pc := 8) hx 18 dX11_roofHere_8 rfl hr2 ?_ ?_
  · refine I_iconst (pc := 18) hx 0 dX11_roofHere_18 ?_
    exact l_X11_roofHere_b19 F a0 h0 p1 hx 0 w1
  refine E_aload_n (pc := 11) hx 0 dX11_roofHere_11 rfl rfl ?_
  refine I_cVI  (pc := 12) hx [] [] (ev_X11_named F a0 h0 w1) vm_X11_named fc9 h0 g1494 dX11_roofHere_12 rfl rfl (Nat.le_of_ble_eq_true rfl) (Nat.le_of_ble_eq_true rfl) (Nat.le_of_ble_eq_true rfl) (fun r10 => ?_)
  refine E_goto (pc := 15) hx 19 dX11_roofHere_15 rfl ?_
  exact l_X11_roofHere_b19 F a0 h0 p1 hx r10 w1
set_option maxHeartbeats 4000000 in
set_option maxRecDepth 100000 in
theorem ev_X11_roofOfText (F : Nat) (a0 : Nat) (h0 : shK a0 = 10 + 9) (p1 : Int) (w : aI) : Ev yX11_roofOfText cX11_roofOfText 3 (some .int) 3 0 jvIW [.ref a0, .int (oI p1)] (cm w) (f_X11_roofOfText F a0 p1 w) := by
  refine Ev.of (own := RX11) (by decide +kernel) rfl (Nat.le_of_ble_eq_true rfl) (fun x hx => ?_)
  show En x jvIW 0 0 0 [(0, .ref a0), (1, .int (oI p1))] [] (cm w) _
  unfold f_X11_roofOfText
  refine E_aload_n (pc := 0) hx 0 dX11_roofOfText_0 rfl rfl ?_
  refine E_iload_n (pc := 1) hx 1 dX11_roofOfText_1 rfl rfl ?_
  refine I_cVIW  (pc := 2) hx [.int (oI p1)] [] (ev_X11_roofHere F a0 h0 p1 w) vm_X11_roofHere fc9 h0 g1515 dX11_roofOfText_2 rfl rfl (Nat.le_of_ble_eq_true rfl) (Nat.le_of_ble_eq_true rfl) (Nat.le_of_ble_eq_true rfl) (fun r1 w2 => ?_)
  refine E_istore_n (pc := 5) hx dX11_roofOfText_5 rfl (Nat.le_of_ble_eq_true rfl) rfl ?_
  refine E_aload_n (pc := 6) hx 1 dX11_roofOfText_6 rfl rfl ?_
  refine I_cVV  (pc := 7) hx [] [] (ev_X11_goesOn F a0 h0 w2) vm_X11_goesOn fc9 h0 g1457 dX11_roofOfText_7 rfl rfl (Nat.le_of_ble_eq_true rfl) (Nat.le_of_ble_eq_true rfl) (Nat.le_of_ble_eq_true rfl) (fun w3 => ?_)
  refine E_iload_n (pc := 10) hx 0 dX11_roofOfText_10 rfl rfl ?_
  exact E_iret (pc := 11) hx dX11_roofOfText_11 rfl rfl (Nat.le_of_ble_eq_true rfl)
set_option maxHeartbeats 4000000 in
set_option maxRecDepth 100000 in
theorem ev_X11_settingHere (F : Nat) (a0 : Nat) (h0 : shK a0 = 10 + 9) (w : aI) : Ev yX11_settingHere cX11_settingHere 1 (some .int) 7 0 (jvI w) [.ref a0] (cm w) (f_X11_settingHere F a0 w) := by
  refine Ev.of (own := RX11) (by decide +kernel) rfl (Nat.le_of_ble_eq_true rfl) (fun x hx => ?_)
  show En x (jvI w) 0 0 0 [(0, .ref a0)] [] (cm w) _
  unfold f_X11_settingHere
  refine E_aload_n (pc := 0) hx 0 dX11_settingHere_0 rfl rfl ?_
  refine E_ldcwS (pc := 1) hx (tx := (xStr.getD 23 ("", 0, "", 0)).2.2.1) 23 (by decide +kernel) dX11_settingHere_1 ?_
  refine I_cVB  (pc := 4) hx [.ref (sx 23)] [] (ev_X11_isWord F a0 h0 23 w) vm_X11_isWord fc9 h0 g1478 dX11_settingHere_4 rfl rfl (Nat.le_of_ble_eq_true rfl) (Nat.le_of_ble_eq_true rfl) (Nat.le_of_ble_eq_true rfl) (fun r1 => ?_)
  refine I_ifB_eq (pc := 7) hx 14 dX11_settingHere_7 rfl ?_ ?_
  · refine E_aload_n (pc := 14) hx 0 dX11_settingHere_14 rfl rfl ?_
    refine E_ldcwS (pc := 15) hx (tx := (xStr.getD 24 ("", 0, "", 0)).2.2.1) 24 (by decide +kernel) dX11_settingHere_15 ?_
    refine I_cVB  (pc := 18) hx [.ref (sx 24)] [] (ev_X11_isWord F a0 h0 24 w) vm_X11_isWord fc9 h0 g1478 dX11_settingHere_18 rfl rfl (Nat.le_of_ble_eq_true rfl) (Nat.le_of_ble_eq_true rfl) (Nat.le_of_ble_eq_true rfl) (fun r2 => ?_)
    refine I_ifB_eq (pc := 21) hx 28 dX11_settingHere_21 rfl ?_ ?_
    · refine E_aload_n (pc := 28) hx 0 dX11_settingHere_28 rfl rfl ?_
      refine E_ldcwS (pc := 29) hx (tx := (xStr.getD 25 ("", 0, "", 0)).2.2.1) 25 (by decide +kernel) dX11_settingHere_29 ?_
      refine I_cVB  (pc := 32) hx [.ref (sx 25)] [] (ev_X11_isWord F a0 h0 25 w) vm_X11_isWord fc9 h0 g1478 dX11_settingHere_32 rfl rfl (Nat.le_of_ble_eq_true rfl) (Nat.le_of_ble_eq_true rfl) (Nat.le_of_ble_eq_true rfl) (fun r3 => ?_)
      refine I_ifB_eq (pc := 35) hx 43 dX11_settingHere_35 rfl ?_ ?_
      · refine I_iconst (pc := 43) hx (-1) dX11_settingHere_43 ?_
        exact E_iret (pc := 44) hx dX11_settingHere_44 rfl rfl (Nat.le_of_ble_eq_true rfl)
      refine I_bipush (pc := 38) hx 6 dX11_settingHere_38 rfl ?_
      refine E_goto (pc := 40) hx 44 dX11_settingHere_40 rfl ?_
      exact E_iret (pc := 44) hx dX11_settingHere_44 rfl rfl (Nat.le_of_ble_eq_true rfl)
    refine I_iconst (pc := 24) hx 5 dX11_settingHere_24 ?_
    refine E_goto (pc := 25) hx 44 dX11_settingHere_25 rfl ?_
    exact E_iret (pc := 44) hx dX11_settingHere_44 rfl rfl (Nat.le_of_ble_eq_true rfl)
  refine I_iconst (pc := 10) hx 4 dX11_settingHere_10 ?_
  refine E_goto (pc := 11) hx 44 dX11_settingHere_11 rfl ?_
  exact E_iret (pc := 44) hx dX11_settingHere_44 rfl rfl (Nat.le_of_ble_eq_true rfl)
set_option maxHeartbeats 4000000 in
set_option maxRecDepth 100000 in
theorem l_X11_readsRoof_b50 {x : Cx} (F : Nat) (a0 : Nat) (h0 : shK a0 = 10 + 9)  (hx : CxOK x RX11 cX11_readsRoof 5 4 0 none)   (z0 : Int) (z1 : Nat) (hz1 : shK z1 = 10 + 9) (w : aI) : En x jvV 0 0 50 [(0, .ref a0)] [.int (oI z0), .ref z1] (cm w) (f_X11_readsRoof_b50 F a0    z0 z1 w) := by
  unfold f_X11_readsRoof_b50
  refine I_iconst (pc := 50) hx 3 dX11_readsRoof_50 ?_
  refine I_cVV  (pc := 51) hx [.int (oI z0), .int (oI 3)] [] (ev_X11_need F z1 hz1 z0 3 w) vm_X11_need fc9 hz1 g1486 dX11_readsRoof_51 rfl rfl (Nat.le_of_ble_eq_true rfl) (Nat.le_of_ble_eq_true rfl) (Nat.le_of_ble_eq_true rfl) (fun w6 => ?_)
  refine E_aload_n (pc := 54) hx 0 dX11_readsRoof_54 rfl rfl ?_
  refine I_cVV  (pc := 55) hx [] [] (ev_X11_goesOn F a0 h0 w6) vm_X11_goesOn fc9 h0 g1457 dX11_readsRoof_55 rfl rfl (Nat.le_of_ble_eq_true rfl) (Nat.le_of_ble_eq_true rfl) (Nat.le_of_ble_eq_true rfl) (fun w7 => ?_)
  refine E_aload_n (pc := 58) hx 0 dX11_readsRoof_58 rfl rfl ?_
  refine I_iconst (pc := 59) hx 1 dX11_readsRoof_59 ?_
  refine I_bipush (pc := 60) hx 8 dX11_readsRoof_60 rfl ?_
  refine I_cVIW  (pc := 62) hx [.int (oI 1), .int (oI 8)] [] (ev_X11_number F a0 h0 1 8 w7) vm_X11_number fc9 h0 g1498 dX11_readsRoof_62 rfl rfl (Nat.le_of_ble_eq_true rfl) (Nat.le_of_ble_eq_true rfl) (Nat.le_of_ble_eq_true rfl) (fun r8 w9 => ?_)
  refine E_istore_n (pc := 65) hx dX11_readsRoof_65 rfl (Nat.le_of_ble_eq_true rfl) rfl ?_
  refine E_aload_n (pc := 66) hx 1 dX11_readsRoof_66 rfl rfl ?_
  refine I_iconst (pc := 67) hx 0 dX11_readsRoof_67 ?_
  refine I_bipush (pc := 68) hx 9 dX11_readsRoof_68 rfl ?_
  refine I_cVIW  (pc := 70) hx [.int (oI 0), .int (oI 9)] [] (ev_X11_number F a0 h0 0 9 w9) vm_X11_number fc9 h0 g1498 dX11_readsRoof_70 rfl rfl (Nat.le_of_ble_eq_true rfl) (Nat.le_of_ble_eq_true rfl) (Nat.le_of_ble_eq_true rfl) (fun r10 w11 => ?_)
  refine E_istore_n (pc := 73) hx dX11_readsRoof_73 rfl (Nat.le_of_ble_eq_true rfl) rfl ?_
  refine E_aload_n (pc := 74) hx 2 dX11_readsRoof_74 rfl rfl ?_
  refine I_iconst (pc := 75) hx 0 dX11_readsRoof_75 ?_
  refine I_bipush (pc := 76) hx 9 dX11_readsRoof_76 rfl ?_
  refine I_cVIW  (pc := 78) hx [.int (oI 0), .int (oI 9)] [] (ev_X11_number F a0 h0 0 9 w11) vm_X11_number fc9 h0 g1498 dX11_readsRoof_78 rfl rfl (Nat.le_of_ble_eq_true rfl) (Nat.le_of_ble_eq_true rfl) (Nat.le_of_ble_eq_true rfl) (fun r12 w13 => ?_)
  refine E_istore_n (pc := 81) hx dX11_readsRoof_81 rfl (Nat.le_of_ble_eq_true rfl) rfl ?_
  refine E_aload_n (pc := 82) hx 3 dX11_readsRoof_82 rfl rfl ?_
  refine I_iconst (pc := 83) hx 0 dX11_readsRoof_83 ?_
  refine I_sipush (pc := 84) hx 999 dX11_readsRoof_84 rfl ?_
  refine I_cVIW  (pc := 87) hx [.int (oI 0), .int (oI 999)] [] (ev_X11_number F a0 h0 0 999 w13) vm_X11_number fc9 h0 g1498 dX11_readsRoof_87 rfl rfl (Nat.le_of_ble_eq_true rfl) (Nat.le_of_ble_eq_true rfl) (Nat.le_of_ble_eq_true rfl) (fun r14 w15 => ?_)
  refine E_istore (pc := 90) hx dX11_readsRoof_90 (Nat.le_of_ble_eq_true rfl) rfl ?_
  refine E_aload_n (pc := 92) hx 4 dX11_readsRoof_92 rfl rfl ?_
  refine I_getI (pc := 93) hx 20 20 rfl fc9 h0 rfl ⟨rfl, rfl, rfl⟩ g1352 dX11_readsRoof_93 ?_
  refine E_gd (fun hr16 => ?_)
  refine I_if_ne (pc := 96) hx 108 dX11_readsRoof_96 rfl hr16 ?_ ?_
  · exact E_vret (pc := 108) hx dX11_readsRoof_108 rfl rfl (Nat.le_of_ble_eq_true rfl)
  refine E_aload_n (pc := 99) hx 4 dX11_readsRoof_99 rfl rfl ?_
  refine E_iload_n (pc := 100) hx 3 dX11_readsRoof_100 rfl rfl ?_
  refine E_iload_n (pc := 101) hx 2 dX11_readsRoof_101 rfl rfl ?_
  refine E_iload_n (pc := 102) hx 1 dX11_readsRoof_102 rfl rfl ?_
  refine E_iload (pc := 103) hx 0 dX11_readsRoof_103 rfl ?_
  refine I_cVV  (pc := 105) hx [.int (oI r8), .int (oI r10), .int (oI r12), .int (oI r14)] [] (ev_X11_newRoof F a0 h0 r8 r10 r12 r14 w15) vm_X11_newRoof fc9 h0 g1318 dX11_readsRoof_105 rfl rfl (Nat.le_of_ble_eq_true rfl) (Nat.le_of_ble_eq_true rfl) (Nat.le_of_ble_eq_true rfl) (fun w17 => ?_)
  exact E_vret (pc := 108) hx dX11_readsRoof_108 rfl rfl (Nat.le_of_ble_eq_true rfl)
set_option maxHeartbeats 4000000 in
set_option maxRecDepth 100000 in
theorem l_X11_readsRoof_b45 {x : Cx} (F : Nat) (a0 : Nat) (h0 : shK a0 = 10 + 9)  (hx : CxOK x RX11 cX11_readsRoof 5 4 0 none)   (z0 : Nat) (hz0 : shK z0 = 10 + 9) (w : aI) : En x jvV 0 0 45 [(0, .ref a0)] [.ref z0] (cm w) (f_X11_readsRoof_b45 F a0    z0 w) := by
  unfold f_X11_readsRoof_b45
  refine I_iconst (pc := 45) hx 1 dX11_readsRoof_45 ?_
  refine E_goto (pc := 46) hx 50 dX11_readsRoof_46 rfl ?_
  exact l_X11_readsRoof_b50 F a0 h0 hx 1 z0 hz0 w
set_option maxHeartbeats 4000000 in
set_option maxRecDepth 100000 in
theorem l_X11_readsRoof_b17 {x : Cx} (F : Nat) (a0 : Nat) (h0 : shK a0 = 10 + 9)  (hx : CxOK x RX11 cX11_readsRoof 5 4 0 none)   (z0 : Int) (z1 : Nat) (hz1 : shK z1 = 10 + 9) (w : aI) : En x jvV 0 0 17 [(0, .ref a0)] [.int (oI z0), .ref z1] (cm w) (f_X11_readsRoof_b17 F a0    z0 z1 w) := by
  unfold f_X11_readsRoof_b17
  refine I_iconst (pc := 17) hx 5 dX11_readsRoof_17 ?_
  refine I_cVV  (pc := 18) hx [.int (oI z0), .int (oI 5)] [] (ev_X11_need F z1 hz1 z0 5 w) vm_X11_need fc9 hz1 g1486 dX11_readsRoof_18 rfl rfl (Nat.le_of_ble_eq_true rfl) (Nat.le_of_ble_eq_true rfl) (Nat.le_of_ble_eq_true rfl) (fun w2 => ?_)
  refine E_aload_n (pc := 21) hx 0 dX11_readsRoof_21 rfl rfl ?_
  refine I_cVV  (pc := 22) hx [] [] (ev_X11_goesOn F a0 h0 w2) vm_X11_goesOn fc9 h0 g1457 dX11_readsRoof_22 rfl rfl (Nat.le_of_ble_eq_true rfl) (Nat.le_of_ble_eq_true rfl) (Nat.le_of_ble_eq_true rfl) (fun w3 => ?_)
  refine E_aload_n (pc := 25) hx 0 dX11_readsRoof_25 rfl rfl ?_
  refine I_cVV  (pc := 26) hx [] [] (ev_X11_spells F a0 h0 w3) vm_X11_spells fc9 h0 g1490 dX11_readsRoof_26 rfl rfl (Nat.le_of_ble_eq_true rfl) (Nat.le_of_ble_eq_true rfl) (Nat.le_of_ble_eq_true rfl) (fun w4 => ?_)
  refine E_aload_n (pc := 29) hx 0 dX11_readsRoof_29 rfl rfl ?_
  refine E_aload_n (pc := 30) hx 0 dX11_readsRoof_30 rfl rfl ?_
  refine I_getI (pc := 31) hx 20 20 rfl fc9 h0 rfl ⟨rfl, rfl, rfl⟩ g1352 dX11_readsRoof_31 ?_
  refine E_gd (fun hr5 => ?_)
  refine I_if_gt (pc := 34) hx 45 dX11_readsRoof_34 rfl hr5 ?_ ?_
  · exact l_X11_readsRoof_b45 F a0 h0 hx a0 h0 w4
  refine E_aload_n (pc := 37) hx 0 dX11_readsRoof_37 rfl rfl ?_
  refine I_cVI  (pc := 38) hx [] [.ref a0] (ev_X11_named F a0 h0 w4) vm_X11_named fc9 h0 g1494 dX11_readsRoof_38 rfl rfl (Nat.le_of_ble_eq_true rfl) (Nat.le_of_ble_eq_true rfl) (Nat.le_of_ble_eq_true rfl) (fun r18 => ?_)
  refine I_iconst (pc := 41) hx (-1) dX11_readsRoof_41 ?_
  refine E_gd (fun hr19 => ?_)
  refine I_icmp_ne (pc := 42) hx 49 dX11_readsRoof_42 rfl ⟨hr19, (by decide)⟩ ?_ ?_
  · refine I_iconst (pc := 49) hx 0 dX11_readsRoof_49 ?_
    exact l_X11_readsRoof_b50 F a0 h0 hx 0 a0 h0 w4
  exact l_X11_readsRoof_b45 F a0 h0 hx a0 h0 w4
set_option maxHeartbeats 4000000 in
set_option maxRecDepth 100000 in
theorem ev_X11_readsRoof (F : Nat) (a0 : Nat) (h0 : shK a0 = 10 + 9) (w : aI) : Ev yX11_readsRoof cX11_readsRoof 5 none 4 0 jvV [.ref a0] (cm w) (f_X11_readsRoof F a0 w) := by
  refine Ev.of (own := RX11) (by decide +kernel) rfl (Nat.le_of_ble_eq_true rfl) (fun x hx => ?_)
  show En x jvV 0 0 0 [(0, .ref a0)] [] (cm w) _
  unfold f_X11_readsRoof
  refine E_aload_n (pc := 0) hx 0 dX11_readsRoof_0 rfl rfl ?_
  refine E_aload_n (pc := 1) hx 0 dX11_readsRoof_1 rfl rfl ?_
  refine E_getR (pc := 2) hx 0 fc9 h0 rfl ⟨rfl, rfl, rfl⟩ g1332 dX11_readsRoof_2 ?_
  refine I_iconst (pc := 5) hx 0 dX11_readsRoof_5 ?_
  refine I_iald (pc := 6) hx (kt_9_0 h0) dX11_readsRoof_6 ?_
  refine I_bipush (pc := 7) hx 10 dX11_readsRoof_7 rfl ?_
  refine E_gd (fun hr1 => ?_)
  refine I_icmp_ge (pc := 9) hx 16 dX11_readsRoof_9 rfl ⟨hr1, (by decide)⟩ ?_ ?_
  · refine I_iconst (pc := 16) hx 0 dX11_readsRoof_16 ?_
    exact l_X11_readsRoof_b17 F a0 h0 hx 0 a0 h0 w
  refine I_iconst (pc := 12) hx 1 dX11_readsRoof_12 ?_
  refine E_goto (pc := 13) hx 17 dX11_readsRoof_13 rfl ?_
  exact l_X11_readsRoof_b17 F a0 h0 hx 1 a0 h0 w
set_option maxHeartbeats 4000000 in
set_option maxRecDepth 100000 in
theorem l_X11_readsWay_b60 {x : Cx} (F : Nat) (a0 : Nat) (h0 : shK a0 = 10 + 9)  (hx : CxOK x RX11 cX11_readsWay 4 4 0 none)   (v1 : Int) (v2 : Int) (z0 : Int) (z1 : Nat) (hz1 : shK z1 = 10 + 9) (w : aI) : En x jvV 0 0 60 [(0, .ref a0), (1, .int (oI v1)), (2, .int (oI v2))] [.int (oI z0), .ref z1] (cm w) (f_X11_readsWay_b60 F a0    v1 v2 z0 z1 w) := by
  unfold f_X11_readsWay_b60
  refine I_iconst (pc := 60) hx 4 dX11_readsWay_60 ?_
  refine I_cVV  (pc := 61) hx [.int (oI z0), .int (oI 4)] [] (ev_X11_need F z1 hz1 z0 4 w) vm_X11_need fc9 hz1 g1486 dX11_readsWay_61 rfl rfl (Nat.le_of_ble_eq_true rfl) (Nat.le_of_ble_eq_true rfl) (Nat.le_of_ble_eq_true rfl) (fun w9 => ?_)
  refine E_aload_n (pc := 64) hx 0 dX11_readsWay_64 rfl rfl ?_
  refine I_cVV  (pc := 65) hx [] [] (ev_X11_goesOn F a0 h0 w9) vm_X11_goesOn fc9 h0 g1457 dX11_readsWay_65 rfl rfl (Nat.le_of_ble_eq_true rfl) (Nat.le_of_ble_eq_true rfl) (Nat.le_of_ble_eq_true rfl) (fun w10 => ?_)
  refine E_aload_n (pc := 68) hx 0 dX11_readsWay_68 rfl rfl ?_
  refine I_iconst (pc := 69) hx 1 dX11_readsWay_69 ?_
  refine I_bipush (pc := 70) hx 9 dX11_readsWay_70 rfl ?_
  refine I_cVIW  (pc := 72) hx [.int (oI 1), .int (oI 9)] [] (ev_X11_number F a0 h0 1 9 w10) vm_X11_number fc9 h0 g1498 dX11_readsWay_72 rfl rfl (Nat.le_of_ble_eq_true rfl) (Nat.le_of_ble_eq_true rfl) (Nat.le_of_ble_eq_true rfl) (fun r11 w12 => ?_)
  refine E_istore_n (pc := 75) hx dX11_readsWay_75 rfl (Nat.le_of_ble_eq_true rfl) rfl ?_
  refine E_aload_n (pc := 76) hx 1 dX11_readsWay_76 rfl rfl ?_
  refine I_getI (pc := 77) hx 20 20 rfl fc9 h0 rfl ⟨rfl, rfl, rfl⟩ g1352 dX11_readsWay_77 ?_
  refine E_gd (fun hr13 => ?_)
  refine I_if_ne (pc := 80) hx 90 dX11_readsWay_80 rfl hr13 ?_ ?_
  · exact E_vret (pc := 90) hx dX11_readsWay_90 rfl rfl (Nat.le_of_ble_eq_true rfl)
  refine E_aload_n (pc := 83) hx 1 dX11_readsWay_83 rfl rfl ?_
  refine E_iload_n (pc := 84) hx 2 dX11_readsWay_84 rfl rfl ?_
  refine E_iload_n (pc := 85) hx 3 dX11_readsWay_85 rfl rfl ?_
  refine E_iload_n (pc := 86) hx 0 dX11_readsWay_86 rfl rfl ?_
  refine I_cVV  (pc := 87) hx [.int (oI v1), .int (oI v2), .int (oI r11)] [] (ev_X11_newWay F a0 h0 v1 v2 r11 w12) vm_X11_newWay fc9 h0 g1325 dX11_readsWay_87 rfl rfl (Nat.le_of_ble_eq_true rfl) (Nat.le_of_ble_eq_true rfl) (Nat.le_of_ble_eq_true rfl) (fun w14 => ?_)
  exact E_vret (pc := 90) hx dX11_readsWay_90 rfl rfl (Nat.le_of_ble_eq_true rfl)
set_option maxHeartbeats 4000000 in
set_option maxRecDepth 100000 in
theorem l_X11_readsWay_b55 {x : Cx} (F : Nat) (a0 : Nat) (h0 : shK a0 = 10 + 9)  (hx : CxOK x RX11 cX11_readsWay 4 4 0 none)   (v1 : Int) (v2 : Int) (z0 : Nat) (hz0 : shK z0 = 10 + 9) (w : aI) : En x jvV 0 0 55 [(0, .ref a0), (1, .int (oI v1)), (2, .int (oI v2))] [.ref z0] (cm w) (f_X11_readsWay_b55 F a0    v1 v2 z0 w) := by
  unfold f_X11_readsWay_b55
  refine I_iconst (pc := 55) hx 1 dX11_readsWay_55 ?_
  refine E_goto (pc := 56) hx 60 dX11_readsWay_56 rfl ?_
  exact l_X11_readsWay_b60 F a0 h0 hx v1 v2 1 z0 hz0 w
set_option maxHeartbeats 4000000 in
set_option maxRecDepth 100000 in
theorem l_X11_readsWay_b17 {x : Cx} (F : Nat) (a0 : Nat) (h0 : shK a0 = 10 + 9)  (hx : CxOK x RX11 cX11_readsWay 4 4 0 none)   (z0 : Int) (z1 : Nat) (hz1 : shK z1 = 10 + 9) (w : aI) : En x jvV 0 0 17 [(0, .ref a0)] [.int (oI z0), .ref z1] (cm w) (f_X11_readsWay_b17 F a0    z0 z1 w) := by
  unfold f_X11_readsWay_b17
  refine I_iconst (pc := 17) hx 5 dX11_readsWay_17 ?_
  refine I_cVV  (pc := 18) hx [.int (oI z0), .int (oI 5)] [] (ev_X11_need F z1 hz1 z0 5 w) vm_X11_need fc9 hz1 g1486 dX11_readsWay_18 rfl rfl (Nat.le_of_ble_eq_true rfl) (Nat.le_of_ble_eq_true rfl) (Nat.le_of_ble_eq_true rfl) (fun w2 => ?_)
  refine E_aload_n (pc := 21) hx 0 dX11_readsWay_21 rfl rfl ?_
  refine I_cVV  (pc := 22) hx [] [] (ev_X11_goesOn F a0 h0 w2) vm_X11_goesOn fc9 h0 g1457 dX11_readsWay_22 rfl rfl (Nat.le_of_ble_eq_true rfl) (Nat.le_of_ble_eq_true rfl) (Nat.le_of_ble_eq_true rfl) (fun w3 => ?_)
  refine E_aload_n (pc := 25) hx 0 dX11_readsWay_25 rfl rfl ?_
  refine I_iconst (pc := 26) hx (-1) dX11_readsWay_26 ?_
  refine I_cVIW  (pc := 27) hx [.int (oI (-1))] [] (ev_X11_roofOfText F a0 h0 (-1) w3) vm_X11_roofOfText fc9 h0 g1511 dX11_readsWay_27 rfl rfl (Nat.le_of_ble_eq_true rfl) (Nat.le_of_ble_eq_true rfl) (Nat.le_of_ble_eq_true rfl) (fun r4 w5 => ?_)
  refine E_istore_n (pc := 30) hx dX11_readsWay_30 rfl (Nat.le_of_ble_eq_true rfl) rfl ?_
  refine E_aload_n (pc := 31) hx 1 dX11_readsWay_31 rfl rfl ?_
  refine E_iload_n (pc := 32) hx 0 dX11_readsWay_32 rfl rfl ?_
  refine I_cVIW  (pc := 33) hx [.int (oI r4)] [] (ev_X11_roofHere F a0 h0 r4 w5) vm_X11_roofHere fc9 h0 g1515 dX11_readsWay_33 rfl rfl (Nat.le_of_ble_eq_true rfl) (Nat.le_of_ble_eq_true rfl) (Nat.le_of_ble_eq_true rfl) (fun r6 w7 => ?_)
  refine E_istore_n (pc := 36) hx dX11_readsWay_36 rfl (Nat.le_of_ble_eq_true rfl) rfl ?_
  refine E_aload_n (pc := 37) hx 2 dX11_readsWay_37 rfl rfl ?_
  refine E_aload_n (pc := 38) hx 2 dX11_readsWay_38 rfl rfl ?_
  refine I_getI (pc := 39) hx 20 20 rfl fc9 h0 rfl ⟨rfl, rfl, rfl⟩ g1352 dX11_readsWay_39 ?_
  refine E_gd (fun hr8 => ?_)
  refine I_if_gt (pc := 42) hx 55 dX11_readsWay_42 rfl hr8 ?_ ?_
  · refine En.sub [2, 1, 0] rfl ?_
    exact l_X11_readsWay_b55 F a0 h0 hx r4 r6 a0 h0 w7
  refine E_aload_n (pc := 45) hx 2 dX11_readsWay_45 rfl rfl ?_
  refine E_iload_n (pc := 46) hx 1 dX11_readsWay_46 rfl rfl ?_
  refine E_iload_n (pc := 47) hx 0 dX11_readsWay_47 rfl rfl ?_
  refine I_cVI  (pc := 48) hx [.int (oI r4), .int (oI r6)] [.ref a0] (ev_X11_wayBetween F a0 h0 r4 r6 w7) vm_X11_wayBetween fc9 h0 g1520 dX11_readsWay_48 rfl rfl (Nat.le_of_ble_eq_true rfl) (Nat.le_of_ble_eq_true rfl) (Nat.le_of_ble_eq_true rfl) (fun r15 => ?_)
  refine I_iconst (pc := 51) hx (-1) dX11_readsWay_51 ?_
  refine E_gd (fun hr16 => ?_)
  refine I_icmp_ne (pc := 52) hx 59 dX11_readsWay_52 rfl ⟨hr16, (by decide)⟩ ?_ ?_
  · refine I_iconst (pc := 59) hx 0 dX11_readsWay_59 ?_
    refine En.sub [2, 1, 0] rfl ?_
    exact l_X11_readsWay_b60 F a0 h0 hx r4 r6 0 a0 h0 w7
  refine En.sub [2, 1, 0] rfl ?_
  exact l_X11_readsWay_b55 F a0 h0 hx r4 r6 a0 h0 w7
set_option maxHeartbeats 4000000 in
set_option maxRecDepth 100000 in
theorem ev_X11_readsWay (F : Nat) (a0 : Nat) (h0 : shK a0 = 10 + 9) (w : aI) : Ev yX11_readsWay cX11_readsWay 4 none 4 0 jvV [.ref a0] (cm w) (f_X11_readsWay F a0 w) := by
  refine Ev.of (own := RX11) (by decide +kernel) rfl (Nat.le_of_ble_eq_true rfl) (fun x hx => ?_)
  show En x jvV 0 0 0 [(0, .ref a0)] [] (cm w) _
  unfold f_X11_readsWay
  refine E_aload_n (pc := 0) hx 0 dX11_readsWay_0 rfl rfl ?_
  refine E_aload_n (pc := 1) hx 0 dX11_readsWay_1 rfl rfl ?_
  refine E_getR (pc := 2) hx 0 fc9 h0 rfl ⟨rfl, rfl, rfl⟩ g1332 dX11_readsWay_2 ?_
  refine I_iconst (pc := 5) hx 1 dX11_readsWay_5 ?_
  refine I_iald (pc := 6) hx (kt_9_0 h0) dX11_readsWay_6 ?_
  refine I_bipush (pc := 7) hx 20 dX11_readsWay_7 rfl ?_
  refine E_gd (fun hr1 => ?_)
  refine I_icmp_ge (pc := 9) hx 16 dX11_readsWay_9 rfl ⟨hr1, (by decide)⟩ ?_ ?_
  · refine I_iconst (pc := 16) hx 0 dX11_readsWay_16 ?_
    exact l_X11_readsWay_b17 F a0 h0 hx 0 a0 h0 w
  refine I_iconst (pc := 12) hx 1 dX11_readsWay_12 ?_
  refine E_goto (pc := 13) hx 17 dX11_readsWay_13 rfl ?_
  exact l_X11_readsWay_b17 F a0 h0 hx 1 a0 h0 w
set_option maxHeartbeats 4000000 in
set_option maxRecDepth 100000 in
theorem l_X11_readsSetting_b16 {x : Cx} (F : Nat) (a0 : Nat) (h0 : shK a0 = 10 + 9)  (hx : CxOK x RX11 cX11_readsSetting 3 8 0 none)   (v1 : Int) (z0 : Int) (z1 : Nat) (hz1 : shK z1 = 10 + 9) (w : aI) : En x jvV 0 0 16 [(0, .ref a0), (1, .int (oI v1))] [.int (oI z0), .ref z1] (cm w) (f_X11_readsSetting_b16 F a0    v1 z0 z1 w) := by
  unfold f_X11_readsSetting_b16
  refine I_iconst (pc := 16) hx 1 dX11_readsSetting_16 ?_
  refine I_cVV  (pc := 17) hx [.int (oI z0), .int (oI 1)] [] (ev_X11_need F z1 hz1 z0 1 w) vm_X11_need fc9 hz1 g1486 dX11_readsSetting_17 rfl rfl (Nat.le_of_ble_eq_true rfl) (Nat.le_of_ble_eq_true rfl) (Nat.le_of_ble_eq_true rfl) (fun w3 => ?_)
  refine E_aload_n (pc := 20) hx 0 dX11_readsSetting_20 rfl rfl ?_
  refine I_cVV  (pc := 21) hx [] [] (ev_X11_goesOn F a0 h0 w3) vm_X11_goesOn fc9 h0 g1457 dX11_readsSetting_21 rfl rfl (Nat.le_of_ble_eq_true rfl) (Nat.le_of_ble_eq_true rfl) (Nat.le_of_ble_eq_true rfl) (fun w4 => ?_)
  refine E_aload_n (pc := 24) hx 0 dX11_readsSetting_24 rfl rfl ?_
  refine I_getI (pc := 25) hx 20 20 rfl fc9 h0 rfl ⟨rfl, rfl, rfl⟩ g1352 dX11_readsSetting_25 ?_
  refine E_gd (fun hr5 => ?_)
  refine I_if_ne (pc := 28) hx 51 dX11_readsSetting_28 rfl hr5 ?_ ?_
  · exact E_vret (pc := 51) hx dX11_readsSetting_51 rfl rfl (Nat.le_of_ble_eq_true rfl)
  refine E_aload_n (pc := 31) hx 0 dX11_readsSetting_31 rfl rfl ?_
  refine E_iload_n (pc := 32) hx 1 dX11_readsSetting_32 rfl rfl ?_
  refine I_cSI  (pc := 33) hx [.int (oI v1)] [.ref a0] (ev_X11_lowOf F v1 w4) sm_X11_lowOf g1539 dX11_readsSetting_33 rfl rfl (Nat.le_of_ble_eq_true rfl) (Nat.le_of_ble_eq_true rfl) (Nat.le_of_ble_eq_true rfl) (fun r6 => ?_)
  refine E_iload_n (pc := 36) hx 1 dX11_readsSetting_36 rfl rfl ?_
  refine I_cSI  (pc := 37) hx [.int (oI v1)] [.int (oI r6), .ref a0] (ev_X11_highOf F v1 w4) sm_X11_highOf g1542 dX11_readsSetting_37 rfl rfl (Nat.le_of_ble_eq_true rfl) (Nat.le_of_ble_eq_true rfl) (Nat.le_of_ble_eq_true rfl) (fun r7 => ?_)
  refine I_cVIW  (pc := 40) hx [.int (oI r6), .int (oI r7)] [] (ev_X11_number F a0 h0 r6 r7 w4) vm_X11_number fc9 h0 g1498 dX11_readsSetting_40 rfl rfl (Nat.le_of_ble_eq_true rfl) (Nat.le_of_ble_eq_true rfl) (Nat.le_of_ble_eq_true rfl) (fun r8 w9 => ?_)
  refine E_istore_n (pc := 43) hx dX11_readsSetting_43 rfl (Nat.le_of_ble_eq_true rfl) rfl ?_
  refine E_aload_n (pc := 44) hx 1 dX11_readsSetting_44 rfl rfl ?_
  refine E_getR (pc := 45) hx 0 fc9 h0 rfl ⟨rfl, rfl, rfl⟩ g1332 dX11_readsSetting_45 ?_
  refine E_iload_n (pc := 48) hx 2 dX11_readsSetting_48 rfl rfl ?_
  refine E_iload_n (pc := 49) hx 0 dX11_readsSetting_49 rfl rfl ?_
  refine I_iast (pc := 50) hx (kt_9_0 h0) dX11_readsSetting_50 (fun w10 => ?_)
  exact E_vret (pc := 51) hx dX11_readsSetting_51 rfl rfl (Nat.le_of_ble_eq_true rfl)
set_option maxHeartbeats 4000000 in
set_option maxRecDepth 100000 in
theorem ev_X11_readsSetting (F : Nat) (a0 : Nat) (h0 : shK a0 = 10 + 9) (w : aI) : Ev yX11_readsSetting cX11_readsSetting 3 none 8 0 jvV [.ref a0] (cm w) (f_X11_readsSetting F a0 w) := by
  refine Ev.of (own := RX11) (by decide +kernel) rfl (Nat.le_of_ble_eq_true rfl) (fun x hx => ?_)
  show En x jvV 0 0 0 [(0, .ref a0)] [] (cm w) _
  unfold f_X11_readsSetting
  refine E_aload_n (pc := 0) hx 0 dX11_readsSetting_0 rfl rfl ?_
  refine I_cVI  (pc := 1) hx [] [] (ev_X11_settingHere F a0 h0 w) vm_X11_settingHere fc9 h0 g1532 dX11_readsSetting_1 rfl rfl (Nat.le_of_ble_eq_true rfl) (Nat.le_of_ble_eq_true rfl) (Nat.le_of_ble_eq_true rfl) (fun r1 => ?_)
  refine E_istore_n (pc := 4) hx dX11_readsSetting_4 rfl (Nat.le_of_ble_eq_true rfl) rfl ?_
  refine E_aload_n (pc := 5) hx 1 dX11_readsSetting_5 rfl rfl ?_
  refine E_iload_n (pc := 6) hx 0 dX11_readsSetting_6 rfl rfl ?_
  refine I_iconst (pc := 7) hx (-1) dX11_readsSetting_7 ?_
  refine E_gd (fun hr2 => ?_)
  refine I_icmp_eq (pc := 8) hx 15 dX11_readsSetting_8 rfl ⟨hr2, (by decide)⟩ ?_ ?_
  · refine I_iconst (pc := 15) hx 0 dX11_readsSetting_15 ?_
    refine En.sub [1, 0] rfl ?_
    exact l_X11_readsSetting_b16 F a0 h0 hx r1 0 a0 h0 w
  refine I_iconst (pc := 11) hx 1 dX11_readsSetting_11 ?_
  refine E_goto (pc := 12) hx 16 dX11_readsSetting_12 rfl ?_
  refine En.sub [1, 0] rfl ?_
  exact l_X11_readsSetting_b16 F a0 h0 hx r1 1 a0 h0 w
set_option maxHeartbeats 4000000 in
set_option maxRecDepth 100000 in
theorem ev_X11_readsStatement (F : Nat) (a0 : Nat) (h0 : shK a0 = 10 + 9) (w : aI) : Ev yX11_readsStatement cX11_readsStatement 1 none 9 0 jvV [.ref a0] (cm w) (f_X11_readsStatement F a0 w) := by
  refine Ev.of (own := RX11) (by decide +kernel) rfl (Nat.le_of_ble_eq_true rfl) (fun x hx => ?_)
  show En x jvV 0 0 0 [(0, .ref a0)] [] (cm w) _
  unfold f_X11_readsStatement
  refine E_aload_n (pc := 0) hx 0 dX11_readsStatement_0 rfl rfl ?_
  refine E_ldcwS (pc := 1) hx (tx := (xStr.getD 26 ("", 0, "", 0)).2.2.1) 26 (by decide +kernel) dX11_readsStatement_1 ?_
  refine I_cVB  (pc := 4) hx [.ref (sx 26)] [] (ev_X11_isWord F a0 h0 26 w) vm_X11_isWord fc9 h0 g1478 dX11_readsStatement_4 rfl rfl (Nat.le_of_ble_eq_true rfl) (Nat.le_of_ble_eq_true rfl) (Nat.le_of_ble_eq_true rfl) (fun r1 => ?_)
  refine I_ifB_eq (pc := 7) hx 17 dX11_readsStatement_7 rfl ?_ ?_
  · refine E_aload_n (pc := 17) hx 0 dX11_readsStatement_17 rfl rfl ?_
    refine E_ldcwS (pc := 18) hx (tx := (xStr.getD 27 ("", 0, "", 0)).2.2.1) 27 (by decide +kernel) dX11_readsStatement_18 ?_
    refine I_cVB  (pc := 21) hx [.ref (sx 27)] [] (ev_X11_isWord F a0 h0 27 w) vm_X11_isWord fc9 h0 g1478 dX11_readsStatement_21 rfl rfl (Nat.le_of_ble_eq_true rfl) (Nat.le_of_ble_eq_true rfl) (Nat.le_of_ble_eq_true rfl) (fun r2 => ?_)
    refine I_ifB_eq (pc := 24) hx 34 dX11_readsStatement_24 rfl ?_ ?_
    · refine E_aload_n (pc := 34) hx 0 dX11_readsStatement_34 rfl rfl ?_
      refine I_cVV  (pc := 35) hx [] [] (ev_X11_readsSetting F a0 h0 w) vm_X11_readsSetting fc9 h0 g1528 dX11_readsStatement_35 rfl rfl (Nat.le_of_ble_eq_true rfl) (Nat.le_of_ble_eq_true rfl) (Nat.le_of_ble_eq_true rfl) (fun w3 => ?_)
      refine E_aload_n (pc := 38) hx 0 dX11_readsStatement_38 rfl rfl ?_
      refine I_cVV  (pc := 39) hx [] [] (ev_X11_semicolon F a0 h0 w3) vm_X11_semicolon fc9 h0 g1545 dX11_readsStatement_39 rfl rfl (Nat.le_of_ble_eq_true rfl) (Nat.le_of_ble_eq_true rfl) (Nat.le_of_ble_eq_true rfl) (fun w4 => ?_)
      exact E_vret (pc := 42) hx dX11_readsStatement_42 rfl rfl (Nat.le_of_ble_eq_true rfl)
    refine E_aload_n (pc := 27) hx 0 dX11_readsStatement_27 rfl rfl ?_
    refine I_cVV  (pc := 28) hx [] [] (ev_X11_readsWay F a0 h0 w) vm_X11_readsWay fc9 h0 g1507 dX11_readsStatement_28 rfl rfl (Nat.le_of_ble_eq_true rfl) (Nat.le_of_ble_eq_true rfl) (Nat.le_of_ble_eq_true rfl) (fun w5 => ?_)
    refine E_goto (pc := 31) hx 38 dX11_readsStatement_31 rfl ?_
    refine E_aload_n (pc := 38) hx 0 dX11_readsStatement_38 rfl rfl ?_
    refine I_cVV  (pc := 39) hx [] [] (ev_X11_semicolon F a0 h0 w5) vm_X11_semicolon fc9 h0 g1545 dX11_readsStatement_39 rfl rfl (Nat.le_of_ble_eq_true rfl) (Nat.le_of_ble_eq_true rfl) (Nat.le_of_ble_eq_true rfl) (fun w6 => ?_)
    exact E_vret (pc := 42) hx dX11_readsStatement_42 rfl rfl (Nat.le_of_ble_eq_true rfl)
  refine E_aload_n (pc := 10) hx 0 dX11_readsStatement_10 rfl rfl ?_
  refine I_cVV  (pc := 11) hx [] [] (ev_X11_readsRoof F a0 h0 w) vm_X11_readsRoof fc9 h0 g1482 dX11_readsStatement_11 rfl rfl (Nat.le_of_ble_eq_true rfl) (Nat.le_of_ble_eq_true rfl) (Nat.le_of_ble_eq_true rfl) (fun w7 => ?_)
  refine E_goto (pc := 14) hx 38 dX11_readsStatement_14 rfl ?_
  refine E_aload_n (pc := 38) hx 0 dX11_readsStatement_38 rfl rfl ?_
  refine I_cVV  (pc := 39) hx [] [] (ev_X11_semicolon F a0 h0 w7) vm_X11_semicolon fc9 h0 g1545 dX11_readsStatement_39 rfl rfl (Nat.le_of_ble_eq_true rfl) (Nat.le_of_ble_eq_true rfl) (Nat.le_of_ble_eq_true rfl) (fun w8 => ?_)
  exact E_vret (pc := 42) hx dX11_readsStatement_42 rfl rfl (Nat.le_of_ble_eq_true rfl)
set_option maxHeartbeats 4000000 in
set_option maxRecDepth 100000 in
theorem l_X11_loadPost_b58 {x : Cx} (F : Nat) (a0 : Nat) (h0 : shK a0 = 10 + 9)  (hx : CxOK x RX11 cX11_loadPost 1 10 0 (some .int))   (z0 : Int) (z1 : Nat) (hz1 : shK z1 = 10 + 9) (w : aI) : En x jvIW 0 0 58 [(0, .ref a0)] [.int (oI z0), .ref z1] (cm w) (f_X11_loadPost_b58 F a0    z0 z1 w) := by
  unfold f_X11_loadPost_b58
  refine I_bipush (pc := 58) hx 6 dX11_loadPost_58 rfl ?_
  refine I_cVV  (pc := 60) hx [.int (oI z0), .int (oI 6)] [] (ev_X11_need F z1 hz1 z0 6 w) vm_X11_need fc9 hz1 g1486 dX11_loadPost_60 rfl rfl (Nat.le_of_ble_eq_true rfl) (Nat.le_of_ble_eq_true rfl) (Nat.le_of_ble_eq_true rfl) (fun w7 => ?_)
  refine E_aload_n (pc := 63) hx 0 dX11_loadPost_63 rfl rfl ?_
  refine I_cVV  (pc := 64) hx [] [] (ev_X11_ending F a0 h0 w7) vm_X11_ending fc9 h0 g1549 dX11_loadPost_64 rfl rfl (Nat.le_of_ble_eq_true rfl) (Nat.le_of_ble_eq_true rfl) (Nat.le_of_ble_eq_true rfl) (fun w8 => ?_)
  refine E_aload_n (pc := 67) hx 0 dX11_loadPost_67 rfl rfl ?_
  refine I_getI (pc := 68) hx 20 20 rfl fc9 h0 rfl ⟨rfl, rfl, rfl⟩ g1352 dX11_loadPost_68 ?_
  refine E_gd (fun hr9 => ?_)
  refine I_if_le (pc := 71) hx 84 dX11_loadPost_71 rfl hr9 ?_ ?_
  · refine E_aload_n (pc := 84) hx 0 dX11_loadPost_84 rfl rfl ?_
    refine I_iconst (pc := 85) hx 0 dX11_loadPost_85 ?_
    refine I_put (pc := 86) hx 4 4 rfl .int tyX11 fc9 tyX11_ok h0 rfl ⟨rfl, rfl, rfl, rfl, pfd_I⟩ rfl rfl g1336 dX11_loadPost_86 (fun w10 => ?_)
    refine E_aload_n (pc := 89) hx 0 dX11_loadPost_89 rfl rfl ?_
    refine I_iconst (pc := 90) hx 0 dX11_loadPost_90 ?_
    refine I_put (pc := 91) hx 5 5 rfl .boolean tyX11 fc9 tyX11_ok h0 rfl ⟨rfl, rfl, rfl, rfl, pfd_Z⟩ rfl rfl g1337 dX11_loadPost_91 (fun w11 => ?_)
    refine E_aload_n (pc := 94) hx 0 dX11_loadPost_94 rfl rfl ?_
    refine E_getR (pc := 95) hx 0 fc9 h0 rfl ⟨rfl, rfl, rfl⟩ g1332 dX11_loadPost_95 ?_
    refine I_iconst (pc := 98) hx 1 dX11_loadPost_98 ?_
    refine I_iald (pc := 99) hx (kt_9_0 h0) dX11_loadPost_99 ?_
    exact E_iret (pc := 100) hx dX11_loadPost_100 rfl rfl (Nat.le_of_ble_eq_true rfl)
  refine E_aload_n (pc := 74) hx 0 dX11_loadPost_74 rfl rfl ?_
  refine E_aload_n (pc := 75) hx 0 dX11_loadPost_75 rfl rfl ?_
  refine E_getR (pc := 76) hx 1 fc9 h0 rfl ⟨rfl, rfl, rfl⟩ g1333 dX11_loadPost_76 ?_
  refine I_iconst (pc := 79) hx (-1) dX11_loadPost_79 ?_
  refine I_cVIW  (pc := 80) hx [.ref (shR a0 1), .int (oI (-1))] [] (ev_X11_gives F a0 h0 (shR a0 1) (kt_9_1 h0) (-1) w8) vm_X11_gives fc9 h0 g1553 dX11_loadPost_80 rfl rfl (Nat.le_of_ble_eq_true rfl) (Nat.le_of_ble_eq_true rfl) (Nat.le_of_ble_eq_true rfl) (fun r12 w13 => ?_)
  exact E_iret (pc := 83) hx dX11_loadPost_83 rfl rfl (Nat.le_of_ble_eq_true rfl)
set_option maxHeartbeats 4000000 in
set_option maxRecDepth 100000 in
theorem l_X11_loadPost_b42 {x : Cx} (F : Nat) (a0 : Nat) (h0 : shK a0 = 10 + 9)  (hx : CxOK x RX11 cX11_loadPost 1 10 0 (some .int))    (w : aI) : En x jvIW 0 0 42 [(0, .ref a0)] [] (cm w) (f_X11_loadPost_b42 F a0    w) := by
  unfold f_X11_loadPost_b42
  refine E_aload_n (pc := 42) hx 0 dX11_loadPost_42 rfl rfl ?_
  refine E_aload_n (pc := 43) hx 0 dX11_loadPost_43 rfl rfl ?_
  refine E_getR (pc := 44) hx 0 fc9 h0 rfl ⟨rfl, rfl, rfl⟩ g1332 dX11_loadPost_44 ?_
  refine I_iconst (pc := 47) hx 0 dX11_loadPost_47 ?_
  refine I_iald (pc := 48) hx (kt_9_0 h0) dX11_loadPost_48 ?_
  refine I_iconst (pc := 49) hx 1 dX11_loadPost_49 ?_
  refine E_gd (fun hr6 => ?_)
  refine I_icmp_le (pc := 50) hx 57 dX11_loadPost_50 rfl ⟨hr6, (by decide)⟩ ?_ ?_
  · refine I_iconst (pc := 57) hx 0 dX11_loadPost_57 ?_
    exact l_X11_loadPost_b58 F a0 h0 hx 0 a0 h0 w
  refine I_iconst (pc := 53) hx 1 dX11_loadPost_53 ?_
  refine E_goto (pc := 54) hx 58 dX11_loadPost_54 rfl ?_
  exact l_X11_loadPost_b58 F a0 h0 hx 1 a0 h0 w
set_option maxHeartbeats 4000000 in
set_option maxRecDepth 100000 in
theorem l_X11_loadPost_b21_b {x : Cx} (F : Nat) (a0 : Nat) (h0 : shK a0 = 10 + 9)  (hx : CxOK x RX11 cX11_loadPost 1 10 0 (some .int))  (k21 : aI → Option (Int × aI)) (hk21 : ∀  (w : aI), En x jvIW 0 0 21 [(0, .ref a0)] [] (cm w) (k21 w))  (w : aI) : En x jvIW 0 0 21 [(0, .ref a0)] [] (cm w) (f_X11_loadPost_b21_b F a0   k21 w) := by
  unfold f_X11_loadPost_b21_b
  refine E_aload_n (pc := 21) hx 0 dX11_loadPost_21 rfl rfl ?_
  refine I_getI (pc := 22) hx 20 20 rfl fc9 h0 rfl ⟨rfl, rfl, rfl⟩ g1352 dX11_loadPost_22 ?_
  refine E_gd (fun hr5 => ?_)
  refine I_if_ne (pc := 25) hx 42 dX11_loadPost_25 rfl hr5 ?_ ?_
  · exact l_X11_loadPost_b42 F a0 h0 hx w
  refine E_aload_n (pc := 28) hx 0 dX11_loadPost_28 rfl rfl ?_
  refine I_getI (pc := 29) hx 18 18 rfl fc9 h0 rfl ⟨rfl, rfl, rfl⟩ g1350 dX11_loadPost_29 ?_
  refine E_gd (fun hr14 => ?_)
  refine I_if_eq (pc := 32) hx 42 dX11_loadPost_32 rfl hr14 ?_ ?_
  · exact l_X11_loadPost_b42 F a0 h0 hx w
  refine E_aload_n (pc := 35) hx 0 dX11_loadPost_35 rfl rfl ?_
  refine I_cVV  (pc := 36) hx [] [] (ev_X11_readsStatement F a0 h0 w) vm_X11_readsStatement fc9 h0 g1473 dX11_loadPost_36 rfl rfl (Nat.le_of_ble_eq_true rfl) (Nat.le_of_ble_eq_true rfl) (Nat.le_of_ble_eq_true rfl) (fun w15 => ?_)
  refine E_goto (pc := 39) hx 21 dX11_loadPost_39 rfl ?_
  exact hk21 w15
theorem l_X11_loadPost_b21 {x : Cx} (F : Nat) (a0 : Nat) (h0 : shK a0 = 10 + 9)  (hx : CxOK x RX11 cX11_loadPost 1 10 0 (some .int))  : ∀ (n : Nat) (w : aI), En x jvIW 0 0 21 [(0, .ref a0)] [] (cm w) (f_X11_loadPost_b21 F a0   n w) := by
  intro n
  induction n with
  | zero => intro  w; exact E_none
  | succ n ih => intro  w; exact l_X11_loadPost_b21_b F a0 h0  hx  _ ih  w
set_option maxHeartbeats 4000000 in
set_option maxRecDepth 100000 in
theorem ev_X11_loadPost (F : Nat) (a0 : Nat) (h0 : shK a0 = 10 + 9) (w : aI) : Ev yX11_loadPost cX11_loadPost 1 (some .int) 10 0 jvIW [.ref a0] (cm w) (f_X11_loadPost F a0 w) := by
  refine Ev.of (own := RX11) (by decide +kernel) rfl (Nat.le_of_ble_eq_true rfl) (fun x hx => ?_)
  show En x jvIW 0 0 0 [(0, .ref a0)] [] (cm w) _
  unfold f_X11_loadPost
  refine E_aload_n (pc := 0) hx 0 dX11_loadPost_0 rfl rfl ?_
  refine I_iconst (pc := 1) hx 0 dX11_loadPost_1 ?_
  refine I_put (pc := 2) hx 6 6 rfl .int tyX11 fc9 tyX11_ok h0 rfl ⟨rfl, rfl, rfl, rfl, pfd_I⟩ rfl rfl g1338 dX11_loadPost_2 (fun w1 => ?_)
  refine E_aload_n (pc := 5) hx 0 dX11_loadPost_5 rfl rfl ?_
  refine E_aload_n (pc := 6) hx 0 dX11_loadPost_6 rfl rfl ?_
  refine E_getR (pc := 7) hx 1 fc9 h0 rfl ⟨rfl, rfl, rfl⟩ g1333 dX11_loadPost_7 ?_
  refine I_cVV  (pc := 10) hx [.ref (shR a0 1)] [] (ev_X11_copies F a0 h0 (shR a0 1) (kt_9_1 h0) w1) vm_X11_copies fc9 h0 g1449 dX11_loadPost_10 rfl rfl (Nat.le_of_ble_eq_true rfl) (Nat.le_of_ble_eq_true rfl) (Nat.le_of_ble_eq_true rfl) (fun w2 => ?_)
  refine E_aload_n (pc := 13) hx 0 dX11_loadPost_13 rfl rfl ?_
  refine I_cVV  (pc := 14) hx [] [] (ev_X11_clears F a0 h0 w2) vm_X11_clears fc9 h0 g1311 dX11_loadPost_14 rfl rfl (Nat.le_of_ble_eq_true rfl) (Nat.le_of_ble_eq_true rfl) (Nat.le_of_ble_eq_true rfl) (fun w3 => ?_)
  refine E_aload_n (pc := 17) hx 0 dX11_loadPost_17 rfl rfl ?_
  refine I_cVV  (pc := 18) hx [] [] (ev_X11_starts F a0 h0 w3) vm_X11_starts fc9 h0 g1453 dX11_loadPost_18 rfl rfl (Nat.le_of_ble_eq_true rfl) (Nat.le_of_ble_eq_true rfl) (Nat.le_of_ble_eq_true rfl) (fun w4 => ?_)
  exact l_X11_loadPost_b21 F a0 h0 hx F w4
set_option maxHeartbeats 4000000 in
set_option maxRecDepth 100000 in
theorem ev_X11_kindHere (F : Nat) (a0 : Nat) (h0 : shK a0 = 10 + 9) (w : aI) : Ev yX11_kindHere cX11_kindHere 1 (some .int) 8 0 (jvI w) [.ref a0] (cm w) (f_X11_kindHere F a0 w) := by
  refine Ev.of (own := RX11) (by decide +kernel) rfl (Nat.le_of_ble_eq_true rfl) (fun x hx => ?_)
  show En x (jvI w) 0 0 0 [(0, .ref a0)] [] (cm w) _
  unfold f_X11_kindHere
  refine E_aload_n (pc := 0) hx 0 dX11_kindHere_0 rfl rfl ?_
  refine E_ldcwS (pc := 1) hx (tx := (xStr.getD 28 ("", 0, "", 0)).2.2.1) 28 (by decide +kernel) dX11_kindHere_1 ?_
  refine I_cVB  (pc := 4) hx [.ref (sx 28)] [] (ev_X11_isWord F a0 h0 28 w) vm_X11_isWord fc9 h0 g1478 dX11_kindHere_4 rfl rfl (Nat.le_of_ble_eq_true rfl) (Nat.le_of_ble_eq_true rfl) (Nat.le_of_ble_eq_true rfl) (fun r1 => ?_)
  refine I_ifB_eq (pc := 7) hx 12 dX11_kindHere_7 rfl ?_ ?_
  · refine E_aload_n (pc := 12) hx 0 dX11_kindHere_12 rfl rfl ?_
    refine E_ldcwS (pc := 13) hx (tx := (xStr.getD 29 ("", 0, "", 0)).2.2.1) 29 (by decide +kernel) dX11_kindHere_13 ?_
    refine I_cVB  (pc := 16) hx [.ref (sx 29)] [] (ev_X11_isWord F a0 h0 29 w) vm_X11_isWord fc9 h0 g1478 dX11_kindHere_16 rfl rfl (Nat.le_of_ble_eq_true rfl) (Nat.le_of_ble_eq_true rfl) (Nat.le_of_ble_eq_true rfl) (fun r2 => ?_)
    refine I_ifB_eq (pc := 19) hx 24 dX11_kindHere_19 rfl ?_ ?_
    · refine E_aload_n (pc := 24) hx 0 dX11_kindHere_24 rfl rfl ?_
      refine E_ldcwS (pc := 25) hx (tx := (xStr.getD 30 ("", 0, "", 0)).2.2.1) 30 (by decide +kernel) dX11_kindHere_25 ?_
      refine I_cVB  (pc := 28) hx [.ref (sx 30)] [] (ev_X11_isWord F a0 h0 30 w) vm_X11_isWord fc9 h0 g1478 dX11_kindHere_28 rfl rfl (Nat.le_of_ble_eq_true rfl) (Nat.le_of_ble_eq_true rfl) (Nat.le_of_ble_eq_true rfl) (fun r3 => ?_)
      refine I_ifB_eq (pc := 31) hx 36 dX11_kindHere_31 rfl ?_ ?_
      · refine E_aload_n (pc := 36) hx 0 dX11_kindHere_36 rfl rfl ?_
        refine E_ldcwS (pc := 37) hx (tx := (xStr.getD 31 ("", 0, "", 0)).2.2.1) 31 (by decide +kernel) dX11_kindHere_37 ?_
        refine I_cVB  (pc := 40) hx [.ref (sx 31)] [] (ev_X11_isWord F a0 h0 31 w) vm_X11_isWord fc9 h0 g1478 dX11_kindHere_40 rfl rfl (Nat.le_of_ble_eq_true rfl) (Nat.le_of_ble_eq_true rfl) (Nat.le_of_ble_eq_true rfl) (fun r4 => ?_)
        refine I_ifB_eq (pc := 43) hx 48 dX11_kindHere_43 rfl ?_ ?_
        · refine E_aload_n (pc := 48) hx 0 dX11_kindHere_48 rfl rfl ?_
          refine E_ldcwS (pc := 49) hx (tx := (xStr.getD 32 ("", 0, "", 0)).2.2.1) 32 (by decide +kernel) dX11_kindHere_49 ?_
          refine I_cVB  (pc := 52) hx [.ref (sx 32)] [] (ev_X11_isWord F a0 h0 32 w) vm_X11_isWord fc9 h0 g1478 dX11_kindHere_52 rfl rfl (Nat.le_of_ble_eq_true rfl) (Nat.le_of_ble_eq_true rfl) (Nat.le_of_ble_eq_true rfl) (fun r5 => ?_)
          refine I_ifB_eq (pc := 55) hx 60 dX11_kindHere_55 rfl ?_ ?_
          · refine E_aload_n (pc := 60) hx 0 dX11_kindHere_60 rfl rfl ?_
            refine I_cVI  (pc := 61) hx [] [] (ev_X11_settingHere F a0 h0 w) vm_X11_settingHere fc9 h0 g1532 dX11_kindHere_61 rfl rfl (Nat.le_of_ble_eq_true rfl) (Nat.le_of_ble_eq_true rfl) (Nat.le_of_ble_eq_true rfl) (fun r6 => ?_)
            refine I_iconst (pc := 64) hx (-1) dX11_kindHere_64 ?_
            refine E_gd (fun hr7 => ?_)
            refine I_icmp_ne (pc := 65) hx 72 dX11_kindHere_65 rfl ⟨hr7, (by decide)⟩ ?_ ?_
            · refine I_iconst (pc := 72) hx 5 dX11_kindHere_72 ?_
              exact E_iret (pc := 73) hx dX11_kindHere_73 rfl rfl (Nat.le_of_ble_eq_true rfl)
            refine I_iconst (pc := 68) hx (-1) dX11_kindHere_68 ?_
            refine E_goto (pc := 69) hx 73 dX11_kindHere_69 rfl ?_
            exact E_iret (pc := 73) hx dX11_kindHere_73 rfl rfl (Nat.le_of_ble_eq_true rfl)
          refine I_iconst (pc := 58) hx 4 dX11_kindHere_58 ?_
          exact E_iret (pc := 59) hx dX11_kindHere_59 rfl rfl (Nat.le_of_ble_eq_true rfl)
        refine I_iconst (pc := 46) hx 3 dX11_kindHere_46 ?_
        exact E_iret (pc := 47) hx dX11_kindHere_47 rfl rfl (Nat.le_of_ble_eq_true rfl)
      refine I_iconst (pc := 34) hx 2 dX11_kindHere_34 ?_
      exact E_iret (pc := 35) hx dX11_kindHere_35 rfl rfl (Nat.le_of_ble_eq_true rfl)
    refine I_iconst (pc := 22) hx 1 dX11_kindHere_22 ?_
    exact E_iret (pc := 23) hx dX11_kindHere_23 rfl rfl (Nat.le_of_ble_eq_true rfl)
  refine I_iconst (pc := 10) hx 0 dX11_kindHere_10 ?_
  exact E_iret (pc := 11) hx dX11_kindHere_11 rfl rfl (Nat.le_of_ble_eq_true rfl)
set_option maxHeartbeats 4000000 in
set_option maxRecDepth 100000 in
theorem l_X11_readsNotes_b66 {x : Cx} (F : Nat) (a0 : Nat) (h0 : shK a0 = 10 + 9) (p1 : Int)  (hx : CxOK x RX11 cX11_readsNotes 4 3 0 none)   (v2 : Int) (w : aI) : En x jvV 0 0 66 [(0, .ref a0), (1, .int (oI p1)), (2, .int (oI v2))] [] (cm w) (f_X11_readsNotes_b66 F a0 p1    v2 w) := by
  unfold f_X11_readsNotes_b66
  refine E_aload_n (pc := 66) hx 0 dX11_readsNotes_66 rfl rfl ?_
  refine E_getR (pc := 67) hx 22 fc9 h0 rfl ⟨rfl, rfl, rfl⟩ g1354 dX11_readsNotes_67 ?_
  refine E_iload_n (pc := 70) hx 1 dX11_readsNotes_70 rfl rfl ?_
  refine I_iconst (pc := 71) hx 3 dX11_readsNotes_71 ?_
  refine I_iadd (pc := 72) hx dX11_readsNotes_72 ?_
  refine E_iload_n (pc := 73) hx 2 dX11_readsNotes_73 rfl rfl ?_
  refine I_iast (pc := 74) hx (kt_9_22 h0) dX11_readsNotes_74 (fun w8 => ?_)
  exact E_vret (pc := 75) hx dX11_readsNotes_75 rfl rfl (Nat.le_of_ble_eq_true rfl)
set_option maxHeartbeats 4000000 in
set_option maxRecDepth 100000 in
theorem l_X11_readsNotes_b47 {x : Cx} (F : Nat) (a0 : Nat) (h0 : shK a0 = 10 + 9) (p1 : Int)  (hx : CxOK x RX11 cX11_readsNotes 4 3 0 none) (k2 : Int → aI → Option aI) (hk2 : ∀ (v2 : Int) (w : aI), En x jvV 0 0 2 [(0, .ref a0), (1, .int (oI p1)), (2, .int (oI v2))] [] (cm w) (k2 v2 w))  (v2 : Int) (w : aI) : En x jvV 0 0 47 [(0, .ref a0), (1, .int (oI p1)), (2, .int (oI v2))] [] (cm w) (f_X11_readsNotes_b47 F a0 p1  k2  v2 w) := by
  unfold f_X11_readsNotes_b47
  refine E_aload_n (pc := 47) hx 0 dX11_readsNotes_47 rfl rfl ?_
  refine I_cVV  (pc := 48) hx [] [] (ev_X11_goesOn F a0 h0 w) vm_X11_goesOn fc9 h0 g1457 dX11_readsNotes_48 rfl rfl (Nat.le_of_ble_eq_true rfl) (Nat.le_of_ble_eq_true rfl) (Nat.le_of_ble_eq_true rfl) (fun w6 => ?_)
  refine E_aload_n (pc := 51) hx 0 dX11_readsNotes_51 rfl rfl ?_
  refine I_getI (pc := 52) hx 20 20 rfl fc9 h0 rfl ⟨rfl, rfl, rfl⟩ g1352 dX11_readsNotes_52 ?_
  refine E_gd (fun hr7 => ?_)
  refine I_if_ne (pc := 55) hx 66 dX11_readsNotes_55 rfl hr7 ?_ ?_
  · exact l_X11_readsNotes_b66 F a0 h0 p1 hx v2 w6
  refine E_aload_n (pc := 58) hx 0 dX11_readsNotes_58 rfl rfl ?_
  refine I_getI (pc := 59) hx 18 18 rfl fc9 h0 rfl ⟨rfl, rfl, rfl⟩ g1350 dX11_readsNotes_59 ?_
  refine I_iconst (pc := 62) hx 2 dX11_readsNotes_62 ?_
  refine E_gd (fun hr9 => ?_)
  refine I_icmp_eq (pc := 63) hx 2 dX11_readsNotes_63 rfl ⟨hr9, (by decide)⟩ ?_ ?_
  · exact hk2 v2 w6
  exact l_X11_readsNotes_b66 F a0 h0 p1 hx v2 w6
set_option maxHeartbeats 4000000 in
set_option maxRecDepth 100000 in
theorem l_X11_readsNotes_b22 {x : Cx} (F : Nat) (a0 : Nat) (h0 : shK a0 = 10 + 9) (p1 : Int)  (hx : CxOK x RX11 cX11_readsNotes 4 3 0 none) (k2 : Int → aI → Option aI) (hk2 : ∀ (v2 : Int) (w : aI), En x jvV 0 0 2 [(0, .ref a0), (1, .int (oI p1)), (2, .int (oI v2))] [] (cm w) (k2 v2 w))  (v2 : Int) (v3 : Int) (z0 : Int) (z1 : Nat) (hz1 : shK z1 = 10 + 9) (w : aI) : En x jvV 0 0 22 [(0, .ref a0), (1, .int (oI p1)), (2, .int (oI v2)), (3, .int (oI v3))] [.int (oI z0), .ref z1] (cm w) (f_X11_readsNotes_b22 F a0 p1  k2  v2 v3 z0 z1 w) := by
  unfold f_X11_readsNotes_b22
  refine I_iconst (pc := 22) hx 5 dX11_readsNotes_22 ?_
  refine I_cVV  (pc := 23) hx [.int (oI z0), .int (oI 5)] [] (ev_X11_need F z1 hz1 z0 5 w) vm_X11_need fc9 hz1 g1486 dX11_readsNotes_23 rfl rfl (Nat.le_of_ble_eq_true rfl) (Nat.le_of_ble_eq_true rfl) (Nat.le_of_ble_eq_true rfl) (fun w4 => ?_)
  refine E_aload_n (pc := 26) hx 0 dX11_readsNotes_26 rfl rfl ?_
  refine I_getI (pc := 27) hx 20 20 rfl fc9 h0 rfl ⟨rfl, rfl, rfl⟩ g1352 dX11_readsNotes_27 ?_
  refine E_gd (fun hr5 => ?_)
  refine I_if_ne (pc := 30) hx 47 dX11_readsNotes_30 rfl hr5 ?_ ?_
  · refine En.sub [0, 1, 2] rfl ?_
    exact l_X11_readsNotes_b47 F a0 h0 p1 hx k2 hk2 v2 w4
  refine E_aload_n (pc := 33) hx 0 dX11_readsNotes_33 rfl rfl ?_
  refine E_getR (pc := 34) hx 22 fc9 h0 rfl ⟨rfl, rfl, rfl⟩ g1354 dX11_readsNotes_34 ?_
  refine E_iload_n (pc := 37) hx 1 dX11_readsNotes_37 rfl rfl ?_
  refine I_iconst (pc := 38) hx 4 dX11_readsNotes_38 ?_
  refine I_iadd (pc := 39) hx dX11_readsNotes_39 ?_
  refine E_iload_n (pc := 40) hx 2 dX11_readsNotes_40 rfl rfl ?_
  refine I_iadd (pc := 41) hx dX11_readsNotes_41 ?_
  refine E_iload_n (pc := 42) hx 3 dX11_readsNotes_42 rfl rfl ?_
  refine I_iast (pc := 43) hx (kt_9_22 h0) dX11_readsNotes_43 (fun w10 => ?_)
  refine I_iinc (pc := 44) hx 1 2 dX11_readsNotes_44 rfl (Nat.le_of_ble_eq_true rfl) rfl ?_
  refine En.sub [1, 2, 0] rfl ?_
  exact l_X11_readsNotes_b47 F a0 h0 p1 hx k2 hk2 (v2 + 1) w10
set_option maxHeartbeats 4000000 in
set_option maxRecDepth 100000 in
theorem l_X11_readsNotes_b2_b {x : Cx} (F : Nat) (a0 : Nat) (h0 : shK a0 = 10 + 9) (p1 : Int)  (hx : CxOK x RX11 cX11_readsNotes 4 3 0 none)  (k2 : Int → aI → Option aI) (hk2 : ∀ (v2 : Int) (w : aI), En x jvV 0 0 2 [(0, .ref a0), (1, .int (oI p1)), (2, .int (oI v2))] [] (cm w) (k2 v2 w)) (v2 : Int) (w : aI) : En x jvV 0 0 2 [(0, .ref a0), (1, .int (oI p1)), (2, .int (oI v2))] [] (cm w) (f_X11_readsNotes_b2_b F a0 p1   k2 v2 w) := by
  unfold f_X11_readsNotes_b2_b
  refine E_aload_n (pc := 2) hx 0 dX11_readsNotes_2 rfl rfl ?_
  refine I_iconst (pc := 3) hx 0 dX11_readsNotes_3 ?_
  refine I_bipush (pc := 4) hx 7 dX11_readsNotes_4 rfl ?_
  refine I_cVIW  (pc := 6) hx [.int (oI 0), .int (oI 7)] [] (ev_X11_numberHere F a0 h0 0 7 w) vm_X11_numberHere fc9 h0 g1502 dX11_readsNotes_6 rfl rfl (Nat.le_of_ble_eq_true rfl) (Nat.le_of_ble_eq_true rfl) (Nat.le_of_ble_eq_true rfl) (fun r1 w2 => ?_)
  refine E_istore_n (pc := 9) hx dX11_readsNotes_9 rfl (Nat.le_of_ble_eq_true rfl) rfl ?_
  refine E_aload_n (pc := 10) hx 1 dX11_readsNotes_10 rfl rfl ?_
  refine E_iload_n (pc := 11) hx 3 dX11_readsNotes_11 rfl rfl ?_
  refine I_bipush (pc := 12) hx 8 dX11_readsNotes_12 rfl ?_
  refine E_gd (fun hr3 => ?_)
  refine I_icmp_ge (pc := 14) hx 21 dX11_readsNotes_14 rfl ⟨hr3, (by decide)⟩ ?_ ?_
  · refine I_iconst (pc := 21) hx 0 dX11_readsNotes_21 ?_
    refine En.sub [1, 2, 3, 0] rfl ?_
    exact l_X11_readsNotes_b22 F a0 h0 p1 hx k2 hk2 v2 r1 0 a0 h0 w2
  refine I_iconst (pc := 17) hx 1 dX11_readsNotes_17 ?_
  refine E_goto (pc := 18) hx 22 dX11_readsNotes_18 rfl ?_
  refine En.sub [1, 2, 3, 0] rfl ?_
  exact l_X11_readsNotes_b22 F a0 h0 p1 hx k2 hk2 v2 r1 1 a0 h0 w2
theorem l_X11_readsNotes_b2 {x : Cx} (F : Nat) (a0 : Nat) (h0 : shK a0 = 10 + 9) (p1 : Int)  (hx : CxOK x RX11 cX11_readsNotes 4 3 0 none)  : ∀ (n : Nat) (v2 : Int) (w : aI), En x jvV 0 0 2 [(0, .ref a0), (1, .int (oI p1)), (2, .int (oI v2))] [] (cm w) (f_X11_readsNotes_b2 F a0 p1   n v2 w) := by
  intro n
  induction n with
  | zero => intro v2 w; exact E_none
  | succ n ih => intro v2 w; exact l_X11_readsNotes_b2_b F a0 h0 p1  hx  _ ih v2 w
set_option maxHeartbeats 4000000 in
set_option maxRecDepth 100000 in
theorem ev_X11_readsNotes (F : Nat) (a0 : Nat) (h0 : shK a0 = 10 + 9) (p1 : Int) (w : aI) : Ev yX11_readsNotes cX11_readsNotes 4 none 3 0 jvV [.ref a0, .int (oI p1)] (cm w) (f_X11_readsNotes F a0 p1 w) := by
  refine Ev.of (own := RX11) (by decide +kernel) rfl (Nat.le_of_ble_eq_true rfl) (fun x hx => ?_)
  show En x jvV 0 0 0 [(0, .ref a0), (1, .int (oI p1))] [] (cm w) _
  unfold f_X11_readsNotes
  refine I_iconst (pc := 0) hx 0 dX11_readsNotes_0 ?_
  refine E_istore_n (pc := 1) hx dX11_readsNotes_1 rfl (Nat.le_of_ble_eq_true rfl) rfl ?_
  refine En.sub [1, 2, 0] rfl ?_
  exact l_X11_readsNotes_b2 F a0 h0 p1 hx F 0 w
set_option maxHeartbeats 4000000 in
set_option maxRecDepth 100000 in
theorem l_X11_readsDeed_b264 {x : Cx} (F : Nat) (a0 : Nat) (h0 : shK a0 = 10 + 9)  (hx : CxOK x RX11 cX11_readsDeed 4 9 0 none)    (w : aI) : En x jvV 0 0 264 [(0, .ref a0)] [] (cm w) (f_X11_readsDeed_b264 F a0    w) := by
  unfold f_X11_readsDeed_b264
  refine E_aload_n (pc := 264) hx 0 dX11_readsDeed_264 rfl rfl ?_
  refine I_cVV  (pc := 265) hx [] [] (ev_X11_semicolon F a0 h0 w) vm_X11_semicolon fc9 h0 g1545 dX11_readsDeed_265 rfl rfl (Nat.le_of_ble_eq_true rfl) (Nat.le_of_ble_eq_true rfl) (Nat.le_of_ble_eq_true rfl) (fun w20 => ?_)
  refine E_aload_n (pc := 268) hx 0 dX11_readsDeed_268 rfl rfl ?_
  refine E_dup (pc := 269) hx dX11_readsDeed_269 rfl ?_
  refine I_getI (pc := 270) hx 23 23 rfl fc9 h0 rfl ⟨rfl, rfl, rfl⟩ g1355 dX11_readsDeed_270 ?_
  refine I_iconst (pc := 273) hx 1 dX11_readsDeed_273 ?_
  refine I_iadd (pc := 274) hx dX11_readsDeed_274 ?_
  refine I_put (pc := 275) hx 23 23 rfl .int tyX11 fc9 tyX11_ok h0 rfl ⟨rfl, rfl, rfl, rfl, pfd_I⟩ rfl rfl g1355 dX11_readsDeed_275 (fun w21 => ?_)
  exact E_vret (pc := 278) hx dX11_readsDeed_278 rfl rfl (Nat.le_of_ble_eq_true rfl)
set_option maxHeartbeats 4000000 in
set_option maxRecDepth 100000 in
theorem l_X11_readsDeed_b40 {x : Cx} (F : Nat) (a0 : Nat) (h0 : shK a0 = 10 + 9)  (hx : CxOK x RX11 cX11_readsDeed 4 9 0 none)   (v1 : Int) (v2 : Int) (z0 : Int) (z1 : Nat) (hz1 : shK z1 = 10 + 9) (w : aI) : En x jvV 0 0 40 [(0, .ref a0), (1, .int (oI v1)), (2, .int (oI v2))] [.int (oI z0), .ref z1] (cm w) (f_X11_readsDeed_b40 F a0    v1 v2 z0 z1 w) := by
  unfold f_X11_readsDeed_b40
  refine I_iconst (pc := 40) hx 5 dX11_readsDeed_40 ?_
  refine I_cVV  (pc := 41) hx [.int (oI z0), .int (oI 5)] [] (ev_X11_need F z1 hz1 z0 5 w) vm_X11_need fc9 hz1 g1486 dX11_readsDeed_41 rfl rfl (Nat.le_of_ble_eq_true rfl) (Nat.le_of_ble_eq_true rfl) (Nat.le_of_ble_eq_true rfl) (fun w6 => ?_)
  refine E_aload_n (pc := 44) hx 0 dX11_readsDeed_44 rfl rfl ?_
  refine I_cVV  (pc := 45) hx [] [] (ev_X11_goesOn F a0 h0 w6) vm_X11_goesOn fc9 h0 g1457 dX11_readsDeed_45 rfl rfl (Nat.le_of_ble_eq_true rfl) (Nat.le_of_ble_eq_true rfl) (Nat.le_of_ble_eq_true rfl) (fun w7 => ?_)
  refine E_aload_n (pc := 48) hx 0 dX11_readsDeed_48 rfl rfl ?_
  refine I_getI (pc := 49) hx 20 20 rfl fc9 h0 rfl ⟨rfl, rfl, rfl⟩ g1352 dX11_readsDeed_49 ?_
  refine E_gd (fun hr8 => ?_)
  refine I_if_le (pc := 52) hx 56 dX11_readsDeed_52 rfl hr8 ?_ ?_
  · refine I_bipush (pc := 56) hx 12 dX11_readsDeed_56 rfl ?_
    refine E_aload_n (pc := 58) hx 0 dX11_readsDeed_58 rfl rfl ?_
    refine I_getI (pc := 59) hx 23 23 rfl fc9 h0 rfl ⟨rfl, rfl, rfl⟩ g1355 dX11_readsDeed_59 ?_
    refine I_imul (pc := 62) hx dX11_readsDeed_62 ?_
    refine I_ltv (fun v3_9 => ?_)
    refine E_istore_n (pc := 63) hx dX11_readsDeed_63 rfl (Nat.le_of_ble_eq_true rfl) rfl ?_
    refine E_aload_n (pc := 64) hx 1 dX11_readsDeed_64 rfl rfl ?_
    refine E_getR (pc := 65) hx 22 fc9 h0 rfl ⟨rfl, rfl, rfl⟩ g1354 dX11_readsDeed_65 ?_
    refine E_iload_n (pc := 68) hx 0 dX11_readsDeed_68 rfl rfl ?_
    refine E_iload_n (pc := 69) hx 2 dX11_readsDeed_69 rfl rfl ?_
    refine I_iast (pc := 70) hx (kt_9_22 h0) dX11_readsDeed_70 (fun w10 => ?_)
    refine E_iload_n (pc := 71) hx 2 dX11_readsDeed_71 rfl rfl ?_
    refine E_gd (fun hr11 => ?_)
    refine E_case (fun hc12 => ?_) (fun hc12 => ?_)
    · refine E_tIn (pc := 72) hx 108 dX11_readsDeed_72 (by rw [oI_toInt hr11]; omega) (by rw [oI_toInt hr11]; omega) (by rw [hc12]; rfl) rfl ?_
      refine E_aload_n (pc := 108) hx 1 dX11_readsDeed_108 rfl rfl ?_
      refine E_getR (pc := 109) hx 22 fc9 h0 rfl ⟨rfl, rfl, rfl⟩ g1354 dX11_readsDeed_109 ?_
      refine E_iload_n (pc := 112) hx 0 dX11_readsDeed_112 rfl rfl ?_
      refine I_iconst (pc := 113) hx 1 dX11_readsDeed_113 ?_
      refine I_iadd (pc := 114) hx dX11_readsDeed_114 ?_
      refine E_aload_n (pc := 115) hx 1 dX11_readsDeed_115 rfl rfl ?_
      refine I_iconst (pc := 116) hx (-1) dX11_readsDeed_116 ?_
      refine I_cVIW  (pc := 117) hx [.int (oI (-1))] [.int (oI (v3_9 + 1)), .ref (shR a0 22)] (ev_X11_roofOfText F a0 h0 (-1) w10) vm_X11_roofOfText fc9 h0 g1511 dX11_readsDeed_117 rfl rfl (Nat.le_of_ble_eq_true rfl) (Nat.le_of_ble_eq_true rfl) (Nat.le_of_ble_eq_true rfl) (fun r13 w14 => ?_)
      refine I_iast (pc := 120) hx (kt_9_22 h0) dX11_readsDeed_120 (fun w15 => ?_)
      refine E_aload_n (pc := 121) hx 1 dX11_readsDeed_121 rfl rfl ?_
      refine E_getR (pc := 122) hx 22 fc9 h0 rfl ⟨rfl, rfl, rfl⟩ g1354 dX11_readsDeed_122 ?_
      refine E_iload_n (pc := 125) hx 0 dX11_readsDeed_125 rfl rfl ?_
      refine I_iconst (pc := 126) hx 2 dX11_readsDeed_126 ?_
      refine I_iadd (pc := 127) hx dX11_readsDeed_127 ?_
      refine E_aload_n (pc := 128) hx 1 dX11_readsDeed_128 rfl rfl ?_
      refine E_aload_n (pc := 129) hx 1 dX11_readsDeed_129 rfl rfl ?_
      refine E_getR (pc := 130) hx 22 fc9 h0 rfl ⟨rfl, rfl, rfl⟩ g1354 dX11_readsDeed_130 ?_
      refine E_iload_n (pc := 133) hx 0 dX11_readsDeed_133 rfl rfl ?_
      refine I_iconst (pc := 134) hx 1 dX11_readsDeed_134 ?_
      refine I_iadd (pc := 135) hx dX11_readsDeed_135 ?_
      refine I_iald (pc := 136) hx (kt_9_22 h0) dX11_readsDeed_136 ?_
      refine I_cVIW  (pc := 137) hx [.int (oI (w15 (shR a0 22) (v3_9 + 1)))] [.int (oI (v3_9 + 2)), .ref (shR a0 22)] (ev_X11_roofOfText F a0 h0 (w15 (shR a0 22) (v3_9 + 1)) w15) vm_X11_roofOfText fc9 h0 g1511 dX11_readsDeed_137 rfl rfl (Nat.le_of_ble_eq_true rfl) (Nat.le_of_ble_eq_true rfl) (Nat.le_of_ble_eq_true rfl) (fun r16 w17 => ?_)
      refine I_iast (pc := 140) hx (kt_9_22 h0) dX11_readsDeed_140 (fun w18 => ?_)
      refine E_aload_n (pc := 141) hx 1 dX11_readsDeed_141 rfl rfl ?_
      refine E_iload_n (pc := 142) hx 0 dX11_readsDeed_142 rfl rfl ?_
      refine I_cVV  (pc := 143) hx [.int (oI v3_9)] [] (ev_X11_readsNotes F a0 h0 v3_9 w18) vm_X11_readsNotes fc9 h0 g1574 dX11_readsDeed_143 rfl rfl (Nat.le_of_ble_eq_true rfl) (Nat.le_of_ble_eq_true rfl) (Nat.le_of_ble_eq_true rfl) (fun w19 => ?_)
      refine E_goto (pc := 146) hx 264 dX11_readsDeed_146 rfl ?_
      refine En.sub [1] rfl ?_
      exact l_X11_readsDeed_b264 F a0 h0 hx w19
    refine E_case (fun hc22 => ?_) (fun hc22 => ?_)
    · refine E_tIn (pc := 72) hx 108 dX11_readsDeed_72 (by rw [oI_toInt hr11]; omega) (by rw [oI_toInt hr11]; omega) (by rw [hc22]; rfl) rfl ?_
      refine E_aload_n (pc := 108) hx 1 dX11_readsDeed_108 rfl rfl ?_
      refine E_getR (pc := 109) hx 22 fc9 h0 rfl ⟨rfl, rfl, rfl⟩ g1354 dX11_readsDeed_109 ?_
      refine E_iload_n (pc := 112) hx 0 dX11_readsDeed_112 rfl rfl ?_
      refine I_iconst (pc := 113) hx 1 dX11_readsDeed_113 ?_
      refine I_iadd (pc := 114) hx dX11_readsDeed_114 ?_
      refine E_aload_n (pc := 115) hx 1 dX11_readsDeed_115 rfl rfl ?_
      refine I_iconst (pc := 116) hx (-1) dX11_readsDeed_116 ?_
      refine I_cVIW  (pc := 117) hx [.int (oI (-1))] [.int (oI (v3_9 + 1)), .ref (shR a0 22)] (ev_X11_roofOfText F a0 h0 (-1) w10) vm_X11_roofOfText fc9 h0 g1511 dX11_readsDeed_117 rfl rfl (Nat.le_of_ble_eq_true rfl) (Nat.le_of_ble_eq_true rfl) (Nat.le_of_ble_eq_true rfl) (fun r23 w24 => ?_)
      refine I_iast (pc := 120) hx (kt_9_22 h0) dX11_readsDeed_120 (fun w25 => ?_)
      refine E_aload_n (pc := 121) hx 1 dX11_readsDeed_121 rfl rfl ?_
      refine E_getR (pc := 122) hx 22 fc9 h0 rfl ⟨rfl, rfl, rfl⟩ g1354 dX11_readsDeed_122 ?_
      refine E_iload_n (pc := 125) hx 0 dX11_readsDeed_125 rfl rfl ?_
      refine I_iconst (pc := 126) hx 2 dX11_readsDeed_126 ?_
      refine I_iadd (pc := 127) hx dX11_readsDeed_127 ?_
      refine E_aload_n (pc := 128) hx 1 dX11_readsDeed_128 rfl rfl ?_
      refine E_aload_n (pc := 129) hx 1 dX11_readsDeed_129 rfl rfl ?_
      refine E_getR (pc := 130) hx 22 fc9 h0 rfl ⟨rfl, rfl, rfl⟩ g1354 dX11_readsDeed_130 ?_
      refine E_iload_n (pc := 133) hx 0 dX11_readsDeed_133 rfl rfl ?_
      refine I_iconst (pc := 134) hx 1 dX11_readsDeed_134 ?_
      refine I_iadd (pc := 135) hx dX11_readsDeed_135 ?_
      refine I_iald (pc := 136) hx (kt_9_22 h0) dX11_readsDeed_136 ?_
      refine I_cVIW  (pc := 137) hx [.int (oI (w25 (shR a0 22) (v3_9 + 1)))] [.int (oI (v3_9 + 2)), .ref (shR a0 22)] (ev_X11_roofOfText F a0 h0 (w25 (shR a0 22) (v3_9 + 1)) w25) vm_X11_roofOfText fc9 h0 g1511 dX11_readsDeed_137 rfl rfl (Nat.le_of_ble_eq_true rfl) (Nat.le_of_ble_eq_true rfl) (Nat.le_of_ble_eq_true rfl) (fun r26 w27 => ?_)
      refine I_iast (pc := 140) hx (kt_9_22 h0) dX11_readsDeed_140 (fun w28 => ?_)
      refine E_aload_n (pc := 141) hx 1 dX11_readsDeed_141 rfl rfl ?_
      refine E_iload_n (pc := 142) hx 0 dX11_readsDeed_142 rfl rfl ?_
      refine I_cVV  (pc := 143) hx [.int (oI v3_9)] [] (ev_X11_readsNotes F a0 h0 v3_9 w28) vm_X11_readsNotes fc9 h0 g1574 dX11_readsDeed_143 rfl rfl (Nat.le_of_ble_eq_true rfl) (Nat.le_of_ble_eq_true rfl) (Nat.le_of_ble_eq_true rfl) (fun w29 => ?_)
      refine E_goto (pc := 146) hx 264 dX11_readsDeed_146 rfl ?_
      refine En.sub [1] rfl ?_
      exact l_X11_readsDeed_b264 F a0 h0 hx w29
    refine E_case (fun hc30 => ?_) (fun hc30 => ?_)
    · refine E_tIn (pc := 72) hx 149 dX11_readsDeed_72 (by rw [oI_toInt hr11]; omega) (by rw [oI_toInt hr11]; omega) (by rw [hc30]; rfl) rfl ?_
      refine E_aload_n (pc := 149) hx 1 dX11_readsDeed_149 rfl rfl ?_
      refine E_getR (pc := 150) hx 22 fc9 h0 rfl ⟨rfl, rfl, rfl⟩ g1354 dX11_readsDeed_150 ?_
      refine E_iload_n (pc := 153) hx 0 dX11_readsDeed_153 rfl rfl ?_
      refine I_iconst (pc := 154) hx 1 dX11_readsDeed_154 ?_
      refine I_iadd (pc := 155) hx dX11_readsDeed_155 ?_
      refine E_aload_n (pc := 156) hx 1 dX11_readsDeed_156 rfl rfl ?_
      refine I_iconst (pc := 157) hx 1 dX11_readsDeed_157 ?_
      refine I_sipush (pc := 158) hx 200 dX11_readsDeed_158 rfl ?_
      refine I_cVIW  (pc := 161) hx [.int (oI 1), .int (oI 200)] [.int (oI (v3_9 + 1)), .ref (shR a0 22)] (ev_X11_number F a0 h0 1 200 w10) vm_X11_number fc9 h0 g1498 dX11_readsDeed_161 rfl rfl (Nat.le_of_ble_eq_true rfl) (Nat.le_of_ble_eq_true rfl) (Nat.le_of_ble_eq_true rfl) (fun r31 w32 => ?_)
      refine I_iast (pc := 164) hx (kt_9_22 h0) dX11_readsDeed_164 (fun w33 => ?_)
      refine E_goto (pc := 165) hx 264 dX11_readsDeed_165 rfl ?_
      refine En.sub [1] rfl ?_
      exact l_X11_readsDeed_b264 F a0 h0 hx w33
    refine E_case (fun hc34 => ?_) (fun hc34 => ?_)
    · refine E_tIn (pc := 72) hx 168 dX11_readsDeed_72 (by rw [oI_toInt hr11]; omega) (by rw [oI_toInt hr11]; omega) (by rw [hc34]; rfl) rfl ?_
      refine E_aload_n (pc := 168) hx 1 dX11_readsDeed_168 rfl rfl ?_
      refine E_getR (pc := 169) hx 22 fc9 h0 rfl ⟨rfl, rfl, rfl⟩ g1354 dX11_readsDeed_169 ?_
      refine E_iload_n (pc := 172) hx 0 dX11_readsDeed_172 rfl rfl ?_
      refine I_iconst (pc := 173) hx 1 dX11_readsDeed_173 ?_
      refine I_iadd (pc := 174) hx dX11_readsDeed_174 ?_
      refine E_aload_n (pc := 175) hx 1 dX11_readsDeed_175 rfl rfl ?_
      refine I_iconst (pc := 176) hx (-1) dX11_readsDeed_176 ?_
      refine I_cVIW  (pc := 177) hx [.int (oI (-1))] [.int (oI (v3_9 + 1)), .ref (shR a0 22)] (ev_X11_roofOfText F a0 h0 (-1) w10) vm_X11_roofOfText fc9 h0 g1511 dX11_readsDeed_177 rfl rfl (Nat.le_of_ble_eq_true rfl) (Nat.le_of_ble_eq_true rfl) (Nat.le_of_ble_eq_true rfl) (fun r35 w36 => ?_)
      refine I_iast (pc := 180) hx (kt_9_22 h0) dX11_readsDeed_180 (fun w37 => ?_)
      refine E_aload_n (pc := 181) hx 1 dX11_readsDeed_181 rfl rfl ?_
      refine E_getR (pc := 182) hx 22 fc9 h0 rfl ⟨rfl, rfl, rfl⟩ g1354 dX11_readsDeed_182 ?_
      refine E_iload_n (pc := 185) hx 0 dX11_readsDeed_185 rfl rfl ?_
      refine I_iconst (pc := 186) hx 2 dX11_readsDeed_186 ?_
      refine I_iadd (pc := 187) hx dX11_readsDeed_187 ?_
      refine E_aload_n (pc := 188) hx 1 dX11_readsDeed_188 rfl rfl ?_
      refine I_iconst (pc := 189) hx 1 dX11_readsDeed_189 ?_
      refine I_bipush (pc := 190) hx 99 dX11_readsDeed_190 rfl ?_
      refine I_cVIW  (pc := 192) hx [.int (oI 1), .int (oI 99)] [.int (oI (v3_9 + 2)), .ref (shR a0 22)] (ev_X11_number F a0 h0 1 99 w37) vm_X11_number fc9 h0 g1498 dX11_readsDeed_192 rfl rfl (Nat.le_of_ble_eq_true rfl) (Nat.le_of_ble_eq_true rfl) (Nat.le_of_ble_eq_true rfl) (fun r38 w39 => ?_)
      refine I_iast (pc := 195) hx (kt_9_22 h0) dX11_readsDeed_195 (fun w40 => ?_)
      refine E_goto (pc := 196) hx 264 dX11_readsDeed_196 rfl ?_
      refine En.sub [1] rfl ?_
      exact l_X11_readsDeed_b264 F a0 h0 hx w40
    refine E_case (fun hc41 => ?_) (fun hc41 => ?_)
    · refine E_tIn (pc := 72) hx 199 dX11_readsDeed_72 (by rw [oI_toInt hr11]; omega) (by rw [oI_toInt hr11]; omega) (by rw [hc41]; rfl) rfl ?_
      refine E_aload_n (pc := 199) hx 1 dX11_readsDeed_199 rfl rfl ?_
      refine E_getR (pc := 200) hx 22 fc9 h0 rfl ⟨rfl, rfl, rfl⟩ g1354 dX11_readsDeed_200 ?_
      refine E_iload_n (pc := 203) hx 0 dX11_readsDeed_203 rfl rfl ?_
      refine I_iconst (pc := 204) hx 1 dX11_readsDeed_204 ?_
      refine I_iadd (pc := 205) hx dX11_readsDeed_205 ?_
      refine E_aload_n (pc := 206) hx 1 dX11_readsDeed_206 rfl rfl ?_
      refine I_iconst (pc := 207) hx (-1) dX11_readsDeed_207 ?_
      refine I_cVIW  (pc := 208) hx [.int (oI (-1))] [.int (oI (v3_9 + 1)), .ref (shR a0 22)] (ev_X11_roofOfText F a0 h0 (-1) w10) vm_X11_roofOfText fc9 h0 g1511 dX11_readsDeed_208 rfl rfl (Nat.le_of_ble_eq_true rfl) (Nat.le_of_ble_eq_true rfl) (Nat.le_of_ble_eq_true rfl) (fun r42 w43 => ?_)
      refine I_iast (pc := 211) hx (kt_9_22 h0) dX11_readsDeed_211 (fun w44 => ?_)
      refine E_aload_n (pc := 212) hx 1 dX11_readsDeed_212 rfl rfl ?_
      refine E_getR (pc := 213) hx 22 fc9 h0 rfl ⟨rfl, rfl, rfl⟩ g1354 dX11_readsDeed_213 ?_
      refine E_iload_n (pc := 216) hx 0 dX11_readsDeed_216 rfl rfl ?_
      refine I_iconst (pc := 217) hx 2 dX11_readsDeed_217 ?_
      refine I_iadd (pc := 218) hx dX11_readsDeed_218 ?_
      refine E_aload_n (pc := 219) hx 1 dX11_readsDeed_219 rfl rfl ?_
      refine E_aload_n (pc := 220) hx 1 dX11_readsDeed_220 rfl rfl ?_
      refine E_getR (pc := 221) hx 22 fc9 h0 rfl ⟨rfl, rfl, rfl⟩ g1354 dX11_readsDeed_221 ?_
      refine E_iload_n (pc := 224) hx 0 dX11_readsDeed_224 rfl rfl ?_
      refine I_iconst (pc := 225) hx 1 dX11_readsDeed_225 ?_
      refine I_iadd (pc := 226) hx dX11_readsDeed_226 ?_
      refine I_iald (pc := 227) hx (kt_9_22 h0) dX11_readsDeed_227 ?_
      refine I_cVIW  (pc := 228) hx [.int (oI (w44 (shR a0 22) (v3_9 + 1)))] [.int (oI (v3_9 + 2)), .ref (shR a0 22)] (ev_X11_roofOfText F a0 h0 (w44 (shR a0 22) (v3_9 + 1)) w44) vm_X11_roofOfText fc9 h0 g1511 dX11_readsDeed_228 rfl rfl (Nat.le_of_ble_eq_true rfl) (Nat.le_of_ble_eq_true rfl) (Nat.le_of_ble_eq_true rfl) (fun r45 w46 => ?_)
      refine I_iast (pc := 231) hx (kt_9_22 h0) dX11_readsDeed_231 (fun w47 => ?_)
      refine E_goto (pc := 232) hx 264 dX11_readsDeed_232 rfl ?_
      refine En.sub [1] rfl ?_
      exact l_X11_readsDeed_b264 F a0 h0 hx w47
    refine E_tOut (pc := 72) hx 235 dX11_readsDeed_72 (swI_out hr11 (by omega)) rfl ?_
    refine E_aload_n (pc := 235) hx 1 dX11_readsDeed_235 rfl rfl ?_
    refine E_getR (pc := 236) hx 22 fc9 h0 rfl ⟨rfl, rfl, rfl⟩ g1354 dX11_readsDeed_236 ?_
    refine E_iload_n (pc := 239) hx 0 dX11_readsDeed_239 rfl rfl ?_
    refine I_iconst (pc := 240) hx 1 dX11_readsDeed_240 ?_
    refine I_iadd (pc := 241) hx dX11_readsDeed_241 ?_
    refine E_iload_n (pc := 242) hx 3 dX11_readsDeed_242 rfl rfl ?_
    refine I_iast (pc := 243) hx (kt_9_22 h0) dX11_readsDeed_243 (fun w48 => ?_)
    refine E_aload_n (pc := 244) hx 1 dX11_readsDeed_244 rfl rfl ?_
    refine E_getR (pc := 245) hx 22 fc9 h0 rfl ⟨rfl, rfl, rfl⟩ g1354 dX11_readsDeed_245 ?_
    refine E_iload_n (pc := 248) hx 0 dX11_readsDeed_248 rfl rfl ?_
    refine I_iconst (pc := 249) hx 2 dX11_readsDeed_249 ?_
    refine I_iadd (pc := 250) hx dX11_readsDeed_250 ?_
    refine E_aload_n (pc := 251) hx 1 dX11_readsDeed_251 rfl rfl ?_
    refine E_iload_n (pc := 252) hx 3 dX11_readsDeed_252 rfl rfl ?_
    refine I_cSI  (pc := 253) hx [.int (oI v2)] [.ref a0, .int (oI (v3_9 + 2)), .ref (shR a0 22)] (ev_X11_lowOf F v2 w48) sm_X11_lowOf g1539 dX11_readsDeed_253 rfl rfl (Nat.le_of_ble_eq_true rfl) (Nat.le_of_ble_eq_true rfl) (Nat.le_of_ble_eq_true rfl) (fun r49 => ?_)
    refine E_iload_n (pc := 256) hx 3 dX11_readsDeed_256 rfl rfl ?_
    refine I_cSI  (pc := 257) hx [.int (oI v2)] [.int (oI r49), .ref a0, .int (oI (v3_9 + 2)), .ref (shR a0 22)] (ev_X11_highOf F v2 w48) sm_X11_highOf g1542 dX11_readsDeed_257 rfl rfl (Nat.le_of_ble_eq_true rfl) (Nat.le_of_ble_eq_true rfl) (Nat.le_of_ble_eq_true rfl) (fun r50 => ?_)
    refine I_cVIW  (pc := 260) hx [.int (oI r49), .int (oI r50)] [.int (oI (v3_9 + 2)), .ref (shR a0 22)] (ev_X11_number F a0 h0 r49 r50 w48) vm_X11_number fc9 h0 g1498 dX11_readsDeed_260 rfl rfl (Nat.le_of_ble_eq_true rfl) (Nat.le_of_ble_eq_true rfl) (Nat.le_of_ble_eq_true rfl) (fun r51 w52 => ?_)
    refine I_iast (pc := 263) hx (kt_9_22 h0) dX11_readsDeed_263 (fun w53 => ?_)
    refine En.sub [1] rfl ?_
    exact l_X11_readsDeed_b264 F a0 h0 hx w53
  exact E_vret (pc := 55) hx dX11_readsDeed_55 rfl rfl (Nat.le_of_ble_eq_true rfl)
set_option maxHeartbeats 4000000 in
set_option maxRecDepth 100000 in
theorem l_X11_readsDeed_b21 {x : Cx} (F : Nat) (a0 : Nat) (h0 : shK a0 = 10 + 9)  (hx : CxOK x RX11 cX11_readsDeed 4 9 0 none)   (v1 : Int) (v2 : Int) (z0 : Int) (z1 : Nat) (hz1 : shK z1 = 10 + 9) (w : aI) : En x jvV 0 0 21 [(0, .ref a0), (1, .int (oI v1)), (2, .int (oI v2))] [.int (oI z0), .ref z1] (cm w) (f_X11_readsDeed_b21 F a0    v1 v2 z0 z1 w) := by
  unfold f_X11_readsDeed_b21
  refine I_iconst (pc := 21) hx 1 dX11_readsDeed_21 ?_
  refine I_cVV  (pc := 22) hx [.int (oI z0), .int (oI 1)] [] (ev_X11_need F z1 hz1 z0 1 w) vm_X11_need fc9 hz1 g1486 dX11_readsDeed_22 rfl rfl (Nat.le_of_ble_eq_true rfl) (Nat.le_of_ble_eq_true rfl) (Nat.le_of_ble_eq_true rfl) (fun w4 => ?_)
  refine E_aload_n (pc := 25) hx 0 dX11_readsDeed_25 rfl rfl ?_
  refine E_aload_n (pc := 26) hx 0 dX11_readsDeed_26 rfl rfl ?_
  refine I_getI (pc := 27) hx 23 23 rfl fc9 h0 rfl ⟨rfl, rfl, rfl⟩ g1355 dX11_readsDeed_27 ?_
  refine I_bipush (pc := 30) hx 30 dX11_readsDeed_30 rfl ?_
  refine E_gd (fun hr5 => ?_)
  refine I_icmp_ge (pc := 32) hx 39 dX11_readsDeed_32 rfl ⟨hr5, (by decide)⟩ ?_ ?_
  · refine I_iconst (pc := 39) hx 0 dX11_readsDeed_39 ?_
    exact l_X11_readsDeed_b40 F a0 h0 hx v1 v2 0 a0 h0 w4
  refine I_iconst (pc := 35) hx 1 dX11_readsDeed_35 ?_
  refine E_goto (pc := 36) hx 40 dX11_readsDeed_36 rfl ?_
  exact l_X11_readsDeed_b40 F a0 h0 hx v1 v2 1 a0 h0 w4
set_option maxHeartbeats 4000000 in
set_option maxRecDepth 100000 in
theorem ev_X11_readsDeed (F : Nat) (a0 : Nat) (h0 : shK a0 = 10 + 9) (w : aI) : Ev yX11_readsDeed cX11_readsDeed 4 none 9 0 jvV [.ref a0] (cm w) (f_X11_readsDeed F a0 w) := by
  refine Ev.of (own := RX11) (by decide +kernel) rfl (Nat.le_of_ble_eq_true rfl) (fun x hx => ?_)
  show En x jvV 0 0 0 [(0, .ref a0)] [] (cm w) _
  unfold f_X11_readsDeed
  refine E_aload_n (pc := 0) hx 0 dX11_readsDeed_0 rfl rfl ?_
  refine I_cVI  (pc := 1) hx [] [] (ev_X11_kindHere F a0 h0 w) vm_X11_kindHere fc9 h0 g1565 dX11_readsDeed_1 rfl rfl (Nat.le_of_ble_eq_true rfl) (Nat.le_of_ble_eq_true rfl) (Nat.le_of_ble_eq_true rfl) (fun r1 => ?_)
  refine E_istore_n (pc := 4) hx dX11_readsDeed_4 rfl (Nat.le_of_ble_eq_true rfl) rfl ?_
  refine E_aload_n (pc := 5) hx 1 dX11_readsDeed_5 rfl rfl ?_
  refine I_cVI  (pc := 6) hx [] [] (ev_X11_settingHere F a0 h0 w) vm_X11_settingHere fc9 h0 g1532 dX11_readsDeed_6 rfl rfl (Nat.le_of_ble_eq_true rfl) (Nat.le_of_ble_eq_true rfl) (Nat.le_of_ble_eq_true rfl) (fun r2 => ?_)
  refine E_istore_n (pc := 9) hx dX11_readsDeed_9 rfl (Nat.le_of_ble_eq_true rfl) rfl ?_
  refine E_aload_n (pc := 10) hx 2 dX11_readsDeed_10 rfl rfl ?_
  refine E_iload_n (pc := 11) hx 1 dX11_readsDeed_11 rfl rfl ?_
  refine I_iconst (pc := 12) hx (-1) dX11_readsDeed_12 ?_
  refine E_gd (fun hr3 => ?_)
  refine I_icmp_eq (pc := 13) hx 20 dX11_readsDeed_13 rfl ⟨hr3, (by decide)⟩ ?_ ?_
  · refine I_iconst (pc := 20) hx 0 dX11_readsDeed_20 ?_
    refine En.sub [2, 1, 0] rfl ?_
    exact l_X11_readsDeed_b21 F a0 h0 hx r1 r2 0 a0 h0 w
  refine I_iconst (pc := 16) hx 1 dX11_readsDeed_16 ?_
  refine E_goto (pc := 17) hx 21 dX11_readsDeed_17 rfl ?_
  refine En.sub [2, 1, 0] rfl ?_
  exact l_X11_readsDeed_b21 F a0 h0 hx r1 r2 1 a0 h0 w
set_option maxHeartbeats 4000000 in
set_option maxRecDepth 100000 in
theorem l_X11_sendsDeed_b14_b {x : Cx} (F : Nat) (a0 : Nat) (h0 : shK a0 = 10 + 9) (p1 : Int)  (hx : CxOK x RX11 cX11_sendsDeed 3 3 0 (some .int))  (k14 : Int → aI → Option (Int × aI)) (hk14 : ∀ (v2 : Int) (w : aI), En x jvIW 0 0 14 [(0, .ref a0), (1, .int (oI p1)), (2, .int (oI v2))] [] (cm w) (k14 v2 w)) (v2 : Int) (w : aI) : En x jvIW 0 0 14 [(0, .ref a0), (1, .int (oI p1)), (2, .int (oI v2))] [] (cm w) (f_X11_sendsDeed_b14_b F a0 p1   k14 v2 w) := by
  unfold f_X11_sendsDeed_b14_b
  refine E_iload_n (pc := 14) hx 2 dX11_sendsDeed_14 rfl rfl ?_
  refine E_aload_n (pc := 15) hx 0 dX11_sendsDeed_15 rfl rfl ?_
  refine I_getI (pc := 16) hx 11 11 rfl fc9 h0 rfl ⟨rfl, rfl, rfl⟩ g1343 dX11_sendsDeed_16 ?_
  refine E_gd (fun hr2 => ?_)
  refine I_icmp_ge (pc := 19) hx 44 dX11_sendsDeed_19 rfl ⟨hr2.1, hr2.2⟩ ?_ ?_
  · refine E_aload_n (pc := 44) hx 0 dX11_sendsDeed_44 rfl rfl ?_
    refine E_aload_n (pc := 45) hx 0 dX11_sendsDeed_45 rfl rfl ?_
    refine E_getR (pc := 46) hx 22 fc9 h0 rfl ⟨rfl, rfl, rfl⟩ g1354 dX11_sendsDeed_46 ?_
    refine E_iload_n (pc := 49) hx 1 dX11_sendsDeed_49 rfl rfl ?_
    refine I_iconst (pc := 50) hx 1 dX11_sendsDeed_50 ?_
    refine I_iadd (pc := 51) hx dX11_sendsDeed_51 ?_
    refine I_iald (pc := 52) hx (kt_9_22 h0) dX11_sendsDeed_52 ?_
    refine E_aload_n (pc := 53) hx 0 dX11_sendsDeed_53 rfl rfl ?_
    refine E_getR (pc := 54) hx 22 fc9 h0 rfl ⟨rfl, rfl, rfl⟩ g1354 dX11_sendsDeed_54 ?_
    refine E_iload_n (pc := 57) hx 1 dX11_sendsDeed_57 rfl rfl ?_
    refine I_iconst (pc := 58) hx 2 dX11_sendsDeed_58 ?_
    refine I_iadd (pc := 59) hx dX11_sendsDeed_59 ?_
    refine I_iald (pc := 60) hx (kt_9_22 h0) dX11_sendsDeed_60 ?_
    refine I_iconst (pc := 61) hx 0 dX11_sendsDeed_61 ?_
    refine E_aload_n (pc := 62) hx 0 dX11_sendsDeed_62 rfl rfl ?_
    refine E_getR (pc := 63) hx 22 fc9 h0 rfl ⟨rfl, rfl, rfl⟩ g1354 dX11_sendsDeed_63 ?_
    refine E_iload_n (pc := 66) hx 1 dX11_sendsDeed_66 rfl rfl ?_
    refine I_iald (pc := 67) hx (kt_9_22 h0) dX11_sendsDeed_67 ?_
    refine I_iconst (pc := 68) hx 1 dX11_sendsDeed_68 ?_
    refine E_gd (fun hr3 => ?_)
    refine I_icmp_ne (pc := 69) hx 76 dX11_sendsDeed_69 rfl ⟨hr3, (by decide)⟩ ?_ ?_
    · refine I_iconst (pc := 76) hx 0 dX11_sendsDeed_76 ?_
      refine I_cVIW  (pc := 77) hx [.int (oI (w (shR a0 22) (p1 + 1))), .int (oI (w (shR a0 22) (p1 + 2))), .int (oI 0), .int (oI 0)] [] (ev_X11_newTune F a0 h0 (w (shR a0 22) (p1 + 1)) (w (shR a0 22) (p1 + 2)) 0 0 w) vm_X11_newTune fc9 h0 g1590 dX11_sendsDeed_77 rfl rfl (Nat.le_of_ble_eq_true rfl) (Nat.le_of_ble_eq_true rfl) (Nat.le_of_ble_eq_true rfl) (fun r4 w5 => ?_)
      exact E_iret (pc := 80) hx dX11_sendsDeed_80 rfl rfl (Nat.le_of_ble_eq_true rfl)
    refine I_iconst (pc := 72) hx 1 dX11_sendsDeed_72 ?_
    refine E_goto (pc := 73) hx 77 dX11_sendsDeed_73 rfl ?_
    refine I_cVIW  (pc := 77) hx [.int (oI (w (shR a0 22) (p1 + 1))), .int (oI (w (shR a0 22) (p1 + 2))), .int (oI 0), .int (oI 1)] [] (ev_X11_newTune F a0 h0 (w (shR a0 22) (p1 + 1)) (w (shR a0 22) (p1 + 2)) 0 1 w) vm_X11_newTune fc9 h0 g1590 dX11_sendsDeed_77 rfl rfl (Nat.le_of_ble_eq_true rfl) (Nat.le_of_ble_eq_true rfl) (Nat.le_of_ble_eq_true rfl) (fun r6 w7 => ?_)
    exact E_iret (pc := 80) hx dX11_sendsDeed_80 rfl rfl (Nat.le_of_ble_eq_true rfl)
  refine E_aload_n (pc := 22) hx 0 dX11_sendsDeed_22 rfl rfl ?_
  refine E_getR (pc := 23) hx 10 fc9 h0 rfl ⟨rfl, rfl, rfl⟩ g1342 dX11_sendsDeed_23 ?_
  refine E_iload_n (pc := 26) hx 2 dX11_sendsDeed_26 rfl rfl ?_
  refine E_aload_n (pc := 27) hx 0 dX11_sendsDeed_27 rfl rfl ?_
  refine E_getR (pc := 28) hx 22 fc9 h0 rfl ⟨rfl, rfl, rfl⟩ g1354 dX11_sendsDeed_28 ?_
  refine E_iload_n (pc := 31) hx 1 dX11_sendsDeed_31 rfl rfl ?_
  refine I_iconst (pc := 32) hx 4 dX11_sendsDeed_32 ?_
  refine I_iadd (pc := 33) hx dX11_sendsDeed_33 ?_
  refine E_iload_n (pc := 34) hx 2 dX11_sendsDeed_34 rfl rfl ?_
  refine I_iadd (pc := 35) hx dX11_sendsDeed_35 ?_
  refine I_iald (pc := 36) hx (kt_9_22 h0) dX11_sendsDeed_36 ?_
  refine I_iast (pc := 37) hx (kt_9_10 h0) dX11_sendsDeed_37 (fun w8 => ?_)
  refine I_iinc (pc := 38) hx 1 2 dX11_sendsDeed_38 rfl (Nat.le_of_ble_eq_true rfl) rfl ?_
  refine E_goto (pc := 41) hx 14 dX11_sendsDeed_41 rfl ?_
  refine En.sub [1, 2, 0] rfl ?_
  exact hk14 (v2 + 1) w8
theorem l_X11_sendsDeed_b14 {x : Cx} (F : Nat) (a0 : Nat) (h0 : shK a0 = 10 + 9) (p1 : Int)  (hx : CxOK x RX11 cX11_sendsDeed 3 3 0 (some .int))  : ∀ (n : Nat) (v2 : Int) (w : aI), En x jvIW 0 0 14 [(0, .ref a0), (1, .int (oI p1)), (2, .int (oI v2))] [] (cm w) (f_X11_sendsDeed_b14 F a0 p1   n v2 w) := by
  intro n
  induction n with
  | zero => intro v2 w; exact E_none
  | succ n ih => intro v2 w; exact l_X11_sendsDeed_b14_b F a0 h0 p1  hx  _ ih v2 w
set_option maxHeartbeats 4000000 in
set_option maxRecDepth 100000 in
theorem ev_X11_sendsDeed (F : Nat) (a0 : Nat) (h0 : shK a0 = 10 + 9) (p1 : Int) (w : aI) : Ev yX11_sendsDeed cX11_sendsDeed 3 (some .int) 3 0 jvIW [.ref a0, .int (oI p1)] (cm w) (f_X11_sendsDeed F a0 p1 w) := by
  refine Ev.of (own := RX11) (by decide +kernel) rfl (Nat.le_of_ble_eq_true rfl) (fun x hx => ?_)
  show En x jvIW 0 0 0 [(0, .ref a0), (1, .int (oI p1))] [] (cm w) _
  unfold f_X11_sendsDeed
  refine E_aload_n (pc := 0) hx 0 dX11_sendsDeed_0 rfl rfl ?_
  refine E_aload_n (pc := 1) hx 0 dX11_sendsDeed_1 rfl rfl ?_
  refine E_getR (pc := 2) hx 22 fc9 h0 rfl ⟨rfl, rfl, rfl⟩ g1354 dX11_sendsDeed_2 ?_
  refine E_iload_n (pc := 5) hx 1 dX11_sendsDeed_5 rfl rfl ?_
  refine I_iconst (pc := 6) hx 3 dX11_sendsDeed_6 ?_
  refine I_iadd (pc := 7) hx dX11_sendsDeed_7 ?_
  refine I_iald (pc := 8) hx (kt_9_22 h0) dX11_sendsDeed_8 ?_
  refine I_put (pc := 9) hx 11 11 rfl .int tyX11 fc9 tyX11_ok h0 rfl ⟨rfl, rfl, rfl, rfl, pfd_I⟩ rfl rfl g1343 dX11_sendsDeed_9 (fun w1 => ?_)
  refine I_iconst (pc := 12) hx 0 dX11_sendsDeed_12 ?_
  refine E_istore_n (pc := 13) hx dX11_sendsDeed_13 rfl (Nat.le_of_ble_eq_true rfl) rfl ?_
  refine En.sub [1, 2, 0] rfl ?_
  exact l_X11_sendsDeed_b14 F a0 h0 p1 hx F 0 w1
set_option maxHeartbeats 4000000 in
set_option maxRecDepth 100000 in
theorem ev_X11_does (F : Nat) (a0 : Nat) (h0 : shK a0 = 10 + 9) (p1 : Int) (w : aI) : Ev yX11_does cX11_does 5 (some .boolean) 9 0 jvBW [.ref a0, .int (oI p1)] (cm w) (f_X11_does F a0 p1 w) := by
  refine Ev.of (own := RX11) (by decide +kernel) rfl (Nat.le_of_ble_eq_true rfl) (fun x hx => ?_)
  show En x jvBW 0 0 0 [(0, .ref a0), (1, .int (oI p1))] [] (cm w) _
  unfold f_X11_does
  refine I_bipush (pc := 0) hx 12 dX11_does_0 rfl ?_
  refine E_iload_n (pc := 2) hx 1 dX11_does_2 rfl rfl ?_
  refine I_imul (pc := 3) hx dX11_does_3 ?_
  refine I_ltv (fun v2_1 => ?_)
  refine E_istore_n (pc := 4) hx dX11_does_4 rfl (Nat.le_of_ble_eq_true rfl) rfl ?_
  refine E_aload_n (pc := 5) hx 1 dX11_does_5 rfl rfl ?_
  refine E_getR (pc := 6) hx 22 fc9 h0 rfl ⟨rfl, rfl, rfl⟩ g1354 dX11_does_6 ?_
  refine E_iload_n (pc := 9) hx 0 dX11_does_9 rfl rfl ?_
  refine I_iconst (pc := 10) hx 1 dX11_does_10 ?_
  refine I_iadd (pc := 11) hx dX11_does_11 ?_
  refine I_iald (pc := 12) hx (kt_9_22 h0) dX11_does_12 ?_
  refine I_ltv (fun v3_2 => ?_)
  refine E_istore_n (pc := 13) hx dX11_does_13 rfl (Nat.le_of_ble_eq_true rfl) rfl ?_
  refine E_aload_n (pc := 14) hx 2 dX11_does_14 rfl rfl ?_
  refine E_getR (pc := 15) hx 22 fc9 h0 rfl ⟨rfl, rfl, rfl⟩ g1354 dX11_does_15 ?_
  refine E_iload_n (pc := 18) hx 1 dX11_does_18 rfl rfl ?_
  refine I_iconst (pc := 19) hx 2 dX11_does_19 ?_
  refine I_iadd (pc := 20) hx dX11_does_20 ?_
  refine I_iald (pc := 21) hx (kt_9_22 h0) dX11_does_21 ?_
  refine I_ltv (fun v4_3 => ?_)
  refine E_istore (pc := 22) hx dX11_does_22 (Nat.le_of_ble_eq_true rfl) rfl ?_
  refine E_aload_n (pc := 24) hx 3 dX11_does_24 rfl rfl ?_
  refine E_getR (pc := 25) hx 22 fc9 h0 rfl ⟨rfl, rfl, rfl⟩ g1354 dX11_does_25 ?_
  refine E_iload_n (pc := 28) hx 2 dX11_does_28 rfl rfl ?_
  refine I_iald (pc := 29) hx (kt_9_22 h0) dX11_does_29 ?_
  refine I_ltv (fun u4 => ?_)
  refine E_gd (fun hr5 => ?_)
  refine E_case (fun hc6 => ?_) (fun hc6 => ?_)
  · refine E_tIn (pc := 30) hx 64 dX11_does_30 (by rw [oI_toInt hr5]; omega) (by rw [oI_toInt hr5]; omega) (by rw [hc6]; rfl) rfl ?_
    refine E_aload_n (pc := 64) hx 3 dX11_does_64 rfl rfl ?_
    refine E_getR (pc := 65) hx 0 fc9 h0 rfl ⟨rfl, rfl, rfl⟩ g1332 dX11_does_65 ?_
    refine I_iconst (pc := 68) hx 2 dX11_does_68 ?_
    refine I_iald (pc := 69) hx (kt_9_0 h0) dX11_does_69 ?_
    refine I_bipush (pc := 70) hx 30 dX11_does_70 rfl ?_
    refine E_gd (fun hr7 => ?_)
    refine I_icmp_ge (pc := 72) hx 87 dX11_does_72 rfl ⟨hr7, (by decide)⟩ ?_ ?_
    · refine I_iconst (pc := 87) hx 0 dX11_does_87 ?_
      exact E_zret (pc := 88) hx dX11_does_88 rfl rfl rfl (Nat.le_of_ble_eq_true rfl)
    refine E_aload_n (pc := 75) hx 3 dX11_does_75 rfl rfl ?_
    refine E_iload_n (pc := 76) hx 2 dX11_does_76 rfl rfl ?_
    refine I_cVIW  (pc := 77) hx [.int (oI v2_1)] [] (ev_X11_sendsDeed F a0 h0 v2_1 w) vm_X11_sendsDeed fc9 h0 g1586 dX11_does_77 rfl rfl (Nat.le_of_ble_eq_true rfl) (Nat.le_of_ble_eq_true rfl) (Nat.le_of_ble_eq_true rfl) (fun r8 w9 => ?_)
    refine E_gd (fun hr10 => ?_)
    refine I_if_lt (pc := 80) hx 87 dX11_does_80 rfl hr10 ?_ ?_
    · refine I_iconst (pc := 87) hx 0 dX11_does_87 ?_
      exact E_zret (pc := 88) hx dX11_does_88 rfl rfl rfl (Nat.le_of_ble_eq_true rfl)
    refine I_iconst (pc := 83) hx 1 dX11_does_83 ?_
    refine E_goto (pc := 84) hx 88 dX11_does_84 rfl ?_
    exact E_zret (pc := 88) hx dX11_does_88 rfl rfl rfl (Nat.le_of_ble_eq_true rfl)
  refine E_case (fun hc11 => ?_) (fun hc11 => ?_)
  · refine E_tIn (pc := 30) hx 64 dX11_does_30 (by rw [oI_toInt hr5]; omega) (by rw [oI_toInt hr5]; omega) (by rw [hc11]; rfl) rfl ?_
    refine E_aload_n (pc := 64) hx 3 dX11_does_64 rfl rfl ?_
    refine E_getR (pc := 65) hx 0 fc9 h0 rfl ⟨rfl, rfl, rfl⟩ g1332 dX11_does_65 ?_
    refine I_iconst (pc := 68) hx 2 dX11_does_68 ?_
    refine I_iald (pc := 69) hx (kt_9_0 h0) dX11_does_69 ?_
    refine I_bipush (pc := 70) hx 30 dX11_does_70 rfl ?_
    refine E_gd (fun hr12 => ?_)
    refine I_icmp_ge (pc := 72) hx 87 dX11_does_72 rfl ⟨hr12, (by decide)⟩ ?_ ?_
    · refine I_iconst (pc := 87) hx 0 dX11_does_87 ?_
      exact E_zret (pc := 88) hx dX11_does_88 rfl rfl rfl (Nat.le_of_ble_eq_true rfl)
    refine E_aload_n (pc := 75) hx 3 dX11_does_75 rfl rfl ?_
    refine E_iload_n (pc := 76) hx 2 dX11_does_76 rfl rfl ?_
    refine I_cVIW  (pc := 77) hx [.int (oI v2_1)] [] (ev_X11_sendsDeed F a0 h0 v2_1 w) vm_X11_sendsDeed fc9 h0 g1586 dX11_does_77 rfl rfl (Nat.le_of_ble_eq_true rfl) (Nat.le_of_ble_eq_true rfl) (Nat.le_of_ble_eq_true rfl) (fun r13 w14 => ?_)
    refine E_gd (fun hr15 => ?_)
    refine I_if_lt (pc := 80) hx 87 dX11_does_80 rfl hr15 ?_ ?_
    · refine I_iconst (pc := 87) hx 0 dX11_does_87 ?_
      exact E_zret (pc := 88) hx dX11_does_88 rfl rfl rfl (Nat.le_of_ble_eq_true rfl)
    refine I_iconst (pc := 83) hx 1 dX11_does_83 ?_
    refine E_goto (pc := 84) hx 88 dX11_does_84 rfl ?_
    exact E_zret (pc := 88) hx dX11_does_88 rfl rfl rfl (Nat.le_of_ble_eq_true rfl)
  refine E_case (fun hc16 => ?_) (fun hc16 => ?_)
  · refine E_tIn (pc := 30) hx 89 dX11_does_30 (by rw [oI_toInt hr5]; omega) (by rw [oI_toInt hr5]; omega) (by rw [hc16]; rfl) rfl ?_
    refine E_aload_n (pc := 89) hx 3 dX11_does_89 rfl rfl ?_
    refine E_getR (pc := 90) hx 0 fc9 h0 rfl ⟨rfl, rfl, rfl⟩ g1332 dX11_does_90 ?_
    refine I_iconst (pc := 93) hx 3 dX11_does_93 ?_
    refine I_iald (pc := 94) hx (kt_9_0 h0) dX11_does_94 ?_
    refine E_iload_n (pc := 95) hx 1 dX11_does_95 rfl rfl ?_
    refine I_iadd (pc := 96) hx dX11_does_96 ?_
    refine I_sipush (pc := 97) hx 9999 dX11_does_97 rfl ?_
    refine E_gd (fun hr17 => ?_)
    refine I_icmp_gt (pc := 100) hx 115 dX11_does_100 rfl ⟨hr17, (by decide)⟩ ?_ ?_
    · refine I_iconst (pc := 115) hx 0 dX11_does_115 ?_
      exact E_zret (pc := 116) hx dX11_does_116 rfl rfl rfl (Nat.le_of_ble_eq_true rfl)
    refine E_aload_n (pc := 103) hx 3 dX11_does_103 rfl rfl ?_
    refine E_iload_n (pc := 104) hx 1 dX11_does_104 rfl rfl ?_
    refine I_cVIW  (pc := 105) hx [.int (oI v3_2)] [] (ev_X11_goes F a0 h0 v3_2 w) vm_X11_goes fc9 h0 g1608 dX11_does_105 rfl rfl (Nat.le_of_ble_eq_true rfl) (Nat.le_of_ble_eq_true rfl) (Nat.le_of_ble_eq_true rfl) (fun r18 w19 => ?_)
    refine E_gd (fun hr20 => ?_)
    refine I_if_lt (pc := 108) hx 115 dX11_does_108 rfl hr20 ?_ ?_
    · refine I_iconst (pc := 115) hx 0 dX11_does_115 ?_
      exact E_zret (pc := 116) hx dX11_does_116 rfl rfl rfl (Nat.le_of_ble_eq_true rfl)
    refine I_iconst (pc := 111) hx 1 dX11_does_111 ?_
    refine E_goto (pc := 112) hx 116 dX11_does_112 rfl ?_
    exact E_zret (pc := 116) hx dX11_does_116 rfl rfl rfl (Nat.le_of_ble_eq_true rfl)
  refine E_case (fun hc21 => ?_) (fun hc21 => ?_)
  · refine E_tIn (pc := 30) hx 117 dX11_does_30 (by rw [oI_toInt hr5]; omega) (by rw [oI_toInt hr5]; omega) (by rw [hc21]; rfl) rfl ?_
    refine E_aload_n (pc := 117) hx 3 dX11_does_117 rfl rfl ?_
    refine E_getR (pc := 118) hx 0 fc9 h0 rfl ⟨rfl, rfl, rfl⟩ g1332 dX11_does_118 ?_
    refine E_iload_n (pc := 121) hx 1 dX11_does_121 rfl rfl ?_
    refine I_cSI  (pc := 122) hx [.int (oI v3_2)] [.ref (shR a0 0)] (ev_X11_r F v3_2 w) sm_X11_r g1322 dX11_does_122 rfl rfl (Nat.le_of_ble_eq_true rfl) (Nat.le_of_ble_eq_true rfl) (Nat.le_of_ble_eq_true rfl) (fun r22 => ?_)
    refine I_bipush (pc := 125) hx 10 dX11_does_125 rfl ?_
    refine I_iadd (pc := 127) hx dX11_does_127 ?_
    refine I_iald (pc := 128) hx (kt_9_0 h0) dX11_does_128 ?_
    refine E_iload (pc := 129) hx 0 dX11_does_129 rfl ?_
    refine I_iadd (pc := 131) hx dX11_does_131 ?_
    refine I_sipush (pc := 132) hx 9999 dX11_does_132 rfl ?_
    refine E_gd (fun hr23 => ?_)
    refine I_icmp_gt (pc := 135) hx 152 dX11_does_135 rfl ⟨hr23, (by decide)⟩ ?_ ?_
    · refine I_iconst (pc := 152) hx 0 dX11_does_152 ?_
      exact E_zret (pc := 153) hx dX11_does_153 rfl rfl rfl (Nat.le_of_ble_eq_true rfl)
    refine E_aload_n (pc := 138) hx 3 dX11_does_138 rfl rfl ?_
    refine E_iload_n (pc := 139) hx 1 dX11_does_139 rfl rfl ?_
    refine E_iload (pc := 140) hx 0 dX11_does_140 rfl ?_
    refine I_cVIW  (pc := 142) hx [.int (oI v3_2), .int (oI v4_3)] [] (ev_X11_givesCoins F a0 h0 v3_2 v4_3 w) vm_X11_givesCoins fc9 h0 g1697 dX11_does_142 rfl rfl (Nat.le_of_ble_eq_true rfl) (Nat.le_of_ble_eq_true rfl) (Nat.le_of_ble_eq_true rfl) (fun r24 w25 => ?_)
    refine E_gd (fun hr26 => ?_)
    refine I_if_le (pc := 145) hx 152 dX11_does_145 rfl hr26 ?_ ?_
    · refine I_iconst (pc := 152) hx 0 dX11_does_152 ?_
      exact E_zret (pc := 153) hx dX11_does_153 rfl rfl rfl (Nat.le_of_ble_eq_true rfl)
    refine I_iconst (pc := 148) hx 1 dX11_does_148 ?_
    refine E_goto (pc := 149) hx 153 dX11_does_149 rfl ?_
    exact E_zret (pc := 153) hx dX11_does_153 rfl rfl rfl (Nat.le_of_ble_eq_true rfl)
  refine E_case (fun hc27 => ?_) (fun hc27 => ?_)
  · refine E_tIn (pc := 30) hx 154 dX11_does_30 (by rw [oI_toInt hr5]; omega) (by rw [oI_toInt hr5]; omega) (by rw [hc27]; rfl) rfl ?_
    refine E_aload_n (pc := 154) hx 3 dX11_does_154 rfl rfl ?_
    refine E_iload_n (pc := 155) hx 1 dX11_does_155 rfl rfl ?_
    refine E_iload (pc := 156) hx 0 dX11_does_156 rfl ?_
    refine I_cVI  (pc := 158) hx [.int (oI v3_2), .int (oI v4_3)] [] (ev_X11_wayBetween F a0 h0 v3_2 v4_3 w) vm_X11_wayBetween fc9 h0 g1520 dX11_does_158 rfl rfl (Nat.le_of_ble_eq_true rfl) (Nat.le_of_ble_eq_true rfl) (Nat.le_of_ble_eq_true rfl) (fun r28 => ?_)
    refine I_iconst (pc := 161) hx (-1) dX11_does_161 ?_
    refine E_gd (fun hr29 => ?_)
    refine I_icmp_eq (pc := 162) hx 183 dX11_does_162 rfl ⟨hr29, (by decide)⟩ ?_ ?_
    · refine I_iconst (pc := 183) hx 0 dX11_does_183 ?_
      exact E_zret (pc := 184) hx dX11_does_184 rfl rfl rfl (Nat.le_of_ble_eq_true rfl)
    refine E_aload_n (pc := 165) hx 3 dX11_does_165 rfl rfl ?_
    refine E_aload_n (pc := 166) hx 3 dX11_does_166 rfl rfl ?_
    refine E_iload_n (pc := 167) hx 1 dX11_does_167 rfl rfl ?_
    refine E_iload (pc := 168) hx 0 dX11_does_168 rfl ?_
    refine I_cVI  (pc := 170) hx [.int (oI v3_2), .int (oI v4_3)] [.ref a0] (ev_X11_wayBetween F a0 h0 v3_2 v4_3 w) vm_X11_wayBetween fc9 h0 g1520 dX11_does_170 rfl rfl (Nat.le_of_ble_eq_true rfl) (Nat.le_of_ble_eq_true rfl) (Nat.le_of_ble_eq_true rfl) (fun r30 => ?_)
    refine I_cVIW  (pc := 173) hx [.int (oI r30)] [] (ev_X11_cuts F a0 h0 r30 w) vm_X11_cuts fc9 h0 g1701 dX11_does_173 rfl rfl (Nat.le_of_ble_eq_true rfl) (Nat.le_of_ble_eq_true rfl) (Nat.le_of_ble_eq_true rfl) (fun r31 w32 => ?_)
    refine E_gd (fun hr33 => ?_)
    refine I_if_lt (pc := 176) hx 183 dX11_does_176 rfl hr33 ?_ ?_
    · refine I_iconst (pc := 183) hx 0 dX11_does_183 ?_
      exact E_zret (pc := 184) hx dX11_does_184 rfl rfl rfl (Nat.le_of_ble_eq_true rfl)
    refine I_iconst (pc := 179) hx 1 dX11_does_179 ?_
    refine E_goto (pc := 180) hx 184 dX11_does_180 rfl ?_
    exact E_zret (pc := 184) hx dX11_does_184 rfl rfl rfl (Nat.le_of_ble_eq_true rfl)
  refine E_tOut (pc := 30) hx 185 dX11_does_30 (swI_out hr5 (by omega)) rfl ?_
  refine E_aload_n (pc := 185) hx 3 dX11_does_185 rfl rfl ?_
  refine E_iload_n (pc := 186) hx 1 dX11_does_186 rfl rfl ?_
  refine E_iload (pc := 187) hx 0 dX11_does_187 rfl ?_
  refine I_cVIW  (pc := 189) hx [.int (oI v3_2), .int (oI v4_3)] [] (ev_X11_sets F a0 h0 v3_2 v4_3 w) vm_X11_sets fc9 h0 g1705 dX11_does_189 rfl rfl (Nat.le_of_ble_eq_true rfl) (Nat.le_of_ble_eq_true rfl) (Nat.le_of_ble_eq_true rfl) (fun r34 w35 => ?_)
  refine E_gd (fun hr36 => ?_)
  refine I_if_lt (pc := 192) hx 199 dX11_does_192 rfl hr36 ?_ ?_
  · refine I_iconst (pc := 199) hx 0 dX11_does_199 ?_
    exact E_zret (pc := 200) hx dX11_does_200 rfl rfl rfl (Nat.le_of_ble_eq_true rfl)
  refine I_iconst (pc := 195) hx 1 dX11_does_195 ?_
  refine E_goto (pc := 196) hx 200 dX11_does_196 rfl ?_
  exact E_zret (pc := 200) hx dX11_does_200 rfl rfl rfl (Nat.le_of_ble_eq_true rfl)
set_option maxHeartbeats 4000000 in
set_option maxRecDepth 100000 in
theorem l_X11_playScript_b54_b {x : Cx} (F : Nat) (a0 : Nat) (h0 : shK a0 = 10 + 9)  (hx : CxOK x RX11 cX11_playScript 2 10 0 (some .int))  (k54 : Int → aI → Option (Int × aI)) (hk54 : ∀ (v1 : Int) (w : aI), En x jvIW 0 0 54 [(0, .ref a0), (1, .int (oI v1))] [] (cm w) (k54 v1 w)) (v1 : Int) (w : aI) : En x jvIW 0 0 54 [(0, .ref a0), (1, .int (oI v1))] [] (cm w) (f_X11_playScript_b54_b F a0   k54 v1 w) := by
  unfold f_X11_playScript_b54_b
  refine E_iload_n (pc := 54) hx 1 dX11_playScript_54 rfl rfl ?_
  refine E_aload_n (pc := 55) hx 0 dX11_playScript_55 rfl rfl ?_
  refine I_getI (pc := 56) hx 23 23 rfl fc9 h0 rfl ⟨rfl, rfl, rfl⟩ g1355 dX11_playScript_56 ?_
  refine E_gd (fun hr8 => ?_)
  refine I_icmp_ge (pc := 59) hx 76 dX11_playScript_59 rfl ⟨hr8.1, hr8.2⟩ ?_ ?_
  · refine E_iload_n (pc := 76) hx 1 dX11_playScript_76 rfl rfl ?_
    exact E_iret (pc := 77) hx dX11_playScript_77 rfl rfl (Nat.le_of_ble_eq_true rfl)
  refine E_aload_n (pc := 62) hx 0 dX11_playScript_62 rfl rfl ?_
  refine E_iload_n (pc := 63) hx 1 dX11_playScript_63 rfl rfl ?_
  refine I_cVBW  (pc := 64) hx [.int (oI v1)] [] (ev_X11_does F a0 h0 v1 w) vm_X11_does fc9 h0 g1582 dX11_playScript_64 rfl rfl (Nat.le_of_ble_eq_true rfl) (Nat.le_of_ble_eq_true rfl) (Nat.le_of_ble_eq_true rfl) (fun r9 w10 => ?_)
  refine I_ifB_eq (pc := 67) hx 76 dX11_playScript_67 rfl ?_ ?_
  · refine E_iload_n (pc := 76) hx 1 dX11_playScript_76 rfl rfl ?_
    exact E_iret (pc := 77) hx dX11_playScript_77 rfl rfl (Nat.le_of_ble_eq_true rfl)
  refine I_iinc (pc := 70) hx 1 1 dX11_playScript_70 rfl (Nat.le_of_ble_eq_true rfl) rfl ?_
  refine E_goto (pc := 73) hx 54 dX11_playScript_73 rfl ?_
  refine En.sub [1, 0] rfl ?_
  exact hk54 (v1 + 1) w10
theorem l_X11_playScript_b54 {x : Cx} (F : Nat) (a0 : Nat) (h0 : shK a0 = 10 + 9)  (hx : CxOK x RX11 cX11_playScript 2 10 0 (some .int))  : ∀ (n : Nat) (v1 : Int) (w : aI), En x jvIW 0 0 54 [(0, .ref a0), (1, .int (oI v1))] [] (cm w) (f_X11_playScript_b54 F a0   n v1 w) := by
  intro n
  induction n with
  | zero => intro v1 w; exact E_none
  | succ n ih => intro v1 w; exact l_X11_playScript_b54_b F a0 h0  hx  _ ih v1 w
set_option maxHeartbeats 4000000 in
set_option maxRecDepth 100000 in
theorem l_X11_playScript_b35 {x : Cx} (F : Nat) (a0 : Nat) (h0 : shK a0 = 10 + 9)  (hx : CxOK x RX11 cX11_playScript 2 10 0 (some .int))    (w : aI) : En x jvIW 0 0 35 [(0, .ref a0)] [] (cm w) (f_X11_playScript_b35 F a0    w) := by
  unfold f_X11_playScript_b35
  refine E_aload_n (pc := 35) hx 0 dX11_playScript_35 rfl rfl ?_
  refine I_cVV  (pc := 36) hx [] [] (ev_X11_ending F a0 h0 w) vm_X11_ending fc9 h0 g1549 dX11_playScript_36 rfl rfl (Nat.le_of_ble_eq_true rfl) (Nat.le_of_ble_eq_true rfl) (Nat.le_of_ble_eq_true rfl) (fun w5 => ?_)
  refine E_aload_n (pc := 39) hx 0 dX11_playScript_39 rfl rfl ?_
  refine I_getI (pc := 40) hx 20 20 rfl fc9 h0 rfl ⟨rfl, rfl, rfl⟩ g1352 dX11_playScript_40 ?_
  refine E_gd (fun hr6 => ?_)
  refine I_if_le (pc := 43) hx 48 dX11_playScript_43 rfl hr6 ?_ ?_
  · refine E_aload_n (pc := 48) hx 0 dX11_playScript_48 rfl rfl ?_
    refine I_cVV  (pc := 49) hx [] [] (ev_X11_remembers F a0 h0 w5) vm_X11_remembers fc9 h0 g1578 dX11_playScript_49 rfl rfl (Nat.le_of_ble_eq_true rfl) (Nat.le_of_ble_eq_true rfl) (Nat.le_of_ble_eq_true rfl) (fun w7 => ?_)
    refine I_iconst (pc := 52) hx 0 dX11_playScript_52 ?_
    refine E_istore_n (pc := 53) hx dX11_playScript_53 rfl (Nat.le_of_ble_eq_true rfl) rfl ?_
    refine En.sub [1, 0] rfl ?_
    exact l_X11_playScript_b54 F a0 h0 hx F 0 w7
  refine I_iconst (pc := 46) hx (-1) dX11_playScript_46 ?_
  exact E_iret (pc := 47) hx dX11_playScript_47 rfl rfl (Nat.le_of_ble_eq_true rfl)
set_option maxHeartbeats 4000000 in
set_option maxRecDepth 100000 in
theorem l_X11_playScript_b14_b {x : Cx} (F : Nat) (a0 : Nat) (h0 : shK a0 = 10 + 9)  (hx : CxOK x RX11 cX11_playScript 2 10 0 (some .int))  (k14 : aI → Option (Int × aI)) (hk14 : ∀  (w : aI), En x jvIW 0 0 14 [(0, .ref a0)] [] (cm w) (k14 w))  (w : aI) : En x jvIW 0 0 14 [(0, .ref a0)] [] (cm w) (f_X11_playScript_b14_b F a0   k14 w) := by
  unfold f_X11_playScript_b14_b
  refine E_aload_n (pc := 14) hx 0 dX11_playScript_14 rfl rfl ?_
  refine I_getI (pc := 15) hx 20 20 rfl fc9 h0 rfl ⟨rfl, rfl, rfl⟩ g1352 dX11_playScript_15 ?_
  refine E_gd (fun hr4 => ?_)
  refine I_if_ne (pc := 18) hx 35 dX11_playScript_18 rfl hr4 ?_ ?_
  · exact l_X11_playScript_b35 F a0 h0 hx w
  refine E_aload_n (pc := 21) hx 0 dX11_playScript_21 rfl rfl ?_
  refine I_getI (pc := 22) hx 18 18 rfl fc9 h0 rfl ⟨rfl, rfl, rfl⟩ g1350 dX11_playScript_22 ?_
  refine E_gd (fun hr11 => ?_)
  refine I_if_eq (pc := 25) hx 35 dX11_playScript_25 rfl hr11 ?_ ?_
  · exact l_X11_playScript_b35 F a0 h0 hx w
  refine E_aload_n (pc := 28) hx 0 dX11_playScript_28 rfl rfl ?_
  refine I_cVV  (pc := 29) hx [] [] (ev_X11_readsDeed F a0 h0 w) vm_X11_readsDeed fc9 h0 g1561 dX11_playScript_29 rfl rfl (Nat.le_of_ble_eq_true rfl) (Nat.le_of_ble_eq_true rfl) (Nat.le_of_ble_eq_true rfl) (fun w12 => ?_)
  refine E_goto (pc := 32) hx 14 dX11_playScript_32 rfl ?_
  exact hk14 w12
theorem l_X11_playScript_b14 {x : Cx} (F : Nat) (a0 : Nat) (h0 : shK a0 = 10 + 9)  (hx : CxOK x RX11 cX11_playScript 2 10 0 (some .int))  : ∀ (n : Nat) (w : aI), En x jvIW 0 0 14 [(0, .ref a0)] [] (cm w) (f_X11_playScript_b14 F a0   n w) := by
  intro n
  induction n with
  | zero => intro  w; exact E_none
  | succ n ih => intro  w; exact l_X11_playScript_b14_b F a0 h0  hx  _ ih  w
set_option maxHeartbeats 4000000 in
set_option maxRecDepth 100000 in
theorem ev_X11_playScript (F : Nat) (a0 : Nat) (h0 : shK a0 = 10 + 9) (w : aI) : Ev yX11_playScript cX11_playScript 2 (some .int) 10 0 jvIW [.ref a0] (cm w) (f_X11_playScript F a0 w) := by
  refine Ev.of (own := RX11) (by decide +kernel) rfl (Nat.le_of_ble_eq_true rfl) (fun x hx => ?_)
  show En x jvIW 0 0 0 [(0, .ref a0)] [] (cm w) _
  unfold f_X11_playScript
  refine E_aload_n (pc := 0) hx 0 dX11_playScript_0 rfl rfl ?_
  refine I_iconst (pc := 1) hx 0 dX11_playScript_1 ?_
  refine I_put (pc := 2) hx 6 6 rfl .int tyX11 fc9 tyX11_ok h0 rfl ⟨rfl, rfl, rfl, rfl, pfd_I⟩ rfl rfl g1338 dX11_playScript_2 (fun w1 => ?_)
  refine E_aload_n (pc := 5) hx 0 dX11_playScript_5 rfl rfl ?_
  refine I_iconst (pc := 6) hx 0 dX11_playScript_6 ?_
  refine I_put (pc := 7) hx 23 23 rfl .int tyX11 fc9 tyX11_ok h0 rfl ⟨rfl, rfl, rfl, rfl, pfd_I⟩ rfl rfl g1355 dX11_playScript_7 (fun w2 => ?_)
  refine E_aload_n (pc := 10) hx 0 dX11_playScript_10 rfl rfl ?_
  refine I_cVV  (pc := 11) hx [] [] (ev_X11_starts F a0 h0 w2) vm_X11_starts fc9 h0 g1453 dX11_playScript_11 rfl rfl (Nat.le_of_ble_eq_true rfl) (Nat.le_of_ble_eq_true rfl) (Nat.le_of_ble_eq_true rfl) (fun w3 => ?_)
  exact l_X11_playScript_b14 F a0 h0 hx F w3
set_option maxHeartbeats 4000000 in
set_option maxRecDepth 100000 in
theorem l_X11_those_b4_b {x : Cx} (F : Nat) (a0 : Nat) (h0 : shK a0 = 10 + 9) (p1 : Int) (w : aI) (hx : CxOK x RX11 cX11_those 4 1 0 (some .int))  (k4 : Int → Int → Option Int) (hk4 : ∀ (v2 : Int) (v3 : Int), En x (jvI w) 0 0 4 [(0, .ref a0), (1, .int (oI p1)), (2, .int (oI v2)), (3, .int (oI v3))] [] (cm w) (k4 v2 v3)) (v2 : Int) (v3 : Int)  : En x (jvI w) 0 0 4 [(0, .ref a0), (1, .int (oI p1)), (2, .int (oI v2)), (3, .int (oI v3))] [] (cm w) (f_X11_those_b4_b F a0 p1 w  k4 v2 v3) := by
  unfold f_X11_those_b4_b
  refine E_iload_n (pc := 4) hx 3 dX11_those_4 rfl rfl ?_
  refine E_aload_n (pc := 5) hx 0 dX11_those_5 rfl rfl ?_
  refine E_getR (pc := 6) hx 0 fc9 h0 rfl ⟨rfl, rfl, rfl⟩ g1332 dX11_those_6 ?_
  refine I_iconst (pc := 9) hx 2 dX11_those_9 ?_
  refine I_iald (pc := 10) hx (kt_9_0 h0) dX11_those_10 ?_
  refine E_gd (fun hr1 => ?_)
  refine I_icmp_ge (pc := 11) hx 46 dX11_those_11 rfl ⟨hr1.1, hr1.2⟩ ?_ ?_
  · refine E_iload_n (pc := 46) hx 2 dX11_those_46 rfl rfl ?_
    exact E_iret (pc := 47) hx dX11_those_47 rfl rfl (Nat.le_of_ble_eq_true rfl)
  refine E_iload_n (pc := 14) hx 2 dX11_those_14 rfl rfl ?_
  refine E_aload_n (pc := 15) hx 0 dX11_those_15 rfl rfl ?_
  refine E_getR (pc := 16) hx 0 fc9 h0 rfl ⟨rfl, rfl, rfl⟩ g1332 dX11_those_16 ?_
  refine E_iload_n (pc := 19) hx 3 dX11_those_19 rfl rfl ?_
  refine I_cSI  (pc := 20) hx [.int (oI v3)] [.ref (shR a0 0), .int (oI v2)] (ev_X11_t F v3 w) sm_X11_t g1594 dX11_those_20 rfl rfl (Nat.le_of_ble_eq_true rfl) (Nat.le_of_ble_eq_true rfl) (Nat.le_of_ble_eq_true rfl) (fun r2 => ?_)
  refine I_iconst (pc := 23) hx 3 dX11_those_23 ?_
  refine I_iadd (pc := 24) hx dX11_those_24 ?_
  refine I_iald (pc := 25) hx (kt_9_0 h0) dX11_those_25 ?_
  refine E_iload_n (pc := 26) hx 1 dX11_those_26 rfl rfl ?_
  refine E_gd (fun hr3 => ?_)
  refine I_icmp_ne (pc := 27) hx 34 dX11_those_27 rfl ⟨hr3.1, hr3.2⟩ ?_ ?_
  · refine I_iconst (pc := 34) hx 0 dX11_those_34 ?_
    refine I_cSI  (pc := 35) hx [.int (oI 0)] [.int (oI v2)] (ev_X11_one F 0 w) sm_X11_one g1597 dX11_those_35 rfl rfl (Nat.le_of_ble_eq_true rfl) (Nat.le_of_ble_eq_true rfl) (Nat.le_of_ble_eq_true rfl) (fun r4 => ?_)
    refine I_iadd (pc := 38) hx dX11_those_38 ?_
    refine I_ltv (fun v2_5 => ?_)
    refine E_istore_n (pc := 39) hx dX11_those_39 rfl (Nat.le_of_ble_eq_true rfl) rfl ?_
    refine I_iinc (pc := 40) hx 1 3 dX11_those_40 rfl (Nat.le_of_ble_eq_true rfl) rfl ?_
    refine E_goto (pc := 43) hx 4 dX11_those_43 rfl ?_
    refine En.sub [2, 3, 1, 0] rfl ?_
    exact hk4 v2_5 (v3 + 1)
  refine I_iconst (pc := 30) hx 1 dX11_those_30 ?_
  refine E_goto (pc := 31) hx 35 dX11_those_31 rfl ?_
  refine I_cSI  (pc := 35) hx [.int (oI 1)] [.int (oI v2)] (ev_X11_one F 1 w) sm_X11_one g1597 dX11_those_35 rfl rfl (Nat.le_of_ble_eq_true rfl) (Nat.le_of_ble_eq_true rfl) (Nat.le_of_ble_eq_true rfl) (fun r6 => ?_)
  refine I_iadd (pc := 38) hx dX11_those_38 ?_
  refine I_ltv (fun v2_7 => ?_)
  refine E_istore_n (pc := 39) hx dX11_those_39 rfl (Nat.le_of_ble_eq_true rfl) rfl ?_
  refine I_iinc (pc := 40) hx 1 3 dX11_those_40 rfl (Nat.le_of_ble_eq_true rfl) rfl ?_
  refine E_goto (pc := 43) hx 4 dX11_those_43 rfl ?_
  refine En.sub [2, 3, 1, 0] rfl ?_
  exact hk4 v2_7 (v3 + 1)
theorem l_X11_those_b4 {x : Cx} (F : Nat) (a0 : Nat) (h0 : shK a0 = 10 + 9) (p1 : Int) (w : aI) (hx : CxOK x RX11 cX11_those 4 1 0 (some .int))  : ∀ (n : Nat) (v2 : Int) (v3 : Int), En x (jvI w) 0 0 4 [(0, .ref a0), (1, .int (oI p1)), (2, .int (oI v2)), (3, .int (oI v3))] [] (cm w) (f_X11_those_b4 F a0 p1 w  n v2 v3) := by
  intro n
  induction n with
  | zero => intro v2 v3; exact E_none
  | succ n ih => intro v2 v3; exact l_X11_those_b4_b F a0 h0 p1 w hx  _ ih v2 v3
set_option maxHeartbeats 4000000 in
set_option maxRecDepth 100000 in
theorem ev_X11_those (F : Nat) (a0 : Nat) (h0 : shK a0 = 10 + 9) (p1 : Int) (w : aI) : Ev yX11_those cX11_those 4 (some .int) 1 0 (jvI w) [.ref a0, .int (oI p1)] (cm w) (f_X11_those F a0 p1 w) := by
  refine Ev.of (own := RX11) (by decide +kernel) rfl (Nat.le_of_ble_eq_true rfl) (fun x hx => ?_)
  show En x (jvI w) 0 0 0 [(0, .ref a0), (1, .int (oI p1))] [] (cm w) _
  unfold f_X11_those
  refine I_iconst (pc := 0) hx 0 dX11_those_0 ?_
  refine E_istore_n (pc := 1) hx dX11_those_1 rfl (Nat.le_of_ble_eq_true rfl) rfl ?_
  refine I_iconst (pc := 2) hx 0 dX11_those_2 ?_
  refine E_istore_n (pc := 3) hx dX11_those_3 rfl (Nat.le_of_ble_eq_true rfl) rfl ?_
  refine En.sub [2, 3, 1, 0] rfl ?_
  exact l_X11_those_b4 F a0 h0 p1 w hx F 0 0
set_option maxHeartbeats 4000000 in
set_option maxRecDepth 100000 in
theorem l_X11_busyMany_b4_b {x : Cx} (F : Nat) (a0 : Nat) (h0 : shK a0 = 10 + 9) (w : aI) (hx : CxOK x RX11 cX11_busyMany 3 2 0 (some .int))  (k4 : Int → Int → Option Int) (hk4 : ∀ (v1 : Int) (v2 : Int), En x (jvI w) 0 0 4 [(0, .ref a0), (1, .int (oI v1)), (2, .int (oI v2))] [] (cm w) (k4 v1 v2)) (v1 : Int) (v2 : Int)  : En x (jvI w) 0 0 4 [(0, .ref a0), (1, .int (oI v1)), (2, .int (oI v2))] [] (cm w) (f_X11_busyMany_b4_b F a0 w  k4 v1 v2) := by
  unfold f_X11_busyMany_b4_b
  refine E_iload_n (pc := 4) hx 2 dX11_busyMany_4 rfl rfl ?_
  refine E_aload_n (pc := 5) hx 0 dX11_busyMany_5 rfl rfl ?_
  refine E_getR (pc := 6) hx 0 fc9 h0 rfl ⟨rfl, rfl, rfl⟩ g1332 dX11_busyMany_6 ?_
  refine I_iconst (pc := 9) hx 0 dX11_busyMany_9 ?_
  refine I_iald (pc := 10) hx (kt_9_0 h0) dX11_busyMany_10 ?_
  refine E_gd (fun hr1 => ?_)
  refine I_icmp_ge (pc := 11) hx 37 dX11_busyMany_11 rfl ⟨hr1.1, hr1.2⟩ ?_ ?_
  · refine E_iload_n (pc := 37) hx 1 dX11_busyMany_37 rfl rfl ?_
    exact E_iret (pc := 38) hx dX11_busyMany_38 rfl rfl (Nat.le_of_ble_eq_true rfl)
  refine E_iload_n (pc := 14) hx 1 dX11_busyMany_14 rfl rfl ?_
  refine E_aload_n (pc := 15) hx 0 dX11_busyMany_15 rfl rfl ?_
  refine E_iload_n (pc := 16) hx 2 dX11_busyMany_16 rfl rfl ?_
  refine E_aload_n (pc := 17) hx 0 dX11_busyMany_17 rfl rfl ?_
  refine E_getR (pc := 18) hx 0 fc9 h0 rfl ⟨rfl, rfl, rfl⟩ g1332 dX11_busyMany_18 ?_
  refine I_iconst (pc := 21) hx 3 dX11_busyMany_21 ?_
  refine I_iald (pc := 22) hx (kt_9_0 h0) dX11_busyMany_22 ?_
  refine I_cVB  (pc := 23) hx [.int (oI v2), .int (oI (w (shR a0 0) 3))] [.int (oI v1)] (ev_X11_isBusy F a0 h0 v2 (w (shR a0 0) 3) w) vm_X11_isBusy fc9 h0 g1641 dX11_busyMany_23 rfl rfl (Nat.le_of_ble_eq_true rfl) (Nat.le_of_ble_eq_true rfl) (Nat.le_of_ble_eq_true rfl) (fun r2 => ?_)
  refine I_cSI  (pc := 26) hx [.int (oI (bI r2))] [.int (oI v1)] (ev_X11_one F (bI r2) w) sm_X11_one g1597 dX11_busyMany_26 rfl rfl (Nat.le_of_ble_eq_true rfl) (Nat.le_of_ble_eq_true rfl) (Nat.le_of_ble_eq_true rfl) (fun r3 => ?_)
  refine I_iadd (pc := 29) hx dX11_busyMany_29 ?_
  refine I_ltv (fun v1_4 => ?_)
  refine E_istore_n (pc := 30) hx dX11_busyMany_30 rfl (Nat.le_of_ble_eq_true rfl) rfl ?_
  refine I_iinc (pc := 31) hx 1 2 dX11_busyMany_31 rfl (Nat.le_of_ble_eq_true rfl) rfl ?_
  refine E_goto (pc := 34) hx 4 dX11_busyMany_34 rfl ?_
  refine En.sub [2, 1, 0] rfl ?_
  exact hk4 v1_4 (v2 + 1)
theorem l_X11_busyMany_b4 {x : Cx} (F : Nat) (a0 : Nat) (h0 : shK a0 = 10 + 9) (w : aI) (hx : CxOK x RX11 cX11_busyMany 3 2 0 (some .int))  : ∀ (n : Nat) (v1 : Int) (v2 : Int), En x (jvI w) 0 0 4 [(0, .ref a0), (1, .int (oI v1)), (2, .int (oI v2))] [] (cm w) (f_X11_busyMany_b4 F a0 w  n v1 v2) := by
  intro n
  induction n with
  | zero => intro v1 v2; exact E_none
  | succ n ih => intro v1 v2; exact l_X11_busyMany_b4_b F a0 h0 w hx  _ ih v1 v2
set_option maxHeartbeats 4000000 in
set_option maxRecDepth 100000 in
theorem ev_X11_busyMany (F : Nat) (a0 : Nat) (h0 : shK a0 = 10 + 9) (w : aI) : Ev yX11_busyMany cX11_busyMany 3 (some .int) 2 0 (jvI w) [.ref a0] (cm w) (f_X11_busyMany F a0 w) := by
  refine Ev.of (own := RX11) (by decide +kernel) rfl (Nat.le_of_ble_eq_true rfl) (fun x hx => ?_)
  show En x (jvI w) 0 0 0 [(0, .ref a0)] [] (cm w) _
  unfold f_X11_busyMany
  refine I_iconst (pc := 0) hx 0 dX11_busyMany_0 ?_
  refine E_istore_n (pc := 1) hx dX11_busyMany_1 rfl (Nat.le_of_ble_eq_true rfl) rfl ?_
  refine I_iconst (pc := 2) hx 0 dX11_busyMany_2 ?_
  refine E_istore_n (pc := 3) hx dX11_busyMany_3 rfl (Nat.le_of_ble_eq_true rfl) rfl ?_
  refine En.sub [2, 1, 0] rfl ?_
  exact l_X11_busyMany_b4 F a0 h0 w hx F 0 0
set_option maxHeartbeats 4000000 in
set_option maxRecDepth 100000 in
theorem l_X11_purses_b4_b {x : Cx} (F : Nat) (a0 : Nat) (h0 : shK a0 = 10 + 9) (w : aI) (hx : CxOK x RX11 cX11_purses 3 1 0 (some .int))  (k4 : Int → Int → Option Int) (hk4 : ∀ (v1 : Int) (v2 : Int), En x (jvI w) 0 0 4 [(0, .ref a0), (1, .int (oI v1)), (2, .int (oI v2))] [] (cm w) (k4 v1 v2)) (v1 : Int) (v2 : Int)  : En x (jvI w) 0 0 4 [(0, .ref a0), (1, .int (oI v1)), (2, .int (oI v2))] [] (cm w) (f_X11_purses_b4_b F a0 w  k4 v1 v2) := by
  unfold f_X11_purses_b4_b
  refine E_iload_n (pc := 4) hx 2 dX11_purses_4 rfl rfl ?_
  refine E_aload_n (pc := 5) hx 0 dX11_purses_5 rfl rfl ?_
  refine E_getR (pc := 6) hx 0 fc9 h0 rfl ⟨rfl, rfl, rfl⟩ g1332 dX11_purses_6 ?_
  refine I_iconst (pc := 9) hx 0 dX11_purses_9 ?_
  refine I_iald (pc := 10) hx (kt_9_0 h0) dX11_purses_10 ?_
  refine E_gd (fun hr1 => ?_)
  refine I_icmp_ge (pc := 11) hx 35 dX11_purses_11 rfl ⟨hr1.1, hr1.2⟩ ?_ ?_
  · refine E_iload_n (pc := 35) hx 1 dX11_purses_35 rfl rfl ?_
    exact E_iret (pc := 36) hx dX11_purses_36 rfl rfl (Nat.le_of_ble_eq_true rfl)
  refine E_iload_n (pc := 14) hx 1 dX11_purses_14 rfl rfl ?_
  refine E_aload_n (pc := 15) hx 0 dX11_purses_15 rfl rfl ?_
  refine E_getR (pc := 16) hx 0 fc9 h0 rfl ⟨rfl, rfl, rfl⟩ g1332 dX11_purses_16 ?_
  refine E_iload_n (pc := 19) hx 2 dX11_purses_19 rfl rfl ?_
  refine I_cSI  (pc := 20) hx [.int (oI v2)] [.ref (shR a0 0), .int (oI v1)] (ev_X11_r F v2 w) sm_X11_r g1322 dX11_purses_20 rfl rfl (Nat.le_of_ble_eq_true rfl) (Nat.le_of_ble_eq_true rfl) (Nat.le_of_ble_eq_true rfl) (fun r2 => ?_)
  refine I_bipush (pc := 23) hx 10 dX11_purses_23 rfl ?_
  refine I_iadd (pc := 25) hx dX11_purses_25 ?_
  refine I_iald (pc := 26) hx (kt_9_0 h0) dX11_purses_26 ?_
  refine I_iadd (pc := 27) hx dX11_purses_27 ?_
  refine I_ltv (fun v1_3 => ?_)
  refine E_istore_n (pc := 28) hx dX11_purses_28 rfl (Nat.le_of_ble_eq_true rfl) rfl ?_
  refine I_iinc (pc := 29) hx 1 2 dX11_purses_29 rfl (Nat.le_of_ble_eq_true rfl) rfl ?_
  refine E_goto (pc := 32) hx 4 dX11_purses_32 rfl ?_
  refine En.sub [2, 1, 0] rfl ?_
  exact hk4 v1_3 (v2 + 1)
theorem l_X11_purses_b4 {x : Cx} (F : Nat) (a0 : Nat) (h0 : shK a0 = 10 + 9) (w : aI) (hx : CxOK x RX11 cX11_purses 3 1 0 (some .int))  : ∀ (n : Nat) (v1 : Int) (v2 : Int), En x (jvI w) 0 0 4 [(0, .ref a0), (1, .int (oI v1)), (2, .int (oI v2))] [] (cm w) (f_X11_purses_b4 F a0 w  n v1 v2) := by
  intro n
  induction n with
  | zero => intro v1 v2; exact E_none
  | succ n ih => intro v1 v2; exact l_X11_purses_b4_b F a0 h0 w hx  _ ih v1 v2
set_option maxHeartbeats 4000000 in
set_option maxRecDepth 100000 in
theorem ev_X11_purses (F : Nat) (a0 : Nat) (h0 : shK a0 = 10 + 9) (w : aI) : Ev yX11_purses cX11_purses 3 (some .int) 1 0 (jvI w) [.ref a0] (cm w) (f_X11_purses F a0 w) := by
  refine Ev.of (own := RX11) (by decide +kernel) rfl (Nat.le_of_ble_eq_true rfl) (fun x hx => ?_)
  show En x (jvI w) 0 0 0 [(0, .ref a0)] [] (cm w) _
  unfold f_X11_purses
  refine I_iconst (pc := 0) hx 0 dX11_purses_0 ?_
  refine E_istore_n (pc := 1) hx dX11_purses_1 rfl (Nat.le_of_ble_eq_true rfl) rfl ?_
  refine I_iconst (pc := 2) hx 0 dX11_purses_2 ?_
  refine E_istore_n (pc := 3) hx dX11_purses_3 rfl (Nat.le_of_ble_eq_true rfl) rfl ?_
  refine En.sub [2, 1, 0] rfl ?_
  exact l_X11_purses_b4 F a0 h0 w hx F 0 0
set_option maxHeartbeats 4000000 in
set_option maxRecDepth 100000 in
theorem ev_X11_count (F : Nat) (a0 : Nat) (h0 : shK a0 = 10 + 9) (p1 : Int) (w : aI) : Ev yX11_count cX11_count 2 (some .int) 3 0 jvIW [.ref a0, .int (oI p1)] (cm w) (f_X11_count F a0 p1 w) := by
  refine Ev.of (own := RX11) (by decide +kernel) rfl (Nat.le_of_ble_eq_true rfl) (fun x hx => ?_)
  show En x jvIW 0 0 0 [(0, .ref a0), (1, .int (oI p1))] [] (cm w) _
  unfold f_X11_count
  refine E_aload_n (pc := 0) hx 0 dX11_count_0 rfl rfl ?_
  refine E_iload_n (pc := 1) hx 1 dX11_count_1 rfl rfl ?_
  refine E_gd (fun hr1 => ?_)
  refine I_i2l (pc := 2) hx dX11_count_2 hr1 ?_
  refine I_lconst (pc := 3) hx 0 dX11_count_3 rfl ?_
  refine I_ldc2 (pc := 4) hx 13 g1713 rfl dX11_count_4 ?_
  refine I_cSB  (pc := 7) hx [.long (oL p1), .long (oL 0), .long (oL 13)] [.ref a0] (ev_X11_in F p1 0 13 w) sm_X11_in g1434 dX11_count_7 rfl rfl (Nat.le_of_ble_eq_true rfl) (Nat.le_of_ble_eq_true rfl) (Nat.le_of_ble_eq_true rfl) (fun r2 => ?_)
  refine I_iconst (pc := 10) hx 1 dX11_count_10 ?_
  refine I_iconst (pc := 11) hx 1 dX11_count_11 ?_
  refine I_cVBW  (pc := 12) hx [.int (oI (bI r2)), .int (oI 1), .int (oI 1)] [] (ev_X11_may F a0 h0 (bI r2) 1 1 w) vm_X11_may fc9 h0 g1714 dX11_count_12 rfl rfl (Nat.le_of_ble_eq_true rfl) (Nat.le_of_ble_eq_true rfl) (Nat.le_of_ble_eq_true rfl) (fun r3 w4 => ?_)
  refine I_ifB_ne (pc := 15) hx 20 dX11_count_15 rfl ?_ ?_
  · refine E_iload_n (pc := 20) hx 1 dX11_count_20 rfl rfl ?_
    refine E_case (fun hc5 => ?_) (fun hc5 => ?_)
    · refine E_tIn (pc := 21) hx 92 dX11_count_21 (by rw [oI_toInt hr1]; omega) (by rw [oI_toInt hr1]; omega) (by rw [hc5]; rfl) rfl ?_
      refine E_aload_n (pc := 92) hx 0 dX11_count_92 rfl rfl ?_
      refine E_getR (pc := 93) hx 0 fc9 h0 rfl ⟨rfl, rfl, rfl⟩ g1332 dX11_count_93 ?_
      refine E_iload_n (pc := 96) hx 1 dX11_count_96 rfl rfl ?_
      refine I_iald (pc := 97) hx (kt_9_0 h0) dX11_count_97 ?_
      exact E_iret (pc := 98) hx dX11_count_98 rfl rfl (Nat.le_of_ble_eq_true rfl)
    refine E_case (fun hc6 => ?_) (fun hc6 => ?_)
    · refine E_tIn (pc := 21) hx 92 dX11_count_21 (by rw [oI_toInt hr1]; omega) (by rw [oI_toInt hr1]; omega) (by rw [hc6]; rfl) rfl ?_
      refine E_aload_n (pc := 92) hx 0 dX11_count_92 rfl rfl ?_
      refine E_getR (pc := 93) hx 0 fc9 h0 rfl ⟨rfl, rfl, rfl⟩ g1332 dX11_count_93 ?_
      refine E_iload_n (pc := 96) hx 1 dX11_count_96 rfl rfl ?_
      refine I_iald (pc := 97) hx (kt_9_0 h0) dX11_count_97 ?_
      exact E_iret (pc := 98) hx dX11_count_98 rfl rfl (Nat.le_of_ble_eq_true rfl)
    refine E_case (fun hc7 => ?_) (fun hc7 => ?_)
    · refine E_tIn (pc := 21) hx 92 dX11_count_21 (by rw [oI_toInt hr1]; omega) (by rw [oI_toInt hr1]; omega) (by rw [hc7]; rfl) rfl ?_
      refine E_aload_n (pc := 92) hx 0 dX11_count_92 rfl rfl ?_
      refine E_getR (pc := 93) hx 0 fc9 h0 rfl ⟨rfl, rfl, rfl⟩ g1332 dX11_count_93 ?_
      refine E_iload_n (pc := 96) hx 1 dX11_count_96 rfl rfl ?_
      refine I_iald (pc := 97) hx (kt_9_0 h0) dX11_count_97 ?_
      exact E_iret (pc := 98) hx dX11_count_98 rfl rfl (Nat.le_of_ble_eq_true rfl)
    refine E_case (fun hc8 => ?_) (fun hc8 => ?_)
    · refine E_tIn (pc := 21) hx 99 dX11_count_21 (by rw [oI_toInt hr1]; omega) (by rw [oI_toInt hr1]; omega) (by rw [hc8]; rfl) rfl ?_
      refine E_aload_n (pc := 99) hx 0 dX11_count_99 rfl rfl ?_
      refine E_iload_n (pc := 100) hx 1 dX11_count_100 rfl rfl ?_
      refine I_iconst (pc := 101) hx 3 dX11_count_101 ?_
      refine I_isub (pc := 102) hx dX11_count_102 ?_
      refine I_cVI  (pc := 103) hx [.int (oI (p1 - 3))] [] (ev_X11_those F a0 h0 (p1 - 3) w4) vm_X11_those fc9 h0 g1718 dX11_count_103 rfl rfl (Nat.le_of_ble_eq_true rfl) (Nat.le_of_ble_eq_true rfl) (Nat.le_of_ble_eq_true rfl) (fun r9 => ?_)
      exact E_iret (pc := 106) hx dX11_count_106 rfl rfl (Nat.le_of_ble_eq_true rfl)
    refine E_case (fun hc10 => ?_) (fun hc10 => ?_)
    · refine E_tIn (pc := 21) hx 99 dX11_count_21 (by rw [oI_toInt hr1]; omega) (by rw [oI_toInt hr1]; omega) (by rw [hc10]; rfl) rfl ?_
      refine E_aload_n (pc := 99) hx 0 dX11_count_99 rfl rfl ?_
      refine E_iload_n (pc := 100) hx 1 dX11_count_100 rfl rfl ?_
      refine I_iconst (pc := 101) hx 3 dX11_count_101 ?_
      refine I_isub (pc := 102) hx dX11_count_102 ?_
      refine I_cVI  (pc := 103) hx [.int (oI (p1 - 3))] [] (ev_X11_those F a0 h0 (p1 - 3) w4) vm_X11_those fc9 h0 g1718 dX11_count_103 rfl rfl (Nat.le_of_ble_eq_true rfl) (Nat.le_of_ble_eq_true rfl) (Nat.le_of_ble_eq_true rfl) (fun r11 => ?_)
      exact E_iret (pc := 106) hx dX11_count_106 rfl rfl (Nat.le_of_ble_eq_true rfl)
    refine E_case (fun hc12 => ?_) (fun hc12 => ?_)
    · refine E_tIn (pc := 21) hx 99 dX11_count_21 (by rw [oI_toInt hr1]; omega) (by rw [oI_toInt hr1]; omega) (by rw [hc12]; rfl) rfl ?_
      refine E_aload_n (pc := 99) hx 0 dX11_count_99 rfl rfl ?_
      refine E_iload_n (pc := 100) hx 1 dX11_count_100 rfl rfl ?_
      refine I_iconst (pc := 101) hx 3 dX11_count_101 ?_
      refine I_isub (pc := 102) hx dX11_count_102 ?_
      refine I_cVI  (pc := 103) hx [.int (oI (p1 - 3))] [] (ev_X11_those F a0 h0 (p1 - 3) w4) vm_X11_those fc9 h0 g1718 dX11_count_103 rfl rfl (Nat.le_of_ble_eq_true rfl) (Nat.le_of_ble_eq_true rfl) (Nat.le_of_ble_eq_true rfl) (fun r13 => ?_)
      exact E_iret (pc := 106) hx dX11_count_106 rfl rfl (Nat.le_of_ble_eq_true rfl)
    refine E_case (fun hc14 => ?_) (fun hc14 => ?_)
    · refine E_tIn (pc := 21) hx 99 dX11_count_21 (by rw [oI_toInt hr1]; omega) (by rw [oI_toInt hr1]; omega) (by rw [hc14]; rfl) rfl ?_
      refine E_aload_n (pc := 99) hx 0 dX11_count_99 rfl rfl ?_
      refine E_iload_n (pc := 100) hx 1 dX11_count_100 rfl rfl ?_
      refine I_iconst (pc := 101) hx 3 dX11_count_101 ?_
      refine I_isub (pc := 102) hx dX11_count_102 ?_
      refine I_cVI  (pc := 103) hx [.int (oI (p1 - 3))] [] (ev_X11_those F a0 h0 (p1 - 3) w4) vm_X11_those fc9 h0 g1718 dX11_count_103 rfl rfl (Nat.le_of_ble_eq_true rfl) (Nat.le_of_ble_eq_true rfl) (Nat.le_of_ble_eq_true rfl) (fun r15 => ?_)
      exact E_iret (pc := 106) hx dX11_count_106 rfl rfl (Nat.le_of_ble_eq_true rfl)
    refine E_case (fun hc16 => ?_) (fun hc16 => ?_)
    · refine E_tIn (pc := 21) hx 122 dX11_count_21 (by rw [oI_toInt hr1]; omega) (by rw [oI_toInt hr1]; omega) (by rw [hc16]; rfl) rfl ?_
      refine E_aload_n (pc := 122) hx 0 dX11_count_122 rfl rfl ?_
      refine E_getR (pc := 123) hx 0 fc9 h0 rfl ⟨rfl, rfl, rfl⟩ g1332 dX11_count_123 ?_
      refine E_iload_n (pc := 126) hx 1 dX11_count_126 rfl rfl ?_
      refine I_iconst (pc := 127) hx 4 dX11_count_127 ?_
      refine I_isub (pc := 128) hx dX11_count_128 ?_
      refine I_iald (pc := 129) hx (kt_9_0 h0) dX11_count_129 ?_
      exact E_iret (pc := 130) hx dX11_count_130 rfl rfl (Nat.le_of_ble_eq_true rfl)
    refine E_case (fun hc17 => ?_) (fun hc17 => ?_)
    · refine E_tIn (pc := 21) hx 122 dX11_count_21 (by rw [oI_toInt hr1]; omega) (by rw [oI_toInt hr1]; omega) (by rw [hc17]; rfl) rfl ?_
      refine E_aload_n (pc := 122) hx 0 dX11_count_122 rfl rfl ?_
      refine E_getR (pc := 123) hx 0 fc9 h0 rfl ⟨rfl, rfl, rfl⟩ g1332 dX11_count_123 ?_
      refine E_iload_n (pc := 126) hx 1 dX11_count_126 rfl rfl ?_
      refine I_iconst (pc := 127) hx 4 dX11_count_127 ?_
      refine I_isub (pc := 128) hx dX11_count_128 ?_
      refine I_iald (pc := 129) hx (kt_9_0 h0) dX11_count_129 ?_
      exact E_iret (pc := 130) hx dX11_count_130 rfl rfl (Nat.le_of_ble_eq_true rfl)
    refine E_case (fun hc18 => ?_) (fun hc18 => ?_)
    · refine E_tIn (pc := 21) hx 122 dX11_count_21 (by rw [oI_toInt hr1]; omega) (by rw [oI_toInt hr1]; omega) (by rw [hc18]; rfl) rfl ?_
      refine E_aload_n (pc := 122) hx 0 dX11_count_122 rfl rfl ?_
      refine E_getR (pc := 123) hx 0 fc9 h0 rfl ⟨rfl, rfl, rfl⟩ g1332 dX11_count_123 ?_
      refine E_iload_n (pc := 126) hx 1 dX11_count_126 rfl rfl ?_
      refine I_iconst (pc := 127) hx 4 dX11_count_127 ?_
      refine I_isub (pc := 128) hx dX11_count_128 ?_
      refine I_iald (pc := 129) hx (kt_9_0 h0) dX11_count_129 ?_
      exact E_iret (pc := 130) hx dX11_count_130 rfl rfl (Nat.le_of_ble_eq_true rfl)
    refine E_case (fun hc19 => ?_) (fun hc19 => ?_)
    · refine E_tIn (pc := 21) hx 122 dX11_count_21 (by rw [oI_toInt hr1]; omega) (by rw [oI_toInt hr1]; omega) (by rw [hc19]; rfl) rfl ?_
      refine E_aload_n (pc := 122) hx 0 dX11_count_122 rfl rfl ?_
      refine E_getR (pc := 123) hx 0 fc9 h0 rfl ⟨rfl, rfl, rfl⟩ g1332 dX11_count_123 ?_
      refine E_iload_n (pc := 126) hx 1 dX11_count_126 rfl rfl ?_
      refine I_iconst (pc := 127) hx 4 dX11_count_127 ?_
      refine I_isub (pc := 128) hx dX11_count_128 ?_
      refine I_iald (pc := 129) hx (kt_9_0 h0) dX11_count_129 ?_
      exact E_iret (pc := 130) hx dX11_count_130 rfl rfl (Nat.le_of_ble_eq_true rfl)
    refine E_case (fun hc20 => ?_) (fun hc20 => ?_)
    · refine E_tIn (pc := 21) hx 107 dX11_count_21 (by rw [oI_toInt hr1]; omega) (by rw [oI_toInt hr1]; omega) (by rw [hc20]; rfl) rfl ?_
      refine E_aload_n (pc := 107) hx 0 dX11_count_107 rfl rfl ?_
      refine I_cVI  (pc := 108) hx [] [] (ev_X11_busyMany F a0 h0 w4) vm_X11_busyMany fc9 h0 g1722 dX11_count_108 rfl rfl (Nat.le_of_ble_eq_true rfl) (Nat.le_of_ble_eq_true rfl) (Nat.le_of_ble_eq_true rfl) (fun r21 => ?_)
      exact E_iret (pc := 111) hx dX11_count_111 rfl rfl (Nat.le_of_ble_eq_true rfl)
    refine E_case (fun hc22 => ?_) (fun hc22 => ?_)
    · refine E_tIn (pc := 21) hx 112 dX11_count_21 (by rw [oI_toInt hr1]; omega) (by rw [oI_toInt hr1]; omega) (by rw [hc22]; rfl) rfl ?_
      refine E_aload_n (pc := 112) hx 0 dX11_count_112 rfl rfl ?_
      refine I_cVI  (pc := 113) hx [] [] (ev_X11_purses F a0 h0 w4) vm_X11_purses fc9 h0 g1726 dX11_count_113 rfl rfl (Nat.le_of_ble_eq_true rfl) (Nat.le_of_ble_eq_true rfl) (Nat.le_of_ble_eq_true rfl) (fun r23 => ?_)
      exact E_iret (pc := 116) hx dX11_count_116 rfl rfl (Nat.le_of_ble_eq_true rfl)
    refine E_case (fun hc24 => ?_) (fun hc24 => ?_)
    · refine E_tIn (pc := 21) hx 117 dX11_count_21 (by rw [oI_toInt hr1]; omega) (by rw [oI_toInt hr1]; omega) (by rw [hc24]; rfl) rfl ?_
      refine E_aload_n (pc := 117) hx 0 dX11_count_117 rfl rfl ?_
      refine I_getI (pc := 118) hx 4 4 rfl fc9 h0 rfl ⟨rfl, rfl, rfl⟩ g1336 dX11_count_118 ?_
      exact E_iret (pc := 121) hx dX11_count_121 rfl rfl (Nat.le_of_ble_eq_true rfl)
    refine E_tOut (pc := 21) hx 122 dX11_count_21 (swI_out hr1 (by omega)) rfl ?_
    refine E_aload_n (pc := 122) hx 0 dX11_count_122 rfl rfl ?_
    refine E_getR (pc := 123) hx 0 fc9 h0 rfl ⟨rfl, rfl, rfl⟩ g1332 dX11_count_123 ?_
    refine E_iload_n (pc := 126) hx 1 dX11_count_126 rfl rfl ?_
    refine I_iconst (pc := 127) hx 4 dX11_count_127 ?_
    refine I_isub (pc := 128) hx dX11_count_128 ?_
    refine I_iald (pc := 129) hx (kt_9_0 h0) dX11_count_129 ?_
    exact E_iret (pc := 130) hx dX11_count_130 rfl rfl (Nat.le_of_ble_eq_true rfl)
  refine I_iconst (pc := 18) hx 0 dX11_count_18 ?_
  exact E_iret (pc := 19) hx dX11_count_19 rfl rfl (Nat.le_of_ble_eq_true rfl)
set_option maxHeartbeats 4000000 in
set_option maxRecDepth 100000 in
theorem ev_X11_account (F : Nat) (a0 : Nat) (h0 : shK a0 = 10 + 9) (p1 : Int) (w : aI) : Ev yX11_account cX11_account 2 (some .int) 1 0 jvIW [.ref a0, .int (oI p1)] (cm w) (f_X11_account F a0 p1 w) := by
  refine Ev.of (own := RX11) (by decide +kernel) rfl (Nat.le_of_ble_eq_true rfl) (fun x hx => ?_)
  show En x jvIW 0 0 0 [(0, .ref a0), (1, .int (oI p1))] [] (cm w) _
  unfold f_X11_account
  refine E_aload_n (pc := 0) hx 0 dX11_account_0 rfl rfl ?_
  refine E_iload_n (pc := 1) hx 1 dX11_account_1 rfl rfl ?_
  refine E_gd (fun hr1 => ?_)
  refine I_i2l (pc := 2) hx dX11_account_2 hr1 ?_
  refine I_lconst (pc := 3) hx 0 dX11_account_3 rfl ?_
  refine I_ldc2 (pc := 4) hx 10 g1734 rfl dX11_account_4 ?_
  refine I_cSB  (pc := 7) hx [.long (oL p1), .long (oL 0), .long (oL 10)] [.ref a0] (ev_X11_in F p1 0 10 w) sm_X11_in g1434 dX11_account_7 rfl rfl (Nat.le_of_ble_eq_true rfl) (Nat.le_of_ble_eq_true rfl) (Nat.le_of_ble_eq_true rfl) (fun r2 => ?_)
  refine I_iconst (pc := 10) hx 1 dX11_account_10 ?_
  refine I_iconst (pc := 11) hx 1 dX11_account_11 ?_
  refine I_cVBW  (pc := 12) hx [.int (oI (bI r2)), .int (oI 1), .int (oI 1)] [] (ev_X11_may F a0 h0 (bI r2) 1 1 w) vm_X11_may fc9 h0 g1714 dX11_account_12 rfl rfl (Nat.le_of_ble_eq_true rfl) (Nat.le_of_ble_eq_true rfl) (Nat.le_of_ble_eq_true rfl) (fun r3 w4 => ?_)
  refine I_ifB_eq (pc := 15) hx 30 dX11_account_15 rfl ?_ ?_
  · refine I_iconst (pc := 30) hx 0 dX11_account_30 ?_
    exact E_iret (pc := 31) hx dX11_account_31 rfl rfl (Nat.le_of_ble_eq_true rfl)
  refine E_aload_n (pc := 18) hx 0 dX11_account_18 rfl rfl ?_
  refine E_getR (pc := 19) hx 0 fc9 h0 rfl ⟨rfl, rfl, rfl⟩ g1332 dX11_account_19 ?_
  refine I_bipush (pc := 22) hx 10 dX11_account_22 rfl ?_
  refine E_iload_n (pc := 24) hx 1 dX11_account_24 rfl rfl ?_
  refine I_iadd (pc := 25) hx dX11_account_25 ?_
  refine I_iald (pc := 26) hx (kt_9_0 h0) dX11_account_26 ?_
  refine E_goto (pc := 27) hx 31 dX11_account_27 rfl ?_
  exact E_iret (pc := 31) hx dX11_account_31 rfl rfl (Nat.le_of_ble_eq_true rfl)
set_option maxHeartbeats 4000000 in
set_option maxRecDepth 100000 in
theorem ev_X11_isRoof (F : Nat) (a0 : Nat) (h0 : shK a0 = 10 + 9) (p1 : Int) (w : aI) : Ev yX11_isRoof cX11_isRoof 2 (some .boolean) 1 0 (jvB w) [.ref a0, .int (oI p1)] (cm w) (f_X11_isRoof F a0 p1 w) := by
  refine Ev.of (own := RX11) (by decide +kernel) rfl (Nat.le_of_ble_eq_true rfl) (fun x hx => ?_)
  show En x (jvB w) 0 0 0 [(0, .ref a0), (1, .int (oI p1))] [] (cm w) _
  unfold f_X11_isRoof
  refine E_iload_n (pc := 0) hx 1 dX11_isRoof_0 rfl rfl ?_
  refine E_gd (fun hr1 => ?_)
  refine I_i2l (pc := 1) hx dX11_isRoof_1 hr1 ?_
  refine I_lconst (pc := 2) hx 0 dX11_isRoof_2 rfl ?_
  refine E_aload_n (pc := 3) hx 0 dX11_isRoof_3 rfl rfl ?_
  refine E_getR (pc := 4) hx 0 fc9 h0 rfl ⟨rfl, rfl, rfl⟩ g1332 dX11_isRoof_4 ?_
  refine I_iconst (pc := 7) hx 0 dX11_isRoof_7 ?_
  refine I_iald (pc := 8) hx (kt_9_0 h0) dX11_isRoof_8 ?_
  refine I_iconst (pc := 9) hx 1 dX11_isRoof_9 ?_
  refine I_isub (pc := 10) hx dX11_isRoof_10 ?_
  refine E_gd (fun hr2 => ?_)
  refine I_i2l (pc := 11) hx dX11_isRoof_11 hr2 ?_
  refine I_cSB  (pc := 12) hx [.long (oL p1), .long (oL 0), .long (oL ((w (shR a0 0) 0) - 1))] [] (ev_X11_in F p1 0 ((w (shR a0 0) 0) - 1) w) sm_X11_in g1434 dX11_isRoof_12 rfl rfl (Nat.le_of_ble_eq_true rfl) (Nat.le_of_ble_eq_true rfl) (Nat.le_of_ble_eq_true rfl) (fun r3 => ?_)
  exact E_zret (pc := 15) hx dX11_isRoof_15 rfl (bI_nar _) rfl (Nat.le_of_ble_eq_true rfl)
set_option maxHeartbeats 4000000 in
set_option maxRecDepth 100000 in
theorem ev_X11_areRoofs (F : Nat) (a0 : Nat) (h0 : shK a0 = 10 + 9) (p1 : Int) (p2 : Int) (w : aI) : Ev yX11_areRoofs cX11_areRoofs 3 (some .boolean) 2 0 (jvB w) [.ref a0, .int (oI p1), .int (oI p2)] (cm w) (f_X11_areRoofs F a0 p1 p2 w) := by
  refine Ev.of (own := RX11) (by decide +kernel) rfl (Nat.le_of_ble_eq_true rfl) (fun x hx => ?_)
  show En x (jvB w) 0 0 0 [(0, .ref a0), (1, .int (oI p1)), (2, .int (oI p2))] [] (cm w) _
  unfold f_X11_areRoofs
  refine E_aload_n (pc := 0) hx 0 dX11_areRoofs_0 rfl rfl ?_
  refine E_iload_n (pc := 1) hx 1 dX11_areRoofs_1 rfl rfl ?_
  refine I_cVB  (pc := 2) hx [.int (oI p1)] [] (ev_X11_isRoof F a0 h0 p1 w) vm_X11_isRoof fc9 h0 g1739 dX11_areRoofs_2 rfl rfl (Nat.le_of_ble_eq_true rfl) (Nat.le_of_ble_eq_true rfl) (Nat.le_of_ble_eq_true rfl) (fun r1 => ?_)
  refine I_ifB_eq (pc := 5) hx 20 dX11_areRoofs_5 rfl ?_ ?_
  · refine I_iconst (pc := 20) hx 0 dX11_areRoofs_20 ?_
    exact E_zret (pc := 21) hx dX11_areRoofs_21 rfl rfl rfl (Nat.le_of_ble_eq_true rfl)
  refine E_aload_n (pc := 8) hx 0 dX11_areRoofs_8 rfl rfl ?_
  refine E_iload_n (pc := 9) hx 2 dX11_areRoofs_9 rfl rfl ?_
  refine I_cVB  (pc := 10) hx [.int (oI p2)] [] (ev_X11_isRoof F a0 h0 p2 w) vm_X11_isRoof fc9 h0 g1739 dX11_areRoofs_10 rfl rfl (Nat.le_of_ble_eq_true rfl) (Nat.le_of_ble_eq_true rfl) (Nat.le_of_ble_eq_true rfl) (fun r2 => ?_)
  refine I_ifB_eq (pc := 13) hx 20 dX11_areRoofs_13 rfl ?_ ?_
  · refine I_iconst (pc := 20) hx 0 dX11_areRoofs_20 ?_
    exact E_zret (pc := 21) hx dX11_areRoofs_21 rfl rfl rfl (Nat.le_of_ble_eq_true rfl)
  refine I_iconst (pc := 16) hx 1 dX11_areRoofs_16 ?_
  refine E_goto (pc := 17) hx 21 dX11_areRoofs_17 rfl ?_
  exact E_zret (pc := 21) hx dX11_areRoofs_21 rfl rfl rfl (Nat.le_of_ble_eq_true rfl)
set_option maxHeartbeats 4000000 in
set_option maxRecDepth 100000 in
theorem ev_X11_isTune (F : Nat) (a0 : Nat) (h0 : shK a0 = 10 + 9) (p1 : Int) (w : aI) : Ev yX11_isTune cX11_isTune 2 (some .boolean) 1 0 (jvB w) [.ref a0, .int (oI p1)] (cm w) (f_X11_isTune F a0 p1 w) := by
  refine Ev.of (own := RX11) (by decide +kernel) rfl (Nat.le_of_ble_eq_true rfl) (fun x hx => ?_)
  show En x (jvB w) 0 0 0 [(0, .ref a0), (1, .int (oI p1))] [] (cm w) _
  unfold f_X11_isTune
  refine E_iload_n (pc := 0) hx 1 dX11_isTune_0 rfl rfl ?_
  refine E_gd (fun hr1 => ?_)
  refine I_i2l (pc := 1) hx dX11_isTune_1 hr1 ?_
  refine I_lconst (pc := 2) hx 0 dX11_isTune_2 rfl ?_
  refine E_aload_n (pc := 3) hx 0 dX11_isTune_3 rfl rfl ?_
  refine E_getR (pc := 4) hx 0 fc9 h0 rfl ⟨rfl, rfl, rfl⟩ g1332 dX11_isTune_4 ?_
  refine I_iconst (pc := 7) hx 2 dX11_isTune_7 ?_
  refine I_iald (pc := 8) hx (kt_9_0 h0) dX11_isTune_8 ?_
  refine I_iconst (pc := 9) hx 1 dX11_isTune_9 ?_
  refine I_isub (pc := 10) hx dX11_isTune_10 ?_
  refine E_gd (fun hr2 => ?_)
  refine I_i2l (pc := 11) hx dX11_isTune_11 hr2 ?_
  refine I_cSB  (pc := 12) hx [.long (oL p1), .long (oL 0), .long (oL ((w (shR a0 0) 2) - 1))] [] (ev_X11_in F p1 0 ((w (shR a0 0) 2) - 1) w) sm_X11_in g1434 dX11_isTune_12 rfl rfl (Nat.le_of_ble_eq_true rfl) (Nat.le_of_ble_eq_true rfl) (Nat.le_of_ble_eq_true rfl) (fun r3 => ?_)
  exact E_zret (pc := 15) hx dX11_isTune_15 rfl (bI_nar _) rfl (Nat.le_of_ble_eq_true rfl)
set_option maxHeartbeats 4000000 in
set_option maxRecDepth 100000 in
theorem ev_X11_nameByte (F : Nat) (a0 : Nat) (h0 : shK a0 = 10 + 9) (p1 : Int) (p2 : Int) (w : aI) : Ev yX11_nameByte cX11_nameByte 3 (some .int) 2 0 jvIW [.ref a0, .int (oI p1), .int (oI p2)] (cm w) (f_X11_nameByte F a0 p1 p2 w) := by
  refine Ev.of (own := RX11) (by decide +kernel) rfl (Nat.le_of_ble_eq_true rfl) (fun x hx => ?_)
  show En x jvIW 0 0 0 [(0, .ref a0), (1, .int (oI p1)), (2, .int (oI p2))] [] (cm w) _
  unfold f_X11_nameByte
  refine E_aload_n (pc := 0) hx 0 dX11_nameByte_0 rfl rfl ?_
  refine E_aload_n (pc := 1) hx 0 dX11_nameByte_1 rfl rfl ?_
  refine E_iload_n (pc := 2) hx 1 dX11_nameByte_2 rfl rfl ?_
  refine I_cVB  (pc := 3) hx [.int (oI p1)] [.ref a0] (ev_X11_isRoof F a0 h0 p1 w) vm_X11_isRoof fc9 h0 g1739 dX11_nameByte_3 rfl rfl (Nat.le_of_ble_eq_true rfl) (Nat.le_of_ble_eq_true rfl) (Nat.le_of_ble_eq_true rfl) (fun r1 => ?_)
  refine I_iconst (pc := 6) hx 1 dX11_nameByte_6 ?_
  refine I_iconst (pc := 7) hx 1 dX11_nameByte_7 ?_
  refine I_cVBW  (pc := 8) hx [.int (oI (bI r1)), .int (oI 1), .int (oI 1)] [] (ev_X11_may F a0 h0 (bI r1) 1 1 w) vm_X11_may fc9 h0 g1714 dX11_nameByte_8 rfl rfl (Nat.le_of_ble_eq_true rfl) (Nat.le_of_ble_eq_true rfl) (Nat.le_of_ble_eq_true rfl) (fun r2 w3 => ?_)
  refine I_ifB_ne (pc := 11) hx 16 dX11_nameByte_11 rfl ?_ ?_
  · refine E_iload_n (pc := 16) hx 2 dX11_nameByte_16 rfl rfl ?_
    refine E_gd (fun hr4 => ?_)
    refine I_i2l (pc := 17) hx dX11_nameByte_17 hr4 ?_
    refine I_lconst (pc := 18) hx 0 dX11_nameByte_18 rfl ?_
    refine E_aload_n (pc := 19) hx 0 dX11_nameByte_19 rfl rfl ?_
    refine E_getR (pc := 20) hx 0 fc9 h0 rfl ⟨rfl, rfl, rfl⟩ g1332 dX11_nameByte_20 ?_
    refine E_iload_n (pc := 23) hx 1 dX11_nameByte_23 rfl rfl ?_
    refine I_cSI  (pc := 24) hx [.int (oI p1)] [.ref (shR a0 0), .long (oL 0), .long (oL p2)] (ev_X11_r F p1 w3) sm_X11_r g1322 dX11_nameByte_24 rfl rfl (Nat.le_of_ble_eq_true rfl) (Nat.le_of_ble_eq_true rfl) (Nat.le_of_ble_eq_true rfl) (fun r5 => ?_)
    refine I_iald (pc := 27) hx (kt_9_0 h0) dX11_nameByte_27 ?_
    refine I_iconst (pc := 28) hx 1 dX11_nameByte_28 ?_
    refine I_isub (pc := 29) hx dX11_nameByte_29 ?_
    refine E_gd (fun hr6 => ?_)
    refine I_i2l (pc := 30) hx dX11_nameByte_30 hr6 ?_
    refine I_cSB  (pc := 31) hx [.long (oL p2), .long (oL 0), .long (oL ((w3 (shR a0 0) r5) - 1))] [] (ev_X11_in F p2 0 ((w3 (shR a0 0) r5) - 1) w3) sm_X11_in g1434 dX11_nameByte_31 rfl rfl (Nat.le_of_ble_eq_true rfl) (Nat.le_of_ble_eq_true rfl) (Nat.le_of_ble_eq_true rfl) (fun r7 => ?_)
    refine I_ifB_eq (pc := 34) hx 53 dX11_nameByte_34 rfl ?_ ?_
    · refine I_iconst (pc := 53) hx (-1) dX11_nameByte_53 ?_
      exact E_iret (pc := 54) hx dX11_nameByte_54 rfl rfl (Nat.le_of_ble_eq_true rfl)
    refine E_aload_n (pc := 37) hx 0 dX11_nameByte_37 rfl rfl ?_
    refine E_getR (pc := 38) hx 0 fc9 h0 rfl ⟨rfl, rfl, rfl⟩ g1332 dX11_nameByte_38 ?_
    refine E_iload_n (pc := 41) hx 1 dX11_nameByte_41 rfl rfl ?_
    refine I_cSI  (pc := 42) hx [.int (oI p1)] [.ref (shR a0 0)] (ev_X11_r F p1 w3) sm_X11_r g1322 dX11_nameByte_42 rfl rfl (Nat.le_of_ble_eq_true rfl) (Nat.le_of_ble_eq_true rfl) (Nat.le_of_ble_eq_true rfl) (fun r8 => ?_)
    refine I_iconst (pc := 45) hx 1 dX11_nameByte_45 ?_
    refine I_iadd (pc := 46) hx dX11_nameByte_46 ?_
    refine E_iload_n (pc := 47) hx 2 dX11_nameByte_47 rfl rfl ?_
    refine I_iadd (pc := 48) hx dX11_nameByte_48 ?_
    refine I_iald (pc := 49) hx (kt_9_0 h0) dX11_nameByte_49 ?_
    refine E_goto (pc := 50) hx 54 dX11_nameByte_50 rfl ?_
    exact E_iret (pc := 54) hx dX11_nameByte_54 rfl rfl (Nat.le_of_ble_eq_true rfl)
  refine I_iconst (pc := 14) hx 0 dX11_nameByte_14 ?_
  exact E_iret (pc := 15) hx dX11_nameByte_15 rfl rfl (Nat.le_of_ble_eq_true rfl)
set_option maxHeartbeats 4000000 in
set_option maxRecDepth 100000 in
theorem l_X11_waitingMany_b4_b {x : Cx} (F : Nat) (a0 : Nat) (h0 : shK a0 = 10 + 9) (p1 : Int) (w : aI) (hx : CxOK x RX11 cX11_waitingMany 4 2 0 (some .int))  (k4 : Int → Int → Option Int) (hk4 : ∀ (v2 : Int) (v3 : Int), En x (jvI w) 0 0 4 [(0, .ref a0), (1, .int (oI p1)), (2, .int (oI v2)), (3, .int (oI v3))] [] (cm w) (k4 v2 v3)) (v2 : Int) (v3 : Int)  : En x (jvI w) 0 0 4 [(0, .ref a0), (1, .int (oI p1)), (2, .int (oI v2)), (3, .int (oI v3))] [] (cm w) (f_X11_waitingMany_b4_b F a0 p1 w  k4 v2 v3) := by
  unfold f_X11_waitingMany_b4_b
  refine E_iload_n (pc := 4) hx 3 dX11_waitingMany_4 rfl rfl ?_
  refine E_aload_n (pc := 5) hx 0 dX11_waitingMany_5 rfl rfl ?_
  refine E_getR (pc := 6) hx 0 fc9 h0 rfl ⟨rfl, rfl, rfl⟩ g1332 dX11_waitingMany_6 ?_
  refine I_iconst (pc := 9) hx 2 dX11_waitingMany_9 ?_
  refine I_iald (pc := 10) hx (kt_9_0 h0) dX11_waitingMany_10 ?_
  refine E_gd (fun hr1 => ?_)
  refine I_icmp_ge (pc := 11) hx 32 dX11_waitingMany_11 rfl ⟨hr1.1, hr1.2⟩ ?_ ?_
  · refine E_iload_n (pc := 32) hx 2 dX11_waitingMany_32 rfl rfl ?_
    exact E_iret (pc := 33) hx dX11_waitingMany_33 rfl rfl (Nat.le_of_ble_eq_true rfl)
  refine E_iload_n (pc := 14) hx 2 dX11_waitingMany_14 rfl rfl ?_
  refine E_aload_n (pc := 15) hx 0 dX11_waitingMany_15 rfl rfl ?_
  refine E_iload_n (pc := 16) hx 3 dX11_waitingMany_16 rfl rfl ?_
  refine E_iload_n (pc := 17) hx 1 dX11_waitingMany_17 rfl rfl ?_
  refine I_cVB  (pc := 18) hx [.int (oI v3), .int (oI p1)] [.int (oI v2)] (ev_X11_waitsAt F a0 h0 v3 p1 w) vm_X11_waitsAt fc9 h0 g1649 dX11_waitingMany_18 rfl rfl (Nat.le_of_ble_eq_true rfl) (Nat.le_of_ble_eq_true rfl) (Nat.le_of_ble_eq_true rfl) (fun r2 => ?_)
  refine I_cSI  (pc := 21) hx [.int (oI (bI r2))] [.int (oI v2)] (ev_X11_one F (bI r2) w) sm_X11_one g1597 dX11_waitingMany_21 rfl rfl (Nat.le_of_ble_eq_true rfl) (Nat.le_of_ble_eq_true rfl) (Nat.le_of_ble_eq_true rfl) (fun r3 => ?_)
  refine I_iadd (pc := 24) hx dX11_waitingMany_24 ?_
  refine I_ltv (fun v2_4 => ?_)
  refine E_istore_n (pc := 25) hx dX11_waitingMany_25 rfl (Nat.le_of_ble_eq_true rfl) rfl ?_
  refine I_iinc (pc := 26) hx 1 3 dX11_waitingMany_26 rfl (Nat.le_of_ble_eq_true rfl) rfl ?_
  refine E_goto (pc := 29) hx 4 dX11_waitingMany_29 rfl ?_
  refine En.sub [2, 3, 1, 0] rfl ?_
  exact hk4 v2_4 (v3 + 1)
theorem l_X11_waitingMany_b4 {x : Cx} (F : Nat) (a0 : Nat) (h0 : shK a0 = 10 + 9) (p1 : Int) (w : aI) (hx : CxOK x RX11 cX11_waitingMany 4 2 0 (some .int))  : ∀ (n : Nat) (v2 : Int) (v3 : Int), En x (jvI w) 0 0 4 [(0, .ref a0), (1, .int (oI p1)), (2, .int (oI v2)), (3, .int (oI v3))] [] (cm w) (f_X11_waitingMany_b4 F a0 p1 w  n v2 v3) := by
  intro n
  induction n with
  | zero => intro v2 v3; exact E_none
  | succ n ih => intro v2 v3; exact l_X11_waitingMany_b4_b F a0 h0 p1 w hx  _ ih v2 v3
set_option maxHeartbeats 4000000 in
set_option maxRecDepth 100000 in
theorem ev_X11_waitingMany (F : Nat) (a0 : Nat) (h0 : shK a0 = 10 + 9) (p1 : Int) (w : aI) : Ev yX11_waitingMany cX11_waitingMany 4 (some .int) 2 0 (jvI w) [.ref a0, .int (oI p1)] (cm w) (f_X11_waitingMany F a0 p1 w) := by
  refine Ev.of (own := RX11) (by decide +kernel) rfl (Nat.le_of_ble_eq_true rfl) (fun x hx => ?_)
  show En x (jvI w) 0 0 0 [(0, .ref a0), (1, .int (oI p1))] [] (cm w) _
  unfold f_X11_waitingMany
  refine I_iconst (pc := 0) hx 0 dX11_waitingMany_0 ?_
  refine E_istore_n (pc := 1) hx dX11_waitingMany_1 rfl (Nat.le_of_ble_eq_true rfl) rfl ?_
  refine I_iconst (pc := 2) hx 0 dX11_waitingMany_2 ?_
  refine E_istore_n (pc := 3) hx dX11_waitingMany_3 rfl (Nat.le_of_ble_eq_true rfl) rfl ?_
  refine En.sub [2, 3, 1, 0] rfl ?_
  exact l_X11_waitingMany_b4 F a0 h0 p1 w hx F 0 0
set_option maxHeartbeats 4000000 in
set_option maxRecDepth 100000 in
theorem l_X11_waysAt_b4_b {x : Cx} (F : Nat) (a0 : Nat) (h0 : shK a0 = 10 + 9) (p1 : Int) (w : aI) (hx : CxOK x RX11 cX11_waysAt 4 2 0 (some .int))  (k4 : Int → Int → Option Int) (hk4 : ∀ (v2 : Int) (v3 : Int), En x (jvI w) 0 0 4 [(0, .ref a0), (1, .int (oI p1)), (2, .int (oI v2)), (3, .int (oI v3))] [] (cm w) (k4 v2 v3)) (v2 : Int) (v3 : Int)  : En x (jvI w) 0 0 4 [(0, .ref a0), (1, .int (oI p1)), (2, .int (oI v2)), (3, .int (oI v3))] [] (cm w) (f_X11_waysAt_b4_b F a0 p1 w  k4 v2 v3) := by
  unfold f_X11_waysAt_b4_b
  refine E_iload_n (pc := 4) hx 3 dX11_waysAt_4 rfl rfl ?_
  refine E_aload_n (pc := 5) hx 0 dX11_waysAt_5 rfl rfl ?_
  refine E_getR (pc := 6) hx 0 fc9 h0 rfl ⟨rfl, rfl, rfl⟩ g1332 dX11_waysAt_6 ?_
  refine I_iconst (pc := 9) hx 1 dX11_waysAt_9 ?_
  refine I_iald (pc := 10) hx (kt_9_0 h0) dX11_waysAt_10 ?_
  refine E_gd (fun hr1 => ?_)
  refine I_icmp_ge (pc := 11) hx 32 dX11_waysAt_11 rfl ⟨hr1.1, hr1.2⟩ ?_ ?_
  · refine E_iload_n (pc := 32) hx 2 dX11_waysAt_32 rfl rfl ?_
    exact E_iret (pc := 33) hx dX11_waysAt_33 rfl rfl (Nat.le_of_ble_eq_true rfl)
  refine E_iload_n (pc := 14) hx 2 dX11_waysAt_14 rfl rfl ?_
  refine E_aload_n (pc := 15) hx 0 dX11_waysAt_15 rfl rfl ?_
  refine E_iload_n (pc := 16) hx 3 dX11_waysAt_16 rfl rfl ?_
  refine E_iload_n (pc := 17) hx 1 dX11_waysAt_17 rfl rfl ?_
  refine I_cVB  (pc := 18) hx [.int (oI v3), .int (oI p1)] [.int (oI v2)] (ev_X11_ends F a0 h0 v3 p1 w) vm_X11_ends fc9 h0 g1524 dX11_waysAt_18 rfl rfl (Nat.le_of_ble_eq_true rfl) (Nat.le_of_ble_eq_true rfl) (Nat.le_of_ble_eq_true rfl) (fun r2 => ?_)
  refine I_cSI  (pc := 21) hx [.int (oI (bI r2))] [.int (oI v2)] (ev_X11_one F (bI r2) w) sm_X11_one g1597 dX11_waysAt_21 rfl rfl (Nat.le_of_ble_eq_true rfl) (Nat.le_of_ble_eq_true rfl) (Nat.le_of_ble_eq_true rfl) (fun r3 => ?_)
  refine I_iadd (pc := 24) hx dX11_waysAt_24 ?_
  refine I_ltv (fun v2_4 => ?_)
  refine E_istore_n (pc := 25) hx dX11_waysAt_25 rfl (Nat.le_of_ble_eq_true rfl) rfl ?_
  refine I_iinc (pc := 26) hx 1 3 dX11_waysAt_26 rfl (Nat.le_of_ble_eq_true rfl) rfl ?_
  refine E_goto (pc := 29) hx 4 dX11_waysAt_29 rfl ?_
  refine En.sub [2, 3, 1, 0] rfl ?_
  exact hk4 v2_4 (v3 + 1)
theorem l_X11_waysAt_b4 {x : Cx} (F : Nat) (a0 : Nat) (h0 : shK a0 = 10 + 9) (p1 : Int) (w : aI) (hx : CxOK x RX11 cX11_waysAt 4 2 0 (some .int))  : ∀ (n : Nat) (v2 : Int) (v3 : Int), En x (jvI w) 0 0 4 [(0, .ref a0), (1, .int (oI p1)), (2, .int (oI v2)), (3, .int (oI v3))] [] (cm w) (f_X11_waysAt_b4 F a0 p1 w  n v2 v3) := by
  intro n
  induction n with
  | zero => intro v2 v3; exact E_none
  | succ n ih => intro v2 v3; exact l_X11_waysAt_b4_b F a0 h0 p1 w hx  _ ih v2 v3
set_option maxHeartbeats 4000000 in
set_option maxRecDepth 100000 in
theorem ev_X11_waysAt (F : Nat) (a0 : Nat) (h0 : shK a0 = 10 + 9) (p1 : Int) (w : aI) : Ev yX11_waysAt cX11_waysAt 4 (some .int) 2 0 (jvI w) [.ref a0, .int (oI p1)] (cm w) (f_X11_waysAt F a0 p1 w) := by
  refine Ev.of (own := RX11) (by decide +kernel) rfl (Nat.le_of_ble_eq_true rfl) (fun x hx => ?_)
  show En x (jvI w) 0 0 0 [(0, .ref a0), (1, .int (oI p1))] [] (cm w) _
  unfold f_X11_waysAt
  refine I_iconst (pc := 0) hx 0 dX11_waysAt_0 ?_
  refine E_istore_n (pc := 1) hx dX11_waysAt_1 rfl (Nat.le_of_ble_eq_true rfl) rfl ?_
  refine I_iconst (pc := 2) hx 0 dX11_waysAt_2 ?_
  refine E_istore_n (pc := 3) hx dX11_waysAt_3 rfl (Nat.le_of_ble_eq_true rfl) rfl ?_
  refine En.sub [2, 3, 1, 0] rfl ?_
  exact l_X11_waysAt_b4 F a0 h0 p1 w hx F 0 0
