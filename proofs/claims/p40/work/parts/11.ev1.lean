set_option maxHeartbeats 4000000 in
set_option maxRecDepth 100000 in
theorem ev_X0_size (F : Nat) (a0 : Nat) (h0 : shK a0 = 10 + 0) (w : aI) : Ev yX0_size cX0_size 1 (some .int) 0 0 (jvI w) [.ref a0] (cm w) (f_X0_size F a0 w) := by
  refine Ev.of (own := RX0) (by decide +kernel) rfl (Nat.le_of_ble_eq_true rfl) (fun x hx => ?_)
  show En x (jvI w) 0 0 0 [(0, .ref a0)] [] (cm w) _
  unfold f_X0_size
  refine E_aload_n (pc := 0) hx 0 dX0_size_0 rfl rfl ?_
  refine I_getI (pc := 1) hx 1 1 rfl fc0 h0 (hx.ci h0 (Nat.le_of_ble_eq_true rfl)) rfl ⟨rfl, rfl, rfl⟩ g71 dX0_size_1 ?_
  exact E_iret (pc := 4) hx dX0_size_4 rfl rfl (Nat.le_of_ble_eq_true rfl)
set_option maxHeartbeats 4000000 in
set_option maxRecDepth 100000 in
theorem ev_X0_get (F : Nat) (a0 : Nat) (h0 : shK a0 = 10 + 0) (p1 : Int) (w : aI) : Ev yX0_get cX0_get 2 (some .int) 0 0 (jvI w) [.ref a0, .int (oI p1)] (cm w) (f_X0_get F a0 p1 w) := by
  refine Ev.of (own := RX0) (by decide +kernel) rfl (Nat.le_of_ble_eq_true rfl) (fun x hx => ?_)
  show En x (jvI w) 0 0 0 [(0, .ref a0), (1, .int (oI p1))] [] (cm w) _
  unfold f_X0_get
  refine E_iload_n (pc := 0) hx 1 dX0_get_0 rfl rfl ?_
  refine E_gd (fun hr1 => ?_)
  refine I_if_lt (pc := 1) hx 30 dX0_get_1 rfl hr1 ?_ ?_
  · refine I_iconst (pc := 30) hx (-1) dX0_get_30 ?_
    exact E_iret (pc := 31) hx dX0_get_31 rfl rfl (Nat.le_of_ble_eq_true rfl)
  refine E_iload_n (pc := 4) hx 1 dX0_get_4 rfl rfl ?_
  refine E_aload_n (pc := 5) hx 0 dX0_get_5 rfl rfl ?_
  refine I_getI (pc := 6) hx 1 1 rfl fc0 h0 (hx.ci h0 (Nat.le_of_ble_eq_true rfl)) rfl ⟨rfl, rfl, rfl⟩ g71 dX0_get_6 ?_
  refine E_gd (fun hr2 => ?_)
  refine I_icmp_ge (pc := 9) hx 30 dX0_get_9 rfl ⟨hr1, hr2⟩ ?_ ?_
  · refine I_iconst (pc := 30) hx (-1) dX0_get_30 ?_
    exact E_iret (pc := 31) hx dX0_get_31 rfl rfl (Nat.le_of_ble_eq_true rfl)
  refine E_iload_n (pc := 12) hx 1 dX0_get_12 rfl rfl ?_
  refine E_aload_n (pc := 13) hx 0 dX0_get_13 rfl rfl ?_
  refine E_getR (pc := 14) hx 0 fc0 h0 (hx.ci h0 (Nat.le_of_ble_eq_true rfl)) rfl ⟨rfl, rfl, rfl⟩ g70 dX0_get_14 ?_
  refine I_alenI (pc := 17) hx (kt_0_0 h0) dX0_get_17 ?_
  refine I_icmp_ge (pc := 18) hx 30 dX0_get_18 rfl ⟨hr1, (shL_rg _)⟩ ?_ ?_
  · refine I_iconst (pc := 30) hx (-1) dX0_get_30 ?_
    exact E_iret (pc := 31) hx dX0_get_31 rfl rfl (Nat.le_of_ble_eq_true rfl)
  refine E_aload_n (pc := 21) hx 0 dX0_get_21 rfl rfl ?_
  refine E_getR (pc := 22) hx 0 fc0 h0 (hx.ci h0 (Nat.le_of_ble_eq_true rfl)) rfl ⟨rfl, rfl, rfl⟩ g70 dX0_get_22 ?_
  refine E_iload_n (pc := 25) hx 1 dX0_get_25 rfl rfl ?_
  refine I_iald (pc := 26) hx (kt_0_0 h0) dX0_get_26 ?_
  refine E_goto (pc := 27) hx 31 dX0_get_27 rfl ?_
  exact E_iret (pc := 31) hx dX0_get_31 rfl rfl (Nat.le_of_ble_eq_true rfl)
set_option maxHeartbeats 4000000 in
set_option maxRecDepth 100000 in
theorem ev_X0_add (F : Nat) (a0 : Nat) (h0 : shK a0 = 10 + 0) (p1 : Int) (w : aI) : Ev yX0_add cX0_add 2 none 0 0 jvV [.ref a0, .int (oI p1)] (cm w) (f_X0_add F a0 p1 w) := by
  refine Ev.of (own := RX0) (by decide +kernel) rfl (Nat.le_of_ble_eq_true rfl) (fun x hx => ?_)
  show En x jvV 0 0 0 [(0, .ref a0), (1, .int (oI p1))] [] (cm w) _
  unfold f_X0_add
  refine E_aload_n (pc := 0) hx 0 dX0_add_0 rfl rfl ?_
  refine I_getI (pc := 1) hx 1 1 rfl fc0 h0 (hx.ci h0 (Nat.le_of_ble_eq_true rfl)) rfl ⟨rfl, rfl, rfl⟩ g71 dX0_add_1 ?_
  refine E_gd (fun hr1 => ?_)
  refine I_if_lt (pc := 4) hx 39 dX0_add_4 rfl hr1 ?_ ?_
  · exact E_vret (pc := 39) hx dX0_add_39 rfl rfl (Nat.le_of_ble_eq_true rfl)
  refine E_aload_n (pc := 7) hx 0 dX0_add_7 rfl rfl ?_
  refine I_getI (pc := 8) hx 1 1 rfl fc0 h0 (hx.ci h0 (Nat.le_of_ble_eq_true rfl)) rfl ⟨rfl, rfl, rfl⟩ g71 dX0_add_8 ?_
  refine E_aload_n (pc := 11) hx 0 dX0_add_11 rfl rfl ?_
  refine E_getR (pc := 12) hx 0 fc0 h0 (hx.ci h0 (Nat.le_of_ble_eq_true rfl)) rfl ⟨rfl, rfl, rfl⟩ g70 dX0_add_12 ?_
  refine I_alenI (pc := 15) hx (kt_0_0 h0) dX0_add_15 ?_
  refine I_icmp_ge (pc := 16) hx 39 dX0_add_16 rfl ⟨hr1, (shL_rg _)⟩ ?_ ?_
  · exact E_vret (pc := 39) hx dX0_add_39 rfl rfl (Nat.le_of_ble_eq_true rfl)
  refine E_aload_n (pc := 19) hx 0 dX0_add_19 rfl rfl ?_
  refine E_getR (pc := 20) hx 0 fc0 h0 (hx.ci h0 (Nat.le_of_ble_eq_true rfl)) rfl ⟨rfl, rfl, rfl⟩ g70 dX0_add_20 ?_
  refine E_aload_n (pc := 23) hx 0 dX0_add_23 rfl rfl ?_
  refine I_getI (pc := 24) hx 1 1 rfl fc0 h0 (hx.ci h0 (Nat.le_of_ble_eq_true rfl)) rfl ⟨rfl, rfl, rfl⟩ g71 dX0_add_24 ?_
  refine E_iload_n (pc := 27) hx 1 dX0_add_27 rfl rfl ?_
  refine I_iast (pc := 28) hx (kt_0_0 h0) dX0_add_28 (fun w2 => ?_)
  refine E_aload_n (pc := 29) hx 0 dX0_add_29 rfl rfl ?_
  refine E_dup (pc := 30) hx dX0_add_30 rfl ?_
  refine I_getI (pc := 31) hx 1 1 rfl fc0 h0 (hx.ci h0 (Nat.le_of_ble_eq_true rfl)) rfl ⟨rfl, rfl, rfl⟩ g71 dX0_add_31 ?_
  refine I_iconst (pc := 34) hx 1 dX0_add_34 ?_
  refine I_iadd (pc := 35) hx dX0_add_35 ?_
  refine I_put (pc := 36) hx 1 1 rfl .int tyX0 fc0 tyX0_ok h0 (hx.ci h0 (Nat.le_of_ble_eq_true rfl)) rfl ⟨rfl, rfl, rfl, rfl, pfd_I⟩ rfl rfl g71 dX0_add_36 (fun w3 => ?_)
  exact E_vret (pc := 39) hx dX0_add_39 rfl rfl (Nat.le_of_ble_eq_true rfl)
set_option maxHeartbeats 4000000 in
set_option maxRecDepth 100000 in
theorem l_X0_addText_b2_b {x : Cx} (F : Nat) (a0 : Nat) (h0 : shK a0 = 10 + 0) (s1 : Nat)  (hx : CxOK x RX0 cX0_addText 3 6 0 none)  (k2 : Int → aI → Option aI) (hk2 : ∀ (v2 : Int) (w : aI), En x jvV 0 0 2 [(0, .ref a0), (1, .ref (sx s1)), (2, .int (oI v2))] [] (cm w) (k2 v2 w)) (v2 : Int) (w : aI) : En x jvV 0 0 2 [(0, .ref a0), (1, .ref (sx s1)), (2, .int (oI v2))] [] (cm w) (f_X0_addText_b2_b F a0 s1   k2 v2 w) := by
  unfold f_X0_addText_b2_b
  refine E_iload_n (pc := 2) hx 2 dX0_addText_2 rfl rfl ?_
  refine E_aload_n (pc := 3) hx 1 dX0_addText_3 rfl rfl ?_
  refine I_strlen (pc := 4) hx [.int (oI v2)] g264 dX0_addText_4 (Nat.le_of_ble_eq_true rfl) (Nat.le_of_ble_eq_true rfl) (Nat.le_of_ble_eq_true rfl) (fun r1 => ?_)
  refine E_gd (fun hr2 => ?_)
  refine I_icmp_ge (pc := 7) hx 25 dX0_addText_7 rfl ⟨hr2.1, hr2.2⟩ ?_ ?_
  · exact E_vret (pc := 25) hx dX0_addText_25 rfl rfl (Nat.le_of_ble_eq_true rfl)
  refine E_aload_n (pc := 10) hx 0 dX0_addText_10 rfl rfl ?_
  refine E_aload_n (pc := 11) hx 1 dX0_addText_11 rfl rfl ?_
  refine E_iload_n (pc := 12) hx 2 dX0_addText_12 rfl rfl ?_
  refine I_strchr (pc := 13) hx [.ref a0] g274 dX0_addText_13 (Nat.le_of_ble_eq_true rfl) (Nat.le_of_ble_eq_true rfl) (Nat.le_of_ble_eq_true rfl) (fun r3 => ?_)
  refine I_cVV  (pc := 16) hx [.int (oI r3)] [] (ev_X0_add F a0 h0 r3 w) vm_X0_add fc0 h0 (hx.ci h0 (Nat.le_of_ble_eq_true rfl)) g312 dX0_addText_16 rfl rfl (Nat.le_of_ble_eq_true rfl) (Nat.le_of_ble_eq_true rfl) (Nat.le_of_ble_eq_true rfl) (fun w4 => ?_)
  refine I_iinc (pc := 19) hx 1 2 dX0_addText_19 rfl (Nat.le_of_ble_eq_true rfl) rfl ?_
  refine E_goto (pc := 22) hx 2 dX0_addText_22 rfl ?_
  refine En.sub [1, 2, 0] rfl ?_
  exact hk2 (v2 + 1) w4
theorem l_X0_addText_b2 {x : Cx} (F : Nat) (a0 : Nat) (h0 : shK a0 = 10 + 0) (s1 : Nat)  (hx : CxOK x RX0 cX0_addText 3 6 0 none)  : ∀ (n : Nat) (v2 : Int) (w : aI), En x jvV 0 0 2 [(0, .ref a0), (1, .ref (sx s1)), (2, .int (oI v2))] [] (cm w) (f_X0_addText_b2 F a0 s1   n v2 w) := by
  intro n
  induction n with
  | zero => intro v2 w; exact E_none
  | succ n ih => intro v2 w; exact l_X0_addText_b2_b F a0 h0 s1  hx  _ ih v2 w
set_option maxHeartbeats 4000000 in
set_option maxRecDepth 100000 in
theorem ev_X0_addText (F : Nat) (a0 : Nat) (h0 : shK a0 = 10 + 0) (s1 : Nat) (w : aI) : Ev yX0_addText cX0_addText 3 none 6 0 jvV [.ref a0, .ref (sx s1)] (cm w) (f_X0_addText F a0 s1 w) := by
  refine Ev.of (own := RX0) (by decide +kernel) rfl (Nat.le_of_ble_eq_true rfl) (fun x hx => ?_)
  show En x jvV 0 0 0 [(0, .ref a0), (1, .ref (sx s1))] [] (cm w) _
  unfold f_X0_addText
  refine I_iconst (pc := 0) hx 0 dX0_addText_0 ?_
  refine E_istore_n (pc := 1) hx dX0_addText_1 rfl (Nat.le_of_ble_eq_true rfl) rfl ?_
  refine En.sub [1, 2, 0] rfl ?_
  exact l_X0_addText_b2 F a0 h0 s1 hx F 0 w
set_option maxHeartbeats 4000000 in
set_option maxRecDepth 100000 in
theorem ev_X0_cutTo (F : Nat) (a0 : Nat) (h0 : shK a0 = 10 + 0) (p1 : Int) (w : aI) : Ev yX0_cutTo cX0_cutTo 2 (some .boolean) 0 0 jvBW [.ref a0, .int (oI p1)] (cm w) (f_X0_cutTo F a0 p1 w) := by
  refine Ev.of (own := RX0) (by decide +kernel) rfl (Nat.le_of_ble_eq_true rfl) (fun x hx => ?_)
  show En x jvBW 0 0 0 [(0, .ref a0), (1, .int (oI p1))] [] (cm w) _
  unfold f_X0_cutTo
  refine E_iload_n (pc := 0) hx 1 dX0_cutTo_0 rfl rfl ?_
  refine E_gd (fun hr1 => ?_)
  refine I_if_lt (pc := 1) hx 12 dX0_cutTo_1 rfl hr1 ?_ ?_
  · refine I_iconst (pc := 12) hx 0 dX0_cutTo_12 ?_
    exact E_zret (pc := 13) hx dX0_cutTo_13 rfl rfl rfl (Nat.le_of_ble_eq_true rfl)
  refine E_iload_n (pc := 4) hx 1 dX0_cutTo_4 rfl rfl ?_
  refine E_aload_n (pc := 5) hx 0 dX0_cutTo_5 rfl rfl ?_
  refine I_getI (pc := 6) hx 1 1 rfl fc0 h0 (hx.ci h0 (Nat.le_of_ble_eq_true rfl)) rfl ⟨rfl, rfl, rfl⟩ g71 dX0_cutTo_6 ?_
  refine E_gd (fun hr2 => ?_)
  refine I_icmp_le (pc := 9) hx 14 dX0_cutTo_9 rfl ⟨hr1, hr2⟩ ?_ ?_
  · refine E_aload_n (pc := 14) hx 0 dX0_cutTo_14 rfl rfl ?_
    refine E_iload_n (pc := 15) hx 1 dX0_cutTo_15 rfl rfl ?_
    refine I_put (pc := 16) hx 1 1 rfl .int tyX0 fc0 tyX0_ok h0 (hx.ci h0 (Nat.le_of_ble_eq_true rfl)) rfl ⟨rfl, rfl, rfl, rfl, pfd_I⟩ rfl rfl g71 dX0_cutTo_16 (fun w3 => ?_)
    refine I_iconst (pc := 19) hx 1 dX0_cutTo_19 ?_
    exact E_zret (pc := 20) hx dX0_cutTo_20 rfl rfl rfl (Nat.le_of_ble_eq_true rfl)
  refine I_iconst (pc := 12) hx 0 dX0_cutTo_12 ?_
  exact E_zret (pc := 13) hx dX0_cutTo_13 rfl rfl rfl (Nat.le_of_ble_eq_true rfl)
set_option maxHeartbeats 4000000 in
set_option maxRecDepth 100000 in
theorem ev_X0_clear (F : Nat) (a0 : Nat) (h0 : shK a0 = 10 + 0) (w : aI) : Ev yX0_clear cX0_clear 1 none 0 0 jvV [.ref a0] (cm w) (f_X0_clear F a0 w) := by
  refine Ev.of (own := RX0) (by decide +kernel) rfl (Nat.le_of_ble_eq_true rfl) (fun x hx => ?_)
  show En x jvV 0 0 0 [(0, .ref a0)] [] (cm w) _
  unfold f_X0_clear
  refine E_aload_n (pc := 0) hx 0 dX0_clear_0 rfl rfl ?_
  refine I_iconst (pc := 1) hx 0 dX0_clear_1 ?_
  refine I_put (pc := 2) hx 1 1 rfl .int tyX0 fc0 tyX0_ok h0 (hx.ci h0 (Nat.le_of_ble_eq_true rfl)) rfl ⟨rfl, rfl, rfl, rfl, pfd_I⟩ rfl rfl g71 dX0_clear_2 (fun w1 => ?_)
  exact E_vret (pc := 5) hx dX0_clear_5 rfl rfl (Nat.le_of_ble_eq_true rfl)
set_option maxHeartbeats 4000000 in
set_option maxRecDepth 100000 in
theorem ev_X1_size (F : Nat) (a0 : Nat) (h0 : shK a0 = 10 + 1) (w : aI) : Ev yX1_size cX1_size 1 (some .int) 0 0 (jvI w) [.ref a0] (cm w) (f_X1_size F a0 w) := by
  refine Ev.of (own := RX1) (by decide +kernel) rfl (Nat.le_of_ble_eq_true rfl) (fun x hx => ?_)
  show En x (jvI w) 0 0 0 [(0, .ref a0)] [] (cm w) _
  unfold f_X1_size
  refine E_aload_n (pc := 0) hx 0 dX1_size_0 rfl rfl ?_
  refine I_getI (pc := 1) hx 2 2 rfl fc1 h0 (hx.ci h0 (Nat.le_of_ble_eq_true rfl)) rfl ⟨rfl, rfl, rfl⟩ g188 dX1_size_1 ?_
  exact E_iret (pc := 4) hx dX1_size_4 rfl rfl (Nat.le_of_ble_eq_true rfl)
set_option maxHeartbeats 4000000 in
set_option maxRecDepth 100000 in
theorem ev_X1_forget (F : Nat) (a0 : Nat) (h0 : shK a0 = 10 + 1) (w : aI) : Ev yX1_forget cX1_forget 1 none 0 0 jvV [.ref a0] (cm w) (f_X1_forget F a0 w) := by
  refine Ev.of (own := RX1) (by decide +kernel) rfl (Nat.le_of_ble_eq_true rfl) (fun x hx => ?_)
  show En x jvV 0 0 0 [(0, .ref a0)] [] (cm w) _
  unfold f_X1_forget
  refine E_aload_n (pc := 0) hx 0 dX1_forget_0 rfl rfl ?_
  refine I_iconst (pc := 1) hx 0 dX1_forget_1 ?_
  refine I_put (pc := 2) hx 2 2 rfl .int tyX1 fc1 tyX1_ok h0 (hx.ci h0 (Nat.le_of_ble_eq_true rfl)) rfl ⟨rfl, rfl, rfl, rfl, pfd_I⟩ rfl rfl g188 dX1_forget_2 (fun w1 => ?_)
  exact E_vret (pc := 5) hx dX1_forget_5 rfl rfl (Nat.le_of_ble_eq_true rfl)
set_option maxHeartbeats 4000000 in
set_option maxRecDepth 100000 in
theorem ev_X1_postAt (F : Nat) (a0 : Nat) (h0 : shK a0 = 10 + 1) (p1 : Int) (w : aI) : Ev yX1_postAt cX1_postAt 3 (some (.object "WhistlePosts$Post")) 0 0 (jvP w) [.ref a0, .int (oI p1)] (cm w) (f_X1_postAt F a0 p1 w) := by
  refine Ev.of (own := RX1) (by decide +kernel) rfl (Nat.le_of_ble_eq_true rfl) (fun x hx => ?_)
  show En x (jvP w) 0 0 0 [(0, .ref a0), (1, .int (oI p1))] [] (cm w) _
  unfold f_X1_postAt
  refine E_aload_n (pc := 0) hx 0 dX1_postAt_0 rfl rfl ?_
  refine I_getI (pc := 1) hx 1 1 rfl fc1 h0 (hx.ci h0 (Nat.le_of_ble_eq_true rfl)) rfl ⟨rfl, rfl, rfl⟩ g187 dX1_postAt_1 ?_
  refine E_iload_n (pc := 4) hx 1 dX1_postAt_4 rfl rfl ?_
  refine I_iadd (pc := 5) hx dX1_postAt_5 ?_
  refine I_bipush (pc := 6) hx 8 dX1_postAt_6 rfl ?_
  refine E_gd (fun hr1 => ?_)
  refine I_irem (pc := 8) hx dX1_postAt_8 ⟨hr1, (by decide), (by decide)⟩ ?_
  refine I_ltv (fun v2_2 => ?_)
  refine E_istore_n (pc := 9) hx dX1_postAt_9 rfl (Nat.le_of_ble_eq_true rfl) rfl ?_
  refine E_iload_n (pc := 10) hx 0 dX1_postAt_10 rfl rfl ?_
  refine E_gd (fun hr3 => ?_)
  refine I_if_lt (pc := 11) hx 32 dX1_postAt_11 rfl hr3 ?_ ?_
  · refine E_anull (pc := 32) hx dX1_postAt_32 ?_
    exact E_aret (pc := 33) hx dX1_postAt_33 rfl (Or.inl ⟨_, rfl⟩) (Or.inl rfl) rfl (Nat.le_of_ble_eq_true rfl)
  refine E_iload_n (pc := 14) hx 0 dX1_postAt_14 rfl rfl ?_
  refine E_aload_n (pc := 15) hx 1 dX1_postAt_15 rfl rfl ?_
  refine E_getR (pc := 16) hx 0 fc1 h0 (hx.ci h0 (Nat.le_of_ble_eq_true rfl)) rfl ⟨rfl, rfl, rfl⟩ g186 dX1_postAt_16 ?_
  refine I_alenA (pc := 19) hx (kt_1_0 h0) dX1_postAt_19 ?_
  refine I_icmp_ge (pc := 20) hx 32 dX1_postAt_20 rfl ⟨hr3, (shL_rg _)⟩ ?_ ?_
  · refine E_anull (pc := 32) hx dX1_postAt_32 ?_
    exact E_aret (pc := 33) hx dX1_postAt_33 rfl (Or.inl ⟨_, rfl⟩) (Or.inl rfl) rfl (Nat.le_of_ble_eq_true rfl)
  refine E_aload_n (pc := 23) hx 1 dX1_postAt_23 rfl rfl ?_
  refine E_getR (pc := 24) hx 0 fc1 h0 (hx.ci h0 (Nat.le_of_ble_eq_true rfl)) rfl ⟨rfl, rfl, rfl⟩ g186 dX1_postAt_24 ?_
  refine E_iload_n (pc := 27) hx 0 dX1_postAt_27 rfl rfl ?_
  refine I_aald (pc := 28) hx (kt_1_0 h0) dX1_postAt_28 ?_
  refine E_goto (pc := 29) hx 33 dX1_postAt_29 rfl ?_
  exact E_aret (pc := 33) hx dX1_postAt_33 rfl (Or.inl ⟨_, rfl⟩) (Or.inr ⟨_, rfl⟩) rfl (Nat.le_of_ble_eq_true rfl)
set_option maxHeartbeats 4000000 in
set_option maxRecDepth 100000 in
theorem ev_X7_copyFrom (F : Nat) (a0 : Nat) (h0 : shK a0 = 10 + 6) (a1 : Nat) (h1 : shK a1 = 10 + 6) (w : aI) : Ev yX7_copyFrom cX7_copyFrom 2 none 3 0 jvV [.ref a0, .ref a1] (cm w) (f_X7_copyFrom F a0 a1 w) := by
  refine Ev.of (own := RX7) (by decide +kernel) rfl (Nat.le_of_ble_eq_true rfl) (fun x hx => ?_)
  show En x jvV 0 0 0 [(0, .ref a0), (1, .ref a1)] [] (cm w) _
  unfold f_X7_copyFrom
  refine E_aload_n (pc := 0) hx 1 dX7_copyFrom_0 rfl rfl ?_
  refine E_getR (pc := 1) hx 2 fc6 h1 (hx.ci h1 (Nat.le_of_ble_eq_true rfl)) rfl ⟨rfl, rfl, rfl⟩ g92 dX7_copyFrom_1 ?_
  refine I_iconst (pc := 4) hx 0 dX7_copyFrom_4 ?_
  refine E_aload_n (pc := 5) hx 0 dX7_copyFrom_5 rfl rfl ?_
  refine E_getR (pc := 6) hx 2 fc6 h0 (hx.ci h0 (Nat.le_of_ble_eq_true rfl)) rfl ⟨rfl, rfl, rfl⟩ g92 dX7_copyFrom_6 ?_
  refine I_iconst (pc := 9) hx 0 dX7_copyFrom_9 ?_
  refine E_aload_n (pc := 10) hx 0 dX7_copyFrom_10 rfl rfl ?_
  refine E_getR (pc := 11) hx 2 fc6 h0 (hx.ci h0 (Nat.le_of_ble_eq_true rfl)) rfl ⟨rfl, rfl, rfl⟩ g92 dX7_copyFrom_11 ?_
  refine I_alenI (pc := 14) hx (kt_6_2 h0) dX7_copyFrom_14 ?_
  refine E_aload_n (pc := 15) hx 1 dX7_copyFrom_15 rfl rfl ?_
  refine E_getR (pc := 16) hx 2 fc6 h1 (hx.ci h1 (Nat.le_of_ble_eq_true rfl)) rfl ⟨rfl, rfl, rfl⟩ g92 dX7_copyFrom_16 ?_
  refine I_alenI (pc := 19) hx (kt_6_2 h1) dX7_copyFrom_19 ?_
  refine I_mmin (pc := 20) hx ⟨(shL_rg _), (shL_rg _)⟩ g481 g482 g40 g483 (Nat.le_of_ble_eq_true rfl) (Nat.le_of_ble_eq_true rfl) (Nat.le_of_ble_eq_true rfl) dX7_copyFrom_20 ?_
  refine I_copy (pc := 23) hx (kt_6_2 h1) (kt_6_2 h0) g484 g486 g485 g41 (Nat.le_of_ble_eq_true rfl) (Nat.le_of_ble_eq_true rfl) dX7_copyFrom_23 (fun w1 => ?_)
  exact E_vret (pc := 26) hx dX7_copyFrom_26 rfl rfl (Nat.le_of_ble_eq_true rfl)
set_option maxHeartbeats 4000000 in
set_option maxRecDepth 100000 in
theorem ev_X3_copyFrom (F : Nat) (a0 : Nat) (h0 : shK a0 = 10 + 3) (a1 : Nat) (h1 : shK a1 = 10 + 3) (w : aI) : Ev yX3_copyFrom cX3_copyFrom 2 none 4 0 jvV [.ref a0, .ref a1] (cm w) (f_X3_copyFrom F a0 a1 w) := by
  refine Ev.of (own := RX3) (by decide +kernel) rfl (Nat.le_of_ble_eq_true rfl) (fun x hx => ?_)
  show En x jvV 0 0 0 [(0, .ref a0), (1, .ref a1)] [] (cm w) _
  unfold f_X3_copyFrom
  refine E_aload_n (pc := 0) hx 0 dX3_copyFrom_0 rfl rfl ?_
  refine E_getR (pc := 1) hx 0 fc3 h0 (hx.ci h0 (Nat.le_of_ble_eq_true rfl)) rfl ⟨rfl, rfl, rfl⟩ g108 dX3_copyFrom_1 ?_
  refine E_aload_n (pc := 4) hx 1 dX3_copyFrom_4 rfl rfl ?_
  refine E_getR (pc := 5) hx 0 fc3 h1 (hx.ci h1 (Nat.le_of_ble_eq_true rfl)) rfl ⟨rfl, rfl, rfl⟩ g108 dX3_copyFrom_5 ?_
  refine I_cVV  (pc := 8) hx [.ref (shR a1 0)] [] (ev_X7_copyFrom F (shR a0 0) (kt_3_0 h0) (shR a1 0) (kt_3_0 h1) w) vm_X7_copyFrom fc6 (kt_3_0 h0) (hx.ci (kt_3_0 h0) (Nat.le_of_ble_eq_true rfl)) g491 dX3_copyFrom_8 rfl rfl (Nat.le_of_ble_eq_true rfl) (Nat.le_of_ble_eq_true rfl) (Nat.le_of_ble_eq_true rfl) (fun w1 => ?_)
  refine E_aload_n (pc := 11) hx 0 dX3_copyFrom_11 rfl rfl ?_
  refine E_getR (pc := 12) hx 1 fc3 h0 (hx.ci h0 (Nat.le_of_ble_eq_true rfl)) rfl ⟨rfl, rfl, rfl⟩ g110 dX3_copyFrom_12 ?_
  refine E_aload_n (pc := 15) hx 1 dX3_copyFrom_15 rfl rfl ?_
  refine E_getR (pc := 16) hx 1 fc3 h1 (hx.ci h1 (Nat.le_of_ble_eq_true rfl)) rfl ⟨rfl, rfl, rfl⟩ g110 dX3_copyFrom_16 ?_
  refine I_cVV  (pc := 19) hx [.ref (shR a1 1)] [] (ev_X7_copyFrom F (shR a0 1) (kt_3_1 h0) (shR a1 1) (kt_3_1 h1) w1) vm_X7_copyFrom fc6 (kt_3_1 h0) (hx.ci (kt_3_1 h0) (Nat.le_of_ble_eq_true rfl)) g491 dX3_copyFrom_19 rfl rfl (Nat.le_of_ble_eq_true rfl) (Nat.le_of_ble_eq_true rfl) (Nat.le_of_ble_eq_true rfl) (fun w2 => ?_)
  refine E_aload_n (pc := 22) hx 0 dX3_copyFrom_22 rfl rfl ?_
  refine E_getR (pc := 23) hx 2 fc3 h0 (hx.ci h0 (Nat.le_of_ble_eq_true rfl)) rfl ⟨rfl, rfl, rfl⟩ g112 dX3_copyFrom_23 ?_
  refine E_aload_n (pc := 26) hx 1 dX3_copyFrom_26 rfl rfl ?_
  refine E_getR (pc := 27) hx 2 fc3 h1 (hx.ci h1 (Nat.le_of_ble_eq_true rfl)) rfl ⟨rfl, rfl, rfl⟩ g112 dX3_copyFrom_27 ?_
  refine I_cVV  (pc := 30) hx [.ref (shR a1 2)] [] (ev_X7_copyFrom F (shR a0 2) (kt_3_2 h0) (shR a1 2) (kt_3_2 h1) w2) vm_X7_copyFrom fc6 (kt_3_2 h0) (hx.ci (kt_3_2 h0) (Nat.le_of_ble_eq_true rfl)) g491 dX3_copyFrom_30 rfl rfl (Nat.le_of_ble_eq_true rfl) (Nat.le_of_ble_eq_true rfl) (Nat.le_of_ble_eq_true rfl) (fun w3 => ?_)
  exact E_vret (pc := 33) hx dX3_copyFrom_33 rfl rfl (Nat.le_of_ble_eq_true rfl)
set_option maxHeartbeats 4000000 in
set_option maxRecDepth 100000 in
theorem ev_X2_copyFrom (F : Nat) (a0 : Nat) (h0 : shK a0 = 10 + 2) (a1 : Nat) (h1 : shK a1 = 10 + 2) (w : aI) : Ev yX2_copyFrom cX2_copyFrom 2 none 5 0 jvV [.ref a0, .ref a1] (cm w) (f_X2_copyFrom F a0 a1 w) := by
  refine Ev.of (own := RX2) (by decide +kernel) rfl (Nat.le_of_ble_eq_true rfl) (fun x hx => ?_)
  show En x jvV 0 0 0 [(0, .ref a0), (1, .ref a1)] [] (cm w) _
  unfold f_X2_copyFrom
  refine E_aload_n (pc := 0) hx 0 dX2_copyFrom_0 rfl rfl ?_
  refine E_aload_n (pc := 1) hx 1 dX2_copyFrom_1 rfl rfl ?_
  refine I_getI (pc := 2) hx 0 0 rfl fc2 h1 (hx.ci h1 (Nat.le_of_ble_eq_true rfl)) rfl ⟨rfl, rfl, rfl⟩ g122 dX2_copyFrom_2 ?_
  refine I_put (pc := 5) hx 0 0 rfl .int tyX2 fc2 tyX2_ok h0 (hx.ci h0 (Nat.le_of_ble_eq_true rfl)) rfl ⟨rfl, rfl, rfl, rfl, pfd_I⟩ rfl rfl g122 dX2_copyFrom_5 (fun w1 => ?_)
  refine E_aload_n (pc := 8) hx 0 dX2_copyFrom_8 rfl rfl ?_
  refine E_aload_n (pc := 9) hx 1 dX2_copyFrom_9 rfl rfl ?_
  refine I_getI (pc := 10) hx 1 1 rfl fc2 h1 (hx.ci h1 (Nat.le_of_ble_eq_true rfl)) rfl ⟨rfl, rfl, rfl⟩ g124 dX2_copyFrom_10 ?_
  refine I_put (pc := 13) hx 1 1 rfl .int tyX2 fc2 tyX2_ok h0 (hx.ci h0 (Nat.le_of_ble_eq_true rfl)) rfl ⟨rfl, rfl, rfl, rfl, pfd_I⟩ rfl rfl g124 dX2_copyFrom_13 (fun w2 => ?_)
  refine E_aload_n (pc := 16) hx 0 dX2_copyFrom_16 rfl rfl ?_
  refine E_aload_n (pc := 17) hx 1 dX2_copyFrom_17 rfl rfl ?_
  refine I_getI (pc := 18) hx 2 2 rfl fc2 h1 (hx.ci h1 (Nat.le_of_ble_eq_true rfl)) rfl ⟨rfl, rfl, rfl⟩ g130 dX2_copyFrom_18 ?_
  refine I_put (pc := 21) hx 2 2 rfl .int tyX2 fc2 tyX2_ok h0 (hx.ci h0 (Nat.le_of_ble_eq_true rfl)) rfl ⟨rfl, rfl, rfl, rfl, pfd_I⟩ rfl rfl g130 dX2_copyFrom_21 (fun w3 => ?_)
  refine E_aload_n (pc := 24) hx 0 dX2_copyFrom_24 rfl rfl ?_
  refine E_aload_n (pc := 25) hx 1 dX2_copyFrom_25 rfl rfl ?_
  refine I_getI (pc := 26) hx 3 3 rfl fc2 h1 (hx.ci h1 (Nat.le_of_ble_eq_true rfl)) rfl ⟨rfl, rfl, rfl⟩ g134 dX2_copyFrom_26 ?_
  refine I_put (pc := 29) hx 3 3 rfl .int tyX2 fc2 tyX2_ok h0 (hx.ci h0 (Nat.le_of_ble_eq_true rfl)) rfl ⟨rfl, rfl, rfl, rfl, pfd_I⟩ rfl rfl g134 dX2_copyFrom_29 (fun w4 => ?_)
  refine E_aload_n (pc := 32) hx 0 dX2_copyFrom_32 rfl rfl ?_
  refine E_getR (pc := 33) hx 4 fc2 h0 (hx.ci h0 (Nat.le_of_ble_eq_true rfl)) rfl ⟨rfl, rfl, rfl⟩ g138 dX2_copyFrom_33 ?_
  refine E_aload_n (pc := 36) hx 1 dX2_copyFrom_36 rfl rfl ?_
  refine E_getR (pc := 37) hx 4 fc2 h1 (hx.ci h1 (Nat.le_of_ble_eq_true rfl)) rfl ⟨rfl, rfl, rfl⟩ g138 dX2_copyFrom_37 ?_
  refine I_cVV  (pc := 40) hx [.ref (shR a1 4)] [] (ev_X7_copyFrom F (shR a0 4) (kt_2_4 h0) (shR a1 4) (kt_2_4 h1) w4) vm_X7_copyFrom fc6 (kt_2_4 h0) (hx.ci (kt_2_4 h0) (Nat.le_of_ble_eq_true rfl)) g477 dX2_copyFrom_40 rfl rfl (Nat.le_of_ble_eq_true rfl) (Nat.le_of_ble_eq_true rfl) (Nat.le_of_ble_eq_true rfl) (fun w5 => ?_)
  refine E_aload_n (pc := 43) hx 0 dX2_copyFrom_43 rfl rfl ?_
  refine E_getR (pc := 44) hx 5 fc2 h0 (hx.ci h0 (Nat.le_of_ble_eq_true rfl)) rfl ⟨rfl, rfl, rfl⟩ g142 dX2_copyFrom_44 ?_
  refine E_aload_n (pc := 47) hx 1 dX2_copyFrom_47 rfl rfl ?_
  refine E_getR (pc := 48) hx 5 fc2 h1 (hx.ci h1 (Nat.le_of_ble_eq_true rfl)) rfl ⟨rfl, rfl, rfl⟩ g142 dX2_copyFrom_48 ?_
  refine I_cVV  (pc := 51) hx [.ref (shR a1 5)] [] (ev_X7_copyFrom F (shR a0 5) (kt_2_5 h0) (shR a1 5) (kt_2_5 h1) w5) vm_X7_copyFrom fc6 (kt_2_5 h0) (hx.ci (kt_2_5 h0) (Nat.le_of_ble_eq_true rfl)) g477 dX2_copyFrom_51 rfl rfl (Nat.le_of_ble_eq_true rfl) (Nat.le_of_ble_eq_true rfl) (Nat.le_of_ble_eq_true rfl) (fun w6 => ?_)
  refine E_aload_n (pc := 54) hx 0 dX2_copyFrom_54 rfl rfl ?_
  refine E_getR (pc := 55) hx 6 fc2 h0 (hx.ci h0 (Nat.le_of_ble_eq_true rfl)) rfl ⟨rfl, rfl, rfl⟩ g144 dX2_copyFrom_55 ?_
  refine E_aload_n (pc := 58) hx 1 dX2_copyFrom_58 rfl rfl ?_
  refine E_getR (pc := 59) hx 6 fc2 h1 (hx.ci h1 (Nat.le_of_ble_eq_true rfl)) rfl ⟨rfl, rfl, rfl⟩ g144 dX2_copyFrom_59 ?_
  refine I_cVV  (pc := 62) hx [.ref (shR a1 6)] [] (ev_X7_copyFrom F (shR a0 6) (kt_2_6 h0) (shR a1 6) (kt_2_6 h1) w6) vm_X7_copyFrom fc6 (kt_2_6 h0) (hx.ci (kt_2_6 h0) (Nat.le_of_ble_eq_true rfl)) g477 dX2_copyFrom_62 rfl rfl (Nat.le_of_ble_eq_true rfl) (Nat.le_of_ble_eq_true rfl) (Nat.le_of_ble_eq_true rfl) (fun w7 => ?_)
  refine E_aload_n (pc := 65) hx 0 dX2_copyFrom_65 rfl rfl ?_
  refine E_getR (pc := 66) hx 7 fc2 h0 (hx.ci h0 (Nat.le_of_ble_eq_true rfl)) rfl ⟨rfl, rfl, rfl⟩ g148 dX2_copyFrom_66 ?_
  refine E_aload_n (pc := 69) hx 1 dX2_copyFrom_69 rfl rfl ?_
  refine E_getR (pc := 70) hx 7 fc2 h1 (hx.ci h1 (Nat.le_of_ble_eq_true rfl)) rfl ⟨rfl, rfl, rfl⟩ g148 dX2_copyFrom_70 ?_
  refine I_cVV  (pc := 73) hx [.ref (shR a1 7)] [] (ev_X7_copyFrom F (shR a0 7) (kt_2_7 h0) (shR a1 7) (kt_2_7 h1) w7) vm_X7_copyFrom fc6 (kt_2_7 h0) (hx.ci (kt_2_7 h0) (Nat.le_of_ble_eq_true rfl)) g477 dX2_copyFrom_73 rfl rfl (Nat.le_of_ble_eq_true rfl) (Nat.le_of_ble_eq_true rfl) (Nat.le_of_ble_eq_true rfl) (fun w8 => ?_)
  refine E_aload_n (pc := 76) hx 0 dX2_copyFrom_76 rfl rfl ?_
  refine E_getR (pc := 77) hx 8 fc2 h0 (hx.ci h0 (Nat.le_of_ble_eq_true rfl)) rfl ⟨rfl, rfl, rfl⟩ g149 dX2_copyFrom_77 ?_
  refine E_aload_n (pc := 80) hx 1 dX2_copyFrom_80 rfl rfl ?_
  refine E_getR (pc := 81) hx 8 fc2 h1 (hx.ci h1 (Nat.le_of_ble_eq_true rfl)) rfl ⟨rfl, rfl, rfl⟩ g149 dX2_copyFrom_81 ?_
  refine I_cVV  (pc := 84) hx [.ref (shR a1 8)] [] (ev_X7_copyFrom F (shR a0 8) (kt_2_8 h0) (shR a1 8) (kt_2_8 h1) w8) vm_X7_copyFrom fc6 (kt_2_8 h0) (hx.ci (kt_2_8 h0) (Nat.le_of_ble_eq_true rfl)) g477 dX2_copyFrom_84 rfl rfl (Nat.le_of_ble_eq_true rfl) (Nat.le_of_ble_eq_true rfl) (Nat.le_of_ble_eq_true rfl) (fun w9 => ?_)
  refine E_aload_n (pc := 87) hx 0 dX2_copyFrom_87 rfl rfl ?_
  refine E_getR (pc := 88) hx 9 fc2 h0 (hx.ci h0 (Nat.le_of_ble_eq_true rfl)) rfl ⟨rfl, rfl, rfl⟩ g152 dX2_copyFrom_88 ?_
  refine E_aload_n (pc := 91) hx 1 dX2_copyFrom_91 rfl rfl ?_
  refine E_getR (pc := 92) hx 9 fc2 h1 (hx.ci h1 (Nat.le_of_ble_eq_true rfl)) rfl ⟨rfl, rfl, rfl⟩ g152 dX2_copyFrom_92 ?_
  refine I_cVV  (pc := 95) hx [.ref (shR a1 9)] [] (ev_X3_copyFrom F (shR a0 9) (kt_2_9 h0) (shR a1 9) (kt_2_9 h1) w9) vm_X3_copyFrom fc3 (kt_2_9 h0) (hx.ci (kt_2_9 h0) (Nat.le_of_ble_eq_true rfl)) g487 dX2_copyFrom_95 rfl rfl (Nat.le_of_ble_eq_true rfl) (Nat.le_of_ble_eq_true rfl) (Nat.le_of_ble_eq_true rfl) (fun w10 => ?_)
  exact E_vret (pc := 98) hx dX2_copyFrom_98 rfl rfl (Nat.le_of_ble_eq_true rfl)
set_option maxHeartbeats 4000000 in
set_option maxRecDepth 100000 in
theorem l_X1_keep_b28 {x : Cx} (F : Nat) (a0 : Nat) (h0 : shK a0 = 10 + 1) (a1 : Nat) (h1 : shK a1 = 10 + 2)  (hx : CxOK x RX1 cX1_keep 3 6 0 none)    (w : aI) : En x jvV 0 0 28 [(0, .ref a0), (1, .ref a1)] [] (cm w) (f_X1_keep_b28 F a0 a1    w) := by
  unfold f_X1_keep_b28
  refine E_aload_n (pc := 28) hx 0 dX1_keep_28 rfl rfl ?_
  refine E_aload_n (pc := 29) hx 0 dX1_keep_29 rfl rfl ?_
  refine I_getI (pc := 30) hx 2 2 rfl fc1 h0 (hx.ci h0 (Nat.le_of_ble_eq_true rfl)) rfl ⟨rfl, rfl, rfl⟩ g188 dX1_keep_30 ?_
  refine I_cVP  (pc := 33) hx [.int (oI (w a0 2))] [] (ev_X1_postAt F a0 h0 (w a0 2) w) vm_X1_postAt fc1 h0 (hx.ci h0 (Nat.le_of_ble_eq_true rfl)) g786 dX1_keep_33 rfl rfl (Nat.le_of_ble_eq_true rfl) (Nat.le_of_ble_eq_true rfl) (Nat.le_of_ble_eq_true rfl) (fun o2 => ?_)
  refine E_oc E_none (fun q3 => ?_)
  refine E_gd (fun hq4 => ?_)
  refine E_astore_n (pc := 36) hx dX1_keep_36 rfl (Nat.le_of_ble_eq_true rfl) rfl ?_
  refine E_aload_n (pc := 37) hx 0 dX1_keep_37 rfl rfl ?_
  refine E_ifnull (pc := 38) hx dX1_keep_38 ?_
  refine E_aload_n (pc := 41) hx 0 dX1_keep_41 rfl rfl ?_
  refine E_aload_n (pc := 42) hx 2 dX1_keep_42 rfl rfl ?_
  refine I_cVV  (pc := 43) hx [.ref a1] [] (ev_X2_copyFrom F q3 hq4 a1 h1 w) vm_X2_copyFrom fc2 hq4 (hx.ci hq4 (Nat.le_of_ble_eq_true rfl)) g790 dX1_keep_43 rfl rfl (Nat.le_of_ble_eq_true rfl) (Nat.le_of_ble_eq_true rfl) (Nat.le_of_ble_eq_true rfl) (fun w5 => ?_)
  refine E_aload_n (pc := 46) hx 1 dX1_keep_46 rfl rfl ?_
  refine E_dup (pc := 47) hx dX1_keep_47 rfl ?_
  refine I_getI (pc := 48) hx 2 2 rfl fc1 h0 (hx.ci h0 (Nat.le_of_ble_eq_true rfl)) rfl ⟨rfl, rfl, rfl⟩ g188 dX1_keep_48 ?_
  refine I_iconst (pc := 51) hx 1 dX1_keep_51 ?_
  refine I_iadd (pc := 52) hx dX1_keep_52 ?_
  refine I_put (pc := 53) hx 2 2 rfl .int tyX1 fc1 tyX1_ok h0 (hx.ci h0 (Nat.le_of_ble_eq_true rfl)) rfl ⟨rfl, rfl, rfl, rfl, pfd_I⟩ rfl rfl g188 dX1_keep_53 (fun w6 => ?_)
  exact E_vret (pc := 56) hx dX1_keep_56 rfl rfl (Nat.le_of_ble_eq_true rfl)
set_option maxHeartbeats 4000000 in
set_option maxRecDepth 100000 in
theorem ev_X1_keep (F : Nat) (a0 : Nat) (h0 : shK a0 = 10 + 1) (a1 : Nat) (h1 : shK a1 = 10 + 2) (w : aI) : Ev yX1_keep cX1_keep 3 none 6 0 jvV [.ref a0, .ref a1] (cm w) (f_X1_keep F a0 a1 w) := by
  refine Ev.of (own := RX1) (by decide +kernel) rfl (Nat.le_of_ble_eq_true rfl) (fun x hx => ?_)
  show En x jvV 0 0 0 [(0, .ref a0), (1, .ref a1)] [] (cm w) _
  unfold f_X1_keep
  refine E_aload_n (pc := 0) hx 0 dX1_keep_0 rfl rfl ?_
  refine I_getI (pc := 1) hx 2 2 rfl fc1 h0 (hx.ci h0 (Nat.le_of_ble_eq_true rfl)) rfl ⟨rfl, rfl, rfl⟩ g188 dX1_keep_1 ?_
  refine I_bipush (pc := 4) hx 8 dX1_keep_4 rfl ?_
  refine E_gd (fun hr1 => ?_)
  refine I_icmp_lt (pc := 6) hx 28 dX1_keep_6 rfl ⟨hr1, (by decide)⟩ ?_ ?_
  · exact l_X1_keep_b28 F a0 h0 a1 h1 hx w
  refine E_aload_n (pc := 9) hx 0 dX1_keep_9 rfl rfl ?_
  refine E_aload_n (pc := 10) hx 0 dX1_keep_10 rfl rfl ?_
  refine I_getI (pc := 11) hx 1 1 rfl fc1 h0 (hx.ci h0 (Nat.le_of_ble_eq_true rfl)) rfl ⟨rfl, rfl, rfl⟩ g187 dX1_keep_11 ?_
  refine I_iconst (pc := 14) hx 1 dX1_keep_14 ?_
  refine I_iadd (pc := 15) hx dX1_keep_15 ?_
  refine I_bipush (pc := 16) hx 8 dX1_keep_16 rfl ?_
  refine E_gd (fun hr7 => ?_)
  refine I_irem (pc := 18) hx dX1_keep_18 ⟨hr7, (by decide), (by decide)⟩ ?_
  refine I_put (pc := 19) hx 1 1 rfl .int tyX1 fc1 tyX1_ok h0 (hx.ci h0 (Nat.le_of_ble_eq_true rfl)) rfl ⟨rfl, rfl, rfl, rfl, pfd_I⟩ rfl rfl g187 dX1_keep_19 (fun w8 => ?_)
  refine E_aload_n (pc := 22) hx 0 dX1_keep_22 rfl rfl ?_
  refine I_bipush (pc := 23) hx 7 dX1_keep_23 rfl ?_
  refine I_put (pc := 25) hx 2 2 rfl .int tyX1 fc1 tyX1_ok h0 (hx.ci h0 (Nat.le_of_ble_eq_true rfl)) rfl ⟨rfl, rfl, rfl, rfl, pfd_I⟩ rfl rfl g188 dX1_keep_25 (fun w9 => ?_)
  exact l_X1_keep_b28 F a0 h0 a1 h1 hx w9
set_option maxHeartbeats 4000000 in
set_option maxRecDepth 100000 in
theorem ev_X7_put (F : Nat) (a0 : Nat) (h0 : shK a0 = 10 + 6) (p1 : Int) (p2 : Int) (p3 : Int) (w : aI) : Ev yX7_put cX7_put 5 none 0 0 jvV [.ref a0, .int (oI p1), .int (oI p2), .int (oI p3)] (cm w) (f_X7_put F a0 p1 p2 p3 w) := by
  refine Ev.of (own := RX7) (by decide +kernel) rfl (Nat.le_of_ble_eq_true rfl) (fun x hx => ?_)
  show En x jvV 0 0 0 [(0, .ref a0), (1, .int (oI p1)), (2, .int (oI p2)), (3, .int (oI p3))] [] (cm w) _
  unfold f_X7_put
  refine E_iload_n (pc := 0) hx 1 dX7_put_0 rfl rfl ?_
  refine E_gd (fun hr1 => ?_)
  refine I_if_lt (pc := 1) hx 24 dX7_put_1 rfl hr1 ?_ ?_
  · exact E_vret (pc := 24) hx dX7_put_24 rfl rfl (Nat.le_of_ble_eq_true rfl)
  refine E_iload_n (pc := 4) hx 1 dX7_put_4 rfl rfl ?_
  refine E_aload_n (pc := 5) hx 0 dX7_put_5 rfl rfl ?_
  refine I_getI (pc := 6) hx 0 0 rfl fc6 h0 (hx.ci h0 (Nat.le_of_ble_eq_true rfl)) rfl ⟨rfl, rfl, rfl⟩ g90 dX7_put_6 ?_
  refine E_gd (fun hr2 => ?_)
  refine I_icmp_ge (pc := 9) hx 24 dX7_put_9 rfl ⟨hr1, hr2⟩ ?_ ?_
  · exact E_vret (pc := 24) hx dX7_put_24 rfl rfl (Nat.le_of_ble_eq_true rfl)
  refine E_iload_n (pc := 12) hx 2 dX7_put_12 rfl rfl ?_
  refine E_gd (fun hr3 => ?_)
  refine I_if_lt (pc := 13) hx 24 dX7_put_13 rfl hr3 ?_ ?_
  · exact E_vret (pc := 24) hx dX7_put_24 rfl rfl (Nat.le_of_ble_eq_true rfl)
  refine E_iload_n (pc := 16) hx 2 dX7_put_16 rfl rfl ?_
  refine E_aload_n (pc := 17) hx 0 dX7_put_17 rfl rfl ?_
  refine I_getI (pc := 18) hx 1 1 rfl fc6 h0 (hx.ci h0 (Nat.le_of_ble_eq_true rfl)) rfl ⟨rfl, rfl, rfl⟩ g91 dX7_put_18 ?_
  refine E_gd (fun hr4 => ?_)
  refine I_icmp_lt (pc := 21) hx 25 dX7_put_21 rfl ⟨hr3, hr4⟩ ?_ ?_
  · refine E_iload_n (pc := 25) hx 1 dX7_put_25 rfl rfl ?_
    refine E_aload_n (pc := 26) hx 0 dX7_put_26 rfl rfl ?_
    refine I_getI (pc := 27) hx 1 1 rfl fc6 h0 (hx.ci h0 (Nat.le_of_ble_eq_true rfl)) rfl ⟨rfl, rfl, rfl⟩ g91 dX7_put_27 ?_
    refine I_imul (pc := 30) hx dX7_put_30 ?_
    refine E_iload_n (pc := 31) hx 2 dX7_put_31 rfl rfl ?_
    refine I_iadd (pc := 32) hx dX7_put_32 ?_
    refine I_ltv (fun v4_5 => ?_)
    refine E_istore (pc := 33) hx dX7_put_33 (Nat.le_of_ble_eq_true rfl) rfl ?_
    refine E_iload (pc := 35) hx 0 dX7_put_35 rfl ?_
    refine E_aload_n (pc := 37) hx 1 dX7_put_37 rfl rfl ?_
    refine E_getR (pc := 38) hx 2 fc6 h0 (hx.ci h0 (Nat.le_of_ble_eq_true rfl)) rfl ⟨rfl, rfl, rfl⟩ g92 dX7_put_38 ?_
    refine I_alenI (pc := 41) hx (kt_6_2 h0) dX7_put_41 ?_
    refine E_gd (fun hr6 => ?_)
    refine I_icmp_ge (pc := 42) hx 53 dX7_put_42 rfl ⟨hr6, (shL_rg _)⟩ ?_ ?_
    · exact E_vret (pc := 53) hx dX7_put_53 rfl rfl (Nat.le_of_ble_eq_true rfl)
    refine E_aload_n (pc := 45) hx 1 dX7_put_45 rfl rfl ?_
    refine E_getR (pc := 46) hx 2 fc6 h0 (hx.ci h0 (Nat.le_of_ble_eq_true rfl)) rfl ⟨rfl, rfl, rfl⟩ g92 dX7_put_46 ?_
    refine E_iload (pc := 49) hx 0 dX7_put_49 rfl ?_
    refine E_iload_n (pc := 51) hx 4 dX7_put_51 rfl rfl ?_
    refine I_iast (pc := 52) hx (kt_6_2 h0) dX7_put_52 (fun w7 => ?_)
    exact E_vret (pc := 53) hx dX7_put_53 rfl rfl (Nat.le_of_ble_eq_true rfl)
  exact E_vret (pc := 24) hx dX7_put_24 rfl rfl (Nat.le_of_ble_eq_true rfl)
set_option maxHeartbeats 4000000 in
set_option maxRecDepth 100000 in
theorem ev_X2_settle (F : Nat) (a0 : Nat) (h0 : shK a0 = 10 + 2) (p1 : Int) (p2 : Int) (w : aI) : Ev yX2_settle cX2_settle 3 none 1 0 jvV [.ref a0, .int (oI p1), .int (oI p2)] (cm w) (f_X2_settle F a0 p1 p2 w) := by
  refine Ev.of (own := RX2) (by decide +kernel) rfl (Nat.le_of_ble_eq_true rfl) (fun x hx => ?_)
  show En x jvV 0 0 0 [(0, .ref a0), (1, .int (oI p1)), (2, .int (oI p2))] [] (cm w) _
  unfold f_X2_settle
  refine E_aload_n (pc := 0) hx 0 dX2_settle_0 rfl rfl ?_
  refine E_getR (pc := 1) hx 7 fc2 h0 (hx.ci h0 (Nat.le_of_ble_eq_true rfl)) rfl ⟨rfl, rfl, rfl⟩ g148 dX2_settle_1 ?_
  refine I_iconst (pc := 4) hx 0 dX2_settle_4 ?_
  refine E_iload_n (pc := 5) hx 1 dX2_settle_5 rfl rfl ?_
  refine I_bipush (pc := 6) hx 8 dX2_settle_6 rfl ?_
  refine I_isub (pc := 8) hx dX2_settle_8 ?_
  refine E_iload_n (pc := 9) hx 2 dX2_settle_9 rfl rfl ?_
  refine I_cVV  (pc := 10) hx [.int (oI 0), .int (oI (p1 - 8)), .int (oI p2)] [] (ev_X7_put F (shR a0 7) (kt_2_7 h0) 0 (p1 - 8) p2 w) vm_X7_put fc6 (kt_2_7 h0) (hx.ci (kt_2_7 h0) (Nat.le_of_ble_eq_true rfl)) g328 dX2_settle_10 rfl rfl (Nat.le_of_ble_eq_true rfl) (Nat.le_of_ble_eq_true rfl) (Nat.le_of_ble_eq_true rfl) (fun w1 => ?_)
  exact E_vret (pc := 13) hx dX2_settle_13 rfl rfl (Nat.le_of_ble_eq_true rfl)
set_option maxHeartbeats 4000000 in
set_option maxRecDepth 100000 in
theorem l_X7_clearTo_b2_b {x : Cx} (F : Nat) (a0 : Nat) (h0 : shK a0 = 10 + 6) (p1 : Int)  (hx : CxOK x RX7 cX7_clearTo 3 0 0 none)  (k2 : Int → aI → Option aI) (hk2 : ∀ (v2 : Int) (w : aI), En x jvV 0 0 2 [(0, .ref a0), (1, .int (oI p1)), (2, .int (oI v2))] [] (cm w) (k2 v2 w)) (v2 : Int) (w : aI) : En x jvV 0 0 2 [(0, .ref a0), (1, .int (oI p1)), (2, .int (oI v2))] [] (cm w) (f_X7_clearTo_b2_b F a0 p1   k2 v2 w) := by
  unfold f_X7_clearTo_b2_b
  refine E_iload_n (pc := 2) hx 2 dX7_clearTo_2 rfl rfl ?_
  refine E_aload_n (pc := 3) hx 0 dX7_clearTo_3 rfl rfl ?_
  refine E_getR (pc := 4) hx 2 fc6 h0 (hx.ci h0 (Nat.le_of_ble_eq_true rfl)) rfl ⟨rfl, rfl, rfl⟩ g92 dX7_clearTo_4 ?_
  refine I_alenI (pc := 7) hx (kt_6_2 h0) dX7_clearTo_7 ?_
  refine E_gd (fun hr1 => ?_)
  refine I_icmp_ge (pc := 8) hx 24 dX7_clearTo_8 rfl ⟨hr1, (shL_rg _)⟩ ?_ ?_
  · exact E_vret (pc := 24) hx dX7_clearTo_24 rfl rfl (Nat.le_of_ble_eq_true rfl)
  refine E_aload_n (pc := 11) hx 0 dX7_clearTo_11 rfl rfl ?_
  refine E_getR (pc := 12) hx 2 fc6 h0 (hx.ci h0 (Nat.le_of_ble_eq_true rfl)) rfl ⟨rfl, rfl, rfl⟩ g92 dX7_clearTo_12 ?_
  refine E_iload_n (pc := 15) hx 2 dX7_clearTo_15 rfl rfl ?_
  refine E_iload_n (pc := 16) hx 1 dX7_clearTo_16 rfl rfl ?_
  refine I_iast (pc := 17) hx (kt_6_2 h0) dX7_clearTo_17 (fun w2 => ?_)
  refine I_iinc (pc := 18) hx 1 2 dX7_clearTo_18 rfl (Nat.le_of_ble_eq_true rfl) rfl ?_
  refine E_goto (pc := 21) hx 2 dX7_clearTo_21 rfl ?_
  refine En.sub [1, 2, 0] rfl ?_
  exact hk2 (v2 + 1) w2
theorem l_X7_clearTo_b2 {x : Cx} (F : Nat) (a0 : Nat) (h0 : shK a0 = 10 + 6) (p1 : Int)  (hx : CxOK x RX7 cX7_clearTo 3 0 0 none)  : ∀ (n : Nat) (v2 : Int) (w : aI), En x jvV 0 0 2 [(0, .ref a0), (1, .int (oI p1)), (2, .int (oI v2))] [] (cm w) (f_X7_clearTo_b2 F a0 p1   n v2 w) := by
  intro n
  induction n with
  | zero => intro v2 w; exact E_none
  | succ n ih => intro v2 w; exact l_X7_clearTo_b2_b F a0 h0 p1  hx  _ ih v2 w
set_option maxHeartbeats 4000000 in
set_option maxRecDepth 100000 in
theorem ev_X7_clearTo (F : Nat) (a0 : Nat) (h0 : shK a0 = 10 + 6) (p1 : Int) (w : aI) : Ev yX7_clearTo cX7_clearTo 3 none 0 0 jvV [.ref a0, .int (oI p1)] (cm w) (f_X7_clearTo F a0 p1 w) := by
  refine Ev.of (own := RX7) (by decide +kernel) rfl (Nat.le_of_ble_eq_true rfl) (fun x hx => ?_)
  show En x jvV 0 0 0 [(0, .ref a0), (1, .int (oI p1))] [] (cm w) _
  unfold f_X7_clearTo
  refine I_iconst (pc := 0) hx 0 dX7_clearTo_0 ?_
  refine E_istore_n (pc := 1) hx dX7_clearTo_1 rfl (Nat.le_of_ble_eq_true rfl) rfl ?_
  refine En.sub [1, 2, 0] rfl ?_
  exact l_X7_clearTo_b2 F a0 h0 p1 hx F 0 w
set_option maxHeartbeats 4000000 in
set_option maxRecDepth 100000 in
theorem ev_X2_clear (F : Nat) (a0 : Nat) (h0 : shK a0 = 10 + 2) (w : aI) : Ev yX2_clear cX2_clear 1 none 2 0 jvV [.ref a0] (cm w) (f_X2_clear F a0 w) := by
  refine Ev.of (own := RX2) (by decide +kernel) rfl (Nat.le_of_ble_eq_true rfl) (fun x hx => ?_)
  show En x jvV 0 0 0 [(0, .ref a0)] [] (cm w) _
  unfold f_X2_clear
  refine E_aload_n (pc := 0) hx 0 dX2_clear_0 rfl rfl ?_
  refine I_iconst (pc := 1) hx 0 dX2_clear_1 ?_
  refine I_put (pc := 2) hx 0 0 rfl .int tyX2 fc2 tyX2_ok h0 (hx.ci h0 (Nat.le_of_ble_eq_true rfl)) rfl ⟨rfl, rfl, rfl, rfl, pfd_I⟩ rfl rfl g122 dX2_clear_2 (fun w1 => ?_)
  refine E_aload_n (pc := 5) hx 0 dX2_clear_5 rfl rfl ?_
  refine I_iconst (pc := 6) hx 0 dX2_clear_6 ?_
  refine I_put (pc := 7) hx 1 1 rfl .int tyX2 fc2 tyX2_ok h0 (hx.ci h0 (Nat.le_of_ble_eq_true rfl)) rfl ⟨rfl, rfl, rfl, rfl, pfd_I⟩ rfl rfl g124 dX2_clear_7 (fun w2 => ?_)
  refine E_aload_n (pc := 10) hx 0 dX2_clear_10 rfl rfl ?_
  refine I_iconst (pc := 11) hx 0 dX2_clear_11 ?_
  refine I_put (pc := 12) hx 2 2 rfl .int tyX2 fc2 tyX2_ok h0 (hx.ci h0 (Nat.le_of_ble_eq_true rfl)) rfl ⟨rfl, rfl, rfl, rfl, pfd_I⟩ rfl rfl g130 dX2_clear_12 (fun w3 => ?_)
  refine E_aload_n (pc := 15) hx 0 dX2_clear_15 rfl rfl ?_
  refine I_iconst (pc := 16) hx 0 dX2_clear_16 ?_
  refine I_put (pc := 17) hx 3 3 rfl .int tyX2 fc2 tyX2_ok h0 (hx.ci h0 (Nat.le_of_ble_eq_true rfl)) rfl ⟨rfl, rfl, rfl, rfl, pfd_I⟩ rfl rfl g134 dX2_clear_17 (fun w4 => ?_)
  refine E_aload_n (pc := 20) hx 0 dX2_clear_20 rfl rfl ?_
  refine I_bipush (pc := 21) hx 8 dX2_clear_21 rfl ?_
  refine I_iconst (pc := 23) hx 3 dX2_clear_23 ?_
  refine I_cVV  (pc := 24) hx [.int (oI 8), .int (oI 3)] [] (ev_X2_settle F a0 h0 8 3 w4) vm_X2_settle fc2 h0 (hx.ci h0 (Nat.le_of_ble_eq_true rfl)) g324 dX2_clear_24 rfl rfl (Nat.le_of_ble_eq_true rfl) (Nat.le_of_ble_eq_true rfl) (Nat.le_of_ble_eq_true rfl) (fun w5 => ?_)
  refine E_aload_n (pc := 27) hx 0 dX2_clear_27 rfl rfl ?_
  refine I_bipush (pc := 28) hx 9 dX2_clear_28 rfl ?_
  refine I_bipush (pc := 30) hx 50 dX2_clear_30 rfl ?_
  refine I_cVV  (pc := 32) hx [.int (oI 9), .int (oI 50)] [] (ev_X2_settle F a0 h0 9 50 w5) vm_X2_settle fc2 h0 (hx.ci h0 (Nat.le_of_ble_eq_true rfl)) g324 dX2_clear_32 rfl rfl (Nat.le_of_ble_eq_true rfl) (Nat.le_of_ble_eq_true rfl) (Nat.le_of_ble_eq_true rfl) (fun w6 => ?_)
  refine E_aload_n (pc := 35) hx 0 dX2_clear_35 rfl rfl ?_
  refine I_bipush (pc := 36) hx 10 dX2_clear_36 rfl ?_
  refine I_iconst (pc := 38) hx 1 dX2_clear_38 ?_
  refine I_cVV  (pc := 39) hx [.int (oI 10), .int (oI 1)] [] (ev_X2_settle F a0 h0 10 1 w6) vm_X2_settle fc2 h0 (hx.ci h0 (Nat.le_of_ble_eq_true rfl)) g324 dX2_clear_39 rfl rfl (Nat.le_of_ble_eq_true rfl) (Nat.le_of_ble_eq_true rfl) (Nat.le_of_ble_eq_true rfl) (fun w7 => ?_)
  refine E_aload_n (pc := 42) hx 0 dX2_clear_42 rfl rfl ?_
  refine E_getR (pc := 43) hx 8 fc2 h0 (hx.ci h0 (Nat.le_of_ble_eq_true rfl)) rfl ⟨rfl, rfl, rfl⟩ g149 dX2_clear_43 ?_
  refine I_iconst (pc := 46) hx 0 dX2_clear_46 ?_
  refine I_cVV  (pc := 47) hx [.int (oI 0)] [] (ev_X7_clearTo F (shR a0 8) (kt_2_8 h0) 0 w7) vm_X7_clearTo fc6 (kt_2_8 h0) (hx.ci (kt_2_8 h0) (Nat.le_of_ble_eq_true rfl)) g332 dX2_clear_47 rfl rfl (Nat.le_of_ble_eq_true rfl) (Nat.le_of_ble_eq_true rfl) (Nat.le_of_ble_eq_true rfl) (fun w8 => ?_)
  exact E_vret (pc := 50) hx dX2_clear_50 rfl rfl (Nat.le_of_ble_eq_true rfl)
set_option maxHeartbeats 4000000 in
set_option maxRecDepth 100000 in
theorem ev_X2_leastOf (F : Nat) (p0 : Int) (w : aI) : Ev yX2_leastOf cX2_leastOf 1 (some .int) 0 0 (jvI w) [.int (oI p0)] (cm w) (f_X2_leastOf F p0 w) := by
  refine Ev.of (own := RX2) (by decide +kernel) rfl (Nat.le_of_ble_eq_true rfl) (fun x hx => ?_)
  show En x (jvI w) 0 0 0 [(0, .int (oI p0))] [] (cm w) _
  unfold f_X2_leastOf
  refine E_iload_n (pc := 0) hx 0 dX2_leastOf_0 rfl rfl ?_
  refine I_bipush (pc := 1) hx 9 dX2_leastOf_1 rfl ?_
  refine E_gd (fun hr1 => ?_)
  refine I_icmp_ne (pc := 3) hx 10 dX2_leastOf_3 rfl ⟨hr1, (by decide)⟩ ?_ ?_
  · refine I_iconst (pc := 10) hx 0 dX2_leastOf_10 ?_
    exact E_iret (pc := 11) hx dX2_leastOf_11 rfl rfl (Nat.le_of_ble_eq_true rfl)
  refine I_iconst (pc := 6) hx 1 dX2_leastOf_6 ?_
  refine E_goto (pc := 7) hx 11 dX2_leastOf_7 rfl ?_
  exact E_iret (pc := 11) hx dX2_leastOf_11 rfl rfl (Nat.le_of_ble_eq_true rfl)
set_option maxHeartbeats 4000000 in
set_option maxRecDepth 100000 in
theorem ev_X2_mostOf (F : Nat) (p0 : Int) (w : aI) : Ev yX2_mostOf cX2_mostOf 1 (some .int) 0 0 (jvI w) [.int (oI p0)] (cm w) (f_X2_mostOf F p0 w) := by
  refine Ev.of (own := RX2) (by decide +kernel) rfl (Nat.le_of_ble_eq_true rfl) (fun x hx => ?_)
  show En x (jvI w) 0 0 0 [(0, .int (oI p0))] [] (cm w) _
  unfold f_X2_mostOf
  refine E_iload_n (pc := 0) hx 0 dX2_mostOf_0 rfl rfl ?_
  refine I_bipush (pc := 1) hx 8 dX2_mostOf_1 rfl ?_
  refine E_gd (fun hr1 => ?_)
  refine I_icmp_ne (pc := 3) hx 9 dX2_mostOf_3 rfl ⟨hr1, (by decide)⟩ ?_ ?_
  · refine E_iload_n (pc := 9) hx 0 dX2_mostOf_9 rfl rfl ?_
    refine I_bipush (pc := 10) hx 9 dX2_mostOf_10 rfl ?_
    refine I_icmp_ne (pc := 12) hx 20 dX2_mostOf_12 rfl ⟨hr1, (by decide)⟩ ?_ ?_
    · refine I_iconst (pc := 20) hx 3 dX2_mostOf_20 ?_
      exact E_iret (pc := 21) hx dX2_mostOf_21 rfl rfl (Nat.le_of_ble_eq_true rfl)
    refine I_bipush (pc := 15) hx 60 dX2_mostOf_15 rfl ?_
    refine E_goto (pc := 17) hx 21 dX2_mostOf_17 rfl ?_
    exact E_iret (pc := 21) hx dX2_mostOf_21 rfl rfl (Nat.le_of_ble_eq_true rfl)
  refine I_bipush (pc := 6) hx 9 dX2_mostOf_6 rfl ?_
  exact E_iret (pc := 8) hx dX2_mostOf_8 rfl rfl (Nat.le_of_ble_eq_true rfl)
set_option maxHeartbeats 4000000 in
set_option maxRecDepth 100000 in
theorem ev_X7_get (F : Nat) (a0 : Nat) (h0 : shK a0 = 10 + 6) (p1 : Int) (p2 : Int) (w : aI) : Ev yX7_get cX7_get 4 (some .int) 0 0 (jvI w) [.ref a0, .int (oI p1), .int (oI p2)] (cm w) (f_X7_get F a0 p1 p2 w) := by
  refine Ev.of (own := RX7) (by decide +kernel) rfl (Nat.le_of_ble_eq_true rfl) (fun x hx => ?_)
  show En x (jvI w) 0 0 0 [(0, .ref a0), (1, .int (oI p1)), (2, .int (oI p2))] [] (cm w) _
  unfold f_X7_get
  refine E_iload_n (pc := 0) hx 1 dX7_get_0 rfl rfl ?_
  refine E_gd (fun hr1 => ?_)
  refine I_if_lt (pc := 1) hx 24 dX7_get_1 rfl hr1 ?_ ?_
  · refine I_iconst (pc := 24) hx (-1) dX7_get_24 ?_
    exact E_iret (pc := 25) hx dX7_get_25 rfl rfl (Nat.le_of_ble_eq_true rfl)
  refine E_iload_n (pc := 4) hx 1 dX7_get_4 rfl rfl ?_
  refine E_aload_n (pc := 5) hx 0 dX7_get_5 rfl rfl ?_
  refine I_getI (pc := 6) hx 0 0 rfl fc6 h0 (hx.ci h0 (Nat.le_of_ble_eq_true rfl)) rfl ⟨rfl, rfl, rfl⟩ g90 dX7_get_6 ?_
  refine E_gd (fun hr2 => ?_)
  refine I_icmp_ge (pc := 9) hx 24 dX7_get_9 rfl ⟨hr1, hr2⟩ ?_ ?_
  · refine I_iconst (pc := 24) hx (-1) dX7_get_24 ?_
    exact E_iret (pc := 25) hx dX7_get_25 rfl rfl (Nat.le_of_ble_eq_true rfl)
  refine E_iload_n (pc := 12) hx 2 dX7_get_12 rfl rfl ?_
  refine E_gd (fun hr3 => ?_)
  refine I_if_lt (pc := 13) hx 24 dX7_get_13 rfl hr3 ?_ ?_
  · refine I_iconst (pc := 24) hx (-1) dX7_get_24 ?_
    exact E_iret (pc := 25) hx dX7_get_25 rfl rfl (Nat.le_of_ble_eq_true rfl)
  refine E_iload_n (pc := 16) hx 2 dX7_get_16 rfl rfl ?_
  refine E_aload_n (pc := 17) hx 0 dX7_get_17 rfl rfl ?_
  refine I_getI (pc := 18) hx 1 1 rfl fc6 h0 (hx.ci h0 (Nat.le_of_ble_eq_true rfl)) rfl ⟨rfl, rfl, rfl⟩ g91 dX7_get_18 ?_
  refine E_gd (fun hr4 => ?_)
  refine I_icmp_lt (pc := 21) hx 26 dX7_get_21 rfl ⟨hr3, hr4⟩ ?_ ?_
  · refine E_iload_n (pc := 26) hx 1 dX7_get_26 rfl rfl ?_
    refine E_aload_n (pc := 27) hx 0 dX7_get_27 rfl rfl ?_
    refine I_getI (pc := 28) hx 1 1 rfl fc6 h0 (hx.ci h0 (Nat.le_of_ble_eq_true rfl)) rfl ⟨rfl, rfl, rfl⟩ g91 dX7_get_28 ?_
    refine I_imul (pc := 31) hx dX7_get_31 ?_
    refine E_iload_n (pc := 32) hx 2 dX7_get_32 rfl rfl ?_
    refine I_iadd (pc := 33) hx dX7_get_33 ?_
    refine I_ltv (fun v3_5 => ?_)
    refine E_istore_n (pc := 34) hx dX7_get_34 rfl (Nat.le_of_ble_eq_true rfl) rfl ?_
    refine E_iload_n (pc := 35) hx 0 dX7_get_35 rfl rfl ?_
    refine E_aload_n (pc := 36) hx 1 dX7_get_36 rfl rfl ?_
    refine E_getR (pc := 37) hx 2 fc6 h0 (hx.ci h0 (Nat.le_of_ble_eq_true rfl)) rfl ⟨rfl, rfl, rfl⟩ g92 dX7_get_37 ?_
    refine I_alenI (pc := 40) hx (kt_6_2 h0) dX7_get_40 ?_
    refine E_gd (fun hr6 => ?_)
    refine I_icmp_ge (pc := 41) hx 53 dX7_get_41 rfl ⟨hr6, (shL_rg _)⟩ ?_ ?_
    · refine I_iconst (pc := 53) hx (-1) dX7_get_53 ?_
      exact E_iret (pc := 54) hx dX7_get_54 rfl rfl (Nat.le_of_ble_eq_true rfl)
    refine E_aload_n (pc := 44) hx 1 dX7_get_44 rfl rfl ?_
    refine E_getR (pc := 45) hx 2 fc6 h0 (hx.ci h0 (Nat.le_of_ble_eq_true rfl)) rfl ⟨rfl, rfl, rfl⟩ g92 dX7_get_45 ?_
    refine E_iload_n (pc := 48) hx 0 dX7_get_48 rfl rfl ?_
    refine I_iald (pc := 49) hx (kt_6_2 h0) dX7_get_49 ?_
    refine E_goto (pc := 50) hx 54 dX7_get_50 rfl ?_
    exact E_iret (pc := 54) hx dX7_get_54 rfl rfl (Nat.le_of_ble_eq_true rfl)
  refine I_iconst (pc := 24) hx (-1) dX7_get_24 ?_
  exact E_iret (pc := 25) hx dX7_get_25 rfl rfl (Nat.le_of_ble_eq_true rfl)
set_option maxHeartbeats 4000000 in
set_option maxRecDepth 100000 in
theorem ev_X2_setting (F : Nat) (a0 : Nat) (h0 : shK a0 = 10 + 2) (p1 : Int) (w : aI) : Ev yX2_setting cX2_setting 2 (some .int) 1 0 (jvI w) [.ref a0, .int (oI p1)] (cm w) (f_X2_setting F a0 p1 w) := by
  refine Ev.of (own := RX2) (by decide +kernel) rfl (Nat.le_of_ble_eq_true rfl) (fun x hx => ?_)
  show En x (jvI w) 0 0 0 [(0, .ref a0), (1, .int (oI p1))] [] (cm w) _
  unfold f_X2_setting
  refine E_aload_n (pc := 0) hx 0 dX2_setting_0 rfl rfl ?_
  refine E_getR (pc := 1) hx 7 fc2 h0 (hx.ci h0 (Nat.le_of_ble_eq_true rfl)) rfl ⟨rfl, rfl, rfl⟩ g148 dX2_setting_1 ?_
  refine I_iconst (pc := 4) hx 0 dX2_setting_4 ?_
  refine E_iload_n (pc := 5) hx 1 dX2_setting_5 rfl rfl ?_
  refine I_bipush (pc := 6) hx 8 dX2_setting_6 rfl ?_
  refine I_isub (pc := 8) hx dX2_setting_8 ?_
  refine I_cVI  (pc := 9) hx [.int (oI 0), .int (oI (p1 - 8))] [] (ev_X7_get F (shR a0 7) (kt_2_7 h0) 0 (p1 - 8) w) vm_X7_get fc6 (kt_2_7 h0) (hx.ci (kt_2_7 h0) (Nat.le_of_ble_eq_true rfl)) g384 dX2_setting_9 rfl rfl (Nat.le_of_ble_eq_true rfl) (Nat.le_of_ble_eq_true rfl) (Nat.le_of_ble_eq_true rfl) (fun r1 => ?_)
  exact E_iret (pc := 12) hx dX2_setting_12 rfl rfl (Nat.le_of_ble_eq_true rfl)
set_option maxHeartbeats 4000000 in
set_option maxRecDepth 100000 in
theorem ev_X7_grow (F : Nat) (a0 : Nat) (h0 : shK a0 = 10 + 6) (p1 : Int) (p2 : Int) (p3 : Int) (w : aI) : Ev yX7_grow cX7_grow 5 none 0 0 jvV [.ref a0, .int (oI p1), .int (oI p2), .int (oI p3)] (cm w) (f_X7_grow F a0 p1 p2 p3 w) := by
  refine Ev.of (own := RX7) (by decide +kernel) rfl (Nat.le_of_ble_eq_true rfl) (fun x hx => ?_)
  show En x jvV 0 0 0 [(0, .ref a0), (1, .int (oI p1)), (2, .int (oI p2)), (3, .int (oI p3))] [] (cm w) _
  unfold f_X7_grow
  refine E_iload_n (pc := 0) hx 1 dX7_grow_0 rfl rfl ?_
  refine E_gd (fun hr1 => ?_)
  refine I_if_lt (pc := 1) hx 24 dX7_grow_1 rfl hr1 ?_ ?_
  · exact E_vret (pc := 24) hx dX7_grow_24 rfl rfl (Nat.le_of_ble_eq_true rfl)
  refine E_iload_n (pc := 4) hx 1 dX7_grow_4 rfl rfl ?_
  refine E_aload_n (pc := 5) hx 0 dX7_grow_5 rfl rfl ?_
  refine I_getI (pc := 6) hx 0 0 rfl fc6 h0 (hx.ci h0 (Nat.le_of_ble_eq_true rfl)) rfl ⟨rfl, rfl, rfl⟩ g90 dX7_grow_6 ?_
  refine E_gd (fun hr2 => ?_)
  refine I_icmp_ge (pc := 9) hx 24 dX7_grow_9 rfl ⟨hr1, hr2⟩ ?_ ?_
  · exact E_vret (pc := 24) hx dX7_grow_24 rfl rfl (Nat.le_of_ble_eq_true rfl)
  refine E_iload_n (pc := 12) hx 2 dX7_grow_12 rfl rfl ?_
  refine E_gd (fun hr3 => ?_)
  refine I_if_lt (pc := 13) hx 24 dX7_grow_13 rfl hr3 ?_ ?_
  · exact E_vret (pc := 24) hx dX7_grow_24 rfl rfl (Nat.le_of_ble_eq_true rfl)
  refine E_iload_n (pc := 16) hx 2 dX7_grow_16 rfl rfl ?_
  refine E_aload_n (pc := 17) hx 0 dX7_grow_17 rfl rfl ?_
  refine I_getI (pc := 18) hx 1 1 rfl fc6 h0 (hx.ci h0 (Nat.le_of_ble_eq_true rfl)) rfl ⟨rfl, rfl, rfl⟩ g91 dX7_grow_18 ?_
  refine E_gd (fun hr4 => ?_)
  refine I_icmp_lt (pc := 21) hx 25 dX7_grow_21 rfl ⟨hr3, hr4⟩ ?_ ?_
  · refine E_iload_n (pc := 25) hx 1 dX7_grow_25 rfl rfl ?_
    refine E_aload_n (pc := 26) hx 0 dX7_grow_26 rfl rfl ?_
    refine I_getI (pc := 27) hx 1 1 rfl fc6 h0 (hx.ci h0 (Nat.le_of_ble_eq_true rfl)) rfl ⟨rfl, rfl, rfl⟩ g91 dX7_grow_27 ?_
    refine I_imul (pc := 30) hx dX7_grow_30 ?_
    refine E_iload_n (pc := 31) hx 2 dX7_grow_31 rfl rfl ?_
    refine I_iadd (pc := 32) hx dX7_grow_32 ?_
    refine I_ltv (fun v4_5 => ?_)
    refine E_istore (pc := 33) hx dX7_grow_33 (Nat.le_of_ble_eq_true rfl) rfl ?_
    refine E_iload (pc := 35) hx 0 dX7_grow_35 rfl ?_
    refine E_aload_n (pc := 37) hx 1 dX7_grow_37 rfl rfl ?_
    refine E_getR (pc := 38) hx 2 fc6 h0 (hx.ci h0 (Nat.le_of_ble_eq_true rfl)) rfl ⟨rfl, rfl, rfl⟩ g92 dX7_grow_38 ?_
    refine I_alenI (pc := 41) hx (kt_6_2 h0) dX7_grow_41 ?_
    refine E_gd (fun hr6 => ?_)
    refine I_icmp_ge (pc := 42) hx 56 dX7_grow_42 rfl ⟨hr6, (shL_rg _)⟩ ?_ ?_
    · exact E_vret (pc := 56) hx dX7_grow_56 rfl rfl (Nat.le_of_ble_eq_true rfl)
    refine E_aload_n (pc := 45) hx 1 dX7_grow_45 rfl rfl ?_
    refine E_getR (pc := 46) hx 2 fc6 h0 (hx.ci h0 (Nat.le_of_ble_eq_true rfl)) rfl ⟨rfl, rfl, rfl⟩ g92 dX7_grow_46 ?_
    refine E_iload (pc := 49) hx 0 dX7_grow_49 rfl ?_
    refine E_dup2 (pc := 51) hx dX7_grow_51 rfl rfl ?_
    refine I_iald (pc := 52) hx (kt_6_2 h0) dX7_grow_52 ?_
    refine E_iload_n (pc := 53) hx 4 dX7_grow_53 rfl rfl ?_
    refine I_iadd (pc := 54) hx dX7_grow_54 ?_
    refine I_iast (pc := 55) hx (kt_6_2 h0) dX7_grow_55 (fun w7 => ?_)
    exact E_vret (pc := 56) hx dX7_grow_56 rfl rfl (Nat.le_of_ble_eq_true rfl)
  exact E_vret (pc := 24) hx dX7_grow_24 rfl rfl (Nat.le_of_ble_eq_true rfl)
set_option maxHeartbeats 4000000 in
set_option maxRecDepth 100000 in
theorem ev_X2_enter (F : Nat) (a0 : Nat) (h0 : shK a0 = 10 + 2) (p1 : Int) (p2 : Int) (w : aI) : Ev yX2_enter cX2_enter 3 none 1 0 jvV [.ref a0, .int (oI p1), .int (oI p2)] (cm w) (f_X2_enter F a0 p1 p2 w) := by
  refine Ev.of (own := RX2) (by decide +kernel) rfl (Nat.le_of_ble_eq_true rfl) (fun x hx => ?_)
  show En x jvV 0 0 0 [(0, .ref a0), (1, .int (oI p1)), (2, .int (oI p2))] [] (cm w) _
  unfold f_X2_enter
  refine E_aload_n (pc := 0) hx 0 dX2_enter_0 rfl rfl ?_
  refine E_getR (pc := 1) hx 8 fc2 h0 (hx.ci h0 (Nat.le_of_ble_eq_true rfl)) rfl ⟨rfl, rfl, rfl⟩ g149 dX2_enter_1 ?_
  refine I_iconst (pc := 4) hx 0 dX2_enter_4 ?_
  refine E_iload_n (pc := 5) hx 1 dX2_enter_5 rfl rfl ?_
  refine E_iload_n (pc := 6) hx 2 dX2_enter_6 rfl rfl ?_
  refine I_cVV  (pc := 7) hx [.int (oI 0), .int (oI p1), .int (oI p2)] [] (ev_X7_grow F (shR a0 8) (kt_2_8 h0) 0 p1 p2 w) vm_X7_grow fc6 (kt_2_8 h0) (hx.ci (kt_2_8 h0) (Nat.le_of_ble_eq_true rfl)) g848 dX2_enter_7 rfl rfl (Nat.le_of_ble_eq_true rfl) (Nat.le_of_ble_eq_true rfl) (Nat.le_of_ble_eq_true rfl) (fun w1 => ?_)
  exact E_vret (pc := 10) hx dX2_enter_10 rfl rfl (Nat.le_of_ble_eq_true rfl)
set_option maxHeartbeats 4000000 in
set_option maxRecDepth 100000 in
theorem ev_X2_addRoof (F : Nat) (a0 : Nat) (h0 : shK a0 = 10 + 2) (p1 : Int) (p2 : Int) (p3 : Int) (p4 : Int) (p5 : Int) (w : aI) : Ev yX2_addRoof cX2_addRoof 7 none 1 0 jvV [.ref a0, .int (oI p1), .int (oI p2), .int (oI p3), .int (oI p4), .int (oI p5)] (cm w) (f_X2_addRoof F a0 p1 p2 p3 p4 p5 w) := by
  refine Ev.of (own := RX2) (by decide +kernel) rfl (Nat.le_of_ble_eq_true rfl) (fun x hx => ?_)
  show En x jvV 0 0 0 [(0, .ref a0), (1, .int (oI p1)), (2, .int (oI p2)), (3, .int (oI p3)), (4, .int (oI p4)), (5, .int (oI p5))] [] (cm w) _
  unfold f_X2_addRoof
  refine E_aload_n (pc := 0) hx 0 dX2_addRoof_0 rfl rfl ?_
  refine I_getI (pc := 1) hx 1 1 rfl fc2 h0 (hx.ci h0 (Nat.le_of_ble_eq_true rfl)) rfl ⟨rfl, rfl, rfl⟩ g124 dX2_addRoof_1 ?_
  refine I_ltv (fun v6_1 => ?_)
  refine E_istore (pc := 4) hx dX2_addRoof_4 (Nat.le_of_ble_eq_true rfl) rfl ?_
  refine E_aload_n (pc := 6) hx 1 dX2_addRoof_6 rfl rfl ?_
  refine E_getR (pc := 7) hx 4 fc2 h0 (hx.ci h0 (Nat.le_of_ble_eq_true rfl)) rfl ⟨rfl, rfl, rfl⟩ g138 dX2_addRoof_7 ?_
  refine E_iload (pc := 10) hx 0 dX2_addRoof_10 rfl ?_
  refine I_iconst (pc := 12) hx 5 dX2_addRoof_12 ?_
  refine E_iload_n (pc := 13) hx 2 dX2_addRoof_13 rfl rfl ?_
  refine I_cVV  (pc := 14) hx [.int (oI v6_1), .int (oI 5), .int (oI p1)] [] (ev_X7_put F (shR a0 4) (kt_2_4 h0) v6_1 5 p1 w) vm_X7_put fc6 (kt_2_4 h0) (hx.ci (kt_2_4 h0) (Nat.le_of_ble_eq_true rfl)) g328 dX2_addRoof_14 rfl rfl (Nat.le_of_ble_eq_true rfl) (Nat.le_of_ble_eq_true rfl) (Nat.le_of_ble_eq_true rfl) (fun w2 => ?_)
  refine E_aload_n (pc := 17) hx 1 dX2_addRoof_17 rfl rfl ?_
  refine E_getR (pc := 18) hx 4 fc2 h0 (hx.ci h0 (Nat.le_of_ble_eq_true rfl)) rfl ⟨rfl, rfl, rfl⟩ g138 dX2_addRoof_18 ?_
  refine E_iload (pc := 21) hx 0 dX2_addRoof_21 rfl ?_
  refine I_iconst (pc := 23) hx 0 dX2_addRoof_23 ?_
  refine E_iload_n (pc := 24) hx 3 dX2_addRoof_24 rfl rfl ?_
  refine I_cVV  (pc := 25) hx [.int (oI v6_1), .int (oI 0), .int (oI p2)] [] (ev_X7_put F (shR a0 4) (kt_2_4 h0) v6_1 0 p2 w2) vm_X7_put fc6 (kt_2_4 h0) (hx.ci (kt_2_4 h0) (Nat.le_of_ble_eq_true rfl)) g328 dX2_addRoof_25 rfl rfl (Nat.le_of_ble_eq_true rfl) (Nat.le_of_ble_eq_true rfl) (Nat.le_of_ble_eq_true rfl) (fun w3 => ?_)
  refine E_aload_n (pc := 28) hx 1 dX2_addRoof_28 rfl rfl ?_
  refine E_getR (pc := 29) hx 4 fc2 h0 (hx.ci h0 (Nat.le_of_ble_eq_true rfl)) rfl ⟨rfl, rfl, rfl⟩ g138 dX2_addRoof_29 ?_
  refine E_iload (pc := 32) hx 0 dX2_addRoof_32 rfl ?_
  refine I_iconst (pc := 34) hx 1 dX2_addRoof_34 ?_
  refine E_iload_n (pc := 35) hx 4 dX2_addRoof_35 rfl rfl ?_
  refine I_cVV  (pc := 36) hx [.int (oI v6_1), .int (oI 1), .int (oI p3)] [] (ev_X7_put F (shR a0 4) (kt_2_4 h0) v6_1 1 p3 w3) vm_X7_put fc6 (kt_2_4 h0) (hx.ci (kt_2_4 h0) (Nat.le_of_ble_eq_true rfl)) g328 dX2_addRoof_36 rfl rfl (Nat.le_of_ble_eq_true rfl) (Nat.le_of_ble_eq_true rfl) (Nat.le_of_ble_eq_true rfl) (fun w4 => ?_)
  refine E_aload_n (pc := 39) hx 1 dX2_addRoof_39 rfl rfl ?_
  refine E_getR (pc := 40) hx 4 fc2 h0 (hx.ci h0 (Nat.le_of_ble_eq_true rfl)) rfl ⟨rfl, rfl, rfl⟩ g138 dX2_addRoof_40 ?_
  refine E_iload (pc := 43) hx 0 dX2_addRoof_43 rfl ?_
  refine I_iconst (pc := 45) hx 2 dX2_addRoof_45 ?_
  refine E_iload (pc := 46) hx 5 dX2_addRoof_46 rfl ?_
  refine I_cVV  (pc := 48) hx [.int (oI v6_1), .int (oI 2), .int (oI p4)] [] (ev_X7_put F (shR a0 4) (kt_2_4 h0) v6_1 2 p4 w4) vm_X7_put fc6 (kt_2_4 h0) (hx.ci (kt_2_4 h0) (Nat.le_of_ble_eq_true rfl)) g328 dX2_addRoof_48 rfl rfl (Nat.le_of_ble_eq_true rfl) (Nat.le_of_ble_eq_true rfl) (Nat.le_of_ble_eq_true rfl) (fun w5 => ?_)
  refine E_aload_n (pc := 51) hx 1 dX2_addRoof_51 rfl rfl ?_
  refine E_getR (pc := 52) hx 4 fc2 h0 (hx.ci h0 (Nat.le_of_ble_eq_true rfl)) rfl ⟨rfl, rfl, rfl⟩ g138 dX2_addRoof_52 ?_
  refine E_iload (pc := 55) hx 0 dX2_addRoof_55 rfl ?_
  refine I_iconst (pc := 57) hx 3 dX2_addRoof_57 ?_
  refine E_iload (pc := 58) hx 6 dX2_addRoof_58 rfl ?_
  refine I_cVV  (pc := 60) hx [.int (oI v6_1), .int (oI 3), .int (oI p5)] [] (ev_X7_put F (shR a0 4) (kt_2_4 h0) v6_1 3 p5 w5) vm_X7_put fc6 (kt_2_4 h0) (hx.ci (kt_2_4 h0) (Nat.le_of_ble_eq_true rfl)) g328 dX2_addRoof_60 rfl rfl (Nat.le_of_ble_eq_true rfl) (Nat.le_of_ble_eq_true rfl) (Nat.le_of_ble_eq_true rfl) (fun w6 => ?_)
  refine E_aload_n (pc := 63) hx 1 dX2_addRoof_63 rfl rfl ?_
  refine E_getR (pc := 64) hx 4 fc2 h0 (hx.ci h0 (Nat.le_of_ble_eq_true rfl)) rfl ⟨rfl, rfl, rfl⟩ g138 dX2_addRoof_64 ?_
  refine E_iload (pc := 67) hx 0 dX2_addRoof_67 rfl ?_
  refine I_bipush (pc := 69) hx 6 dX2_addRoof_69 rfl ?_
  refine E_iload (pc := 71) hx 6 dX2_addRoof_71 rfl ?_
  refine I_cVV  (pc := 73) hx [.int (oI v6_1), .int (oI 6), .int (oI p5)] [] (ev_X7_put F (shR a0 4) (kt_2_4 h0) v6_1 6 p5 w6) vm_X7_put fc6 (kt_2_4 h0) (hx.ci (kt_2_4 h0) (Nat.le_of_ble_eq_true rfl)) g328 dX2_addRoof_73 rfl rfl (Nat.le_of_ble_eq_true rfl) (Nat.le_of_ble_eq_true rfl) (Nat.le_of_ble_eq_true rfl) (fun w7 => ?_)
  refine E_aload_n (pc := 76) hx 1 dX2_addRoof_76 rfl rfl ?_
  refine E_getR (pc := 77) hx 4 fc2 h0 (hx.ci h0 (Nat.le_of_ble_eq_true rfl)) rfl ⟨rfl, rfl, rfl⟩ g138 dX2_addRoof_77 ?_
  refine E_iload (pc := 80) hx 0 dX2_addRoof_80 rfl ?_
  refine I_iconst (pc := 82) hx 4 dX2_addRoof_82 ?_
  refine I_iconst (pc := 83) hx 0 dX2_addRoof_83 ?_
  refine I_cVV  (pc := 84) hx [.int (oI v6_1), .int (oI 4), .int (oI 0)] [] (ev_X7_put F (shR a0 4) (kt_2_4 h0) v6_1 4 0 w7) vm_X7_put fc6 (kt_2_4 h0) (hx.ci (kt_2_4 h0) (Nat.le_of_ble_eq_true rfl)) g328 dX2_addRoof_84 rfl rfl (Nat.le_of_ble_eq_true rfl) (Nat.le_of_ble_eq_true rfl) (Nat.le_of_ble_eq_true rfl) (fun w8 => ?_)
  refine E_aload_n (pc := 87) hx 1 dX2_addRoof_87 rfl rfl ?_
  refine E_getR (pc := 88) hx 4 fc2 h0 (hx.ci h0 (Nat.le_of_ble_eq_true rfl)) rfl ⟨rfl, rfl, rfl⟩ g138 dX2_addRoof_88 ?_
  refine E_iload (pc := 91) hx 0 dX2_addRoof_91 rfl ?_
  refine I_bipush (pc := 93) hx 7 dX2_addRoof_93 rfl ?_
  refine I_iconst (pc := 95) hx 0 dX2_addRoof_95 ?_
  refine I_cVV  (pc := 96) hx [.int (oI v6_1), .int (oI 7), .int (oI 0)] [] (ev_X7_put F (shR a0 4) (kt_2_4 h0) v6_1 7 0 w8) vm_X7_put fc6 (kt_2_4 h0) (hx.ci (kt_2_4 h0) (Nat.le_of_ble_eq_true rfl)) g328 dX2_addRoof_96 rfl rfl (Nat.le_of_ble_eq_true rfl) (Nat.le_of_ble_eq_true rfl) (Nat.le_of_ble_eq_true rfl) (fun w9 => ?_)
  refine E_aload_n (pc := 99) hx 1 dX2_addRoof_99 rfl rfl ?_
  refine E_dup (pc := 100) hx dX2_addRoof_100 rfl ?_
  refine I_getI (pc := 101) hx 1 1 rfl fc2 h0 (hx.ci h0 (Nat.le_of_ble_eq_true rfl)) rfl ⟨rfl, rfl, rfl⟩ g124 dX2_addRoof_101 ?_
  refine I_iconst (pc := 104) hx 1 dX2_addRoof_104 ?_
  refine I_iadd (pc := 105) hx dX2_addRoof_105 ?_
  refine I_put (pc := 106) hx 1 1 rfl .int tyX2 fc2 tyX2_ok h0 (hx.ci h0 (Nat.le_of_ble_eq_true rfl)) rfl ⟨rfl, rfl, rfl, rfl, pfd_I⟩ rfl rfl g124 dX2_addRoof_106 (fun w10 => ?_)
  exact E_vret (pc := 109) hx dX2_addRoof_109 rfl rfl (Nat.le_of_ble_eq_true rfl)
set_option maxHeartbeats 4000000 in
set_option maxRecDepth 100000 in
theorem ev_X2_addWay (F : Nat) (a0 : Nat) (h0 : shK a0 = 10 + 2) (p1 : Int) (p2 : Int) (p3 : Int) (w : aI) : Ev yX2_addWay cX2_addWay 4 none 1 0 jvV [.ref a0, .int (oI p1), .int (oI p2), .int (oI p3)] (cm w) (f_X2_addWay F a0 p1 p2 p3 w) := by
  refine Ev.of (own := RX2) (by decide +kernel) rfl (Nat.le_of_ble_eq_true rfl) (fun x hx => ?_)
  show En x jvV 0 0 0 [(0, .ref a0), (1, .int (oI p1)), (2, .int (oI p2)), (3, .int (oI p3))] [] (cm w) _
  unfold f_X2_addWay
  refine E_aload_n (pc := 0) hx 0 dX2_addWay_0 rfl rfl ?_
  refine E_getR (pc := 1) hx 5 fc2 h0 (hx.ci h0 (Nat.le_of_ble_eq_true rfl)) rfl ⟨rfl, rfl, rfl⟩ g142 dX2_addWay_1 ?_
  refine E_aload_n (pc := 4) hx 0 dX2_addWay_4 rfl rfl ?_
  refine I_getI (pc := 5) hx 2 2 rfl fc2 h0 (hx.ci h0 (Nat.le_of_ble_eq_true rfl)) rfl ⟨rfl, rfl, rfl⟩ g130 dX2_addWay_5 ?_
  refine I_iconst (pc := 8) hx 0 dX2_addWay_8 ?_
  refine E_iload_n (pc := 9) hx 1 dX2_addWay_9 rfl rfl ?_
  refine I_cVV  (pc := 10) hx [.int (oI (w a0 2)), .int (oI 0), .int (oI p1)] [] (ev_X7_put F (shR a0 5) (kt_2_5 h0) (w a0 2) 0 p1 w) vm_X7_put fc6 (kt_2_5 h0) (hx.ci (kt_2_5 h0) (Nat.le_of_ble_eq_true rfl)) g328 dX2_addWay_10 rfl rfl (Nat.le_of_ble_eq_true rfl) (Nat.le_of_ble_eq_true rfl) (Nat.le_of_ble_eq_true rfl) (fun w1 => ?_)
  refine E_aload_n (pc := 13) hx 0 dX2_addWay_13 rfl rfl ?_
  refine E_getR (pc := 14) hx 5 fc2 h0 (hx.ci h0 (Nat.le_of_ble_eq_true rfl)) rfl ⟨rfl, rfl, rfl⟩ g142 dX2_addWay_14 ?_
  refine E_aload_n (pc := 17) hx 0 dX2_addWay_17 rfl rfl ?_
  refine I_getI (pc := 18) hx 2 2 rfl fc2 h0 (hx.ci h0 (Nat.le_of_ble_eq_true rfl)) rfl ⟨rfl, rfl, rfl⟩ g130 dX2_addWay_18 ?_
  refine I_iconst (pc := 21) hx 1 dX2_addWay_21 ?_
  refine E_iload_n (pc := 22) hx 2 dX2_addWay_22 rfl rfl ?_
  refine I_cVV  (pc := 23) hx [.int (oI (w1 a0 2)), .int (oI 1), .int (oI p2)] [] (ev_X7_put F (shR a0 5) (kt_2_5 h0) (w1 a0 2) 1 p2 w1) vm_X7_put fc6 (kt_2_5 h0) (hx.ci (kt_2_5 h0) (Nat.le_of_ble_eq_true rfl)) g328 dX2_addWay_23 rfl rfl (Nat.le_of_ble_eq_true rfl) (Nat.le_of_ble_eq_true rfl) (Nat.le_of_ble_eq_true rfl) (fun w2 => ?_)
  refine E_aload_n (pc := 26) hx 0 dX2_addWay_26 rfl rfl ?_
  refine E_getR (pc := 27) hx 5 fc2 h0 (hx.ci h0 (Nat.le_of_ble_eq_true rfl)) rfl ⟨rfl, rfl, rfl⟩ g142 dX2_addWay_27 ?_
  refine E_aload_n (pc := 30) hx 0 dX2_addWay_30 rfl rfl ?_
  refine I_getI (pc := 31) hx 2 2 rfl fc2 h0 (hx.ci h0 (Nat.le_of_ble_eq_true rfl)) rfl ⟨rfl, rfl, rfl⟩ g130 dX2_addWay_31 ?_
  refine I_iconst (pc := 34) hx 2 dX2_addWay_34 ?_
  refine E_iload_n (pc := 35) hx 3 dX2_addWay_35 rfl rfl ?_
  refine I_cVV  (pc := 36) hx [.int (oI (w2 a0 2)), .int (oI 2), .int (oI p3)] [] (ev_X7_put F (shR a0 5) (kt_2_5 h0) (w2 a0 2) 2 p3 w2) vm_X7_put fc6 (kt_2_5 h0) (hx.ci (kt_2_5 h0) (Nat.le_of_ble_eq_true rfl)) g328 dX2_addWay_36 rfl rfl (Nat.le_of_ble_eq_true rfl) (Nat.le_of_ble_eq_true rfl) (Nat.le_of_ble_eq_true rfl) (fun w3 => ?_)
  refine E_aload_n (pc := 39) hx 0 dX2_addWay_39 rfl rfl ?_
  refine E_dup (pc := 40) hx dX2_addWay_40 rfl ?_
  refine I_getI (pc := 41) hx 2 2 rfl fc2 h0 (hx.ci h0 (Nat.le_of_ble_eq_true rfl)) rfl ⟨rfl, rfl, rfl⟩ g130 dX2_addWay_41 ?_
  refine I_iconst (pc := 44) hx 1 dX2_addWay_44 ?_
  refine I_iadd (pc := 45) hx dX2_addWay_45 ?_
  refine I_put (pc := 46) hx 2 2 rfl .int tyX2 fc2 tyX2_ok h0 (hx.ci h0 (Nat.le_of_ble_eq_true rfl)) rfl ⟨rfl, rfl, rfl, rfl, pfd_I⟩ rfl rfl g130 dX2_addWay_46 (fun w4 => ?_)
  exact E_vret (pc := 49) hx dX2_addWay_49 rfl rfl (Nat.le_of_ble_eq_true rfl)
set_option maxHeartbeats 4000000 in
set_option maxRecDepth 100000 in
theorem l_X2_addTune_b111 {x : Cx} (F : Nat) (a0 : Nat) (h0 : shK a0 = 10 + 2) (p1 : Int) (p2 : Int) (p3 : Int) (p4 : Int) (p5 : Int) (p6 : Int)  (hx : CxOK x RX2 cX2_addTune 8 2 0 (some .int))   (v7 : Int) (z0 : Int) (z1 : Int) (z2 : Int) (z3 : Nat) (hz3 : shK z3 = 10 + 6) (w : aI) : En x jvIW 0 0 111 [(0, .ref a0), (4, .int (oI p4)), (7, .int (oI v7))] [.int (oI z0), .int (oI z1), .int (oI z2), .ref z3] (cm w) (f_X2_addTune_b111 F a0 p1 p2 p3 p4 p5 p6    v7 z0 z1 z2 z3 w) := by
  unfold f_X2_addTune_b111
  refine I_cVV  (pc := 111) hx [.int (oI z2), .int (oI z1), .int (oI z0)] [] (ev_X7_put F z3 hz3 z2 z1 z0 w) vm_X7_put fc6 hz3 (hx.ci hz3 (Nat.le_of_ble_eq_true rfl)) g328 dX2_addTune_111 rfl rfl (Nat.le_of_ble_eq_true rfl) (Nat.le_of_ble_eq_true rfl) (Nat.le_of_ble_eq_true rfl) (fun w11 => ?_)
  refine E_aload_n (pc := 114) hx 0 dX2_addTune_114 rfl rfl ?_
  refine E_getR (pc := 115) hx 6 fc2 h0 (hx.ci h0 (Nat.le_of_ble_eq_true rfl)) rfl ⟨rfl, rfl, rfl⟩ g144 dX2_addTune_115 ?_
  refine E_iload (pc := 118) hx 2 dX2_addTune_118 rfl ?_
  refine I_bipush (pc := 120) hx 8 dX2_addTune_120 rfl ?_
  refine I_iconst (pc := 122) hx 0 dX2_addTune_122 ?_
  refine I_cVV  (pc := 123) hx [.int (oI v7), .int (oI 8), .int (oI 0)] [] (ev_X7_put F (shR a0 6) (kt_2_6 h0) v7 8 0 w11) vm_X7_put fc6 (kt_2_6 h0) (hx.ci (kt_2_6 h0) (Nat.le_of_ble_eq_true rfl)) g328 dX2_addTune_123 rfl rfl (Nat.le_of_ble_eq_true rfl) (Nat.le_of_ble_eq_true rfl) (Nat.le_of_ble_eq_true rfl) (fun w12 => ?_)
  refine E_aload_n (pc := 126) hx 0 dX2_addTune_126 rfl rfl ?_
  refine E_getR (pc := 127) hx 6 fc2 h0 (hx.ci h0 (Nat.le_of_ble_eq_true rfl)) rfl ⟨rfl, rfl, rfl⟩ g144 dX2_addTune_127 ?_
  refine E_iload (pc := 130) hx 2 dX2_addTune_130 rfl ?_
  refine I_bipush (pc := 132) hx 9 dX2_addTune_132 rfl ?_
  refine E_iload (pc := 134) hx 1 dX2_addTune_134 rfl ?_
  refine I_cVV  (pc := 136) hx [.int (oI v7), .int (oI 9), .int (oI p4)] [] (ev_X7_put F (shR a0 6) (kt_2_6 h0) v7 9 p4 w12) vm_X7_put fc6 (kt_2_6 h0) (hx.ci (kt_2_6 h0) (Nat.le_of_ble_eq_true rfl)) g328 dX2_addTune_136 rfl rfl (Nat.le_of_ble_eq_true rfl) (Nat.le_of_ble_eq_true rfl) (Nat.le_of_ble_eq_true rfl) (fun w13 => ?_)
  refine E_aload_n (pc := 139) hx 0 dX2_addTune_139 rfl rfl ?_
  refine E_getR (pc := 140) hx 6 fc2 h0 (hx.ci h0 (Nat.le_of_ble_eq_true rfl)) rfl ⟨rfl, rfl, rfl⟩ g144 dX2_addTune_140 ?_
  refine E_iload (pc := 143) hx 2 dX2_addTune_143 rfl ?_
  refine I_bipush (pc := 145) hx 10 dX2_addTune_145 rfl ?_
  refine E_iload (pc := 147) hx 1 dX2_addTune_147 rfl ?_
  refine I_cVV  (pc := 149) hx [.int (oI v7), .int (oI 10), .int (oI p4)] [] (ev_X7_put F (shR a0 6) (kt_2_6 h0) v7 10 p4 w13) vm_X7_put fc6 (kt_2_6 h0) (hx.ci (kt_2_6 h0) (Nat.le_of_ble_eq_true rfl)) g328 dX2_addTune_149 rfl rfl (Nat.le_of_ble_eq_true rfl) (Nat.le_of_ble_eq_true rfl) (Nat.le_of_ble_eq_true rfl) (fun w14 => ?_)
  refine E_aload_n (pc := 152) hx 0 dX2_addTune_152 rfl rfl ?_
  refine E_getR (pc := 153) hx 6 fc2 h0 (hx.ci h0 (Nat.le_of_ble_eq_true rfl)) rfl ⟨rfl, rfl, rfl⟩ g144 dX2_addTune_153 ?_
  refine E_iload (pc := 156) hx 2 dX2_addTune_156 rfl ?_
  refine I_bipush (pc := 158) hx 11 dX2_addTune_158 rfl ?_
  refine I_iconst (pc := 160) hx 0 dX2_addTune_160 ?_
  refine I_cVV  (pc := 161) hx [.int (oI v7), .int (oI 11), .int (oI 0)] [] (ev_X7_put F (shR a0 6) (kt_2_6 h0) v7 11 0 w14) vm_X7_put fc6 (kt_2_6 h0) (hx.ci (kt_2_6 h0) (Nat.le_of_ble_eq_true rfl)) g328 dX2_addTune_161 rfl rfl (Nat.le_of_ble_eq_true rfl) (Nat.le_of_ble_eq_true rfl) (Nat.le_of_ble_eq_true rfl) (fun w15 => ?_)
  refine E_aload_n (pc := 164) hx 0 dX2_addTune_164 rfl rfl ?_
  refine E_getR (pc := 165) hx 6 fc2 h0 (hx.ci h0 (Nat.le_of_ble_eq_true rfl)) rfl ⟨rfl, rfl, rfl⟩ g144 dX2_addTune_165 ?_
  refine E_iload (pc := 168) hx 2 dX2_addTune_168 rfl ?_
  refine I_bipush (pc := 170) hx 12 dX2_addTune_170 rfl ?_
  refine I_iconst (pc := 172) hx 0 dX2_addTune_172 ?_
  refine I_cVV  (pc := 173) hx [.int (oI v7), .int (oI 12), .int (oI 0)] [] (ev_X7_put F (shR a0 6) (kt_2_6 h0) v7 12 0 w15) vm_X7_put fc6 (kt_2_6 h0) (hx.ci (kt_2_6 h0) (Nat.le_of_ble_eq_true rfl)) g328 dX2_addTune_173 rfl rfl (Nat.le_of_ble_eq_true rfl) (Nat.le_of_ble_eq_true rfl) (Nat.le_of_ble_eq_true rfl) (fun w16 => ?_)
  refine E_aload_n (pc := 176) hx 0 dX2_addTune_176 rfl rfl ?_
  refine E_dup (pc := 177) hx dX2_addTune_177 rfl ?_
  refine I_getI (pc := 178) hx 3 3 rfl fc2 h0 (hx.ci h0 (Nat.le_of_ble_eq_true rfl)) rfl ⟨rfl, rfl, rfl⟩ g134 dX2_addTune_178 ?_
  refine I_iconst (pc := 181) hx 1 dX2_addTune_181 ?_
  refine I_iadd (pc := 182) hx dX2_addTune_182 ?_
  refine I_put (pc := 183) hx 3 3 rfl .int tyX2 fc2 tyX2_ok h0 (hx.ci h0 (Nat.le_of_ble_eq_true rfl)) rfl ⟨rfl, rfl, rfl, rfl, pfd_I⟩ rfl rfl g134 dX2_addTune_183 (fun w17 => ?_)
  refine E_aload_n (pc := 186) hx 0 dX2_addTune_186 rfl rfl ?_
  refine I_iconst (pc := 187) hx 1 dX2_addTune_187 ?_
  refine I_iconst (pc := 188) hx 1 dX2_addTune_188 ?_
  refine I_cVV  (pc := 189) hx [.int (oI 1), .int (oI 1)] [] (ev_X2_enter F a0 h0 1 1 w17) vm_X2_enter fc2 h0 (hx.ci h0 (Nat.le_of_ble_eq_true rfl)) g844 dX2_addTune_189 rfl rfl (Nat.le_of_ble_eq_true rfl) (Nat.le_of_ble_eq_true rfl) (Nat.le_of_ble_eq_true rfl) (fun w18 => ?_)
  refine E_iload (pc := 192) hx 2 dX2_addTune_192 rfl ?_
  exact E_iret (pc := 194) hx dX2_addTune_194 rfl rfl (Nat.le_of_ble_eq_true rfl)
set_option maxHeartbeats 4000000 in
set_option maxRecDepth 100000 in
theorem l_X2_addTune_b90 {x : Cx} (F : Nat) (a0 : Nat) (h0 : shK a0 = 10 + 2) (p1 : Int) (p2 : Int) (p3 : Int) (p4 : Int) (p5 : Int) (p6 : Int)  (hx : CxOK x RX2 cX2_addTune 8 2 0 (some .int))   (v7 : Int) (z0 : Int) (z1 : Int) (z2 : Int) (z3 : Nat) (hz3 : shK z3 = 10 + 6) (w : aI) : En x jvIW 0 0 90 [(0, .ref a0), (4, .int (oI p4)), (6, .int (oI p6)), (7, .int (oI v7))] [.int (oI z0), .int (oI z1), .int (oI z2), .ref z3] (cm w) (f_X2_addTune_b90 F a0 p1 p2 p3 p4 p5 p6    v7 z0 z1 z2 z3 w) := by
  unfold f_X2_addTune_b90
  refine I_cVV  (pc := 90) hx [.int (oI z2), .int (oI z1), .int (oI z0)] [] (ev_X7_put F z3 hz3 z2 z1 z0 w) vm_X7_put fc6 hz3 (hx.ci hz3 (Nat.le_of_ble_eq_true rfl)) g328 dX2_addTune_90 rfl rfl (Nat.le_of_ble_eq_true rfl) (Nat.le_of_ble_eq_true rfl) (Nat.le_of_ble_eq_true rfl) (fun w9 => ?_)
  refine E_aload_n (pc := 93) hx 0 dX2_addTune_93 rfl rfl ?_
  refine E_getR (pc := 94) hx 6 fc2 h0 (hx.ci h0 (Nat.le_of_ble_eq_true rfl)) rfl ⟨rfl, rfl, rfl⟩ g144 dX2_addTune_94 ?_
  refine E_iload (pc := 97) hx 3 dX2_addTune_97 rfl ?_
  refine I_bipush (pc := 99) hx 7 dX2_addTune_99 rfl ?_
  refine E_iload (pc := 101) hx 2 dX2_addTune_101 rfl ?_
  refine E_gd (fun hr10 => ?_)
  refine I_if_eq (pc := 103) hx 110 dX2_addTune_103 rfl hr10 ?_ ?_
  · refine I_iconst (pc := 110) hx 0 dX2_addTune_110 ?_
    refine En.sub [0, 1, 3] rfl ?_
    exact l_X2_addTune_b111 F a0 h0 p1 p2 p3 p4 p5 p6 hx v7 0 7 v7 (shR a0 6) (kt_2_6 h0) w9
  refine I_iconst (pc := 106) hx 1 dX2_addTune_106 ?_
  refine E_goto (pc := 107) hx 111 dX2_addTune_107 rfl ?_
  refine En.sub [0, 1, 3] rfl ?_
  exact l_X2_addTune_b111 F a0 h0 p1 p2 p3 p4 p5 p6 hx v7 1 7 v7 (shR a0 6) (kt_2_6 h0) w9
set_option maxHeartbeats 4000000 in
set_option maxRecDepth 100000 in
theorem ev_X2_addTune (F : Nat) (a0 : Nat) (h0 : shK a0 = 10 + 2) (p1 : Int) (p2 : Int) (p3 : Int) (p4 : Int) (p5 : Int) (p6 : Int) (w : aI) : Ev yX2_addTune cX2_addTune 8 (some .int) 2 0 jvIW [.ref a0, .int (oI p1), .int (oI p2), .int (oI p3), .int (oI p4), .int (oI p5), .int (oI p6)] (cm w) (f_X2_addTune F a0 p1 p2 p3 p4 p5 p6 w) := by
  refine Ev.of (own := RX2) (by decide +kernel) rfl (Nat.le_of_ble_eq_true rfl) (fun x hx => ?_)
  show En x jvIW 0 0 0 [(0, .ref a0), (1, .int (oI p1)), (2, .int (oI p2)), (3, .int (oI p3)), (4, .int (oI p4)), (5, .int (oI p5)), (6, .int (oI p6))] [] (cm w) _
  unfold f_X2_addTune
  refine E_aload_n (pc := 0) hx 0 dX2_addTune_0 rfl rfl ?_
  refine I_getI (pc := 1) hx 3 3 rfl fc2 h0 (hx.ci h0 (Nat.le_of_ble_eq_true rfl)) rfl ⟨rfl, rfl, rfl⟩ g134 dX2_addTune_1 ?_
  refine I_ltv (fun v7_1 => ?_)
  refine E_istore (pc := 4) hx dX2_addTune_4 (Nat.le_of_ble_eq_true rfl) rfl ?_
  refine E_aload_n (pc := 6) hx 1 dX2_addTune_6 rfl rfl ?_
  refine E_getR (pc := 7) hx 6 fc2 h0 (hx.ci h0 (Nat.le_of_ble_eq_true rfl)) rfl ⟨rfl, rfl, rfl⟩ g144 dX2_addTune_7 ?_
  refine E_iload (pc := 10) hx 0 dX2_addTune_10 rfl ?_
  refine I_iconst (pc := 12) hx 0 dX2_addTune_12 ?_
  refine E_iload_n (pc := 13) hx 2 dX2_addTune_13 rfl rfl ?_
  refine I_cVV  (pc := 14) hx [.int (oI v7_1), .int (oI 0), .int (oI p1)] [] (ev_X7_put F (shR a0 6) (kt_2_6 h0) v7_1 0 p1 w) vm_X7_put fc6 (kt_2_6 h0) (hx.ci (kt_2_6 h0) (Nat.le_of_ble_eq_true rfl)) g328 dX2_addTune_14 rfl rfl (Nat.le_of_ble_eq_true rfl) (Nat.le_of_ble_eq_true rfl) (Nat.le_of_ble_eq_true rfl) (fun w2 => ?_)
  refine E_aload_n (pc := 17) hx 1 dX2_addTune_17 rfl rfl ?_
  refine E_getR (pc := 18) hx 6 fc2 h0 (hx.ci h0 (Nat.le_of_ble_eq_true rfl)) rfl ⟨rfl, rfl, rfl⟩ g144 dX2_addTune_18 ?_
  refine E_iload (pc := 21) hx 0 dX2_addTune_21 rfl ?_
  refine I_iconst (pc := 23) hx 1 dX2_addTune_23 ?_
  refine E_iload_n (pc := 24) hx 3 dX2_addTune_24 rfl rfl ?_
  refine I_cVV  (pc := 25) hx [.int (oI v7_1), .int (oI 1), .int (oI p2)] [] (ev_X7_put F (shR a0 6) (kt_2_6 h0) v7_1 1 p2 w2) vm_X7_put fc6 (kt_2_6 h0) (hx.ci (kt_2_6 h0) (Nat.le_of_ble_eq_true rfl)) g328 dX2_addTune_25 rfl rfl (Nat.le_of_ble_eq_true rfl) (Nat.le_of_ble_eq_true rfl) (Nat.le_of_ble_eq_true rfl) (fun w3 => ?_)
  refine E_aload_n (pc := 28) hx 1 dX2_addTune_28 rfl rfl ?_
  refine E_getR (pc := 29) hx 6 fc2 h0 (hx.ci h0 (Nat.le_of_ble_eq_true rfl)) rfl ⟨rfl, rfl, rfl⟩ g144 dX2_addTune_29 ?_
  refine E_iload (pc := 32) hx 0 dX2_addTune_32 rfl ?_
  refine I_iconst (pc := 34) hx 2 dX2_addTune_34 ?_
  refine E_iload_n (pc := 35) hx 4 dX2_addTune_35 rfl rfl ?_
  refine I_cVV  (pc := 36) hx [.int (oI v7_1), .int (oI 2), .int (oI p3)] [] (ev_X7_put F (shR a0 6) (kt_2_6 h0) v7_1 2 p3 w3) vm_X7_put fc6 (kt_2_6 h0) (hx.ci (kt_2_6 h0) (Nat.le_of_ble_eq_true rfl)) g328 dX2_addTune_36 rfl rfl (Nat.le_of_ble_eq_true rfl) (Nat.le_of_ble_eq_true rfl) (Nat.le_of_ble_eq_true rfl) (fun w4 => ?_)
  refine E_aload_n (pc := 39) hx 1 dX2_addTune_39 rfl rfl ?_
  refine E_getR (pc := 40) hx 6 fc2 h0 (hx.ci h0 (Nat.le_of_ble_eq_true rfl)) rfl ⟨rfl, rfl, rfl⟩ g144 dX2_addTune_40 ?_
  refine E_iload (pc := 43) hx 0 dX2_addTune_43 rfl ?_
  refine I_iconst (pc := 45) hx 3 dX2_addTune_45 ?_
  refine I_iconst (pc := 46) hx 0 dX2_addTune_46 ?_
  refine I_cVV  (pc := 47) hx [.int (oI v7_1), .int (oI 3), .int (oI 0)] [] (ev_X7_put F (shR a0 6) (kt_2_6 h0) v7_1 3 0 w4) vm_X7_put fc6 (kt_2_6 h0) (hx.ci (kt_2_6 h0) (Nat.le_of_ble_eq_true rfl)) g328 dX2_addTune_47 rfl rfl (Nat.le_of_ble_eq_true rfl) (Nat.le_of_ble_eq_true rfl) (Nat.le_of_ble_eq_true rfl) (fun w5 => ?_)
  refine E_aload_n (pc := 50) hx 1 dX2_addTune_50 rfl rfl ?_
  refine E_getR (pc := 51) hx 6 fc2 h0 (hx.ci h0 (Nat.le_of_ble_eq_true rfl)) rfl ⟨rfl, rfl, rfl⟩ g144 dX2_addTune_51 ?_
  refine E_iload (pc := 54) hx 0 dX2_addTune_54 rfl ?_
  refine I_iconst (pc := 56) hx 4 dX2_addTune_56 ?_
  refine E_iload_n (pc := 57) hx 2 dX2_addTune_57 rfl rfl ?_
  refine I_cVV  (pc := 58) hx [.int (oI v7_1), .int (oI 4), .int (oI p1)] [] (ev_X7_put F (shR a0 6) (kt_2_6 h0) v7_1 4 p1 w5) vm_X7_put fc6 (kt_2_6 h0) (hx.ci (kt_2_6 h0) (Nat.le_of_ble_eq_true rfl)) g328 dX2_addTune_58 rfl rfl (Nat.le_of_ble_eq_true rfl) (Nat.le_of_ble_eq_true rfl) (Nat.le_of_ble_eq_true rfl) (fun w6 => ?_)
  refine E_aload_n (pc := 61) hx 1 dX2_addTune_61 rfl rfl ?_
  refine E_getR (pc := 62) hx 6 fc2 h0 (hx.ci h0 (Nat.le_of_ble_eq_true rfl)) rfl ⟨rfl, rfl, rfl⟩ g144 dX2_addTune_62 ?_
  refine E_iload (pc := 65) hx 0 dX2_addTune_65 rfl ?_
  refine I_iconst (pc := 67) hx 5 dX2_addTune_67 ?_
  refine I_iconst (pc := 68) hx (-1) dX2_addTune_68 ?_
  refine I_cVV  (pc := 69) hx [.int (oI v7_1), .int (oI 5), .int (oI (-1))] [] (ev_X7_put F (shR a0 6) (kt_2_6 h0) v7_1 5 (-1) w6) vm_X7_put fc6 (kt_2_6 h0) (hx.ci (kt_2_6 h0) (Nat.le_of_ble_eq_true rfl)) g328 dX2_addTune_69 rfl rfl (Nat.le_of_ble_eq_true rfl) (Nat.le_of_ble_eq_true rfl) (Nat.le_of_ble_eq_true rfl) (fun w7 => ?_)
  refine E_aload_n (pc := 72) hx 1 dX2_addTune_72 rfl rfl ?_
  refine E_getR (pc := 73) hx 6 fc2 h0 (hx.ci h0 (Nat.le_of_ble_eq_true rfl)) rfl ⟨rfl, rfl, rfl⟩ g144 dX2_addTune_73 ?_
  refine E_iload (pc := 76) hx 0 dX2_addTune_76 rfl ?_
  refine I_bipush (pc := 78) hx 6 dX2_addTune_78 rfl ?_
  refine E_iload (pc := 80) hx 6 dX2_addTune_80 rfl ?_
  refine E_gd (fun hr8 => ?_)
  refine I_if_eq (pc := 82) hx 89 dX2_addTune_82 rfl hr8 ?_ ?_
  · refine I_iconst (pc := 89) hx 0 dX2_addTune_89 ?_
    refine En.sub [1, 5, 7, 0] rfl ?_
    exact l_X2_addTune_b90 F a0 h0 p1 p2 p3 p4 p5 p6 hx v7_1 0 6 v7_1 (shR a0 6) (kt_2_6 h0) w7
  refine I_iconst (pc := 85) hx 1 dX2_addTune_85 ?_
  refine E_goto (pc := 86) hx 90 dX2_addTune_86 rfl ?_
  refine En.sub [1, 5, 7, 0] rfl ?_
  exact l_X2_addTune_b90 F a0 h0 p1 p2 p3 p4 p5 p6 hx v7_1 1 6 v7_1 (shR a0 6) (kt_2_6 h0) w7
set_option maxHeartbeats 4000000 in
set_option maxRecDepth 100000 in
theorem ev_X2_hasTimeFor (F : Nat) (a0 : Nat) (h0 : shK a0 = 10 + 2) (p1 : Int) (w : aI) : Ev yX2_hasTimeFor cX2_hasTimeFor 2 (some .boolean) 0 0 (jvB w) [.ref a0, .int (oI p1)] (cm w) (f_X2_hasTimeFor F a0 p1 w) := by
  refine Ev.of (own := RX2) (by decide +kernel) rfl (Nat.le_of_ble_eq_true rfl) (fun x hx => ?_)
  show En x (jvB w) 0 0 0 [(0, .ref a0), (1, .int (oI p1))] [] (cm w) _
  unfold f_X2_hasTimeFor
  refine E_aload_n (pc := 0) hx 0 dX2_hasTimeFor_0 rfl rfl ?_
  refine I_getI (pc := 1) hx 0 0 rfl fc2 h0 (hx.ci h0 (Nat.le_of_ble_eq_true rfl)) rfl ⟨rfl, rfl, rfl⟩ g122 dX2_hasTimeFor_1 ?_
  refine E_iload_n (pc := 4) hx 1 dX2_hasTimeFor_4 rfl rfl ?_
  refine I_iadd (pc := 5) hx dX2_hasTimeFor_5 ?_
  refine I_sipush (pc := 6) hx 9999 dX2_hasTimeFor_6 rfl ?_
  refine E_gd (fun hr1 => ?_)
  refine I_icmp_gt (pc := 9) hx 16 dX2_hasTimeFor_9 rfl ⟨hr1, (by decide)⟩ ?_ ?_
  · refine I_iconst (pc := 16) hx 0 dX2_hasTimeFor_16 ?_
    exact E_zret (pc := 17) hx dX2_hasTimeFor_17 rfl rfl rfl (Nat.le_of_ble_eq_true rfl)
  refine I_iconst (pc := 12) hx 1 dX2_hasTimeFor_12 ?_
  refine E_goto (pc := 13) hx 17 dX2_hasTimeFor_13 rfl ?_
  exact E_zret (pc := 17) hx dX2_hasTimeFor_17 rfl rfl rfl (Nat.le_of_ble_eq_true rfl)
set_option maxHeartbeats 4000000 in
set_option maxRecDepth 100000 in
theorem ev_X2_hasRoomFor (F : Nat) (a0 : Nat) (h0 : shK a0 = 10 + 2) (p1 : Int) (p2 : Int) (w : aI) : Ev yX2_hasRoomFor cX2_hasRoomFor 3 (some .boolean) 1 0 (jvB w) [.ref a0, .int (oI p1), .int (oI p2)] (cm w) (f_X2_hasRoomFor F a0 p1 p2 w) := by
  refine Ev.of (own := RX2) (by decide +kernel) rfl (Nat.le_of_ble_eq_true rfl) (fun x hx => ?_)
  show En x (jvB w) 0 0 0 [(0, .ref a0), (1, .int (oI p1)), (2, .int (oI p2))] [] (cm w) _
  unfold f_X2_hasRoomFor
  refine E_aload_n (pc := 0) hx 0 dX2_hasRoomFor_0 rfl rfl ?_
  refine E_getR (pc := 1) hx 4 fc2 h0 (hx.ci h0 (Nat.le_of_ble_eq_true rfl)) rfl ⟨rfl, rfl, rfl⟩ g138 dX2_hasRoomFor_1 ?_
  refine E_iload_n (pc := 4) hx 1 dX2_hasRoomFor_4 rfl rfl ?_
  refine I_iconst (pc := 5) hx 3 dX2_hasRoomFor_5 ?_
  refine I_cVI  (pc := 6) hx [.int (oI p1), .int (oI 3)] [] (ev_X7_get F (shR a0 4) (kt_2_4 h0) p1 3 w) vm_X7_get fc6 (kt_2_4 h0) (hx.ci (kt_2_4 h0) (Nat.le_of_ble_eq_true rfl)) g384 dX2_hasRoomFor_6 rfl rfl (Nat.le_of_ble_eq_true rfl) (Nat.le_of_ble_eq_true rfl) (Nat.le_of_ble_eq_true rfl) (fun r1 => ?_)
  refine E_iload_n (pc := 9) hx 2 dX2_hasRoomFor_9 rfl rfl ?_
  refine I_iadd (pc := 10) hx dX2_hasRoomFor_10 ?_
  refine I_sipush (pc := 11) hx 9999 dX2_hasRoomFor_11 rfl ?_
  refine E_gd (fun hr2 => ?_)
  refine I_icmp_gt (pc := 14) hx 21 dX2_hasRoomFor_14 rfl ⟨hr2, (by decide)⟩ ?_ ?_
  · refine I_iconst (pc := 21) hx 0 dX2_hasRoomFor_21 ?_
    exact E_zret (pc := 22) hx dX2_hasRoomFor_22 rfl rfl rfl (Nat.le_of_ble_eq_true rfl)
  refine I_iconst (pc := 17) hx 1 dX2_hasRoomFor_17 ?_
  refine E_goto (pc := 18) hx 22 dX2_hasRoomFor_18 rfl ?_
  exact E_zret (pc := 22) hx dX2_hasRoomFor_22 rfl rfl rfl (Nat.le_of_ble_eq_true rfl)
set_option maxHeartbeats 4000000 in
set_option maxRecDepth 100000 in
theorem ev_X2_takeCoins (F : Nat) (a0 : Nat) (h0 : shK a0 = 10 + 2) (p1 : Int) (p2 : Int) (w : aI) : Ev yX2_takeCoins cX2_takeCoins 3 none 2 0 jvV [.ref a0, .int (oI p1), .int (oI p2)] (cm w) (f_X2_takeCoins F a0 p1 p2 w) := by
  refine Ev.of (own := RX2) (by decide +kernel) rfl (Nat.le_of_ble_eq_true rfl) (fun x hx => ?_)
  show En x jvV 0 0 0 [(0, .ref a0), (1, .int (oI p1)), (2, .int (oI p2))] [] (cm w) _
  unfold f_X2_takeCoins
  refine E_aload_n (pc := 0) hx 0 dX2_takeCoins_0 rfl rfl ?_
  refine E_getR (pc := 1) hx 4 fc2 h0 (hx.ci h0 (Nat.le_of_ble_eq_true rfl)) rfl ⟨rfl, rfl, rfl⟩ g138 dX2_takeCoins_1 ?_
  refine E_iload_n (pc := 4) hx 1 dX2_takeCoins_4 rfl rfl ?_
  refine I_iconst (pc := 5) hx 3 dX2_takeCoins_5 ?_
  refine E_iload_n (pc := 6) hx 2 dX2_takeCoins_6 rfl rfl ?_
  refine I_cVV  (pc := 7) hx [.int (oI p1), .int (oI 3), .int (oI p2)] [] (ev_X7_grow F (shR a0 4) (kt_2_4 h0) p1 3 p2 w) vm_X7_grow fc6 (kt_2_4 h0) (hx.ci (kt_2_4 h0) (Nat.le_of_ble_eq_true rfl)) g848 dX2_takeCoins_7 rfl rfl (Nat.le_of_ble_eq_true rfl) (Nat.le_of_ble_eq_true rfl) (Nat.le_of_ble_eq_true rfl) (fun w1 => ?_)
  refine E_aload_n (pc := 10) hx 0 dX2_takeCoins_10 rfl rfl ?_
  refine I_bipush (pc := 11) hx 10 dX2_takeCoins_11 rfl ?_
  refine E_iload_n (pc := 13) hx 2 dX2_takeCoins_13 rfl rfl ?_
  refine I_cVV  (pc := 14) hx [.int (oI 10), .int (oI p2)] [] (ev_X2_enter F a0 h0 10 p2 w1) vm_X2_enter fc2 h0 (hx.ci h0 (Nat.le_of_ble_eq_true rfl)) g844 dX2_takeCoins_14 rfl rfl (Nat.le_of_ble_eq_true rfl) (Nat.le_of_ble_eq_true rfl) (Nat.le_of_ble_eq_true rfl) (fun w2 => ?_)
  exact E_vret (pc := 17) hx dX2_takeCoins_17 rfl rfl (Nat.le_of_ble_eq_true rfl)
set_option maxHeartbeats 4000000 in
set_option maxRecDepth 100000 in
theorem ev_X2_acrossFrom (F : Nat) (a0 : Nat) (h0 : shK a0 = 10 + 2) (p1 : Int) (p2 : Int) (w : aI) : Ev yX2_acrossFrom cX2_acrossFrom 5 (some .int) 1 0 (jvI w) [.ref a0, .int (oI p1), .int (oI p2)] (cm w) (f_X2_acrossFrom F a0 p1 p2 w) := by
  refine Ev.of (own := RX2) (by decide +kernel) rfl (Nat.le_of_ble_eq_true rfl) (fun x hx => ?_)
  show En x (jvI w) 0 0 0 [(0, .ref a0), (1, .int (oI p1)), (2, .int (oI p2))] [] (cm w) _
  unfold f_X2_acrossFrom
  refine E_aload_n (pc := 0) hx 0 dX2_acrossFrom_0 rfl rfl ?_
  refine E_getR (pc := 1) hx 5 fc2 h0 (hx.ci h0 (Nat.le_of_ble_eq_true rfl)) rfl ⟨rfl, rfl, rfl⟩ g142 dX2_acrossFrom_1 ?_
  refine E_iload_n (pc := 4) hx 2 dX2_acrossFrom_4 rfl rfl ?_
  refine I_iconst (pc := 5) hx 0 dX2_acrossFrom_5 ?_
  refine I_cVI  (pc := 6) hx [.int (oI p2), .int (oI 0)] [] (ev_X7_get F (shR a0 5) (kt_2_5 h0) p2 0 w) vm_X7_get fc6 (kt_2_5 h0) (hx.ci (kt_2_5 h0) (Nat.le_of_ble_eq_true rfl)) g384 dX2_acrossFrom_6 rfl rfl (Nat.le_of_ble_eq_true rfl) (Nat.le_of_ble_eq_true rfl) (Nat.le_of_ble_eq_true rfl) (fun r1 => ?_)
  refine E_istore_n (pc := 9) hx dX2_acrossFrom_9 rfl (Nat.le_of_ble_eq_true rfl) rfl ?_
  refine E_aload_n (pc := 10) hx 1 dX2_acrossFrom_10 rfl rfl ?_
  refine E_getR (pc := 11) hx 5 fc2 h0 (hx.ci h0 (Nat.le_of_ble_eq_true rfl)) rfl ⟨rfl, rfl, rfl⟩ g142 dX2_acrossFrom_11 ?_
  refine E_iload_n (pc := 14) hx 3 dX2_acrossFrom_14 rfl rfl ?_
  refine I_iconst (pc := 15) hx 1 dX2_acrossFrom_15 ?_
  refine I_cVI  (pc := 16) hx [.int (oI p2), .int (oI 1)] [] (ev_X7_get F (shR a0 5) (kt_2_5 h0) p2 1 w) vm_X7_get fc6 (kt_2_5 h0) (hx.ci (kt_2_5 h0) (Nat.le_of_ble_eq_true rfl)) g384 dX2_acrossFrom_16 rfl rfl (Nat.le_of_ble_eq_true rfl) (Nat.le_of_ble_eq_true rfl) (Nat.le_of_ble_eq_true rfl) (fun r2 => ?_)
  refine E_istore (pc := 19) hx dX2_acrossFrom_19 (Nat.le_of_ble_eq_true rfl) rfl ?_
  refine E_iload_n (pc := 21) hx 1 dX2_acrossFrom_21 rfl rfl ?_
  refine E_iload_n (pc := 22) hx 3 dX2_acrossFrom_22 rfl rfl ?_
  refine E_gd (fun hr3 => ?_)
  refine I_icmp_ne (pc := 23) hx 29 dX2_acrossFrom_23 rfl ⟨hr3.1, hr3.2⟩ ?_ ?_
  · refine E_iload (pc := 29) hx 0 dX2_acrossFrom_29 rfl ?_
    refine E_iload_n (pc := 31) hx 3 dX2_acrossFrom_31 rfl rfl ?_
    refine E_gd (fun hr4 => ?_)
    refine I_icmp_ne (pc := 32) hx 39 dX2_acrossFrom_32 rfl ⟨hr4, hr3.2⟩ ?_ ?_
    · refine I_iconst (pc := 39) hx (-1) dX2_acrossFrom_39 ?_
      exact E_iret (pc := 40) hx dX2_acrossFrom_40 rfl rfl (Nat.le_of_ble_eq_true rfl)
    refine E_iload_n (pc := 35) hx 1 dX2_acrossFrom_35 rfl rfl ?_
    refine E_goto (pc := 36) hx 40 dX2_acrossFrom_36 rfl ?_
    exact E_iret (pc := 40) hx dX2_acrossFrom_40 rfl rfl (Nat.le_of_ble_eq_true rfl)
  refine E_iload (pc := 26) hx 0 dX2_acrossFrom_26 rfl ?_
  exact E_iret (pc := 28) hx dX2_acrossFrom_28 rfl rfl (Nat.le_of_ble_eq_true rfl)
set_option maxHeartbeats 4000000 in
set_option maxRecDepth 100000 in
theorem l_X2_wayBetween_b2_b {x : Cx} (F : Nat) (a0 : Nat) (h0 : shK a0 = 10 + 2) (p1 : Int) (p2 : Int) (w : aI) (hx : CxOK x RX2 cX2_wayBetween 4 2 0 (some .int))  (k2 : Int → Option Int) (hk2 : ∀ (v3 : Int), En x (jvI w) 0 0 2 [(0, .ref a0), (1, .int (oI p1)), (2, .int (oI p2)), (3, .int (oI v3))] [] (cm w) (k2 v3)) (v3 : Int)  : En x (jvI w) 0 0 2 [(0, .ref a0), (1, .int (oI p1)), (2, .int (oI p2)), (3, .int (oI v3))] [] (cm w) (f_X2_wayBetween_b2_b F a0 p1 p2 w  k2 v3) := by
  unfold f_X2_wayBetween_b2_b
  refine E_iload_n (pc := 2) hx 3 dX2_wayBetween_2 rfl rfl ?_
  refine E_aload_n (pc := 3) hx 0 dX2_wayBetween_3 rfl rfl ?_
  refine I_getI (pc := 4) hx 2 2 rfl fc2 h0 (hx.ci h0 (Nat.le_of_ble_eq_true rfl)) rfl ⟨rfl, rfl, rfl⟩ g130 dX2_wayBetween_4 ?_
  refine E_gd (fun hr1 => ?_)
  refine I_icmp_ge (pc := 7) hx 28 dX2_wayBetween_7 rfl ⟨hr1.1, hr1.2⟩ ?_ ?_
  · refine I_iconst (pc := 28) hx (-1) dX2_wayBetween_28 ?_
    exact E_iret (pc := 29) hx dX2_wayBetween_29 rfl rfl (Nat.le_of_ble_eq_true rfl)
  refine E_aload_n (pc := 10) hx 0 dX2_wayBetween_10 rfl rfl ?_
  refine E_iload_n (pc := 11) hx 1 dX2_wayBetween_11 rfl rfl ?_
  refine E_iload_n (pc := 12) hx 3 dX2_wayBetween_12 rfl rfl ?_
  refine I_cVI  (pc := 13) hx [.int (oI p1), .int (oI v3)] [] (ev_X2_acrossFrom F a0 h0 p1 v3 w) vm_X2_acrossFrom fc2 h0 (hx.ci h0 (Nat.le_of_ble_eq_true rfl)) g419 dX2_wayBetween_13 rfl rfl (Nat.le_of_ble_eq_true rfl) (Nat.le_of_ble_eq_true rfl) (Nat.le_of_ble_eq_true rfl) (fun r2 => ?_)
  refine E_iload_n (pc := 16) hx 2 dX2_wayBetween_16 rfl rfl ?_
  refine E_gd (fun hr3 => ?_)
  refine I_icmp_ne (pc := 17) hx 22 dX2_wayBetween_17 rfl ⟨hr3.1, hr3.2⟩ ?_ ?_
  · refine I_iinc (pc := 22) hx 1 3 dX2_wayBetween_22 rfl (Nat.le_of_ble_eq_true rfl) rfl ?_
    refine E_goto (pc := 25) hx 2 dX2_wayBetween_25 rfl ?_
    refine En.sub [1, 2, 3, 0] rfl ?_
    exact hk2 (v3 + 1)
  refine E_iload_n (pc := 20) hx 3 dX2_wayBetween_20 rfl rfl ?_
  exact E_iret (pc := 21) hx dX2_wayBetween_21 rfl rfl (Nat.le_of_ble_eq_true rfl)
theorem l_X2_wayBetween_b2 {x : Cx} (F : Nat) (a0 : Nat) (h0 : shK a0 = 10 + 2) (p1 : Int) (p2 : Int) (w : aI) (hx : CxOK x RX2 cX2_wayBetween 4 2 0 (some .int))  : ∀ (n : Nat) (v3 : Int), En x (jvI w) 0 0 2 [(0, .ref a0), (1, .int (oI p1)), (2, .int (oI p2)), (3, .int (oI v3))] [] (cm w) (f_X2_wayBetween_b2 F a0 p1 p2 w  n v3) := by
  intro n
  induction n with
  | zero => intro v3; exact E_none
  | succ n ih => intro v3; exact l_X2_wayBetween_b2_b F a0 h0 p1 p2 w hx  _ ih v3
set_option maxHeartbeats 4000000 in
set_option maxRecDepth 100000 in
theorem ev_X2_wayBetween (F : Nat) (a0 : Nat) (h0 : shK a0 = 10 + 2) (p1 : Int) (p2 : Int) (w : aI) : Ev yX2_wayBetween cX2_wayBetween 4 (some .int) 2 0 (jvI w) [.ref a0, .int (oI p1), .int (oI p2)] (cm w) (f_X2_wayBetween F a0 p1 p2 w) := by
  refine Ev.of (own := RX2) (by decide +kernel) rfl (Nat.le_of_ble_eq_true rfl) (fun x hx => ?_)
  show En x (jvI w) 0 0 0 [(0, .ref a0), (1, .int (oI p1)), (2, .int (oI p2))] [] (cm w) _
  unfold f_X2_wayBetween
  refine I_iconst (pc := 0) hx 0 dX2_wayBetween_0 ?_
  refine E_istore_n (pc := 1) hx dX2_wayBetween_1 rfl (Nat.le_of_ble_eq_true rfl) rfl ?_
  refine En.sub [1, 2, 3, 0] rfl ?_
  exact l_X2_wayBetween_b2 F a0 h0 p1 p2 w hx F 0
set_option maxHeartbeats 4000000 in
set_option maxRecDepth 100000 in
theorem l_X7_removeRow_b14_b {x : Cx} (F : Nat) (a0 : Nat) (h0 : shK a0 = 10 + 6) (p1 : Int)  (hx : CxOK x RX7 cX7_removeRow 4 1 0 none) (k4 : Int → aI → Option aI) (hk4 : ∀ (v2 : Int) (w : aI), En x jvV 0 0 4 [(0, .ref a0), (2, .int (oI v2))] [] (cm w) (k4 v2 w)) (k14 : Int → Int → aI → Option aI) (hk14 : ∀ (v2 : Int) (v3 : Int) (w : aI), En x jvV 0 0 14 [(0, .ref a0), (2, .int (oI v2)), (3, .int (oI v3))] [] (cm w) (k14 v2 v3 w)) (v2 : Int) (v3 : Int) (w : aI) : En x jvV 0 0 14 [(0, .ref a0), (2, .int (oI v2)), (3, .int (oI v3))] [] (cm w) (f_X7_removeRow_b14_b F a0 p1  k4 k14 v2 v3 w) := by
  unfold f_X7_removeRow_b14_b
  refine E_iload_n (pc := 14) hx 2 dX7_removeRow_14 rfl rfl ?_
  refine E_aload_n (pc := 15) hx 0 dX7_removeRow_15 rfl rfl ?_
  refine I_getI (pc := 16) hx 1 1 rfl fc6 h0 (hx.ci h0 (Nat.le_of_ble_eq_true rfl)) rfl ⟨rfl, rfl, rfl⟩ g91 dX7_removeRow_16 ?_
  refine E_gd (fun hr3 => ?_)
  refine I_icmp_ge (pc := 19) hx 42 dX7_removeRow_19 rfl ⟨hr3.1, hr3.2⟩ ?_ ?_
  · refine I_iinc (pc := 42) hx 1 1 dX7_removeRow_42 rfl (Nat.le_of_ble_eq_true rfl) rfl ?_
    refine E_goto (pc := 45) hx 4 dX7_removeRow_45 rfl ?_
    refine En.sub [1, 0] rfl ?_
    exact hk4 (v2 + 1) w
  refine E_aload_n (pc := 22) hx 0 dX7_removeRow_22 rfl rfl ?_
  refine E_iload_n (pc := 23) hx 1 dX7_removeRow_23 rfl rfl ?_
  refine I_iconst (pc := 24) hx 1 dX7_removeRow_24 ?_
  refine I_isub (pc := 25) hx dX7_removeRow_25 ?_
  refine E_iload_n (pc := 26) hx 2 dX7_removeRow_26 rfl rfl ?_
  refine E_aload_n (pc := 27) hx 0 dX7_removeRow_27 rfl rfl ?_
  refine E_iload_n (pc := 28) hx 1 dX7_removeRow_28 rfl rfl ?_
  refine E_iload_n (pc := 29) hx 2 dX7_removeRow_29 rfl rfl ?_
  refine I_cVI  (pc := 30) hx [.int (oI v2), .int (oI v3)] [.int (oI v3), .int (oI (v2 - 1)), .ref a0] (ev_X7_get F a0 h0 v2 v3 w) vm_X7_get fc6 h0 (hx.ci h0 (Nat.le_of_ble_eq_true rfl)) g800 dX7_removeRow_30 rfl rfl (Nat.le_of_ble_eq_true rfl) (Nat.le_of_ble_eq_true rfl) (Nat.le_of_ble_eq_true rfl) (fun r4 => ?_)
  refine I_cVV  (pc := 33) hx [.int (oI (v2 - 1)), .int (oI v3), .int (oI r4)] [] (ev_X7_put F a0 h0 (v2 - 1) v3 r4 w) vm_X7_put fc6 h0 (hx.ci h0 (Nat.le_of_ble_eq_true rfl)) g801 dX7_removeRow_33 rfl rfl (Nat.le_of_ble_eq_true rfl) (Nat.le_of_ble_eq_true rfl) (Nat.le_of_ble_eq_true rfl) (fun w5 => ?_)
  refine I_iinc (pc := 36) hx 1 2 dX7_removeRow_36 rfl (Nat.le_of_ble_eq_true rfl) rfl ?_
  refine E_goto (pc := 39) hx 14 dX7_removeRow_39 rfl ?_
  refine En.sub [1, 2, 0] rfl ?_
  exact hk14 v2 (v3 + 1) w5
theorem l_X7_removeRow_b14 {x : Cx} (F : Nat) (a0 : Nat) (h0 : shK a0 = 10 + 6) (p1 : Int)  (hx : CxOK x RX7 cX7_removeRow 4 1 0 none) (k4 : Int → aI → Option aI) (hk4 : ∀ (v2 : Int) (w : aI), En x jvV 0 0 4 [(0, .ref a0), (2, .int (oI v2))] [] (cm w) (k4 v2 w)) : ∀ (n : Nat) (v2 : Int) (v3 : Int) (w : aI), En x jvV 0 0 14 [(0, .ref a0), (2, .int (oI v2)), (3, .int (oI v3))] [] (cm w) (f_X7_removeRow_b14 F a0 p1  k4 n v2 v3 w) := by
  intro n
  induction n with
  | zero => intro v2 v3 w; exact E_none
  | succ n ih => intro v2 v3 w; exact l_X7_removeRow_b14_b F a0 h0 p1  hx k4 hk4 _ ih v2 v3 w
set_option maxHeartbeats 4000000 in
set_option maxRecDepth 100000 in
theorem l_X7_removeRow_b4_b {x : Cx} (F : Nat) (a0 : Nat) (h0 : shK a0 = 10 + 6) (p1 : Int)  (hx : CxOK x RX7 cX7_removeRow 4 1 0 none)  (k4 : Int → aI → Option aI) (hk4 : ∀ (v2 : Int) (w : aI), En x jvV 0 0 4 [(0, .ref a0), (2, .int (oI v2))] [] (cm w) (k4 v2 w)) (v2 : Int) (w : aI) : En x jvV 0 0 4 [(0, .ref a0), (2, .int (oI v2))] [] (cm w) (f_X7_removeRow_b4_b F a0 p1   k4 v2 w) := by
  unfold f_X7_removeRow_b4_b
  refine E_iload_n (pc := 4) hx 1 dX7_removeRow_4 rfl rfl ?_
  refine E_aload_n (pc := 5) hx 0 dX7_removeRow_5 rfl rfl ?_
  refine I_getI (pc := 6) hx 0 0 rfl fc6 h0 (hx.ci h0 (Nat.le_of_ble_eq_true rfl)) rfl ⟨rfl, rfl, rfl⟩ g90 dX7_removeRow_6 ?_
  refine E_gd (fun hr2 => ?_)
  refine I_icmp_ge (pc := 9) hx 48 dX7_removeRow_9 rfl ⟨hr2.1, hr2.2⟩ ?_ ?_
  · exact E_vret (pc := 48) hx dX7_removeRow_48 rfl rfl (Nat.le_of_ble_eq_true rfl)
  refine I_iconst (pc := 12) hx 0 dX7_removeRow_12 ?_
  refine E_istore_n (pc := 13) hx dX7_removeRow_13 rfl (Nat.le_of_ble_eq_true rfl) rfl ?_
  refine En.sub [1, 2, 0] rfl ?_
  exact l_X7_removeRow_b14 F a0 h0 p1 hx k4 hk4 F v2 0 w
theorem l_X7_removeRow_b4 {x : Cx} (F : Nat) (a0 : Nat) (h0 : shK a0 = 10 + 6) (p1 : Int)  (hx : CxOK x RX7 cX7_removeRow 4 1 0 none)  : ∀ (n : Nat) (v2 : Int) (w : aI), En x jvV 0 0 4 [(0, .ref a0), (2, .int (oI v2))] [] (cm w) (f_X7_removeRow_b4 F a0 p1   n v2 w) := by
  intro n
  induction n with
  | zero => intro v2 w; exact E_none
  | succ n ih => intro v2 w; exact l_X7_removeRow_b4_b F a0 h0 p1  hx  _ ih v2 w
set_option maxHeartbeats 4000000 in
set_option maxRecDepth 100000 in
theorem ev_X7_removeRow (F : Nat) (a0 : Nat) (h0 : shK a0 = 10 + 6) (p1 : Int) (w : aI) : Ev yX7_removeRow cX7_removeRow 4 none 1 0 jvV [.ref a0, .int (oI p1)] (cm w) (f_X7_removeRow F a0 p1 w) := by
  refine Ev.of (own := RX7) (by decide +kernel) rfl (Nat.le_of_ble_eq_true rfl) (fun x hx => ?_)
  show En x jvV 0 0 0 [(0, .ref a0), (1, .int (oI p1))] [] (cm w) _
  unfold f_X7_removeRow
  refine E_iload_n (pc := 0) hx 1 dX7_removeRow_0 rfl rfl ?_
  refine I_iconst (pc := 1) hx 1 dX7_removeRow_1 ?_
  refine I_iadd (pc := 2) hx dX7_removeRow_2 ?_
  refine I_ltv (fun v2_1 => ?_)
  refine E_istore_n (pc := 3) hx dX7_removeRow_3 rfl (Nat.le_of_ble_eq_true rfl) rfl ?_
  refine En.sub [1, 0] rfl ?_
  exact l_X7_removeRow_b4 F a0 h0 p1 hx F v2_1 w
set_option maxHeartbeats 4000000 in
set_option maxRecDepth 100000 in
theorem l_X3_layNone_b28_b {x : Cx} (F : Nat) (a0 : Nat) (h0 : shK a0 = 10 + 3) (a1 : Nat) (h1 : shK a1 = 10 + 2)  (hx : CxOK x RX3 cX3_layNone 3 1 0 none)  (k28 : Int → aI → Option aI) (hk28 : ∀ (v2 : Int) (w : aI), En x jvV 0 0 28 [(0, .ref a0), (1, .ref a1), (2, .int (oI v2))] [] (cm w) (k28 v2 w)) (v2 : Int) (w : aI) : En x jvV 0 0 28 [(0, .ref a0), (1, .ref a1), (2, .int (oI v2))] [] (cm w) (f_X3_layNone_b28_b F a0 a1   k28 v2 w) := by
  unfold f_X3_layNone_b28_b
  refine E_iload_n (pc := 28) hx 2 dX3_layNone_28 rfl rfl ?_
  refine E_aload_n (pc := 29) hx 1 dX3_layNone_29 rfl rfl ?_
  refine I_getI (pc := 30) hx 1 1 rfl fc2 h1 (hx.ci h1 (Nat.le_of_ble_eq_true rfl)) rfl ⟨rfl, rfl, rfl⟩ g126 dX3_layNone_30 ?_
  refine E_gd (fun hr4 => ?_)
  refine I_icmp_ge (pc := 33) hx 52 dX3_layNone_33 rfl ⟨hr4.1, hr4.2⟩ ?_ ?_
  · exact E_vret (pc := 52) hx dX3_layNone_52 rfl rfl (Nat.le_of_ble_eq_true rfl)
  refine E_aload_n (pc := 36) hx 0 dX3_layNone_36 rfl rfl ?_
  refine E_getR (pc := 37) hx 1 fc3 h0 (hx.ci h0 (Nat.le_of_ble_eq_true rfl)) rfl ⟨rfl, rfl, rfl⟩ g110 dX3_layNone_37 ?_
  refine E_iload_n (pc := 40) hx 2 dX3_layNone_40 rfl rfl ?_
  refine E_iload_n (pc := 41) hx 2 dX3_layNone_41 rfl rfl ?_
  refine I_iconst (pc := 42) hx 0 dX3_layNone_42 ?_
  refine I_cVV  (pc := 43) hx [.int (oI v2), .int (oI v2), .int (oI 0)] [] (ev_X7_put F (shR a0 1) (kt_3_1 h0) v2 v2 0 w) vm_X7_put fc6 (kt_3_1 h0) (hx.ci (kt_3_1 h0) (Nat.le_of_ble_eq_true rfl)) g455 dX3_layNone_43 rfl rfl (Nat.le_of_ble_eq_true rfl) (Nat.le_of_ble_eq_true rfl) (Nat.le_of_ble_eq_true rfl) (fun w5 => ?_)
  refine I_iinc (pc := 46) hx 1 2 dX3_layNone_46 rfl (Nat.le_of_ble_eq_true rfl) rfl ?_
  refine E_goto (pc := 49) hx 28 dX3_layNone_49 rfl ?_
  refine En.sub [1, 2, 0] rfl ?_
  exact hk28 (v2 + 1) w5
theorem l_X3_layNone_b28 {x : Cx} (F : Nat) (a0 : Nat) (h0 : shK a0 = 10 + 3) (a1 : Nat) (h1 : shK a1 = 10 + 2)  (hx : CxOK x RX3 cX3_layNone 3 1 0 none)  : ∀ (n : Nat) (v2 : Int) (w : aI), En x jvV 0 0 28 [(0, .ref a0), (1, .ref a1), (2, .int (oI v2))] [] (cm w) (f_X3_layNone_b28 F a0 a1   n v2 w) := by
  intro n
  induction n with
  | zero => intro v2 w; exact E_none
  | succ n ih => intro v2 w; exact l_X3_layNone_b28_b F a0 h0 a1 h1  hx  _ ih v2 w
set_option maxHeartbeats 4000000 in
set_option maxRecDepth 100000 in
theorem ev_X3_layNone (F : Nat) (a0 : Nat) (h0 : shK a0 = 10 + 3) (a1 : Nat) (h1 : shK a1 = 10 + 2) (w : aI) : Ev yX3_layNone cX3_layNone 3 none 1 0 jvV [.ref a0, .ref a1] (cm w) (f_X3_layNone F a0 a1 w) := by
  refine Ev.of (own := RX3) (by decide +kernel) rfl (Nat.le_of_ble_eq_true rfl) (fun x hx => ?_)
  show En x jvV 0 0 0 [(0, .ref a0), (1, .ref a1)] [] (cm w) _
  unfold f_X3_layNone
  refine E_aload_n (pc := 0) hx 0 dX3_layNone_0 rfl rfl ?_
  refine E_getR (pc := 1) hx 0 fc3 h0 (hx.ci h0 (Nat.le_of_ble_eq_true rfl)) rfl ⟨rfl, rfl, rfl⟩ g108 dX3_layNone_1 ?_
  refine I_iconst (pc := 4) hx (-1) dX3_layNone_4 ?_
  refine I_cVV  (pc := 5) hx [.int (oI (-1))] [] (ev_X7_clearTo F (shR a0 0) (kt_3_0 h0) (-1) w) vm_X7_clearTo fc6 (kt_3_0 h0) (hx.ci (kt_3_0 h0) (Nat.le_of_ble_eq_true rfl)) g454 dX3_layNone_5 rfl rfl (Nat.le_of_ble_eq_true rfl) (Nat.le_of_ble_eq_true rfl) (Nat.le_of_ble_eq_true rfl) (fun w1 => ?_)
  refine E_aload_n (pc := 8) hx 0 dX3_layNone_8 rfl rfl ?_
  refine E_getR (pc := 9) hx 1 fc3 h0 (hx.ci h0 (Nat.le_of_ble_eq_true rfl)) rfl ⟨rfl, rfl, rfl⟩ g110 dX3_layNone_9 ?_
  refine I_sipush (pc := 12) hx 9999 dX3_layNone_12 rfl ?_
  refine I_cVV  (pc := 15) hx [.int (oI 9999)] [] (ev_X7_clearTo F (shR a0 1) (kt_3_1 h0) 9999 w1) vm_X7_clearTo fc6 (kt_3_1 h0) (hx.ci (kt_3_1 h0) (Nat.le_of_ble_eq_true rfl)) g454 dX3_layNone_15 rfl rfl (Nat.le_of_ble_eq_true rfl) (Nat.le_of_ble_eq_true rfl) (Nat.le_of_ble_eq_true rfl) (fun w2 => ?_)
  refine E_aload_n (pc := 18) hx 0 dX3_layNone_18 rfl rfl ?_
  refine E_getR (pc := 19) hx 2 fc3 h0 (hx.ci h0 (Nat.le_of_ble_eq_true rfl)) rfl ⟨rfl, rfl, rfl⟩ g112 dX3_layNone_19 ?_
  refine I_iconst (pc := 22) hx (-1) dX3_layNone_22 ?_
  refine I_cVV  (pc := 23) hx [.int (oI (-1))] [] (ev_X7_clearTo F (shR a0 2) (kt_3_2 h0) (-1) w2) vm_X7_clearTo fc6 (kt_3_2 h0) (hx.ci (kt_3_2 h0) (Nat.le_of_ble_eq_true rfl)) g454 dX3_layNone_23 rfl rfl (Nat.le_of_ble_eq_true rfl) (Nat.le_of_ble_eq_true rfl) (Nat.le_of_ble_eq_true rfl) (fun w3 => ?_)
  refine I_iconst (pc := 26) hx 0 dX3_layNone_26 ?_
  refine E_istore_n (pc := 27) hx dX3_layNone_27 rfl (Nat.le_of_ble_eq_true rfl) rfl ?_
  refine En.sub [1, 2, 0] rfl ?_
  exact l_X3_layNone_b28 F a0 h0 a1 h1 hx F 0 w3
set_option maxHeartbeats 4000000 in
set_option maxRecDepth 100000 in
theorem ev_X3_layWay (F : Nat) (a0 : Nat) (h0 : shK a0 = 10 + 3) (p1 : Int) (p2 : Int) (p3 : Int) (w : aI) : Ev yX3_layWay cX3_layWay 4 none 1 0 jvV [.ref a0, .int (oI p1), .int (oI p2), .int (oI p3)] (cm w) (f_X3_layWay F a0 p1 p2 p3 w) := by
  refine Ev.of (own := RX3) (by decide +kernel) rfl (Nat.le_of_ble_eq_true rfl) (fun x hx => ?_)
  show En x jvV 0 0 0 [(0, .ref a0), (1, .int (oI p1)), (2, .int (oI p2)), (3, .int (oI p3))] [] (cm w) _
  unfold f_X3_layWay
  refine E_aload_n (pc := 0) hx 0 dX3_layWay_0 rfl rfl ?_
  refine E_getR (pc := 1) hx 0 fc3 h0 (hx.ci h0 (Nat.le_of_ble_eq_true rfl)) rfl ⟨rfl, rfl, rfl⟩ g108 dX3_layWay_1 ?_
  refine E_iload_n (pc := 4) hx 1 dX3_layWay_4 rfl rfl ?_
  refine E_iload_n (pc := 5) hx 2 dX3_layWay_5 rfl rfl ?_
  refine E_iload_n (pc := 6) hx 3 dX3_layWay_6 rfl rfl ?_
  refine I_cVV  (pc := 7) hx [.int (oI p1), .int (oI p2), .int (oI p3)] [] (ev_X7_put F (shR a0 0) (kt_3_0 h0) p1 p2 p3 w) vm_X7_put fc6 (kt_3_0 h0) (hx.ci (kt_3_0 h0) (Nat.le_of_ble_eq_true rfl)) g455 dX3_layWay_7 rfl rfl (Nat.le_of_ble_eq_true rfl) (Nat.le_of_ble_eq_true rfl) (Nat.le_of_ble_eq_true rfl) (fun w1 => ?_)
  refine E_aload_n (pc := 10) hx 0 dX3_layWay_10 rfl rfl ?_
  refine E_getR (pc := 11) hx 0 fc3 h0 (hx.ci h0 (Nat.le_of_ble_eq_true rfl)) rfl ⟨rfl, rfl, rfl⟩ g108 dX3_layWay_11 ?_
  refine E_iload_n (pc := 14) hx 2 dX3_layWay_14 rfl rfl ?_
  refine E_iload_n (pc := 15) hx 1 dX3_layWay_15 rfl rfl ?_
  refine E_iload_n (pc := 16) hx 3 dX3_layWay_16 rfl rfl ?_
  refine I_cVV  (pc := 17) hx [.int (oI p2), .int (oI p1), .int (oI p3)] [] (ev_X7_put F (shR a0 0) (kt_3_0 h0) p2 p1 p3 w1) vm_X7_put fc6 (kt_3_0 h0) (hx.ci (kt_3_0 h0) (Nat.le_of_ble_eq_true rfl)) g455 dX3_layWay_17 rfl rfl (Nat.le_of_ble_eq_true rfl) (Nat.le_of_ble_eq_true rfl) (Nat.le_of_ble_eq_true rfl) (fun w2 => ?_)
  refine E_aload_n (pc := 20) hx 0 dX3_layWay_20 rfl rfl ?_
  refine E_getR (pc := 21) hx 1 fc3 h0 (hx.ci h0 (Nat.le_of_ble_eq_true rfl)) rfl ⟨rfl, rfl, rfl⟩ g110 dX3_layWay_21 ?_
  refine E_iload_n (pc := 24) hx 1 dX3_layWay_24 rfl rfl ?_
  refine E_iload_n (pc := 25) hx 2 dX3_layWay_25 rfl rfl ?_
  refine E_iload_n (pc := 26) hx 3 dX3_layWay_26 rfl rfl ?_
  refine I_cVV  (pc := 27) hx [.int (oI p1), .int (oI p2), .int (oI p3)] [] (ev_X7_put F (shR a0 1) (kt_3_1 h0) p1 p2 p3 w2) vm_X7_put fc6 (kt_3_1 h0) (hx.ci (kt_3_1 h0) (Nat.le_of_ble_eq_true rfl)) g455 dX3_layWay_27 rfl rfl (Nat.le_of_ble_eq_true rfl) (Nat.le_of_ble_eq_true rfl) (Nat.le_of_ble_eq_true rfl) (fun w3 => ?_)
  refine E_aload_n (pc := 30) hx 0 dX3_layWay_30 rfl rfl ?_
  refine E_getR (pc := 31) hx 1 fc3 h0 (hx.ci h0 (Nat.le_of_ble_eq_true rfl)) rfl ⟨rfl, rfl, rfl⟩ g110 dX3_layWay_31 ?_
  refine E_iload_n (pc := 34) hx 2 dX3_layWay_34 rfl rfl ?_
  refine E_iload_n (pc := 35) hx 1 dX3_layWay_35 rfl rfl ?_
  refine E_iload_n (pc := 36) hx 3 dX3_layWay_36 rfl rfl ?_
  refine I_cVV  (pc := 37) hx [.int (oI p2), .int (oI p1), .int (oI p3)] [] (ev_X7_put F (shR a0 1) (kt_3_1 h0) p2 p1 p3 w3) vm_X7_put fc6 (kt_3_1 h0) (hx.ci (kt_3_1 h0) (Nat.le_of_ble_eq_true rfl)) g455 dX3_layWay_37 rfl rfl (Nat.le_of_ble_eq_true rfl) (Nat.le_of_ble_eq_true rfl) (Nat.le_of_ble_eq_true rfl) (fun w4 => ?_)
  exact E_vret (pc := 40) hx dX3_layWay_40 rfl rfl (Nat.le_of_ble_eq_true rfl)
set_option maxHeartbeats 4000000 in
set_option maxRecDepth 100000 in
theorem ev_X3_shorten (F : Nat) (a0 : Nat) (h0 : shK a0 = 10 + 3) (p1 : Int) (p2 : Int) (p3 : Int) (w : aI) : Ev yX3_shorten cX3_shorten 4 none 1 0 jvV [.ref a0, .int (oI p1), .int (oI p2), .int (oI p3)] (cm w) (f_X3_shorten F a0 p1 p2 p3 w) := by
  refine Ev.of (own := RX3) (by decide +kernel) rfl (Nat.le_of_ble_eq_true rfl) (fun x hx => ?_)
  show En x jvV 0 0 0 [(0, .ref a0), (1, .int (oI p1)), (2, .int (oI p2)), (3, .int (oI p3))] [] (cm w) _
  unfold f_X3_shorten
  refine E_iload_n (pc := 0) hx 3 dX3_shorten_0 rfl rfl ?_
  refine E_aload_n (pc := 1) hx 0 dX3_shorten_1 rfl rfl ?_
  refine E_getR (pc := 2) hx 1 fc3 h0 (hx.ci h0 (Nat.le_of_ble_eq_true rfl)) rfl ⟨rfl, rfl, rfl⟩ g110 dX3_shorten_2 ?_
  refine E_iload_n (pc := 5) hx 1 dX3_shorten_5 rfl rfl ?_
  refine E_iload_n (pc := 6) hx 2 dX3_shorten_6 rfl rfl ?_
  refine I_cVI  (pc := 7) hx [.int (oI p1), .int (oI p2)] [.int (oI p3)] (ev_X7_get F (shR a0 1) (kt_3_1 h0) p1 p2 w) vm_X7_get fc6 (kt_3_1 h0) (hx.ci (kt_3_1 h0) (Nat.le_of_ble_eq_true rfl)) g456 dX3_shorten_7 rfl rfl (Nat.le_of_ble_eq_true rfl) (Nat.le_of_ble_eq_true rfl) (Nat.le_of_ble_eq_true rfl) (fun r1 => ?_)
  refine E_gd (fun hr2 => ?_)
  refine I_icmp_ge (pc := 10) hx 23 dX3_shorten_10 rfl ⟨hr2.1, hr2.2⟩ ?_ ?_
  · exact E_vret (pc := 23) hx dX3_shorten_23 rfl rfl (Nat.le_of_ble_eq_true rfl)
  refine E_aload_n (pc := 13) hx 0 dX3_shorten_13 rfl rfl ?_
  refine E_getR (pc := 14) hx 1 fc3 h0 (hx.ci h0 (Nat.le_of_ble_eq_true rfl)) rfl ⟨rfl, rfl, rfl⟩ g110 dX3_shorten_14 ?_
  refine E_iload_n (pc := 17) hx 1 dX3_shorten_17 rfl rfl ?_
  refine E_iload_n (pc := 18) hx 2 dX3_shorten_18 rfl rfl ?_
  refine E_iload_n (pc := 19) hx 3 dX3_shorten_19 rfl rfl ?_
  refine I_cVV  (pc := 20) hx [.int (oI p1), .int (oI p2), .int (oI p3)] [] (ev_X7_put F (shR a0 1) (kt_3_1 h0) p1 p2 p3 w) vm_X7_put fc6 (kt_3_1 h0) (hx.ci (kt_3_1 h0) (Nat.le_of_ble_eq_true rfl)) g455 dX3_shorten_20 rfl rfl (Nat.le_of_ble_eq_true rfl) (Nat.le_of_ble_eq_true rfl) (Nat.le_of_ble_eq_true rfl) (fun w3 => ?_)
  exact E_vret (pc := 23) hx dX3_shorten_23 rfl rfl (Nat.le_of_ble_eq_true rfl)
set_option maxHeartbeats 4000000 in
set_option maxRecDepth 100000 in
theorem l_X3_beginOf_b2_b {x : Cx} (F : Nat) (a0 : Nat) (h0 : shK a0 = 10 + 3) (p1 : Int) (p2 : Int) (w : aI) (hx : CxOK x RX3 cX3_beginOf 5 1 0 (some .int))  (k2 : Int → Option Int) (hk2 : ∀ (v3 : Int), En x (jvI w) 0 0 2 [(0, .ref a0), (1, .int (oI p1)), (2, .int (oI p2)), (3, .int (oI v3))] [] (cm w) (k2 v3)) (v3 : Int)  : En x (jvI w) 0 0 2 [(0, .ref a0), (1, .int (oI p1)), (2, .int (oI p2)), (3, .int (oI v3))] [] (cm w) (f_X3_beginOf_b2_b F a0 p1 p2 w  k2 v3) := by
  unfold f_X3_beginOf_b2_b
  refine E_iload_n (pc := 2) hx 3 dX3_beginOf_2 rfl rfl ?_
  refine I_bipush (pc := 3) hx 10 dX3_beginOf_3 rfl ?_
  refine E_gd (fun hr1 => ?_)
  refine I_icmp_ge (pc := 5) hx 57 dX3_beginOf_5 rfl ⟨hr1, (by decide)⟩ ?_ ?_
  · refine I_iconst (pc := 57) hx (-1) dX3_beginOf_57 ?_
    exact E_iret (pc := 58) hx dX3_beginOf_58 rfl rfl (Nat.le_of_ble_eq_true rfl)
  refine E_aload_n (pc := 8) hx 0 dX3_beginOf_8 rfl rfl ?_
  refine E_getR (pc := 9) hx 0 fc3 h0 (hx.ci h0 (Nat.le_of_ble_eq_true rfl)) rfl ⟨rfl, rfl, rfl⟩ g108 dX3_beginOf_9 ?_
  refine E_iload_n (pc := 12) hx 1 dX3_beginOf_12 rfl rfl ?_
  refine E_iload_n (pc := 13) hx 3 dX3_beginOf_13 rfl rfl ?_
  refine I_cVI  (pc := 14) hx [.int (oI p1), .int (oI v3)] [] (ev_X7_get F (shR a0 0) (kt_3_0 h0) p1 v3 w) vm_X7_get fc6 (kt_3_0 h0) (hx.ci (kt_3_0 h0) (Nat.le_of_ble_eq_true rfl)) g456 dX3_beginOf_14 rfl rfl (Nat.le_of_ble_eq_true rfl) (Nat.le_of_ble_eq_true rfl) (Nat.le_of_ble_eq_true rfl) (fun r2 => ?_)
  refine E_istore (pc := 17) hx dX3_beginOf_17 (Nat.le_of_ble_eq_true rfl) rfl ?_
  refine E_iload (pc := 19) hx 0 dX3_beginOf_19 rfl ?_
  refine I_iconst (pc := 21) hx (-1) dX3_beginOf_21 ?_
  refine E_gd (fun hr3 => ?_)
  refine I_icmp_eq (pc := 22) hx 51 dX3_beginOf_22 rfl ⟨hr3, (by decide)⟩ ?_ ?_
  · refine I_iinc (pc := 51) hx 1 4 dX3_beginOf_51 rfl (Nat.le_of_ble_eq_true rfl) rfl ?_
    refine E_goto (pc := 54) hx 2 dX3_beginOf_54 rfl ?_
    refine En.sub [2, 3, 4, 0] rfl ?_
    exact hk2 (v3 + 1)
  refine E_iload (pc := 25) hx 0 dX3_beginOf_25 rfl ?_
  refine E_aload_n (pc := 27) hx 1 dX3_beginOf_27 rfl rfl ?_
  refine E_getR (pc := 28) hx 1 fc3 h0 (hx.ci h0 (Nat.le_of_ble_eq_true rfl)) rfl ⟨rfl, rfl, rfl⟩ g110 dX3_beginOf_28 ?_
  refine E_iload_n (pc := 31) hx 4 dX3_beginOf_31 rfl rfl ?_
  refine E_iload_n (pc := 32) hx 3 dX3_beginOf_32 rfl rfl ?_
  refine I_cVI  (pc := 33) hx [.int (oI v3), .int (oI p2)] [.int (oI r2)] (ev_X7_get F (shR a0 1) (kt_3_1 h0) v3 p2 w) vm_X7_get fc6 (kt_3_1 h0) (hx.ci (kt_3_1 h0) (Nat.le_of_ble_eq_true rfl)) g456 dX3_beginOf_33 rfl rfl (Nat.le_of_ble_eq_true rfl) (Nat.le_of_ble_eq_true rfl) (Nat.le_of_ble_eq_true rfl) (fun r4 => ?_)
  refine I_iadd (pc := 36) hx dX3_beginOf_36 ?_
  refine E_aload_n (pc := 37) hx 1 dX3_beginOf_37 rfl rfl ?_
  refine E_getR (pc := 38) hx 1 fc3 h0 (hx.ci h0 (Nat.le_of_ble_eq_true rfl)) rfl ⟨rfl, rfl, rfl⟩ g110 dX3_beginOf_38 ?_
  refine E_iload_n (pc := 41) hx 2 dX3_beginOf_41 rfl rfl ?_
  refine E_iload_n (pc := 42) hx 3 dX3_beginOf_42 rfl rfl ?_
  refine I_cVI  (pc := 43) hx [.int (oI p1), .int (oI p2)] [.int (oI (r2 + r4))] (ev_X7_get F (shR a0 1) (kt_3_1 h0) p1 p2 w) vm_X7_get fc6 (kt_3_1 h0) (hx.ci (kt_3_1 h0) (Nat.le_of_ble_eq_true rfl)) g456 dX3_beginOf_43 rfl rfl (Nat.le_of_ble_eq_true rfl) (Nat.le_of_ble_eq_true rfl) (Nat.le_of_ble_eq_true rfl) (fun r5 => ?_)
  refine E_gd (fun hr6 => ?_)
  refine I_icmp_ne (pc := 46) hx 51 dX3_beginOf_46 rfl ⟨hr6.1, hr6.2⟩ ?_ ?_
  · refine I_iinc (pc := 51) hx 1 4 dX3_beginOf_51 rfl (Nat.le_of_ble_eq_true rfl) rfl ?_
    refine E_goto (pc := 54) hx 2 dX3_beginOf_54 rfl ?_
    refine En.sub [2, 3, 4, 0] rfl ?_
    exact hk2 (v3 + 1)
  refine E_iload_n (pc := 49) hx 4 dX3_beginOf_49 rfl rfl ?_
  exact E_iret (pc := 50) hx dX3_beginOf_50 rfl rfl (Nat.le_of_ble_eq_true rfl)
theorem l_X3_beginOf_b2 {x : Cx} (F : Nat) (a0 : Nat) (h0 : shK a0 = 10 + 3) (p1 : Int) (p2 : Int) (w : aI) (hx : CxOK x RX3 cX3_beginOf 5 1 0 (some .int))  : ∀ (n : Nat) (v3 : Int), En x (jvI w) 0 0 2 [(0, .ref a0), (1, .int (oI p1)), (2, .int (oI p2)), (3, .int (oI v3))] [] (cm w) (f_X3_beginOf_b2 F a0 p1 p2 w  n v3) := by
  intro n
  induction n with
  | zero => intro v3; exact E_none
  | succ n ih => intro v3; exact l_X3_beginOf_b2_b F a0 h0 p1 p2 w hx  _ ih v3
set_option maxHeartbeats 4000000 in
set_option maxRecDepth 100000 in
theorem ev_X3_beginOf (F : Nat) (a0 : Nat) (h0 : shK a0 = 10 + 3) (p1 : Int) (p2 : Int) (w : aI) : Ev yX3_beginOf cX3_beginOf 5 (some .int) 1 0 (jvI w) [.ref a0, .int (oI p1), .int (oI p2)] (cm w) (f_X3_beginOf F a0 p1 p2 w) := by
  refine Ev.of (own := RX3) (by decide +kernel) rfl (Nat.le_of_ble_eq_true rfl) (fun x hx => ?_)
  show En x (jvI w) 0 0 0 [(0, .ref a0), (1, .int (oI p1)), (2, .int (oI p2))] [] (cm w) _
  unfold f_X3_beginOf
  refine I_iconst (pc := 0) hx 0 dX3_beginOf_0 ?_
  refine E_istore_n (pc := 1) hx dX3_beginOf_1 rfl (Nat.le_of_ble_eq_true rfl) rfl ?_
  refine En.sub [1, 2, 3, 0] rfl ?_
  exact l_X3_beginOf_b2 F a0 h0 p1 p2 w hx F 0
set_option maxHeartbeats 4000000 in
set_option maxRecDepth 100000 in
theorem l_X3_pointAll_b12_b {x : Cx} (F : Nat) (a0 : Nat) (h0 : shK a0 = 10 + 3) (a1 : Nat) (h1 : shK a1 = 10 + 2)  (hx : CxOK x RX3 cX3_pointAll 4 2 0 none) (k2 : Int → aI → Option aI) (hk2 : ∀ (v2 : Int) (w : aI), En x jvV 0 0 2 [(0, .ref a0), (1, .ref a1), (2, .int (oI v2))] [] (cm w) (k2 v2 w)) (k12 : Int → Int → aI → Option aI) (hk12 : ∀ (v2 : Int) (v3 : Int) (w : aI), En x jvV 0 0 12 [(0, .ref a0), (1, .ref a1), (2, .int (oI v2)), (3, .int (oI v3))] [] (cm w) (k12 v2 v3 w)) (v2 : Int) (v3 : Int) (w : aI) : En x jvV 0 0 12 [(0, .ref a0), (1, .ref a1), (2, .int (oI v2)), (3, .int (oI v3))] [] (cm w) (f_X3_pointAll_b12_b F a0 a1  k2 k12 v2 v3 w) := by
  unfold f_X3_pointAll_b12_b
  refine E_iload_n (pc := 12) hx 3 dX3_pointAll_12 rfl rfl ?_
  refine E_aload_n (pc := 13) hx 1 dX3_pointAll_13 rfl rfl ?_
  refine I_getI (pc := 14) hx 1 1 rfl fc2 h1 (hx.ci h1 (Nat.le_of_ble_eq_true rfl)) rfl ⟨rfl, rfl, rfl⟩ g126 dX3_pointAll_14 ?_
  refine E_gd (fun hr2 => ?_)
  refine I_icmp_ge (pc := 17) hx 61 dX3_pointAll_17 rfl ⟨hr2.1, hr2.2⟩ ?_ ?_
  · refine I_iinc (pc := 61) hx 1 2 dX3_pointAll_61 rfl (Nat.le_of_ble_eq_true rfl) rfl ?_
    refine E_goto (pc := 64) hx 2 dX3_pointAll_64 rfl ?_
    refine En.sub [1, 2, 0] rfl ?_
    exact hk2 (v2 + 1) w
  refine E_iload_n (pc := 20) hx 2 dX3_pointAll_20 rfl rfl ?_
  refine E_iload_n (pc := 21) hx 3 dX3_pointAll_21 rfl rfl ?_
  refine E_gd (fun hr3 => ?_)
  refine I_icmp_eq (pc := 22) hx 55 dX3_pointAll_22 rfl ⟨hr3, hr2.1⟩ ?_ ?_
  · refine I_iinc (pc := 55) hx 1 3 dX3_pointAll_55 rfl (Nat.le_of_ble_eq_true rfl) rfl ?_
    refine E_goto (pc := 58) hx 12 dX3_pointAll_58 rfl ?_
    refine En.sub [1, 2, 3, 0] rfl ?_
    exact hk12 v2 (v3 + 1) w
  refine E_aload_n (pc := 25) hx 0 dX3_pointAll_25 rfl rfl ?_
  refine E_getR (pc := 26) hx 1 fc3 h0 (hx.ci h0 (Nat.le_of_ble_eq_true rfl)) rfl ⟨rfl, rfl, rfl⟩ g110 dX3_pointAll_26 ?_
  refine E_iload_n (pc := 29) hx 2 dX3_pointAll_29 rfl rfl ?_
  refine E_iload_n (pc := 30) hx 3 dX3_pointAll_30 rfl rfl ?_
  refine I_cVI  (pc := 31) hx [.int (oI v2), .int (oI v3)] [] (ev_X7_get F (shR a0 1) (kt_3_1 h0) v2 v3 w) vm_X7_get fc6 (kt_3_1 h0) (hx.ci (kt_3_1 h0) (Nat.le_of_ble_eq_true rfl)) g456 dX3_pointAll_31 rfl rfl (Nat.le_of_ble_eq_true rfl) (Nat.le_of_ble_eq_true rfl) (Nat.le_of_ble_eq_true rfl) (fun r4 => ?_)
  refine I_sipush (pc := 34) hx 9999 dX3_pointAll_34 rfl ?_
  refine E_gd (fun hr5 => ?_)
  refine I_icmp_ge (pc := 37) hx 55 dX3_pointAll_37 rfl ⟨hr5, (by decide)⟩ ?_ ?_
  · refine I_iinc (pc := 55) hx 1 3 dX3_pointAll_55 rfl (Nat.le_of_ble_eq_true rfl) rfl ?_
    refine E_goto (pc := 58) hx 12 dX3_pointAll_58 rfl ?_
    refine En.sub [1, 2, 3, 0] rfl ?_
    exact hk12 v2 (v3 + 1) w
  refine E_aload_n (pc := 40) hx 0 dX3_pointAll_40 rfl rfl ?_
  refine E_getR (pc := 41) hx 2 fc3 h0 (hx.ci h0 (Nat.le_of_ble_eq_true rfl)) rfl ⟨rfl, rfl, rfl⟩ g112 dX3_pointAll_41 ?_
  refine E_iload_n (pc := 44) hx 2 dX3_pointAll_44 rfl rfl ?_
  refine E_iload_n (pc := 45) hx 3 dX3_pointAll_45 rfl rfl ?_
  refine E_aload_n (pc := 46) hx 0 dX3_pointAll_46 rfl rfl ?_
  refine E_iload_n (pc := 47) hx 2 dX3_pointAll_47 rfl rfl ?_
  refine E_iload_n (pc := 48) hx 3 dX3_pointAll_48 rfl rfl ?_
  refine I_cVI  (pc := 49) hx [.int (oI v2), .int (oI v3)] [.int (oI v3), .int (oI v2), .ref (shR a0 2)] (ev_X3_beginOf F a0 h0 v2 v3 w) vm_X3_beginOf fc3 h0 (hx.ci h0 (Nat.le_of_ble_eq_true rfl)) g469 dX3_pointAll_49 rfl rfl (Nat.le_of_ble_eq_true rfl) (Nat.le_of_ble_eq_true rfl) (Nat.le_of_ble_eq_true rfl) (fun r6 => ?_)
  refine I_cVV  (pc := 52) hx [.int (oI v2), .int (oI v3), .int (oI r6)] [] (ev_X7_put F (shR a0 2) (kt_3_2 h0) v2 v3 r6 w) vm_X7_put fc6 (kt_3_2 h0) (hx.ci (kt_3_2 h0) (Nat.le_of_ble_eq_true rfl)) g455 dX3_pointAll_52 rfl rfl (Nat.le_of_ble_eq_true rfl) (Nat.le_of_ble_eq_true rfl) (Nat.le_of_ble_eq_true rfl) (fun w7 => ?_)
  refine I_iinc (pc := 55) hx 1 3 dX3_pointAll_55 rfl (Nat.le_of_ble_eq_true rfl) rfl ?_
  refine E_goto (pc := 58) hx 12 dX3_pointAll_58 rfl ?_
  refine En.sub [1, 2, 3, 0] rfl ?_
  exact hk12 v2 (v3 + 1) w7
theorem l_X3_pointAll_b12 {x : Cx} (F : Nat) (a0 : Nat) (h0 : shK a0 = 10 + 3) (a1 : Nat) (h1 : shK a1 = 10 + 2)  (hx : CxOK x RX3 cX3_pointAll 4 2 0 none) (k2 : Int → aI → Option aI) (hk2 : ∀ (v2 : Int) (w : aI), En x jvV 0 0 2 [(0, .ref a0), (1, .ref a1), (2, .int (oI v2))] [] (cm w) (k2 v2 w)) : ∀ (n : Nat) (v2 : Int) (v3 : Int) (w : aI), En x jvV 0 0 12 [(0, .ref a0), (1, .ref a1), (2, .int (oI v2)), (3, .int (oI v3))] [] (cm w) (f_X3_pointAll_b12 F a0 a1  k2 n v2 v3 w) := by
  intro n
  induction n with
  | zero => intro v2 v3 w; exact E_none
  | succ n ih => intro v2 v3 w; exact l_X3_pointAll_b12_b F a0 h0 a1 h1  hx k2 hk2 _ ih v2 v3 w
set_option maxHeartbeats 4000000 in
set_option maxRecDepth 100000 in
theorem l_X3_pointAll_b2_b {x : Cx} (F : Nat) (a0 : Nat) (h0 : shK a0 = 10 + 3) (a1 : Nat) (h1 : shK a1 = 10 + 2)  (hx : CxOK x RX3 cX3_pointAll 4 2 0 none)  (k2 : Int → aI → Option aI) (hk2 : ∀ (v2 : Int) (w : aI), En x jvV 0 0 2 [(0, .ref a0), (1, .ref a1), (2, .int (oI v2))] [] (cm w) (k2 v2 w)) (v2 : Int) (w : aI) : En x jvV 0 0 2 [(0, .ref a0), (1, .ref a1), (2, .int (oI v2))] [] (cm w) (f_X3_pointAll_b2_b F a0 a1   k2 v2 w) := by
  unfold f_X3_pointAll_b2_b
  refine E_iload_n (pc := 2) hx 2 dX3_pointAll_2 rfl rfl ?_
  refine E_aload_n (pc := 3) hx 1 dX3_pointAll_3 rfl rfl ?_
  refine I_getI (pc := 4) hx 1 1 rfl fc2 h1 (hx.ci h1 (Nat.le_of_ble_eq_true rfl)) rfl ⟨rfl, rfl, rfl⟩ g126 dX3_pointAll_4 ?_
  refine E_gd (fun hr1 => ?_)
  refine I_icmp_ge (pc := 7) hx 67 dX3_pointAll_7 rfl ⟨hr1.1, hr1.2⟩ ?_ ?_
  · exact E_vret (pc := 67) hx dX3_pointAll_67 rfl rfl (Nat.le_of_ble_eq_true rfl)
  refine I_iconst (pc := 10) hx 0 dX3_pointAll_10 ?_
  refine E_istore_n (pc := 11) hx dX3_pointAll_11 rfl (Nat.le_of_ble_eq_true rfl) rfl ?_
  refine En.sub [1, 2, 3, 0] rfl ?_
  exact l_X3_pointAll_b12 F a0 h0 a1 h1 hx k2 hk2 F v2 0 w
theorem l_X3_pointAll_b2 {x : Cx} (F : Nat) (a0 : Nat) (h0 : shK a0 = 10 + 3) (a1 : Nat) (h1 : shK a1 = 10 + 2)  (hx : CxOK x RX3 cX3_pointAll 4 2 0 none)  : ∀ (n : Nat) (v2 : Int) (w : aI), En x jvV 0 0 2 [(0, .ref a0), (1, .ref a1), (2, .int (oI v2))] [] (cm w) (f_X3_pointAll_b2 F a0 a1   n v2 w) := by
  intro n
  induction n with
  | zero => intro v2 w; exact E_none
  | succ n ih => intro v2 w; exact l_X3_pointAll_b2_b F a0 h0 a1 h1  hx  _ ih v2 w
set_option maxHeartbeats 4000000 in
set_option maxRecDepth 100000 in
theorem ev_X3_pointAll (F : Nat) (a0 : Nat) (h0 : shK a0 = 10 + 3) (a1 : Nat) (h1 : shK a1 = 10 + 2) (w : aI) : Ev yX3_pointAll cX3_pointAll 4 none 2 0 jvV [.ref a0, .ref a1] (cm w) (f_X3_pointAll F a0 a1 w) := by
  refine Ev.of (own := RX3) (by decide +kernel) rfl (Nat.le_of_ble_eq_true rfl) (fun x hx => ?_)
  show En x jvV 0 0 0 [(0, .ref a0), (1, .ref a1)] [] (cm w) _
  unfold f_X3_pointAll
  refine I_iconst (pc := 0) hx 0 dX3_pointAll_0 ?_
  refine E_istore_n (pc := 1) hx dX3_pointAll_1 rfl (Nat.le_of_ble_eq_true rfl) rfl ?_
  refine En.sub [1, 2, 0] rfl ?_
  exact l_X3_pointAll_b2 F a0 h0 a1 h1 hx F 0 w
set_option maxHeartbeats 4000000 in
set_option maxRecDepth 100000 in
theorem l_X3_lay_b75_b {x : Cx} (F : Nat) (a0 : Nat) (h0 : shK a0 = 10 + 3) (a1 : Nat) (h1 : shK a1 = 10 + 2)  (hx : CxOK x RX3 cX3_lay 5 3 0 none) (k54 : Int → aI → Option aI) (hk54 : ∀ (v2 : Int) (w : aI), En x jvV 0 0 54 [(0, .ref a0), (1, .ref a1), (2, .int (oI v2))] [] (cm w) (k54 v2 w)) (k64 : Int → Int → aI → Option aI) (hk64 : ∀ (v2 : Int) (v3 : Int) (w : aI), En x jvV 0 0 64 [(0, .ref a0), (1, .ref a1), (2, .int (oI v2)), (3, .int (oI v3))] [] (cm w) (k64 v2 v3 w)) (k75 : Int → Int → Int → aI → Option aI) (hk75 : ∀ (v2 : Int) (v3 : Int) (v4 : Int) (w : aI), En x jvV 0 0 75 [(0, .ref a0), (1, .ref a1), (2, .int (oI v2)), (3, .int (oI v3)), (4, .int (oI v4))] [] (cm w) (k75 v2 v3 v4 w)) (v2 : Int) (v3 : Int) (v4 : Int) (w : aI) : En x jvV 0 0 75 [(0, .ref a0), (1, .ref a1), (2, .int (oI v2)), (3, .int (oI v3)), (4, .int (oI v4))] [] (cm w) (f_X3_lay_b75_b F a0 a1  k54 k64 k75 v2 v3 v4 w) := by
  unfold f_X3_lay_b75_b
  refine E_iload (pc := 75) hx 4 dX3_lay_75 rfl ?_
  refine E_aload_n (pc := 77) hx 1 dX3_lay_77 rfl rfl ?_
  refine I_getI (pc := 78) hx 1 1 rfl fc2 h1 (hx.ci h1 (Nat.le_of_ble_eq_true rfl)) rfl ⟨rfl, rfl, rfl⟩ g126 dX3_lay_78 ?_
  refine E_gd (fun hr6 => ?_)
  refine I_icmp_ge (pc := 81) hx 117 dX3_lay_81 rfl ⟨hr6.1, hr6.2⟩ ?_ ?_
  · refine I_iinc (pc := 117) hx 1 3 dX3_lay_117 rfl (Nat.le_of_ble_eq_true rfl) rfl ?_
    refine E_goto (pc := 120) hx 64 dX3_lay_120 rfl ?_
    refine En.sub [1, 2, 3, 0] rfl ?_
    exact hk64 v2 (v3 + 1) w
  refine E_aload_n (pc := 84) hx 0 dX3_lay_84 rfl rfl ?_
  refine E_iload_n (pc := 85) hx 3 dX3_lay_85 rfl rfl ?_
  refine E_iload (pc := 86) hx 4 dX3_lay_86 rfl ?_
  refine E_aload_n (pc := 88) hx 0 dX3_lay_88 rfl rfl ?_
  refine E_getR (pc := 89) hx 1 fc3 h0 (hx.ci h0 (Nat.le_of_ble_eq_true rfl)) rfl ⟨rfl, rfl, rfl⟩ g110 dX3_lay_89 ?_
  refine E_iload_n (pc := 92) hx 3 dX3_lay_92 rfl rfl ?_
  refine E_iload_n (pc := 93) hx 2 dX3_lay_93 rfl rfl ?_
  refine I_cVI  (pc := 94) hx [.int (oI v3), .int (oI v2)] [.int (oI v4), .int (oI v3), .ref a0] (ev_X7_get F (shR a0 1) (kt_3_1 h0) v3 v2 w) vm_X7_get fc6 (kt_3_1 h0) (hx.ci (kt_3_1 h0) (Nat.le_of_ble_eq_true rfl)) g456 dX3_lay_94 rfl rfl (Nat.le_of_ble_eq_true rfl) (Nat.le_of_ble_eq_true rfl) (Nat.le_of_ble_eq_true rfl) (fun r7 => ?_)
  refine E_aload_n (pc := 97) hx 0 dX3_lay_97 rfl rfl ?_
  refine E_getR (pc := 98) hx 1 fc3 h0 (hx.ci h0 (Nat.le_of_ble_eq_true rfl)) rfl ⟨rfl, rfl, rfl⟩ g110 dX3_lay_98 ?_
  refine E_iload_n (pc := 101) hx 2 dX3_lay_101 rfl rfl ?_
  refine E_iload (pc := 102) hx 4 dX3_lay_102 rfl ?_
  refine I_cVI  (pc := 104) hx [.int (oI v2), .int (oI v4)] [.int (oI r7), .int (oI v4), .int (oI v3), .ref a0] (ev_X7_get F (shR a0 1) (kt_3_1 h0) v2 v4 w) vm_X7_get fc6 (kt_3_1 h0) (hx.ci (kt_3_1 h0) (Nat.le_of_ble_eq_true rfl)) g456 dX3_lay_104 rfl rfl (Nat.le_of_ble_eq_true rfl) (Nat.le_of_ble_eq_true rfl) (Nat.le_of_ble_eq_true rfl) (fun r8 => ?_)
  refine I_iadd (pc := 107) hx dX3_lay_107 ?_
  refine I_cVV  (pc := 108) hx [.int (oI v3), .int (oI v4), .int (oI (r7 + r8))] [] (ev_X3_shorten F a0 h0 v3 v4 (r7 + r8) w) vm_X3_shorten fc3 h0 (hx.ci h0 (Nat.le_of_ble_eq_true rfl)) g461 dX3_lay_108 rfl rfl (Nat.le_of_ble_eq_true rfl) (Nat.le_of_ble_eq_true rfl) (Nat.le_of_ble_eq_true rfl) (fun w9 => ?_)
  refine I_iinc (pc := 111) hx 1 4 dX3_lay_111 rfl (Nat.le_of_ble_eq_true rfl) rfl ?_
  refine E_goto (pc := 114) hx 75 dX3_lay_114 rfl ?_
  refine En.sub [1, 2, 3, 4, 0] rfl ?_
  exact hk75 v2 v3 (v4 + 1) w9
theorem l_X3_lay_b75 {x : Cx} (F : Nat) (a0 : Nat) (h0 : shK a0 = 10 + 3) (a1 : Nat) (h1 : shK a1 = 10 + 2)  (hx : CxOK x RX3 cX3_lay 5 3 0 none) (k54 : Int → aI → Option aI) (hk54 : ∀ (v2 : Int) (w : aI), En x jvV 0 0 54 [(0, .ref a0), (1, .ref a1), (2, .int (oI v2))] [] (cm w) (k54 v2 w)) (k64 : Int → Int → aI → Option aI) (hk64 : ∀ (v2 : Int) (v3 : Int) (w : aI), En x jvV 0 0 64 [(0, .ref a0), (1, .ref a1), (2, .int (oI v2)), (3, .int (oI v3))] [] (cm w) (k64 v2 v3 w)) : ∀ (n : Nat) (v2 : Int) (v3 : Int) (v4 : Int) (w : aI), En x jvV 0 0 75 [(0, .ref a0), (1, .ref a1), (2, .int (oI v2)), (3, .int (oI v3)), (4, .int (oI v4))] [] (cm w) (f_X3_lay_b75 F a0 a1  k54 k64 n v2 v3 v4 w) := by
  intro n
  induction n with
  | zero => intro v2 v3 v4 w; exact E_none
  | succ n ih => intro v2 v3 v4 w; exact l_X3_lay_b75_b F a0 h0 a1 h1  hx k54 hk54 k64 hk64 _ ih v2 v3 v4 w
set_option maxHeartbeats 4000000 in
set_option maxRecDepth 100000 in
theorem l_X3_lay_b64_b {x : Cx} (F : Nat) (a0 : Nat) (h0 : shK a0 = 10 + 3) (a1 : Nat) (h1 : shK a1 = 10 + 2)  (hx : CxOK x RX3 cX3_lay 5 3 0 none) (k54 : Int → aI → Option aI) (hk54 : ∀ (v2 : Int) (w : aI), En x jvV 0 0 54 [(0, .ref a0), (1, .ref a1), (2, .int (oI v2))] [] (cm w) (k54 v2 w)) (k64 : Int → Int → aI → Option aI) (hk64 : ∀ (v2 : Int) (v3 : Int) (w : aI), En x jvV 0 0 64 [(0, .ref a0), (1, .ref a1), (2, .int (oI v2)), (3, .int (oI v3))] [] (cm w) (k64 v2 v3 w)) (v2 : Int) (v3 : Int) (w : aI) : En x jvV 0 0 64 [(0, .ref a0), (1, .ref a1), (2, .int (oI v2)), (3, .int (oI v3))] [] (cm w) (f_X3_lay_b64_b F a0 a1  k54 k64 v2 v3 w) := by
  unfold f_X3_lay_b64_b
  refine E_iload_n (pc := 64) hx 3 dX3_lay_64 rfl rfl ?_
  refine E_aload_n (pc := 65) hx 1 dX3_lay_65 rfl rfl ?_
  refine I_getI (pc := 66) hx 1 1 rfl fc2 h1 (hx.ci h1 (Nat.le_of_ble_eq_true rfl)) rfl ⟨rfl, rfl, rfl⟩ g126 dX3_lay_66 ?_
  refine E_gd (fun hr5 => ?_)
  refine I_icmp_ge (pc := 69) hx 123 dX3_lay_69 rfl ⟨hr5.1, hr5.2⟩ ?_ ?_
  · refine I_iinc (pc := 123) hx 1 2 dX3_lay_123 rfl (Nat.le_of_ble_eq_true rfl) rfl ?_
    refine E_goto (pc := 126) hx 54 dX3_lay_126 rfl ?_
    refine En.sub [1, 2, 0] rfl ?_
    exact hk54 (v2 + 1) w
  refine I_iconst (pc := 72) hx 0 dX3_lay_72 ?_
  refine E_istore (pc := 73) hx dX3_lay_73 (Nat.le_of_ble_eq_true rfl) rfl ?_
  refine En.sub [1, 2, 3, 4, 0] rfl ?_
  exact l_X3_lay_b75 F a0 h0 a1 h1 hx k54 hk54 k64 hk64 F v2 v3 0 w
theorem l_X3_lay_b64 {x : Cx} (F : Nat) (a0 : Nat) (h0 : shK a0 = 10 + 3) (a1 : Nat) (h1 : shK a1 = 10 + 2)  (hx : CxOK x RX3 cX3_lay 5 3 0 none) (k54 : Int → aI → Option aI) (hk54 : ∀ (v2 : Int) (w : aI), En x jvV 0 0 54 [(0, .ref a0), (1, .ref a1), (2, .int (oI v2))] [] (cm w) (k54 v2 w)) : ∀ (n : Nat) (v2 : Int) (v3 : Int) (w : aI), En x jvV 0 0 64 [(0, .ref a0), (1, .ref a1), (2, .int (oI v2)), (3, .int (oI v3))] [] (cm w) (f_X3_lay_b64 F a0 a1  k54 n v2 v3 w) := by
  intro n
  induction n with
  | zero => intro v2 v3 w; exact E_none
  | succ n ih => intro v2 v3 w; exact l_X3_lay_b64_b F a0 h0 a1 h1  hx k54 hk54 _ ih v2 v3 w
set_option maxHeartbeats 4000000 in
set_option maxRecDepth 100000 in
theorem l_X3_lay_b54_b {x : Cx} (F : Nat) (a0 : Nat) (h0 : shK a0 = 10 + 3) (a1 : Nat) (h1 : shK a1 = 10 + 2)  (hx : CxOK x RX3 cX3_lay 5 3 0 none)  (k54 : Int → aI → Option aI) (hk54 : ∀ (v2 : Int) (w : aI), En x jvV 0 0 54 [(0, .ref a0), (1, .ref a1), (2, .int (oI v2))] [] (cm w) (k54 v2 w)) (v2 : Int) (w : aI) : En x jvV 0 0 54 [(0, .ref a0), (1, .ref a1), (2, .int (oI v2))] [] (cm w) (f_X3_lay_b54_b F a0 a1   k54 v2 w) := by
  unfold f_X3_lay_b54_b
  refine E_iload_n (pc := 54) hx 2 dX3_lay_54 rfl rfl ?_
  refine E_aload_n (pc := 55) hx 1 dX3_lay_55 rfl rfl ?_
  refine I_getI (pc := 56) hx 1 1 rfl fc2 h1 (hx.ci h1 (Nat.le_of_ble_eq_true rfl)) rfl ⟨rfl, rfl, rfl⟩ g126 dX3_lay_56 ?_
  refine E_gd (fun hr3 => ?_)
  refine I_icmp_ge (pc := 59) hx 129 dX3_lay_59 rfl ⟨hr3.1, hr3.2⟩ ?_ ?_
  · refine E_aload_n (pc := 129) hx 0 dX3_lay_129 rfl rfl ?_
    refine E_aload_n (pc := 130) hx 1 dX3_lay_130 rfl rfl ?_
    refine I_cVV  (pc := 131) hx [.ref a1] [] (ev_X3_pointAll F a0 h0 a1 h1 w) vm_X3_pointAll fc3 h0 (hx.ci h0 (Nat.le_of_ble_eq_true rfl)) g465 dX3_lay_131 rfl rfl (Nat.le_of_ble_eq_true rfl) (Nat.le_of_ble_eq_true rfl) (Nat.le_of_ble_eq_true rfl) (fun w4 => ?_)
    exact E_vret (pc := 134) hx dX3_lay_134 rfl rfl (Nat.le_of_ble_eq_true rfl)
  refine I_iconst (pc := 62) hx 0 dX3_lay_62 ?_
  refine E_istore_n (pc := 63) hx dX3_lay_63 rfl (Nat.le_of_ble_eq_true rfl) rfl ?_
  refine En.sub [1, 2, 3, 0] rfl ?_
  exact l_X3_lay_b64 F a0 h0 a1 h1 hx k54 hk54 F v2 0 w
theorem l_X3_lay_b54 {x : Cx} (F : Nat) (a0 : Nat) (h0 : shK a0 = 10 + 3) (a1 : Nat) (h1 : shK a1 = 10 + 2)  (hx : CxOK x RX3 cX3_lay 5 3 0 none)  : ∀ (n : Nat) (v2 : Int) (w : aI), En x jvV 0 0 54 [(0, .ref a0), (1, .ref a1), (2, .int (oI v2))] [] (cm w) (f_X3_lay_b54 F a0 a1   n v2 w) := by
  intro n
  induction n with
  | zero => intro v2 w; exact E_none
  | succ n ih => intro v2 w; exact l_X3_lay_b54_b F a0 h0 a1 h1  hx  _ ih v2 w
set_option maxHeartbeats 4000000 in
set_option maxRecDepth 100000 in
theorem l_X3_lay_b7_b {x : Cx} (F : Nat) (a0 : Nat) (h0 : shK a0 = 10 + 3) (a1 : Nat) (h1 : shK a1 = 10 + 2)  (hx : CxOK x RX3 cX3_lay 5 3 0 none)  (k7 : Int → aI → Option aI) (hk7 : ∀ (v2 : Int) (w : aI), En x jvV 0 0 7 [(0, .ref a0), (1, .ref a1), (2, .int (oI v2))] [] (cm w) (k7 v2 w)) (v2 : Int) (w : aI) : En x jvV 0 0 7 [(0, .ref a0), (1, .ref a1), (2, .int (oI v2))] [] (cm w) (f_X3_lay_b7_b F a0 a1   k7 v2 w) := by
  unfold f_X3_lay_b7_b
  refine E_iload_n (pc := 7) hx 2 dX3_lay_7 rfl rfl ?_
  refine E_aload_n (pc := 8) hx 1 dX3_lay_8 rfl rfl ?_
  refine I_getI (pc := 9) hx 2 2 rfl fc2 h1 (hx.ci h1 (Nat.le_of_ble_eq_true rfl)) rfl ⟨rfl, rfl, rfl⟩ g131 dX3_lay_9 ?_
  refine E_gd (fun hr2 => ?_)
  refine I_icmp_ge (pc := 12) hx 52 dX3_lay_12 rfl ⟨hr2.1, hr2.2⟩ ?_ ?_
  · refine I_iconst (pc := 52) hx 0 dX3_lay_52 ?_
    refine E_istore_n (pc := 53) hx dX3_lay_53 rfl (Nat.le_of_ble_eq_true rfl) rfl ?_
    refine En.sub [1, 2, 0] rfl ?_
    exact l_X3_lay_b54 F a0 h0 a1 h1 hx F 0 w
  refine E_aload_n (pc := 15) hx 0 dX3_lay_15 rfl rfl ?_
  refine E_aload_n (pc := 16) hx 1 dX3_lay_16 rfl rfl ?_
  refine E_getR (pc := 17) hx 5 fc2 h1 (hx.ci h1 (Nat.le_of_ble_eq_true rfl)) rfl ⟨rfl, rfl, rfl⟩ g143 dX3_lay_17 ?_
  refine E_iload_n (pc := 20) hx 2 dX3_lay_20 rfl rfl ?_
  refine I_iconst (pc := 21) hx 0 dX3_lay_21 ?_
  refine I_cVI  (pc := 22) hx [.int (oI v2), .int (oI 0)] [.ref a0] (ev_X7_get F (shR a1 5) (kt_2_5 h1) v2 0 w) vm_X7_get fc6 (kt_2_5 h1) (hx.ci (kt_2_5 h1) (Nat.le_of_ble_eq_true rfl)) g456 dX3_lay_22 rfl rfl (Nat.le_of_ble_eq_true rfl) (Nat.le_of_ble_eq_true rfl) (Nat.le_of_ble_eq_true rfl) (fun r10 => ?_)
  refine E_aload_n (pc := 25) hx 1 dX3_lay_25 rfl rfl ?_
  refine E_getR (pc := 26) hx 5 fc2 h1 (hx.ci h1 (Nat.le_of_ble_eq_true rfl)) rfl ⟨rfl, rfl, rfl⟩ g143 dX3_lay_26 ?_
  refine E_iload_n (pc := 29) hx 2 dX3_lay_29 rfl rfl ?_
  refine I_iconst (pc := 30) hx 1 dX3_lay_30 ?_
  refine I_cVI  (pc := 31) hx [.int (oI v2), .int (oI 1)] [.int (oI r10), .ref a0] (ev_X7_get F (shR a1 5) (kt_2_5 h1) v2 1 w) vm_X7_get fc6 (kt_2_5 h1) (hx.ci (kt_2_5 h1) (Nat.le_of_ble_eq_true rfl)) g456 dX3_lay_31 rfl rfl (Nat.le_of_ble_eq_true rfl) (Nat.le_of_ble_eq_true rfl) (Nat.le_of_ble_eq_true rfl) (fun r11 => ?_)
  refine E_aload_n (pc := 34) hx 1 dX3_lay_34 rfl rfl ?_
  refine E_getR (pc := 35) hx 5 fc2 h1 (hx.ci h1 (Nat.le_of_ble_eq_true rfl)) rfl ⟨rfl, rfl, rfl⟩ g143 dX3_lay_35 ?_
  refine E_iload_n (pc := 38) hx 2 dX3_lay_38 rfl rfl ?_
  refine I_iconst (pc := 39) hx 2 dX3_lay_39 ?_
  refine I_cVI  (pc := 40) hx [.int (oI v2), .int (oI 2)] [.int (oI r11), .int (oI r10), .ref a0] (ev_X7_get F (shR a1 5) (kt_2_5 h1) v2 2 w) vm_X7_get fc6 (kt_2_5 h1) (hx.ci (kt_2_5 h1) (Nat.le_of_ble_eq_true rfl)) g456 dX3_lay_40 rfl rfl (Nat.le_of_ble_eq_true rfl) (Nat.le_of_ble_eq_true rfl) (Nat.le_of_ble_eq_true rfl) (fun r12 => ?_)
  refine I_cVV  (pc := 43) hx [.int (oI r10), .int (oI r11), .int (oI r12)] [] (ev_X3_layWay F a0 h0 r10 r11 r12 w) vm_X3_layWay fc3 h0 (hx.ci h0 (Nat.le_of_ble_eq_true rfl)) g457 dX3_lay_43 rfl rfl (Nat.le_of_ble_eq_true rfl) (Nat.le_of_ble_eq_true rfl) (Nat.le_of_ble_eq_true rfl) (fun w13 => ?_)
  refine I_iinc (pc := 46) hx 1 2 dX3_lay_46 rfl (Nat.le_of_ble_eq_true rfl) rfl ?_
  refine E_goto (pc := 49) hx 7 dX3_lay_49 rfl ?_
  refine En.sub [1, 2, 0] rfl ?_
  exact hk7 (v2 + 1) w13
theorem l_X3_lay_b7 {x : Cx} (F : Nat) (a0 : Nat) (h0 : shK a0 = 10 + 3) (a1 : Nat) (h1 : shK a1 = 10 + 2)  (hx : CxOK x RX3 cX3_lay 5 3 0 none)  : ∀ (n : Nat) (v2 : Int) (w : aI), En x jvV 0 0 7 [(0, .ref a0), (1, .ref a1), (2, .int (oI v2))] [] (cm w) (f_X3_lay_b7 F a0 a1   n v2 w) := by
  intro n
  induction n with
  | zero => intro v2 w; exact E_none
  | succ n ih => intro v2 w; exact l_X3_lay_b7_b F a0 h0 a1 h1  hx  _ ih v2 w
set_option maxHeartbeats 4000000 in
set_option maxRecDepth 100000 in
theorem ev_X3_lay (F : Nat) (a0 : Nat) (h0 : shK a0 = 10 + 3) (a1 : Nat) (h1 : shK a1 = 10 + 2) (w : aI) : Ev yX3_lay cX3_lay 5 none 3 0 jvV [.ref a0, .ref a1] (cm w) (f_X3_lay F a0 a1 w) := by
  refine Ev.of (own := RX3) (by decide +kernel) rfl (Nat.le_of_ble_eq_true rfl) (fun x hx => ?_)
  show En x jvV 0 0 0 [(0, .ref a0), (1, .ref a1)] [] (cm w) _
  unfold f_X3_lay
  refine E_aload_n (pc := 0) hx 0 dX3_lay_0 rfl rfl ?_
  refine E_aload_n (pc := 1) hx 1 dX3_lay_1 rfl rfl ?_
  refine I_cVV  (pc := 2) hx [.ref a1] [] (ev_X3_layNone F a0 h0 a1 h1 w) vm_X3_layNone fc3 h0 (hx.ci h0 (Nat.le_of_ble_eq_true rfl)) g450 dX3_lay_2 rfl rfl (Nat.le_of_ble_eq_true rfl) (Nat.le_of_ble_eq_true rfl) (Nat.le_of_ble_eq_true rfl) (fun w1 => ?_)
  refine I_iconst (pc := 5) hx 0 dX3_lay_5 ?_
  refine E_istore_n (pc := 6) hx dX3_lay_6 rfl (Nat.le_of_ble_eq_true rfl) rfl ?_
  refine En.sub [1, 2, 0] rfl ?_
  exact l_X3_lay_b7 F a0 h0 a1 h1 hx F 0 w1
set_option maxHeartbeats 4000000 in
set_option maxRecDepth 100000 in
theorem ev_X2_cutWay (F : Nat) (a0 : Nat) (h0 : shK a0 = 10 + 2) (p1 : Int) (p2 : Int) (w : aI) : Ev yX2_cutWay cX2_cutWay 4 (some .boolean) 4 0 jvBW [.ref a0, .int (oI p1), .int (oI p2)] (cm w) (f_X2_cutWay F a0 p1 p2 w) := by
  refine Ev.of (own := RX2) (by decide +kernel) rfl (Nat.le_of_ble_eq_true rfl) (fun x hx => ?_)
  show En x jvBW 0 0 0 [(0, .ref a0), (1, .int (oI p1)), (2, .int (oI p2))] [] (cm w) _
  unfold f_X2_cutWay
  refine E_aload_n (pc := 0) hx 0 dX2_cutWay_0 rfl rfl ?_
  refine E_iload_n (pc := 1) hx 1 dX2_cutWay_1 rfl rfl ?_
  refine E_iload_n (pc := 2) hx 2 dX2_cutWay_2 rfl rfl ?_
  refine I_cVI  (pc := 3) hx [.int (oI p1), .int (oI p2)] [] (ev_X2_wayBetween F a0 h0 p1 p2 w) vm_X2_wayBetween fc2 h0 (hx.ci h0 (Nat.le_of_ble_eq_true rfl)) g795 dX2_cutWay_3 rfl rfl (Nat.le_of_ble_eq_true rfl) (Nat.le_of_ble_eq_true rfl) (Nat.le_of_ble_eq_true rfl) (fun r1 => ?_)
  refine E_istore_n (pc := 6) hx dX2_cutWay_6 rfl (Nat.le_of_ble_eq_true rfl) rfl ?_
  refine E_iload_n (pc := 7) hx 0 dX2_cutWay_7 rfl rfl ?_
  refine I_iconst (pc := 8) hx (-1) dX2_cutWay_8 ?_
  refine E_gd (fun hr2 => ?_)
  refine I_icmp_ne (pc := 9) hx 14 dX2_cutWay_9 rfl ⟨hr2, (by decide)⟩ ?_ ?_
  · refine E_aload_n (pc := 14) hx 1 dX2_cutWay_14 rfl rfl ?_
    refine E_getR (pc := 15) hx 5 fc2 h0 (hx.ci h0 (Nat.le_of_ble_eq_true rfl)) rfl ⟨rfl, rfl, rfl⟩ g142 dX2_cutWay_15 ?_
    refine E_iload_n (pc := 18) hx 0 dX2_cutWay_18 rfl rfl ?_
    refine I_cVV  (pc := 19) hx [.int (oI r1)] [] (ev_X7_removeRow F (shR a0 5) (kt_2_5 h0) r1 w) vm_X7_removeRow fc6 (kt_2_5 h0) (hx.ci (kt_2_5 h0) (Nat.le_of_ble_eq_true rfl)) g796 dX2_cutWay_19 rfl rfl (Nat.le_of_ble_eq_true rfl) (Nat.le_of_ble_eq_true rfl) (Nat.le_of_ble_eq_true rfl) (fun w3 => ?_)
    refine E_aload_n (pc := 22) hx 1 dX2_cutWay_22 rfl rfl ?_
    refine E_dup (pc := 23) hx dX2_cutWay_23 rfl ?_
    refine I_getI (pc := 24) hx 2 2 rfl fc2 h0 (hx.ci h0 (Nat.le_of_ble_eq_true rfl)) rfl ⟨rfl, rfl, rfl⟩ g130 dX2_cutWay_24 ?_
    refine I_iconst (pc := 27) hx 1 dX2_cutWay_27 ?_
    refine I_isub (pc := 28) hx dX2_cutWay_28 ?_
    refine I_put (pc := 29) hx 2 2 rfl .int tyX2 fc2 tyX2_ok h0 (hx.ci h0 (Nat.le_of_ble_eq_true rfl)) rfl ⟨rfl, rfl, rfl, rfl, pfd_I⟩ rfl rfl g130 dX2_cutWay_29 (fun w4 => ?_)
    refine E_aload_n (pc := 32) hx 1 dX2_cutWay_32 rfl rfl ?_
    refine E_getR (pc := 33) hx 9 fc2 h0 (hx.ci h0 (Nat.le_of_ble_eq_true rfl)) rfl ⟨rfl, rfl, rfl⟩ g152 dX2_cutWay_33 ?_
    refine E_aload_n (pc := 36) hx 1 dX2_cutWay_36 rfl rfl ?_
    refine I_cVV  (pc := 37) hx [.ref a0] [] (ev_X3_lay F (shR a0 9) (kt_2_9 h0) a0 h0 w4) vm_X3_lay fc3 (kt_2_9 h0) (hx.ci (kt_2_9 h0) (Nat.le_of_ble_eq_true rfl)) g802 dX2_cutWay_37 rfl rfl (Nat.le_of_ble_eq_true rfl) (Nat.le_of_ble_eq_true rfl) (Nat.le_of_ble_eq_true rfl) (fun w5 => ?_)
    refine I_iconst (pc := 40) hx 1 dX2_cutWay_40 ?_
    exact E_zret (pc := 41) hx dX2_cutWay_41 rfl rfl rfl (Nat.le_of_ble_eq_true rfl)
  refine I_iconst (pc := 12) hx 0 dX2_cutWay_12 ?_
  exact E_zret (pc := 13) hx dX2_cutWay_13 rfl rfl rfl (Nat.le_of_ble_eq_true rfl)
set_option maxHeartbeats 4000000 in
set_option maxRecDepth 100000 in
theorem l_X2_roofNamed_b2_b {x : Cx} (F : Nat) (a0 : Nat) (h0 : shK a0 = 10 + 2) (p1 : Int) (w : aI) (hx : CxOK x RX2 cX2_roofNamed 3 1 0 (some .int))  (k2 : Int → Option Int) (hk2 : ∀ (v2 : Int), En x (jvI w) 0 0 2 [(0, .ref a0), (1, .int (oI p1)), (2, .int (oI v2))] [] (cm w) (k2 v2)) (v2 : Int)  : En x (jvI w) 0 0 2 [(0, .ref a0), (1, .int (oI p1)), (2, .int (oI v2))] [] (cm w) (f_X2_roofNamed_b2_b F a0 p1 w  k2 v2) := by
  unfold f_X2_roofNamed_b2_b
  refine E_iload_n (pc := 2) hx 2 dX2_roofNamed_2 rfl rfl ?_
  refine E_aload_n (pc := 3) hx 0 dX2_roofNamed_3 rfl rfl ?_
  refine I_getI (pc := 4) hx 1 1 rfl fc2 h0 (hx.ci h0 (Nat.le_of_ble_eq_true rfl)) rfl ⟨rfl, rfl, rfl⟩ g124 dX2_roofNamed_4 ?_
  refine E_gd (fun hr1 => ?_)
  refine I_icmp_ge (pc := 7) hx 31 dX2_roofNamed_7 rfl ⟨hr1.1, hr1.2⟩ ?_ ?_
  · refine I_iconst (pc := 31) hx (-1) dX2_roofNamed_31 ?_
    exact E_iret (pc := 32) hx dX2_roofNamed_32 rfl rfl (Nat.le_of_ble_eq_true rfl)
  refine E_aload_n (pc := 10) hx 0 dX2_roofNamed_10 rfl rfl ?_
  refine E_getR (pc := 11) hx 4 fc2 h0 (hx.ci h0 (Nat.le_of_ble_eq_true rfl)) rfl ⟨rfl, rfl, rfl⟩ g138 dX2_roofNamed_11 ?_
  refine E_iload_n (pc := 14) hx 2 dX2_roofNamed_14 rfl rfl ?_
  refine I_iconst (pc := 15) hx 5 dX2_roofNamed_15 ?_
  refine I_cVI  (pc := 16) hx [.int (oI v2), .int (oI 5)] [] (ev_X7_get F (shR a0 4) (kt_2_4 h0) v2 5 w) vm_X7_get fc6 (kt_2_4 h0) (hx.ci (kt_2_4 h0) (Nat.le_of_ble_eq_true rfl)) g384 dX2_roofNamed_16 rfl rfl (Nat.le_of_ble_eq_true rfl) (Nat.le_of_ble_eq_true rfl) (Nat.le_of_ble_eq_true rfl) (fun r2 => ?_)
  refine E_iload_n (pc := 19) hx 1 dX2_roofNamed_19 rfl rfl ?_
  refine E_gd (fun hr3 => ?_)
  refine I_icmp_ne (pc := 20) hx 25 dX2_roofNamed_20 rfl ⟨hr3.1, hr3.2⟩ ?_ ?_
  · refine I_iinc (pc := 25) hx 1 2 dX2_roofNamed_25 rfl (Nat.le_of_ble_eq_true rfl) rfl ?_
    refine E_goto (pc := 28) hx 2 dX2_roofNamed_28 rfl ?_
    refine En.sub [1, 2, 0] rfl ?_
    exact hk2 (v2 + 1)
  refine E_iload_n (pc := 23) hx 2 dX2_roofNamed_23 rfl rfl ?_
  exact E_iret (pc := 24) hx dX2_roofNamed_24 rfl rfl (Nat.le_of_ble_eq_true rfl)
theorem l_X2_roofNamed_b2 {x : Cx} (F : Nat) (a0 : Nat) (h0 : shK a0 = 10 + 2) (p1 : Int) (w : aI) (hx : CxOK x RX2 cX2_roofNamed 3 1 0 (some .int))  : ∀ (n : Nat) (v2 : Int), En x (jvI w) 0 0 2 [(0, .ref a0), (1, .int (oI p1)), (2, .int (oI v2))] [] (cm w) (f_X2_roofNamed_b2 F a0 p1 w  n v2) := by
  intro n
  induction n with
  | zero => intro v2; exact E_none
  | succ n ih => intro v2; exact l_X2_roofNamed_b2_b F a0 h0 p1 w hx  _ ih v2
set_option maxHeartbeats 4000000 in
set_option maxRecDepth 100000 in
theorem ev_X2_roofNamed (F : Nat) (a0 : Nat) (h0 : shK a0 = 10 + 2) (p1 : Int) (w : aI) : Ev yX2_roofNamed cX2_roofNamed 3 (some .int) 1 0 (jvI w) [.ref a0, .int (oI p1)] (cm w) (f_X2_roofNamed F a0 p1 w) := by
  refine Ev.of (own := RX2) (by decide +kernel) rfl (Nat.le_of_ble_eq_true rfl) (fun x hx => ?_)
  show En x (jvI w) 0 0 0 [(0, .ref a0), (1, .int (oI p1))] [] (cm w) _
  unfold f_X2_roofNamed
  refine I_iconst (pc := 0) hx 0 dX2_roofNamed_0 ?_
  refine E_istore_n (pc := 1) hx dX2_roofNamed_1 rfl (Nat.le_of_ble_eq_true rfl) rfl ?_
  refine En.sub [1, 2, 0] rfl ?_
  exact l_X2_roofNamed_b2 F a0 h0 p1 w hx F 0
set_option maxHeartbeats 4000000 in
set_option maxRecDepth 100000 in
theorem l_X2_tunesIn_b4_b {x : Cx} (F : Nat) (a0 : Nat) (h0 : shK a0 = 10 + 2) (p1 : Int) (w : aI) (hx : CxOK x RX2 cX2_tunesIn 4 1 0 (some .int))  (k4 : Int → Int → Option Int) (hk4 : ∀ (v2 : Int) (v3 : Int), En x (jvI w) 0 0 4 [(0, .ref a0), (1, .int (oI p1)), (2, .int (oI v2)), (3, .int (oI v3))] [] (cm w) (k4 v2 v3)) (v2 : Int) (v3 : Int)  : En x (jvI w) 0 0 4 [(0, .ref a0), (1, .int (oI p1)), (2, .int (oI v2)), (3, .int (oI v3))] [] (cm w) (f_X2_tunesIn_b4_b F a0 p1 w  k4 v2 v3) := by
  unfold f_X2_tunesIn_b4_b
  refine E_iload_n (pc := 4) hx 3 dX2_tunesIn_4 rfl rfl ?_
  refine E_aload_n (pc := 5) hx 0 dX2_tunesIn_5 rfl rfl ?_
  refine I_getI (pc := 6) hx 3 3 rfl fc2 h0 (hx.ci h0 (Nat.le_of_ble_eq_true rfl)) rfl ⟨rfl, rfl, rfl⟩ g134 dX2_tunesIn_6 ?_
  refine E_gd (fun hr1 => ?_)
  refine I_icmp_ge (pc := 9) hx 34 dX2_tunesIn_9 rfl ⟨hr1.1, hr1.2⟩ ?_ ?_
  · refine E_iload_n (pc := 34) hx 2 dX2_tunesIn_34 rfl rfl ?_
    exact E_iret (pc := 35) hx dX2_tunesIn_35 rfl rfl (Nat.le_of_ble_eq_true rfl)
  refine E_aload_n (pc := 12) hx 0 dX2_tunesIn_12 rfl rfl ?_
  refine E_getR (pc := 13) hx 6 fc2 h0 (hx.ci h0 (Nat.le_of_ble_eq_true rfl)) rfl ⟨rfl, rfl, rfl⟩ g144 dX2_tunesIn_13 ?_
  refine E_iload_n (pc := 16) hx 3 dX2_tunesIn_16 rfl rfl ?_
  refine I_iconst (pc := 17) hx 3 dX2_tunesIn_17 ?_
  refine I_cVI  (pc := 18) hx [.int (oI v3), .int (oI 3)] [] (ev_X7_get F (shR a0 6) (kt_2_6 h0) v3 3 w) vm_X7_get fc6 (kt_2_6 h0) (hx.ci (kt_2_6 h0) (Nat.le_of_ble_eq_true rfl)) g384 dX2_tunesIn_18 rfl rfl (Nat.le_of_ble_eq_true rfl) (Nat.le_of_ble_eq_true rfl) (Nat.le_of_ble_eq_true rfl) (fun r2 => ?_)
  refine E_iload_n (pc := 21) hx 1 dX2_tunesIn_21 rfl rfl ?_
  refine E_gd (fun hr3 => ?_)
  refine I_icmp_ne (pc := 22) hx 28 dX2_tunesIn_22 rfl ⟨hr3.1, hr3.2⟩ ?_ ?_
  · refine I_iinc (pc := 28) hx 1 3 dX2_tunesIn_28 rfl (Nat.le_of_ble_eq_true rfl) rfl ?_
    refine E_goto (pc := 31) hx 4 dX2_tunesIn_31 rfl ?_
    refine En.sub [1, 2, 3, 0] rfl ?_
    exact hk4 v2 (v3 + 1)
  refine I_iinc (pc := 25) hx 1 2 dX2_tunesIn_25 rfl (Nat.le_of_ble_eq_true rfl) rfl ?_
  refine I_iinc (pc := 28) hx 1 3 dX2_tunesIn_28 rfl (Nat.le_of_ble_eq_true rfl) rfl ?_
  refine E_goto (pc := 31) hx 4 dX2_tunesIn_31 rfl ?_
  refine En.sub [2, 3, 1, 0] rfl ?_
  exact hk4 (v2 + 1) (v3 + 1)
theorem l_X2_tunesIn_b4 {x : Cx} (F : Nat) (a0 : Nat) (h0 : shK a0 = 10 + 2) (p1 : Int) (w : aI) (hx : CxOK x RX2 cX2_tunesIn 4 1 0 (some .int))  : ∀ (n : Nat) (v2 : Int) (v3 : Int), En x (jvI w) 0 0 4 [(0, .ref a0), (1, .int (oI p1)), (2, .int (oI v2)), (3, .int (oI v3))] [] (cm w) (f_X2_tunesIn_b4 F a0 p1 w  n v2 v3) := by
  intro n
  induction n with
  | zero => intro v2 v3; exact E_none
  | succ n ih => intro v2 v3; exact l_X2_tunesIn_b4_b F a0 h0 p1 w hx  _ ih v2 v3
set_option maxHeartbeats 4000000 in
set_option maxRecDepth 100000 in
theorem ev_X2_tunesIn (F : Nat) (a0 : Nat) (h0 : shK a0 = 10 + 2) (p1 : Int) (w : aI) : Ev yX2_tunesIn cX2_tunesIn 4 (some .int) 1 0 (jvI w) [.ref a0, .int (oI p1)] (cm w) (f_X2_tunesIn F a0 p1 w) := by
  refine Ev.of (own := RX2) (by decide +kernel) rfl (Nat.le_of_ble_eq_true rfl) (fun x hx => ?_)
  show En x (jvI w) 0 0 0 [(0, .ref a0), (1, .int (oI p1))] [] (cm w) _
  unfold f_X2_tunesIn
  refine I_iconst (pc := 0) hx 0 dX2_tunesIn_0 ?_
  refine E_istore_n (pc := 1) hx dX2_tunesIn_1 rfl (Nat.le_of_ble_eq_true rfl) rfl ?_
  refine I_iconst (pc := 2) hx 0 dX2_tunesIn_2 ?_
  refine E_istore_n (pc := 3) hx dX2_tunesIn_3 rfl (Nat.le_of_ble_eq_true rfl) rfl ?_
  refine En.sub [2, 3, 1, 0] rfl ?_
  exact l_X2_tunesIn_b4 F a0 h0 p1 w hx F 0 0
set_option maxHeartbeats 4000000 in
set_option maxRecDepth 100000 in
theorem ev_X2_isBusy (F : Nat) (a0 : Nat) (h0 : shK a0 = 10 + 2) (p1 : Int) (p2 : Int) (w : aI) : Ev yX2_isBusy cX2_isBusy 3 (some .boolean) 1 0 (jvB w) [.ref a0, .int (oI p1), .int (oI p2)] (cm w) (f_X2_isBusy F a0 p1 p2 w) := by
  refine Ev.of (own := RX2) (by decide +kernel) rfl (Nat.le_of_ble_eq_true rfl) (fun x hx => ?_)
  show En x (jvB w) 0 0 0 [(0, .ref a0), (1, .int (oI p1)), (2, .int (oI p2))] [] (cm w) _
  unfold f_X2_isBusy
  refine E_aload_n (pc := 0) hx 0 dX2_isBusy_0 rfl rfl ?_
  refine E_getR (pc := 1) hx 4 fc2 h0 (hx.ci h0 (Nat.le_of_ble_eq_true rfl)) rfl ⟨rfl, rfl, rfl⟩ g138 dX2_isBusy_1 ?_
  refine E_iload_n (pc := 4) hx 1 dX2_isBusy_4 rfl rfl ?_
  refine I_iconst (pc := 5) hx 4 dX2_isBusy_5 ?_
  refine I_cVI  (pc := 6) hx [.int (oI p1), .int (oI 4)] [] (ev_X7_get F (shR a0 4) (kt_2_4 h0) p1 4 w) vm_X7_get fc6 (kt_2_4 h0) (hx.ci (kt_2_4 h0) (Nat.le_of_ble_eq_true rfl)) g384 dX2_isBusy_6 rfl rfl (Nat.le_of_ble_eq_true rfl) (Nat.le_of_ble_eq_true rfl) (Nat.le_of_ble_eq_true rfl) (fun r1 => ?_)
  refine E_iload_n (pc := 9) hx 2 dX2_isBusy_9 rfl rfl ?_
  refine E_gd (fun hr2 => ?_)
  refine I_icmp_le (pc := 10) hx 17 dX2_isBusy_10 rfl ⟨hr2.1, hr2.2⟩ ?_ ?_
  · refine I_iconst (pc := 17) hx 0 dX2_isBusy_17 ?_
    exact E_zret (pc := 18) hx dX2_isBusy_18 rfl rfl rfl (Nat.le_of_ble_eq_true rfl)
  refine I_iconst (pc := 13) hx 1 dX2_isBusy_13 ?_
  refine E_goto (pc := 14) hx 18 dX2_isBusy_14 rfl ?_
  exact E_zret (pc := 18) hx dX2_isBusy_18 rfl rfl rfl (Nat.le_of_ble_eq_true rfl)
set_option maxHeartbeats 4000000 in
set_option maxRecDepth 100000 in
theorem l_X2_busyWhistlers_b4_b {x : Cx} (F : Nat) (a0 : Nat) (h0 : shK a0 = 10 + 2) (w : aI) (hx : CxOK x RX2 cX2_busyWhistlers 3 2 0 (some .int))  (k4 : Int → Int → Option Int) (hk4 : ∀ (v1 : Int) (v2 : Int), En x (jvI w) 0 0 4 [(0, .ref a0), (1, .int (oI v1)), (2, .int (oI v2))] [] (cm w) (k4 v1 v2)) (v1 : Int) (v2 : Int)  : En x (jvI w) 0 0 4 [(0, .ref a0), (1, .int (oI v1)), (2, .int (oI v2))] [] (cm w) (f_X2_busyWhistlers_b4_b F a0 w  k4 v1 v2) := by
  unfold f_X2_busyWhistlers_b4_b
  refine E_iload_n (pc := 4) hx 2 dX2_busyWhistlers_4 rfl rfl ?_
  refine E_aload_n (pc := 5) hx 0 dX2_busyWhistlers_5 rfl rfl ?_
  refine I_getI (pc := 6) hx 1 1 rfl fc2 h0 (hx.ci h0 (Nat.le_of_ble_eq_true rfl)) rfl ⟨rfl, rfl, rfl⟩ g124 dX2_busyWhistlers_6 ?_
  refine E_gd (fun hr1 => ?_)
  refine I_icmp_ge (pc := 9) hx 33 dX2_busyWhistlers_9 rfl ⟨hr1.1, hr1.2⟩ ?_ ?_
  · refine E_iload_n (pc := 33) hx 1 dX2_busyWhistlers_33 rfl rfl ?_
    exact E_iret (pc := 34) hx dX2_busyWhistlers_34 rfl rfl (Nat.le_of_ble_eq_true rfl)
  refine E_aload_n (pc := 12) hx 0 dX2_busyWhistlers_12 rfl rfl ?_
  refine E_iload_n (pc := 13) hx 2 dX2_busyWhistlers_13 rfl rfl ?_
  refine E_aload_n (pc := 14) hx 0 dX2_busyWhistlers_14 rfl rfl ?_
  refine I_getI (pc := 15) hx 0 0 rfl fc2 h0 (hx.ci h0 (Nat.le_of_ble_eq_true rfl)) rfl ⟨rfl, rfl, rfl⟩ g122 dX2_busyWhistlers_15 ?_
  refine I_cVB  (pc := 18) hx [.int (oI v2), .int (oI (w a0 0))] [] (ev_X2_isBusy F a0 h0 v2 (w a0 0) w) vm_X2_isBusy fc2 h0 (hx.ci h0 (Nat.le_of_ble_eq_true rfl)) g1024 dX2_busyWhistlers_18 rfl rfl (Nat.le_of_ble_eq_true rfl) (Nat.le_of_ble_eq_true rfl) (Nat.le_of_ble_eq_true rfl) (fun r2 => ?_)
  refine I_ifB_eq (pc := 21) hx 27 dX2_busyWhistlers_21 rfl ?_ ?_
  · refine I_iinc (pc := 27) hx 1 2 dX2_busyWhistlers_27 rfl (Nat.le_of_ble_eq_true rfl) rfl ?_
    refine E_goto (pc := 30) hx 4 dX2_busyWhistlers_30 rfl ?_
    refine En.sub [1, 2, 0] rfl ?_
    exact hk4 v1 (v2 + 1)
  refine I_iinc (pc := 24) hx 1 1 dX2_busyWhistlers_24 rfl (Nat.le_of_ble_eq_true rfl) rfl ?_
  refine I_iinc (pc := 27) hx 1 2 dX2_busyWhistlers_27 rfl (Nat.le_of_ble_eq_true rfl) rfl ?_
  refine E_goto (pc := 30) hx 4 dX2_busyWhistlers_30 rfl ?_
  refine En.sub [2, 1, 0] rfl ?_
  exact hk4 (v1 + 1) (v2 + 1)
theorem l_X2_busyWhistlers_b4 {x : Cx} (F : Nat) (a0 : Nat) (h0 : shK a0 = 10 + 2) (w : aI) (hx : CxOK x RX2 cX2_busyWhistlers 3 2 0 (some .int))  : ∀ (n : Nat) (v1 : Int) (v2 : Int), En x (jvI w) 0 0 4 [(0, .ref a0), (1, .int (oI v1)), (2, .int (oI v2))] [] (cm w) (f_X2_busyWhistlers_b4 F a0 w  n v1 v2) := by
  intro n
  induction n with
  | zero => intro v1 v2; exact E_none
  | succ n ih => intro v1 v2; exact l_X2_busyWhistlers_b4_b F a0 h0 w hx  _ ih v1 v2
set_option maxHeartbeats 4000000 in
set_option maxRecDepth 100000 in
theorem ev_X2_busyWhistlers (F : Nat) (a0 : Nat) (h0 : shK a0 = 10 + 2) (w : aI) : Ev yX2_busyWhistlers cX2_busyWhistlers 3 (some .int) 2 0 (jvI w) [.ref a0] (cm w) (f_X2_busyWhistlers F a0 w) := by
  refine Ev.of (own := RX2) (by decide +kernel) rfl (Nat.le_of_ble_eq_true rfl) (fun x hx => ?_)
  show En x (jvI w) 0 0 0 [(0, .ref a0)] [] (cm w) _
  unfold f_X2_busyWhistlers
  refine I_iconst (pc := 0) hx 0 dX2_busyWhistlers_0 ?_
  refine E_istore_n (pc := 1) hx dX2_busyWhistlers_1 rfl (Nat.le_of_ble_eq_true rfl) rfl ?_
  refine I_iconst (pc := 2) hx 0 dX2_busyWhistlers_2 ?_
  refine E_istore_n (pc := 3) hx dX2_busyWhistlers_3 rfl (Nat.le_of_ble_eq_true rfl) rfl ?_
  refine En.sub [2, 1, 0] rfl ?_
  exact l_X2_busyWhistlers_b4 F a0 h0 w hx F 0 0
set_option maxHeartbeats 4000000 in
set_option maxRecDepth 100000 in
theorem l_X2_pursesTogether_b4_b {x : Cx} (F : Nat) (a0 : Nat) (h0 : shK a0 = 10 + 2) (w : aI) (hx : CxOK x RX2 cX2_pursesTogether 3 1 0 (some .int))  (k4 : Int → Int → Option Int) (hk4 : ∀ (v1 : Int) (v2 : Int), En x (jvI w) 0 0 4 [(0, .ref a0), (1, .int (oI v1)), (2, .int (oI v2))] [] (cm w) (k4 v1 v2)) (v1 : Int) (v2 : Int)  : En x (jvI w) 0 0 4 [(0, .ref a0), (1, .int (oI v1)), (2, .int (oI v2))] [] (cm w) (f_X2_pursesTogether_b4_b F a0 w  k4 v1 v2) := by
  unfold f_X2_pursesTogether_b4_b
  refine E_iload_n (pc := 4) hx 2 dX2_pursesTogether_4 rfl rfl ?_
  refine E_aload_n (pc := 5) hx 0 dX2_pursesTogether_5 rfl rfl ?_
  refine I_getI (pc := 6) hx 1 1 rfl fc2 h0 (hx.ci h0 (Nat.le_of_ble_eq_true rfl)) rfl ⟨rfl, rfl, rfl⟩ g124 dX2_pursesTogether_6 ?_
  refine E_gd (fun hr1 => ?_)
  refine I_icmp_ge (pc := 9) hx 30 dX2_pursesTogether_9 rfl ⟨hr1.1, hr1.2⟩ ?_ ?_
  · refine E_iload_n (pc := 30) hx 1 dX2_pursesTogether_30 rfl rfl ?_
    exact E_iret (pc := 31) hx dX2_pursesTogether_31 rfl rfl (Nat.le_of_ble_eq_true rfl)
  refine E_iload_n (pc := 12) hx 1 dX2_pursesTogether_12 rfl rfl ?_
  refine E_aload_n (pc := 13) hx 0 dX2_pursesTogether_13 rfl rfl ?_
  refine E_getR (pc := 14) hx 4 fc2 h0 (hx.ci h0 (Nat.le_of_ble_eq_true rfl)) rfl ⟨rfl, rfl, rfl⟩ g138 dX2_pursesTogether_14 ?_
  refine E_iload_n (pc := 17) hx 2 dX2_pursesTogether_17 rfl rfl ?_
  refine I_iconst (pc := 18) hx 3 dX2_pursesTogether_18 ?_
  refine I_cVI  (pc := 19) hx [.int (oI v2), .int (oI 3)] [.int (oI v1)] (ev_X7_get F (shR a0 4) (kt_2_4 h0) v2 3 w) vm_X7_get fc6 (kt_2_4 h0) (hx.ci (kt_2_4 h0) (Nat.le_of_ble_eq_true rfl)) g384 dX2_pursesTogether_19 rfl rfl (Nat.le_of_ble_eq_true rfl) (Nat.le_of_ble_eq_true rfl) (Nat.le_of_ble_eq_true rfl) (fun r2 => ?_)
  refine I_iadd (pc := 22) hx dX2_pursesTogether_22 ?_
  refine I_ltv (fun v1_3 => ?_)
  refine E_istore_n (pc := 23) hx dX2_pursesTogether_23 rfl (Nat.le_of_ble_eq_true rfl) rfl ?_
  refine I_iinc (pc := 24) hx 1 2 dX2_pursesTogether_24 rfl (Nat.le_of_ble_eq_true rfl) rfl ?_
  refine E_goto (pc := 27) hx 4 dX2_pursesTogether_27 rfl ?_
  refine En.sub [2, 1, 0] rfl ?_
  exact hk4 v1_3 (v2 + 1)
theorem l_X2_pursesTogether_b4 {x : Cx} (F : Nat) (a0 : Nat) (h0 : shK a0 = 10 + 2) (w : aI) (hx : CxOK x RX2 cX2_pursesTogether 3 1 0 (some .int))  : ∀ (n : Nat) (v1 : Int) (v2 : Int), En x (jvI w) 0 0 4 [(0, .ref a0), (1, .int (oI v1)), (2, .int (oI v2))] [] (cm w) (f_X2_pursesTogether_b4 F a0 w  n v1 v2) := by
  intro n
  induction n with
  | zero => intro v1 v2; exact E_none
  | succ n ih => intro v1 v2; exact l_X2_pursesTogether_b4_b F a0 h0 w hx  _ ih v1 v2
set_option maxHeartbeats 4000000 in
set_option maxRecDepth 100000 in
theorem ev_X2_pursesTogether (F : Nat) (a0 : Nat) (h0 : shK a0 = 10 + 2) (w : aI) : Ev yX2_pursesTogether cX2_pursesTogether 3 (some .int) 1 0 (jvI w) [.ref a0] (cm w) (f_X2_pursesTogether F a0 w) := by
  refine Ev.of (own := RX2) (by decide +kernel) rfl (Nat.le_of_ble_eq_true rfl) (fun x hx => ?_)
  show En x (jvI w) 0 0 0 [(0, .ref a0)] [] (cm w) _
  unfold f_X2_pursesTogether
  refine I_iconst (pc := 0) hx 0 dX2_pursesTogether_0 ?_
  refine E_istore_n (pc := 1) hx dX2_pursesTogether_1 rfl (Nat.le_of_ble_eq_true rfl) rfl ?_
  refine I_iconst (pc := 2) hx 0 dX2_pursesTogether_2 ?_
  refine E_istore_n (pc := 3) hx dX2_pursesTogether_3 rfl (Nat.le_of_ble_eq_true rfl) rfl ?_
  refine En.sub [2, 1, 0] rfl ?_
  exact l_X2_pursesTogether_b4 F a0 h0 w hx F 0 0
