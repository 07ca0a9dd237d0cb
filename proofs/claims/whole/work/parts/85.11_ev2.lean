/-! ===== the same in the world of the class alone: 11.ev2 ===== -/
set_option maxHeartbeats 4000000 in
set_option maxRecDepth 100000 in
theorem l_X9_kindOf_b28_k {x : Cx} (F : Nat) (p0 : Int) (w : aI) (hx : CxOK_k x RX9 cX9_kindOf 1 0 0 (some .int))     : En_k x (jvI w) 0 0 28 [(0, .int (oI p0))] [] (cm w) (f_X9_kindOf_b28 F p0 w   ) := by
  unfold f_X9_kindOf_b28
  refine E_iload_n_k (pc := 28) hx 0 dX9_kindOf_28 rfl rfl ?_
  refine E_gd_k (fun hr3 => ?_)
  refine E_case_k (fun hc4 => ?_) (fun hc4 => ?_)
  · refine E_lsw_k (pc := 29) hx (off := 47) 76 dX9_kindOf_29 (by decide) (by rw [hc4]; rfl) rfl ?_
    refine I_iconst_k (pc := 76) hx 0 dX9_kindOf_76 ?_
    exact E_iret_k (pc := 77) hx dX9_kindOf_77 rfl rfl (Nat.le_of_ble_eq_true rfl)
  refine E_case_k (fun hc5 => ?_) (fun hc5 => ?_)
  · refine E_lsw_k (pc := 29) hx (off := 45) 74 dX9_kindOf_29 (by decide) (by rw [hc5]; rfl) rfl ?_
    refine I_iconst_k (pc := 74) hx 5 dX9_kindOf_74 ?_
    exact E_iret_k (pc := 75) hx dX9_kindOf_75 rfl rfl (Nat.le_of_ble_eq_true rfl)
  refine E_case_k (fun hc6 => ?_) (fun hc6 => ?_)
  · refine E_lsw_k (pc := 29) hx (off := 45) 74 dX9_kindOf_29 (by decide) (by rw [hc6]; rfl) rfl ?_
    refine I_iconst_k (pc := 74) hx 5 dX9_kindOf_74 ?_
    exact E_iret_k (pc := 75) hx dX9_kindOf_75 rfl rfl (Nat.le_of_ble_eq_true rfl)
  refine E_case_k (fun hc7 => ?_) (fun hc7 => ?_)
  · refine E_lsw_k (pc := 29) hx (off := 43) 72 dX9_kindOf_29 (by decide) (by rw [hc7]; rfl) rfl ?_
    refine I_iconst_k (pc := 72) hx 3 dX9_kindOf_72 ?_
    exact E_iret_k (pc := 73) hx dX9_kindOf_73 rfl rfl (Nat.le_of_ble_eq_true rfl)
  refine E_lsw_k (pc := 29) hx (off := 49) 78 dX9_kindOf_29 (by decide) (lswI_out _ hr3 _ (by simp only [List.forall_mem_cons, List.not_mem_nil, false_imp_iff, implies_true, and_true]; exact ⟨hc4, hc5, hc6, hc7⟩)) rfl ?_
  refine I_iconst_k (pc := 78) hx 4 dX9_kindOf_78 ?_
  exact E_iret_k (pc := 79) hx dX9_kindOf_79 rfl rfl (Nat.le_of_ble_eq_true rfl)
set_option maxHeartbeats 4000000 in
set_option maxRecDepth 100000 in
theorem l_X9_kindOf_b14_k {x : Cx} (F : Nat) (p0 : Int) (w : aI) (hx : CxOK_k x RX9 cX9_kindOf 1 0 0 (some .int))     : En_k x (jvI w) 0 0 14 [(0, .int (oI p0))] [] (cm w) (f_X9_kindOf_b14 F p0 w   ) := by
  unfold f_X9_kindOf_b14
  refine E_iload_n_k (pc := 14) hx 0 dX9_kindOf_14 rfl rfl ?_
  refine I_bipush_k (pc := 15) hx 48 dX9_kindOf_15 rfl ?_
  refine E_gd_k (fun hr2 => ?_)
  refine I_icmp_lt_k (pc := 17) hx 28 dX9_kindOf_17 rfl ⟨hr2, (by decide)⟩ ?_ ?_
  · exact l_X9_kindOf_b28_k F p0 w hx 
  refine E_iload_n_k (pc := 20) hx 0 dX9_kindOf_20 rfl rfl ?_
  refine I_bipush_k (pc := 21) hx 57 dX9_kindOf_21 rfl ?_
  refine I_icmp_gt_k (pc := 23) hx 28 dX9_kindOf_23 rfl ⟨hr2, (by decide)⟩ ?_ ?_
  · exact l_X9_kindOf_b28_k F p0 w hx 
  refine I_iconst_k (pc := 26) hx 2 dX9_kindOf_26 ?_
  exact E_iret_k (pc := 27) hx dX9_kindOf_27 rfl rfl (Nat.le_of_ble_eq_true rfl)
set_option maxHeartbeats 4000000 in
set_option maxRecDepth 100000 in
theorem ev_X9_kindOf_k (F : Nat) (p0 : Int) (w : aI) : Ev_k yX9_kindOf cX9_kindOf 1 (some .int) 0 0 (jvI w) [.int (oI p0)] (cm w) (f_X9_kindOf F p0 w) := by
  refine Ev_k.of (own := RX9) (by decide +kernel) rfl (Nat.le_of_ble_eq_true rfl) (fun x hx => ?_)
  show En_k x (jvI w) 0 0 0 [(0, .int (oI p0))] [] (cm w) _
  unfold f_X9_kindOf
  refine E_iload_n_k (pc := 0) hx 0 dX9_kindOf_0 rfl rfl ?_
  refine I_bipush_k (pc := 1) hx 97 dX9_kindOf_1 rfl ?_
  refine E_gd_k (fun hr1 => ?_)
  refine I_icmp_lt_k (pc := 3) hx 14 dX9_kindOf_3 rfl ⟨hr1, (by decide)⟩ ?_ ?_
  · exact l_X9_kindOf_b14_k F p0 w hx 
  refine E_iload_n_k (pc := 6) hx 0 dX9_kindOf_6 rfl rfl ?_
  refine I_bipush_k (pc := 7) hx 122 dX9_kindOf_7 rfl ?_
  refine I_icmp_gt_k (pc := 9) hx 14 dX9_kindOf_9 rfl ⟨hr1, (by decide)⟩ ?_ ?_
  · exact l_X9_kindOf_b14_k F p0 w hx 
  refine I_iconst_k (pc := 12) hx 1 dX9_kindOf_12 ?_
  exact E_iret_k (pc := 13) hx dX9_kindOf_13 rfl rfl (Nat.le_of_ble_eq_true rfl)
set_option maxHeartbeats 4000000 in
set_option maxRecDepth 100000 in
theorem l_X9_step_b214_b_k {x : Cx} (F : Nat) (a0 : Nat) (h0 : shK_k a0 = 10 + 7)  (hx : CxOK_k x RX9 cX9_step 3 1 0 none)  (k214 : Int → aI → Option aI) (hk214 : ∀ (v2 : Int) (w : aI), En_k x jvV 0 0 214 [(0, .ref a0), (2, .int (oI v2))] [] (cm w) (k214 v2 w)) (v2 : Int) (w : aI) : En_k x jvV 0 0 214 [(0, .ref a0), (2, .int (oI v2))] [] (cm w) (f_X9_step_b214_b F a0   k214 v2 w) := by
  unfold f_X9_step_b214_b
  refine E_iload_n_k (pc := 214) hx 1 dX9_step_214 rfl rfl ?_
  refine E_aload_n_k (pc := 215) hx 0 dX9_step_215 rfl rfl ?_
  refine I_getI_k (pc := 216) hx 2 2 rfl fc7 h0 rfl ⟨rfl, rfl, rfl⟩ g290 dX9_step_216 ?_
  refine E_gd_k (fun hr14 => ?_)
  refine I_icmp_ge_k (pc := 219) hx 259 dX9_step_219 rfl ⟨hr14.1, hr14.2⟩ ?_ ?_
  · exact E_vret_k (pc := 259) hx dX9_step_259 rfl rfl (Nat.le_of_ble_eq_true rfl)
  refine E_aload_n_k (pc := 222) hx 0 dX9_step_222 rfl rfl ?_
  refine I_getI_k (pc := 223) hx 3 3 rfl fc7 h0 rfl ⟨rfl, rfl, rfl⟩ g293 dX9_step_223 ?_
  refine I_iconst_k (pc := 226) hx 2 dX9_step_226 ?_
  refine E_gd_k (fun hr15 => ?_)
  refine I_icmp_ne_k (pc := 227) hx 259 dX9_step_227 rfl ⟨hr15, (by decide)⟩ ?_ ?_
  · exact E_vret_k (pc := 259) hx dX9_step_259 rfl rfl (Nat.le_of_ble_eq_true rfl)
  refine E_aload_n_k (pc := 230) hx 0 dX9_step_230 rfl rfl ?_
  refine E_aload_n_k (pc := 231) hx 0 dX9_step_231 rfl rfl ?_
  refine I_getI_k (pc := 232) hx 4 4 rfl fc7 h0 rfl ⟨rfl, rfl, rfl⟩ g294 dX9_step_232 ?_
  refine I_bipush_k (pc := 235) hx 10 dX9_step_235 rfl ?_
  refine I_imul_k (pc := 237) hx dX9_step_237 ?_
  refine E_aload_n_k (pc := 238) hx 0 dX9_step_238 rfl rfl ?_
  refine E_getR_k (pc := 239) hx 0 fc7 h0 rfl ⟨rfl, rfl, rfl⟩ g288 dX9_step_239 ?_
  refine E_iload_n_k (pc := 242) hx 1 dX9_step_242 rfl rfl ?_
  refine I_cVI_k  (pc := 243) hx [.int (oI v2)] [.int (oI ((w a0 4) * 10)), .ref a0] (ev_X0_get_k F (shR a0 0) (kt_7_0_k h0) v2 w) vm_X0_get fc0 (kt_7_0_k h0) g440 dX9_step_243 rfl rfl (Nat.le_of_ble_eq_true rfl) (Nat.le_of_ble_eq_true rfl) (Nat.le_of_ble_eq_true rfl) (fun r16 => ?_)
  refine I_iadd_k (pc := 246) hx dX9_step_246 ?_
  refine I_bipush_k (pc := 247) hx 48 dX9_step_247 rfl ?_
  refine I_isub_k (pc := 249) hx dX9_step_249 ?_
  refine I_put_k (pc := 250) hx 4 4 rfl .int tyX9 fc7 tyX9_ok h0 rfl ⟨rfl, rfl, rfl, rfl, pfd_I⟩ rfl rfl g294 dX9_step_250 (fun w17 => ?_)
  refine I_iinc_k (pc := 253) hx 1 1 dX9_step_253 rfl (Nat.le_of_ble_eq_true rfl) rfl ?_
  refine E_goto_k (pc := 256) hx 214 dX9_step_256 rfl ?_
  refine En_k.sub [1, 0] rfl ?_
  exact hk214 (v2 + 1) w17
theorem l_X9_step_b214_k {x : Cx} (F : Nat) (a0 : Nat) (h0 : shK_k a0 = 10 + 7)  (hx : CxOK_k x RX9 cX9_step 3 1 0 none)  : ∀ (n : Nat) (v2 : Int) (w : aI), En_k x jvV 0 0 214 [(0, .ref a0), (2, .int (oI v2))] [] (cm w) (f_X9_step_b214 F a0   n v2 w) := by
  intro n
  induction n with
  | zero => intro v2 w; exact E_none_k
  | succ n ih => intro v2 w; exact l_X9_step_b214_b_k F a0 h0  hx  _ ih v2 w
set_option maxHeartbeats 4000000 in
set_option maxRecDepth 100000 in
theorem l_X9_step_b196_k {x : Cx} (F : Nat) (a0 : Nat) (h0 : shK_k a0 = 10 + 7)  (hx : CxOK_k x RX9 cX9_step 3 1 0 none)   (z0 : Int) (z1 : Int) (w : aI) : En_k x jvV 0 0 196 [(0, .ref a0)] [.int (oI z0), .int (oI z1)] (cm w) (f_X9_step_b196 F a0    z0 z1 w) := by
  unfold f_X9_step_b196
  refine E_gd_k (fun hr19 => ?_)
  refine I_icmp_le_k (pc := 196) hx 204 dX9_step_196 rfl ⟨hr19.1, hr19.2⟩ ?_ ?_
  · refine E_aload_n_k (pc := 204) hx 0 dX9_step_204 rfl rfl ?_
    refine I_iconst_k (pc := 205) hx 0 dX9_step_205 ?_
    refine I_put_k (pc := 206) hx 4 4 rfl .int tyX9 fc7 tyX9_ok h0 rfl ⟨rfl, rfl, rfl, rfl, pfd_I⟩ rfl rfl g294 dX9_step_206 (fun w20 => ?_)
    refine E_aload_n_k (pc := 209) hx 0 dX9_step_209 rfl rfl ?_
    refine I_getI_k (pc := 210) hx 1 1 rfl fc7 h0 rfl ⟨rfl, rfl, rfl⟩ g289 dX9_step_210 ?_
    refine I_ltv_k (fun v2_21 => ?_)
    refine E_istore_n_k (pc := 213) hx dX9_step_213 rfl (Nat.le_of_ble_eq_true rfl) rfl ?_
    refine En_k.sub [1, 0] rfl ?_
    exact l_X9_step_b214_k F a0 h0 hx F v2_21 w20
  refine E_aload_n_k (pc := 199) hx 0 dX9_step_199 rfl rfl ?_
  refine I_iconst_k (pc := 200) hx 4 dX9_step_200 ?_
  refine I_put_k (pc := 201) hx 3 3 rfl .int tyX9 fc7 tyX9_ok h0 rfl ⟨rfl, rfl, rfl, rfl, pfd_I⟩ rfl rfl g293 dX9_step_201 (fun w22 => ?_)
  refine E_aload_n_k (pc := 204) hx 0 dX9_step_204 rfl rfl ?_
  refine I_iconst_k (pc := 205) hx 0 dX9_step_205 ?_
  refine I_put_k (pc := 206) hx 4 4 rfl .int tyX9 fc7 tyX9_ok h0 rfl ⟨rfl, rfl, rfl, rfl, pfd_I⟩ rfl rfl g294 dX9_step_206 (fun w23 => ?_)
  refine E_aload_n_k (pc := 209) hx 0 dX9_step_209 rfl rfl ?_
  refine I_getI_k (pc := 210) hx 1 1 rfl fc7 h0 rfl ⟨rfl, rfl, rfl⟩ g289 dX9_step_210 ?_
  refine I_ltv_k (fun v2_24 => ?_)
  refine E_istore_n_k (pc := 213) hx dX9_step_213 rfl (Nat.le_of_ble_eq_true rfl) rfl ?_
  refine En_k.sub [1, 0] rfl ?_
  exact l_X9_step_b214_k F a0 h0 hx F v2_24 w23
set_option maxHeartbeats 4000000 in
set_option maxRecDepth 100000 in
theorem l_X9_step_b169_k {x : Cx} (F : Nat) (a0 : Nat) (h0 : shK_k a0 = 10 + 7)  (hx : CxOK_k x RX9 cX9_step 3 1 0 none)   (v1 : Int) (w : aI) : En_k x jvV 0 0 169 [(0, .ref a0), (1, .int (oI v1))] [] (cm w) (f_X9_step_b169 F a0    v1 w) := by
  unfold f_X9_step_b169
  refine E_iload_n_k (pc := 169) hx 1 dX9_step_169 rfl rfl ?_
  refine E_gd_k (fun hr11 => ?_)
  refine I_if_eq_k (pc := 170) hx 204 dX9_step_170 rfl hr11 ?_ ?_
  · refine E_aload_n_k (pc := 204) hx 0 dX9_step_204 rfl rfl ?_
    refine I_iconst_k (pc := 205) hx 0 dX9_step_205 ?_
    refine I_put_k (pc := 206) hx 4 4 rfl .int tyX9 fc7 tyX9_ok h0 rfl ⟨rfl, rfl, rfl, rfl, pfd_I⟩ rfl rfl g294 dX9_step_206 (fun w12 => ?_)
    refine E_aload_n_k (pc := 209) hx 0 dX9_step_209 rfl rfl ?_
    refine I_getI_k (pc := 210) hx 1 1 rfl fc7 h0 rfl ⟨rfl, rfl, rfl⟩ g289 dX9_step_210 ?_
    refine I_ltv_k (fun v2_13 => ?_)
    refine E_istore_n_k (pc := 213) hx dX9_step_213 rfl (Nat.le_of_ble_eq_true rfl) rfl ?_
    refine En_k.sub [1, 0] rfl ?_
    exact l_X9_step_b214_k F a0 h0 hx F v2_13 w12
  refine E_aload_n_k (pc := 173) hx 0 dX9_step_173 rfl rfl ?_
  refine I_getI_k (pc := 174) hx 2 2 rfl fc7 h0 rfl ⟨rfl, rfl, rfl⟩ g290 dX9_step_174 ?_
  refine E_aload_n_k (pc := 177) hx 0 dX9_step_177 rfl rfl ?_
  refine I_getI_k (pc := 178) hx 1 1 rfl fc7 h0 rfl ⟨rfl, rfl, rfl⟩ g289 dX9_step_178 ?_
  refine I_isub_k (pc := 181) hx dX9_step_181 ?_
  refine E_aload_n_k (pc := 182) hx 0 dX9_step_182 rfl rfl ?_
  refine I_getI_k (pc := 183) hx 3 3 rfl fc7 h0 rfl ⟨rfl, rfl, rfl⟩ g293 dX9_step_183 ?_
  refine I_iconst_k (pc := 186) hx 1 dX9_step_186 ?_
  refine E_gd_k (fun hr18 => ?_)
  refine I_icmp_ne_k (pc := 187) hx 195 dX9_step_187 rfl ⟨hr18, (by decide)⟩ ?_ ?_
  · refine I_iconst_k (pc := 195) hx 3 dX9_step_195 ?_
    refine En_k.sub [0] rfl ?_
    exact l_X9_step_b196_k F a0 h0 hx 3 ((w a0 2) - (w a0 1)) w
  refine I_bipush_k (pc := 190) hx 8 dX9_step_190 rfl ?_
  refine E_goto_k (pc := 192) hx 196 dX9_step_192 rfl ?_
  refine En_k.sub [0] rfl ?_
  exact l_X9_step_b196_k F a0 h0 hx 8 ((w a0 2) - (w a0 1)) w
set_option maxHeartbeats 4000000 in
set_option maxRecDepth 100000 in
theorem l_X9_step_b117_b_k {x : Cx} (F : Nat) (a0 : Nat) (h0 : shK_k a0 = 10 + 7)  (hx : CxOK_k x RX9 cX9_step 3 1 0 none)  (k117 : Int → aI → Option aI) (hk117 : ∀ (v1 : Int) (w : aI), En_k x jvV 0 0 117 [(0, .ref a0), (1, .int (oI v1))] [] (cm w) (k117 v1 w)) (v1 : Int) (w : aI) : En_k x jvV 0 0 117 [(0, .ref a0), (1, .int (oI v1))] [] (cm w) (f_X9_step_b117_b F a0   k117 v1 w) := by
  unfold f_X9_step_b117_b
  refine E_iload_n_k (pc := 117) hx 1 dX9_step_117 rfl rfl ?_
  refine E_gd_k (fun hr10 => ?_)
  refine I_if_eq_k (pc := 118) hx 169 dX9_step_118 rfl hr10 ?_ ?_
  · exact l_X9_step_b169_k F a0 h0 hx v1 w
  refine E_aload_n_k (pc := 121) hx 0 dX9_step_121 rfl rfl ?_
  refine I_getI_k (pc := 122) hx 2 2 rfl fc7 h0 rfl ⟨rfl, rfl, rfl⟩ g290 dX9_step_122 ?_
  refine E_aload_n_k (pc := 125) hx 0 dX9_step_125 rfl rfl ?_
  refine E_getR_k (pc := 126) hx 0 fc7 h0 rfl ⟨rfl, rfl, rfl⟩ g288 dX9_step_126 ?_
  refine I_cVI_k  (pc := 129) hx [] [.int (oI (w a0 2))] (ev_X0_size_k F (shR a0 0) (kt_7_0_k h0) w) vm_X0_size fc0 (kt_7_0_k h0) g436 dX9_step_129 rfl rfl (Nat.le_of_ble_eq_true rfl) (Nat.le_of_ble_eq_true rfl) (Nat.le_of_ble_eq_true rfl) (fun r25 => ?_)
  refine E_gd_k (fun hr26 => ?_)
  refine I_icmp_ge_k (pc := 132) hx 169 dX9_step_132 rfl ⟨hr26.1, hr26.2⟩ ?_ ?_
  · exact l_X9_step_b169_k F a0 h0 hx v1 w
  refine E_aload_n_k (pc := 135) hx 0 dX9_step_135 rfl rfl ?_
  refine E_getR_k (pc := 136) hx 0 fc7 h0 rfl ⟨rfl, rfl, rfl⟩ g288 dX9_step_136 ?_
  refine E_aload_n_k (pc := 139) hx 0 dX9_step_139 rfl rfl ?_
  refine I_getI_k (pc := 140) hx 2 2 rfl fc7 h0 rfl ⟨rfl, rfl, rfl⟩ g290 dX9_step_140 ?_
  refine I_cVI_k  (pc := 143) hx [.int (oI (w a0 2))] [] (ev_X0_get_k F (shR a0 0) (kt_7_0_k h0) (w a0 2) w) vm_X0_get fc0 (kt_7_0_k h0) g440 dX9_step_143 rfl rfl (Nat.le_of_ble_eq_true rfl) (Nat.le_of_ble_eq_true rfl) (Nat.le_of_ble_eq_true rfl) (fun r27 => ?_)
  refine I_cSI_k  (pc := 146) hx [.int (oI r27)] [] (ev_X9_kindOf_k F r27 w) sm_X9_kindOf g444 dX9_step_146 rfl rfl (Nat.le_of_ble_eq_true rfl) (Nat.le_of_ble_eq_true rfl) (Nat.le_of_ble_eq_true rfl) (fun r28 => ?_)
  refine E_aload_n_k (pc := 149) hx 0 dX9_step_149 rfl rfl ?_
  refine I_getI_k (pc := 150) hx 3 3 rfl fc7 h0 rfl ⟨rfl, rfl, rfl⟩ g293 dX9_step_150 ?_
  refine E_gd_k (fun hr29 => ?_)
  refine I_icmp_ne_k (pc := 153) hx 169 dX9_step_153 rfl ⟨hr29.1, hr29.2⟩ ?_ ?_
  · exact l_X9_step_b169_k F a0 h0 hx v1 w
  refine E_aload_n_k (pc := 156) hx 0 dX9_step_156 rfl rfl ?_
  refine E_dup_k (pc := 157) hx dX9_step_157 rfl ?_
  refine I_getI_k (pc := 158) hx 2 2 rfl fc7 h0 rfl ⟨rfl, rfl, rfl⟩ g290 dX9_step_158 ?_
  refine I_iconst_k (pc := 161) hx 1 dX9_step_161 ?_
  refine I_iadd_k (pc := 162) hx dX9_step_162 ?_
  refine I_put_k (pc := 163) hx 2 2 rfl .int tyX9 fc7 tyX9_ok h0 rfl ⟨rfl, rfl, rfl, rfl, pfd_I⟩ rfl rfl g290 dX9_step_163 (fun w30 => ?_)
  refine E_goto_k (pc := 166) hx 117 dX9_step_166 rfl ?_
  exact hk117 v1 w30
theorem l_X9_step_b117_k {x : Cx} (F : Nat) (a0 : Nat) (h0 : shK_k a0 = 10 + 7)  (hx : CxOK_k x RX9 cX9_step 3 1 0 none)  : ∀ (n : Nat) (v1 : Int) (w : aI), En_k x jvV 0 0 117 [(0, .ref a0), (1, .int (oI v1))] [] (cm w) (f_X9_step_b117 F a0   n v1 w) := by
  intro n
  induction n with
  | zero => intro v1 w; exact E_none_k
  | succ n ih => intro v1 w; exact l_X9_step_b117_b_k F a0 h0  hx  _ ih v1 w
set_option maxHeartbeats 4000000 in
set_option maxRecDepth 100000 in
theorem l_X9_step_b92_k {x : Cx} (F : Nat) (a0 : Nat) (h0 : shK_k a0 = 10 + 7)  (hx : CxOK_k x RX9 cX9_step 3 1 0 none)   (z0 : Int) (z1 : Nat) (hz1 : shK_k z1 = 10 + 7) (w : aI) : En_k x jvV 0 0 92 [(0, .ref a0)] [.int (oI z0), .ref z1] (cm w) (f_X9_step_b92 F a0    z0 z1 w) := by
  unfold f_X9_step_b92
  refine I_put_k (pc := 92) hx 2 2 rfl .int tyX9 fc7 tyX9_ok hz1 rfl ⟨rfl, rfl, rfl, rfl, pfd_I⟩ rfl rfl g290 dX9_step_92 (fun w8 => ?_)
  refine E_aload_n_k (pc := 95) hx 0 dX9_step_95 rfl rfl ?_
  refine I_getI_k (pc := 96) hx 3 3 rfl fc7 h0 rfl ⟨rfl, rfl, rfl⟩ g293 dX9_step_96 ?_
  refine I_iconst_k (pc := 99) hx 1 dX9_step_99 ?_
  refine E_gd_k (fun hr9 => ?_)
  refine I_icmp_eq_k (pc := 100) hx 111 dX9_step_100 rfl ⟨hr9, (by decide)⟩ ?_ ?_
  · refine I_iconst_k (pc := 111) hx 1 dX9_step_111 ?_
    refine E_goto_k (pc := 112) hx 116 dX9_step_112 rfl ?_
    refine E_istore_n_k (pc := 116) hx dX9_step_116 rfl (Nat.le_of_ble_eq_true rfl) rfl ?_
    refine En_k.sub [1, 0] rfl ?_
    exact l_X9_step_b117_k F a0 h0 hx F 1 w8
  refine E_aload_n_k (pc := 103) hx 0 dX9_step_103 rfl rfl ?_
  refine I_getI_k (pc := 104) hx 3 3 rfl fc7 h0 rfl ⟨rfl, rfl, rfl⟩ g293 dX9_step_104 ?_
  refine I_iconst_k (pc := 107) hx 2 dX9_step_107 ?_
  refine I_icmp_ne_k (pc := 108) hx 115 dX9_step_108 rfl ⟨hr9, (by decide)⟩ ?_ ?_
  · refine I_iconst_k (pc := 115) hx 0 dX9_step_115 ?_
    refine E_istore_n_k (pc := 116) hx dX9_step_116 rfl (Nat.le_of_ble_eq_true rfl) rfl ?_
    refine En_k.sub [1, 0] rfl ?_
    exact l_X9_step_b117_k F a0 h0 hx F 0 w8
  refine I_iconst_k (pc := 111) hx 1 dX9_step_111 ?_
  refine E_goto_k (pc := 112) hx 116 dX9_step_112 rfl ?_
  refine E_istore_n_k (pc := 116) hx dX9_step_116 rfl (Nat.le_of_ble_eq_true rfl) rfl ?_
  refine En_k.sub [1, 0] rfl ?_
  exact l_X9_step_b117_k F a0 h0 hx F 1 w8
set_option maxHeartbeats 4000000 in
set_option maxRecDepth 100000 in
theorem l_X9_step_b53_k {x : Cx} (F : Nat) (a0 : Nat) (h0 : shK_k a0 = 10 + 7)  (hx : CxOK_k x RX9 cX9_step 3 1 0 none)    (w : aI) : En_k x jvV 0 0 53 [(0, .ref a0)] [] (cm w) (f_X9_step_b53 F a0    w) := by
  unfold f_X9_step_b53
  refine E_aload_n_k (pc := 53) hx 0 dX9_step_53 rfl rfl ?_
  refine E_aload_n_k (pc := 54) hx 0 dX9_step_54 rfl rfl ?_
  refine E_getR_k (pc := 55) hx 0 fc7 h0 rfl ⟨rfl, rfl, rfl⟩ g288 dX9_step_55 ?_
  refine E_aload_n_k (pc := 58) hx 0 dX9_step_58 rfl rfl ?_
  refine I_getI_k (pc := 59) hx 1 1 rfl fc7 h0 rfl ⟨rfl, rfl, rfl⟩ g289 dX9_step_59 ?_
  refine I_cVI_k  (pc := 62) hx [.int (oI (w a0 1))] [.ref a0] (ev_X0_get_k F (shR a0 0) (kt_7_0_k h0) (w a0 1) w) vm_X0_get fc0 (kt_7_0_k h0) g440 dX9_step_62 rfl rfl (Nat.le_of_ble_eq_true rfl) (Nat.le_of_ble_eq_true rfl) (Nat.le_of_ble_eq_true rfl) (fun r4 => ?_)
  refine I_cSI_k  (pc := 65) hx [.int (oI r4)] [.ref a0] (ev_X9_kindOf_k F r4 w) sm_X9_kindOf g444 dX9_step_65 rfl rfl (Nat.le_of_ble_eq_true rfl) (Nat.le_of_ble_eq_true rfl) (Nat.le_of_ble_eq_true rfl) (fun r5 => ?_)
  refine I_put_k (pc := 68) hx 3 3 rfl .int tyX9 fc7 tyX9_ok h0 rfl ⟨rfl, rfl, rfl, rfl, pfd_I⟩ rfl rfl g293 dX9_step_68 (fun w6 => ?_)
  refine E_aload_n_k (pc := 71) hx 0 dX9_step_71 rfl rfl ?_
  refine E_aload_n_k (pc := 72) hx 0 dX9_step_72 rfl rfl ?_
  refine I_getI_k (pc := 73) hx 3 3 rfl fc7 h0 rfl ⟨rfl, rfl, rfl⟩ g293 dX9_step_73 ?_
  refine E_gd_k (fun hr7 => ?_)
  refine I_if_ne_k (pc := 76) hx 86 dX9_step_76 rfl hr7 ?_ ?_
  · refine E_aload_n_k (pc := 86) hx 0 dX9_step_86 rfl rfl ?_
    refine I_getI_k (pc := 87) hx 1 1 rfl fc7 h0 rfl ⟨rfl, rfl, rfl⟩ g289 dX9_step_87 ?_
    refine I_iconst_k (pc := 90) hx 1 dX9_step_90 ?_
    refine I_iadd_k (pc := 91) hx dX9_step_91 ?_
    exact l_X9_step_b92_k F a0 h0 hx ((w6 a0 1) + 1) a0 h0 w6
  refine E_aload_n_k (pc := 79) hx 0 dX9_step_79 rfl rfl ?_
  refine I_getI_k (pc := 80) hx 1 1 rfl fc7 h0 rfl ⟨rfl, rfl, rfl⟩ g289 dX9_step_80 ?_
  refine E_goto_k (pc := 83) hx 92 dX9_step_83 rfl ?_
  exact l_X9_step_b92_k F a0 h0 hx (w6 a0 1) a0 h0 w6
set_option maxHeartbeats 4000000 in
set_option maxRecDepth 100000 in
theorem l_X9_step_b8_b_k {x : Cx} (F : Nat) (a0 : Nat) (h0 : shK_k a0 = 10 + 7)  (hx : CxOK_k x RX9 cX9_step 3 1 0 none)  (k8 : aI → Option aI) (hk8 : ∀  (w : aI), En_k x jvV 0 0 8 [(0, .ref a0)] [] (cm w) (k8 w))  (w : aI) : En_k x jvV 0 0 8 [(0, .ref a0)] [] (cm w) (f_X9_step_b8_b F a0   k8 w) := by
  unfold f_X9_step_b8_b
  refine E_aload_n_k (pc := 8) hx 0 dX9_step_8 rfl rfl ?_
  refine I_getI_k (pc := 9) hx 1 1 rfl fc7 h0 rfl ⟨rfl, rfl, rfl⟩ g289 dX9_step_9 ?_
  refine E_aload_n_k (pc := 12) hx 0 dX9_step_12 rfl rfl ?_
  refine E_getR_k (pc := 13) hx 0 fc7 h0 rfl ⟨rfl, rfl, rfl⟩ g288 dX9_step_13 ?_
  refine I_cVI_k  (pc := 16) hx [] [.int (oI (w a0 1))] (ev_X0_size_k F (shR a0 0) (kt_7_0_k h0) w) vm_X0_size fc0 (kt_7_0_k h0) g436 dX9_step_16 rfl rfl (Nat.le_of_ble_eq_true rfl) (Nat.le_of_ble_eq_true rfl) (Nat.le_of_ble_eq_true rfl) (fun r2 => ?_)
  refine E_gd_k (fun hr3 => ?_)
  refine I_icmp_ge_k (pc := 19) hx 53 dX9_step_19 rfl ⟨hr3.1, hr3.2⟩ ?_ ?_
  · exact l_X9_step_b53_k F a0 h0 hx w
  refine E_aload_n_k (pc := 22) hx 0 dX9_step_22 rfl rfl ?_
  refine E_getR_k (pc := 23) hx 0 fc7 h0 rfl ⟨rfl, rfl, rfl⟩ g288 dX9_step_23 ?_
  refine E_aload_n_k (pc := 26) hx 0 dX9_step_26 rfl rfl ?_
  refine I_getI_k (pc := 27) hx 1 1 rfl fc7 h0 rfl ⟨rfl, rfl, rfl⟩ g289 dX9_step_27 ?_
  refine I_cVI_k  (pc := 30) hx [.int (oI (w a0 1))] [] (ev_X0_get_k F (shR a0 0) (kt_7_0_k h0) (w a0 1) w) vm_X0_get fc0 (kt_7_0_k h0) g440 dX9_step_30 rfl rfl (Nat.le_of_ble_eq_true rfl) (Nat.le_of_ble_eq_true rfl) (Nat.le_of_ble_eq_true rfl) (fun r31 => ?_)
  refine I_cSI_k  (pc := 33) hx [.int (oI r31)] [] (ev_X9_kindOf_k F r31 w) sm_X9_kindOf g444 dX9_step_33 rfl rfl (Nat.le_of_ble_eq_true rfl) (Nat.le_of_ble_eq_true rfl) (Nat.le_of_ble_eq_true rfl) (fun r32 => ?_)
  refine I_iconst_k (pc := 36) hx 5 dX9_step_36 ?_
  refine E_gd_k (fun hr33 => ?_)
  refine I_icmp_ne_k (pc := 37) hx 53 dX9_step_37 rfl ⟨hr33, (by decide)⟩ ?_ ?_
  · exact l_X9_step_b53_k F a0 h0 hx w
  refine E_aload_n_k (pc := 40) hx 0 dX9_step_40 rfl rfl ?_
  refine E_dup_k (pc := 41) hx dX9_step_41 rfl ?_
  refine I_getI_k (pc := 42) hx 1 1 rfl fc7 h0 rfl ⟨rfl, rfl, rfl⟩ g289 dX9_step_42 ?_
  refine I_iconst_k (pc := 45) hx 1 dX9_step_45 ?_
  refine I_iadd_k (pc := 46) hx dX9_step_46 ?_
  refine I_put_k (pc := 47) hx 1 1 rfl .int tyX9 fc7 tyX9_ok h0 rfl ⟨rfl, rfl, rfl, rfl, pfd_I⟩ rfl rfl g289 dX9_step_47 (fun w34 => ?_)
  refine E_goto_k (pc := 50) hx 8 dX9_step_50 rfl ?_
  exact hk8 w34
theorem l_X9_step_b8_k {x : Cx} (F : Nat) (a0 : Nat) (h0 : shK_k a0 = 10 + 7)  (hx : CxOK_k x RX9 cX9_step 3 1 0 none)  : ∀ (n : Nat) (w : aI), En_k x jvV 0 0 8 [(0, .ref a0)] [] (cm w) (f_X9_step_b8 F a0   n w) := by
  intro n
  induction n with
  | zero => intro  w; exact E_none_k
  | succ n ih => intro  w; exact l_X9_step_b8_b_k F a0 h0  hx  _ ih  w
set_option maxHeartbeats 4000000 in
set_option maxRecDepth 100000 in
theorem ev_X9_step_k (F : Nat) (a0 : Nat) (h0 : shK_k a0 = 10 + 7) (w : aI) : Ev_k yX9_step cX9_step 3 none 1 0 jvV [.ref a0] (cm w) (f_X9_step F a0 w) := by
  refine Ev_k.of (own := RX9) (by decide +kernel) rfl (Nat.le_of_ble_eq_true rfl) (fun x hx => ?_)
  show En_k x jvV 0 0 0 [(0, .ref a0)] [] (cm w) _
  unfold f_X9_step
  refine E_aload_n_k (pc := 0) hx 0 dX9_step_0 rfl rfl ?_
  refine E_aload_n_k (pc := 1) hx 0 dX9_step_1 rfl rfl ?_
  refine I_getI_k (pc := 2) hx 2 2 rfl fc7 h0 rfl ⟨rfl, rfl, rfl⟩ g290 dX9_step_2 ?_
  refine I_put_k (pc := 5) hx 1 1 rfl .int tyX9 fc7 tyX9_ok h0 rfl ⟨rfl, rfl, rfl, rfl, pfd_I⟩ rfl rfl g289 dX9_step_5 (fun w1 => ?_)
  exact l_X9_step_b8_k F a0 h0 hx F w1
set_option maxHeartbeats 4000000 in
set_option maxRecDepth 100000 in
theorem ev_X9_open_k (F : Nat) (a0 : Nat) (h0 : shK_k a0 = 10 + 7) (w : aI) : Ev_k yX9_open cX9_open 1 none 2 0 jvV [.ref a0] (cm w) (f_X9_open F a0 w) := by
  refine Ev_k.of (own := RX9) (by decide +kernel) rfl (Nat.le_of_ble_eq_true rfl) (fun x hx => ?_)
  show En_k x jvV 0 0 0 [(0, .ref a0)] [] (cm w) _
  unfold f_X9_open
  refine E_aload_n_k (pc := 0) hx 0 dX9_open_0 rfl rfl ?_
  refine I_iconst_k (pc := 1) hx 0 dX9_open_1 ?_
  refine I_put_k (pc := 2) hx 5 5 rfl .int tyX9 fc7 tyX9_ok h0 rfl ⟨rfl, rfl, rfl, rfl, pfd_I⟩ rfl rfl g296 dX9_open_2 (fun w1 => ?_)
  refine E_aload_n_k (pc := 5) hx 0 dX9_open_5 rfl rfl ?_
  refine I_iconst_k (pc := 6) hx (-1) dX9_open_6 ?_
  refine I_put_k (pc := 7) hx 6 6 rfl .int tyX9 fc7 tyX9_ok h0 rfl ⟨rfl, rfl, rfl, rfl, pfd_I⟩ rfl rfl g298 dX9_open_7 (fun w2 => ?_)
  refine E_aload_n_k (pc := 10) hx 0 dX9_open_10 rfl rfl ?_
  refine I_iconst_k (pc := 11) hx 0 dX9_open_11 ?_
  refine I_put_k (pc := 12) hx 2 2 rfl .int tyX9 fc7 tyX9_ok h0 rfl ⟨rfl, rfl, rfl, rfl, pfd_I⟩ rfl rfl g290 dX9_open_12 (fun w3 => ?_)
  refine E_aload_n_k (pc := 15) hx 0 dX9_open_15 rfl rfl ?_
  refine I_cVV_k  (pc := 16) hx [] [] (ev_X9_step_k F a0 h0 w3) vm_X9_step fc7 h0 g432 dX9_open_16 rfl rfl (Nat.le_of_ble_eq_true rfl) (Nat.le_of_ble_eq_true rfl) (Nat.le_of_ble_eq_true rfl) (fun w4 => ?_)
  exact E_vret_k (pc := 19) hx dX9_open_19 rfl rfl (Nat.le_of_ble_eq_true rfl)
set_option maxHeartbeats 4000000 in
set_option maxRecDepth 100000 in
theorem l_X9_isWord_b28_b_k {x : Cx} (F : Nat) (a0 : Nat) (h0 : shK_k a0 = 10 + 7) (s1 : Nat) (w : aI) (hx : CxOK_k x RX9 cX9_isWord 3 6 0 (some .boolean))  (k28 : Int → Option Bool) (hk28 : ∀ (v2 : Int), En_k x (jvB w) 0 0 28 [(0, .ref a0), (1, .ref (sx s1)), (2, .int (oI v2))] [] (cm w) (k28 v2)) (v2 : Int)  : En_k x (jvB w) 0 0 28 [(0, .ref a0), (1, .ref (sx s1)), (2, .int (oI v2))] [] (cm w) (f_X9_isWord_b28_b F a0 s1 w  k28 v2) := by
  unfold f_X9_isWord_b28_b
  refine E_iload_n_k (pc := 28) hx 2 dX9_isWord_28 rfl rfl ?_
  refine E_aload_n_k (pc := 29) hx 1 dX9_isWord_29 rfl rfl ?_
  refine I_strlen_k (pc := 30) hx [.int (oI v2)] g456 dX9_isWord_30 (Nat.le_of_ble_eq_true rfl) (Nat.le_of_ble_eq_true rfl) (Nat.le_of_ble_eq_true rfl) (fun r4 => ?_)
  refine E_gd_k (fun hr5 => ?_)
  refine I_icmp_ge_k (pc := 33) hx 65 dX9_isWord_33 rfl ⟨hr5.1, hr5.2⟩ ?_ ?_
  · refine I_iconst_k (pc := 65) hx 1 dX9_isWord_65 ?_
    exact E_zret_k (pc := 66) hx dX9_isWord_66 rfl rfl rfl (Nat.le_of_ble_eq_true rfl)
  refine E_aload_n_k (pc := 36) hx 0 dX9_isWord_36 rfl rfl ?_
  refine E_getR_k (pc := 37) hx 0 fc7 h0 rfl ⟨rfl, rfl, rfl⟩ g288 dX9_isWord_37 ?_
  refine E_aload_n_k (pc := 40) hx 0 dX9_isWord_40 rfl rfl ?_
  refine I_getI_k (pc := 41) hx 1 1 rfl fc7 h0 rfl ⟨rfl, rfl, rfl⟩ g289 dX9_isWord_41 ?_
  refine E_iload_n_k (pc := 44) hx 2 dX9_isWord_44 rfl rfl ?_
  refine I_iadd_k (pc := 45) hx dX9_isWord_45 ?_
  refine I_cVI_k  (pc := 46) hx [.int (oI ((w a0 1) + v2))] [] (ev_X0_get_k F (shR a0 0) (kt_7_0_k h0) ((w a0 1) + v2) w) vm_X0_get fc0 (kt_7_0_k h0) g440 dX9_isWord_46 rfl rfl (Nat.le_of_ble_eq_true rfl) (Nat.le_of_ble_eq_true rfl) (Nat.le_of_ble_eq_true rfl) (fun r6 => ?_)
  refine E_aload_n_k (pc := 49) hx 1 dX9_isWord_49 rfl rfl ?_
  refine E_iload_n_k (pc := 50) hx 2 dX9_isWord_50 rfl rfl ?_
  refine I_strchr_k (pc := 51) hx [.int (oI r6)] g457 dX9_isWord_51 (Nat.le_of_ble_eq_true rfl) (Nat.le_of_ble_eq_true rfl) (Nat.le_of_ble_eq_true rfl) (fun r7 => ?_)
  refine E_gd_k (fun hr8 => ?_)
  refine I_icmp_eq_k (pc := 54) hx 59 dX9_isWord_54 rfl ⟨hr8.1, hr8.2⟩ ?_ ?_
  · refine I_iinc_k (pc := 59) hx 1 2 dX9_isWord_59 rfl (Nat.le_of_ble_eq_true rfl) rfl ?_
    refine E_goto_k (pc := 62) hx 28 dX9_isWord_62 rfl ?_
    refine En_k.sub [1, 2, 0] rfl ?_
    exact hk28 (v2 + 1)
  refine I_iconst_k (pc := 57) hx 0 dX9_isWord_57 ?_
  exact E_zret_k (pc := 58) hx dX9_isWord_58 rfl rfl rfl (Nat.le_of_ble_eq_true rfl)
theorem l_X9_isWord_b28_k {x : Cx} (F : Nat) (a0 : Nat) (h0 : shK_k a0 = 10 + 7) (s1 : Nat) (w : aI) (hx : CxOK_k x RX9 cX9_isWord 3 6 0 (some .boolean))  : ∀ (n : Nat) (v2 : Int), En_k x (jvB w) 0 0 28 [(0, .ref a0), (1, .ref (sx s1)), (2, .int (oI v2))] [] (cm w) (f_X9_isWord_b28 F a0 s1 w  n v2) := by
  intro n
  induction n with
  | zero => intro v2; exact E_none_k
  | succ n ih => intro v2; exact l_X9_isWord_b28_b_k F a0 h0 s1 w hx  _ ih v2
set_option maxHeartbeats 4000000 in
set_option maxRecDepth 100000 in
theorem ev_X9_isWord_k (F : Nat) (a0 : Nat) (h0 : shK_k a0 = 10 + 7) (s1 : Nat) (w : aI) : Ev_k yX9_isWord cX9_isWord 3 (some .boolean) 6 0 (jvB w) [.ref a0, .ref (sx s1)] (cm w) (f_X9_isWord F a0 s1 w) := by
  refine Ev_k.of (own := RX9) (by decide +kernel) rfl (Nat.le_of_ble_eq_true rfl) (fun x hx => ?_)
  show En_k x (jvB w) 0 0 0 [(0, .ref a0), (1, .ref (sx s1))] [] (cm w) _
  unfold f_X9_isWord
  refine E_aload_n_k (pc := 0) hx 0 dX9_isWord_0 rfl rfl ?_
  refine I_getI_k (pc := 1) hx 3 3 rfl fc7 h0 rfl ⟨rfl, rfl, rfl⟩ g293 dX9_isWord_1 ?_
  refine I_iconst_k (pc := 4) hx 1 dX9_isWord_4 ?_
  refine E_gd_k (fun hr1 => ?_)
  refine I_icmp_ne_k (pc := 5) hx 24 dX9_isWord_5 rfl ⟨hr1, (by decide)⟩ ?_ ?_
  · refine I_iconst_k (pc := 24) hx 0 dX9_isWord_24 ?_
    exact E_zret_k (pc := 25) hx dX9_isWord_25 rfl rfl rfl (Nat.le_of_ble_eq_true rfl)
  refine E_aload_n_k (pc := 8) hx 0 dX9_isWord_8 rfl rfl ?_
  refine I_getI_k (pc := 9) hx 2 2 rfl fc7 h0 rfl ⟨rfl, rfl, rfl⟩ g290 dX9_isWord_9 ?_
  refine E_aload_n_k (pc := 12) hx 0 dX9_isWord_12 rfl rfl ?_
  refine I_getI_k (pc := 13) hx 1 1 rfl fc7 h0 rfl ⟨rfl, rfl, rfl⟩ g289 dX9_isWord_13 ?_
  refine I_isub_k (pc := 16) hx dX9_isWord_16 ?_
  refine E_aload_n_k (pc := 17) hx 1 dX9_isWord_17 rfl rfl ?_
  refine I_strlen_k (pc := 18) hx [.int (oI ((w a0 2) - (w a0 1)))] g456 dX9_isWord_18 (Nat.le_of_ble_eq_true rfl) (Nat.le_of_ble_eq_true rfl) (Nat.le_of_ble_eq_true rfl) (fun r2 => ?_)
  refine E_gd_k (fun hr3 => ?_)
  refine I_icmp_eq_k (pc := 21) hx 26 dX9_isWord_21 rfl ⟨hr3.1, hr3.2⟩ ?_ ?_
  · refine I_iconst_k (pc := 26) hx 0 dX9_isWord_26 ?_
    refine E_istore_n_k (pc := 27) hx dX9_isWord_27 rfl (Nat.le_of_ble_eq_true rfl) rfl ?_
    refine En_k.sub [1, 2, 0] rfl ?_
    exact l_X9_isWord_b28_k F a0 h0 s1 w hx F 0
  refine I_iconst_k (pc := 24) hx 0 dX9_isWord_24 ?_
  exact E_zret_k (pc := 25) hx dX9_isWord_25 rfl rfl rfl (Nat.le_of_ble_eq_true rfl)
set_option maxHeartbeats 4000000 in
set_option maxRecDepth 100000 in
theorem ev_X9_settingWord_k (F : Nat) (a0 : Nat) (h0 : shK_k a0 = 10 + 7) (w : aI) : Ev_k yX9_settingWord cX9_settingWord 1 (some .int) 7 0 (jvI w) [.ref a0] (cm w) (f_X9_settingWord F a0 w) := by
  refine Ev_k.of (own := RX9) (by decide +kernel) rfl (Nat.le_of_ble_eq_true rfl) (fun x hx => ?_)
  show En_k x (jvI w) 0 0 0 [(0, .ref a0)] [] (cm w) _
  unfold f_X9_settingWord
  refine E_aload_n_k (pc := 0) hx 0 dX9_settingWord_0 rfl rfl ?_
  refine E_ldcS_k (pc := 1) hx (tx := (xStr.getD 20 ("", 0, "", 0)).2.2.1) 20 (by decide +kernel) dX9_settingWord_1 ?_
  refine I_cVB_k  (pc := 3) hx [.ref (sx 20)] [] (ev_X9_isWord_k F a0 h0 20 w) vm_X9_isWord fc7 h0 g524 dX9_settingWord_3 rfl rfl (Nat.le_of_ble_eq_true rfl) (Nat.le_of_ble_eq_true rfl) (Nat.le_of_ble_eq_true rfl) (fun r1 => ?_)
  refine I_ifB_eq_k (pc := 6) hx 12 dX9_settingWord_6 rfl ?_ ?_
  · refine E_aload_n_k (pc := 12) hx 0 dX9_settingWord_12 rfl rfl ?_
    refine E_ldcS_k (pc := 13) hx (tx := (xStr.getD 21 ("", 0, "", 0)).2.2.1) 21 (by decide +kernel) dX9_settingWord_13 ?_
    refine I_cVB_k  (pc := 15) hx [.ref (sx 21)] [] (ev_X9_isWord_k F a0 h0 21 w) vm_X9_isWord fc7 h0 g524 dX9_settingWord_15 rfl rfl (Nat.le_of_ble_eq_true rfl) (Nat.le_of_ble_eq_true rfl) (Nat.le_of_ble_eq_true rfl) (fun r2 => ?_)
    refine I_ifB_eq_k (pc := 18) hx 24 dX9_settingWord_18 rfl ?_ ?_
    · refine E_aload_n_k (pc := 24) hx 0 dX9_settingWord_24 rfl rfl ?_
      refine E_ldcS_k (pc := 25) hx (tx := (xStr.getD 22 ("", 0, "", 0)).2.2.1) 22 (by decide +kernel) dX9_settingWord_25 ?_
      refine I_cVB_k  (pc := 27) hx [.ref (sx 22)] [] (ev_X9_isWord_k F a0 h0 22 w) vm_X9_isWord fc7 h0 g524 dX9_settingWord_27 rfl rfl (Nat.le_of_ble_eq_true rfl) (Nat.le_of_ble_eq_true rfl) (Nat.le_of_ble_eq_true rfl) (fun r3 => ?_)
      refine I_ifB_eq_k (pc := 30) hx 38 dX9_settingWord_30 rfl ?_ ?_
      · refine I_iconst_k (pc := 38) hx (-1) dX9_settingWord_38 ?_
        exact E_iret_k (pc := 39) hx dX9_settingWord_39 rfl rfl (Nat.le_of_ble_eq_true rfl)
      refine I_bipush_k (pc := 33) hx 10 dX9_settingWord_33 rfl ?_
      refine E_goto_k (pc := 35) hx 39 dX9_settingWord_35 rfl ?_
      exact E_iret_k (pc := 39) hx dX9_settingWord_39 rfl rfl (Nat.le_of_ble_eq_true rfl)
    refine I_bipush_k (pc := 21) hx 9 dX9_settingWord_21 rfl ?_
    exact E_iret_k (pc := 23) hx dX9_settingWord_23 rfl rfl (Nat.le_of_ble_eq_true rfl)
  refine I_bipush_k (pc := 9) hx 8 dX9_settingWord_9 rfl ?_
  exact E_iret_k (pc := 11) hx dX9_settingWord_11 rfl rfl (Nat.le_of_ble_eq_true rfl)
set_option maxHeartbeats 4000000 in
set_option maxRecDepth 100000 in
theorem ev_X9_fail_k (F : Nat) (a0 : Nat) (h0 : shK_k a0 = 10 + 7) (p1 : Int) (w : aI) : Ev_k yX9_fail cX9_fail 2 (some .boolean) 0 0 jvBW [.ref a0, .int (oI p1)] (cm w) (f_X9_fail F a0 p1 w) := by
  refine Ev_k.of (own := RX9) (by decide +kernel) rfl (Nat.le_of_ble_eq_true rfl) (fun x hx => ?_)
  show En_k x jvBW 0 0 0 [(0, .ref a0), (1, .int (oI p1))] [] (cm w) _
  unfold f_X9_fail
  refine E_aload_n_k (pc := 0) hx 0 dX9_fail_0 rfl rfl ?_
  refine E_iload_n_k (pc := 1) hx 1 dX9_fail_1 rfl rfl ?_
  refine I_put_k (pc := 2) hx 5 5 rfl .int tyX9 fc7 tyX9_ok h0 rfl ⟨rfl, rfl, rfl, rfl, pfd_I⟩ rfl rfl g296 dX9_fail_2 (fun w1 => ?_)
  refine E_aload_n_k (pc := 5) hx 0 dX9_fail_5 rfl rfl ?_
  refine E_aload_n_k (pc := 6) hx 0 dX9_fail_6 rfl rfl ?_
  refine I_getI_k (pc := 7) hx 1 1 rfl fc7 h0 rfl ⟨rfl, rfl, rfl⟩ g289 dX9_fail_7 ?_
  refine I_put_k (pc := 10) hx 6 6 rfl .int tyX9 fc7 tyX9_ok h0 rfl ⟨rfl, rfl, rfl, rfl, pfd_I⟩ rfl rfl g298 dX9_fail_10 (fun w2 => ?_)
  refine I_iconst_k (pc := 13) hx 0 dX9_fail_13 ?_
  exact E_zret_k (pc := 14) hx dX9_fail_14 rfl rfl rfl (Nat.le_of_ble_eq_true rfl)
set_option maxHeartbeats 4000000 in
set_option maxRecDepth 100000 in
theorem l_X9_nameHere_b39_b_k {x : Cx} (F : Nat) (a0 : Nat) (h0 : shK_k a0 = 10 + 7)  (hx : CxOK_k x RX9 cX9_nameHere 3 1 0 (some .int))  (k39 : Int → Int → aI → Option (Int × aI)) (hk39 : ∀ (v1 : Int) (v2 : Int) (w : aI), En_k x jvIW 0 0 39 [(0, .ref a0), (1, .int (oI v1)), (2, .int (oI v2))] [] (cm w) (k39 v1 v2 w)) (v1 : Int) (v2 : Int) (w : aI) : En_k x jvIW 0 0 39 [(0, .ref a0), (1, .int (oI v1)), (2, .int (oI v2))] [] (cm w) (f_X9_nameHere_b39_b F a0   k39 v1 v2 w) := by
  unfold f_X9_nameHere_b39_b
  refine E_iload_n_k (pc := 39) hx 2 dX9_nameHere_39 rfl rfl ?_
  refine E_aload_n_k (pc := 40) hx 0 dX9_nameHere_40 rfl rfl ?_
  refine I_getI_k (pc := 41) hx 1 1 rfl fc7 h0 rfl ⟨rfl, rfl, rfl⟩ g289 dX9_nameHere_41 ?_
  refine E_gd_k (fun hr6 => ?_)
  refine I_icmp_lt_k (pc := 44) hx 71 dX9_nameHere_44 rfl ⟨hr6.1, hr6.2⟩ ?_ ?_
  · refine E_iload_n_k (pc := 71) hx 1 dX9_nameHere_71 rfl rfl ?_
    exact E_iret_k (pc := 72) hx dX9_nameHere_72 rfl rfl (Nat.le_of_ble_eq_true rfl)
  refine E_iload_n_k (pc := 47) hx 1 dX9_nameHere_47 rfl rfl ?_
  refine I_iconst_k (pc := 48) hx 5 dX9_nameHere_48 ?_
  refine I_ishl_k (pc := 49) hx dX9_nameHere_49 (by decide) ?_
  refine E_aload_n_k (pc := 50) hx 0 dX9_nameHere_50 rfl rfl ?_
  refine E_getR_k (pc := 51) hx 0 fc7 h0 rfl ⟨rfl, rfl, rfl⟩ g288 dX9_nameHere_51 ?_
  refine E_iload_n_k (pc := 54) hx 2 dX9_nameHere_54 rfl rfl ?_
  refine I_cVI_k  (pc := 55) hx [.int (oI v2)] [.int (oI (shl v1 5))] (ev_X0_get_k F (shR a0 0) (kt_7_0_k h0) v2 w) vm_X0_get fc0 (kt_7_0_k h0) g440 dX9_nameHere_55 rfl rfl (Nat.le_of_ble_eq_true rfl) (Nat.le_of_ble_eq_true rfl) (Nat.le_of_ble_eq_true rfl) (fun r7 => ?_)
  refine I_bipush_k (pc := 58) hx 97 dX9_nameHere_58 rfl ?_
  refine I_isub_k (pc := 60) hx dX9_nameHere_60 ?_
  refine I_iconst_k (pc := 61) hx 1 dX9_nameHere_61 ?_
  refine I_iadd_k (pc := 62) hx dX9_nameHere_62 ?_
  refine I_ior_k (pc := 63) hx dX9_nameHere_63 ?_
  refine I_ltv_k (fun v1_8 => ?_)
  refine E_istore_n_k (pc := 64) hx dX9_nameHere_64 rfl (Nat.le_of_ble_eq_true rfl) rfl ?_
  refine I_iinc_k (pc := 65) hx (-1) 2 dX9_nameHere_65 rfl (Nat.le_of_ble_eq_true rfl) rfl ?_
  refine E_goto_k (pc := 68) hx 39 dX9_nameHere_68 rfl ?_
  refine En_k.sub [2, 1, 0] rfl ?_
  exact hk39 v1_8 (v2 + (-1)) w
theorem l_X9_nameHere_b39_k {x : Cx} (F : Nat) (a0 : Nat) (h0 : shK_k a0 = 10 + 7)  (hx : CxOK_k x RX9 cX9_nameHere 3 1 0 (some .int))  : ∀ (n : Nat) (v1 : Int) (v2 : Int) (w : aI), En_k x jvIW 0 0 39 [(0, .ref a0), (1, .int (oI v1)), (2, .int (oI v2))] [] (cm w) (f_X9_nameHere_b39 F a0   n v1 v2 w) := by
  intro n
  induction n with
  | zero => intro v1 v2 w; exact E_none_k
  | succ n ih => intro v1 v2 w; exact l_X9_nameHere_b39_b_k F a0 h0  hx  _ ih v1 v2 w
set_option maxHeartbeats 4000000 in
set_option maxRecDepth 100000 in
theorem ev_X9_nameHere_k (F : Nat) (a0 : Nat) (h0 : shK_k a0 = 10 + 7) (w : aI) : Ev_k yX9_nameHere cX9_nameHere 3 (some .int) 1 0 jvIW [.ref a0] (cm w) (f_X9_nameHere F a0 w) := by
  refine Ev_k.of (own := RX9) (by decide +kernel) rfl (Nat.le_of_ble_eq_true rfl) (fun x hx => ?_)
  show En_k x jvIW 0 0 0 [(0, .ref a0)] [] (cm w) _
  unfold f_X9_nameHere
  refine E_aload_n_k (pc := 0) hx 0 dX9_nameHere_0 rfl rfl ?_
  refine I_getI_k (pc := 1) hx 3 3 rfl fc7 h0 rfl ⟨rfl, rfl, rfl⟩ g293 dX9_nameHere_1 ?_
  refine I_iconst_k (pc := 4) hx 1 dX9_nameHere_4 ?_
  refine E_gd_k (fun hr1 => ?_)
  refine I_icmp_ne_k (pc := 5) hx 22 dX9_nameHere_5 rfl ⟨hr1, (by decide)⟩ ?_ ?_
  · refine E_aload_n_k (pc := 22) hx 0 dX9_nameHere_22 rfl rfl ?_
    refine I_iconst_k (pc := 23) hx 1 dX9_nameHere_23 ?_
    refine I_cVBW_k  (pc := 24) hx [.int (oI 1)] [] (ev_X9_fail_k F a0 h0 1 w) vm_X9_fail fc7 h0 g471 dX9_nameHere_24 rfl rfl (Nat.le_of_ble_eq_true rfl) (Nat.le_of_ble_eq_true rfl) (Nat.le_of_ble_eq_true rfl) (fun r2 w3 => ?_)
    refine E_pop_k (pc := 27) hx dX9_nameHere_27 rfl ?_
    refine I_iconst_k (pc := 28) hx (-1) dX9_nameHere_28 ?_
    exact E_iret_k (pc := 29) hx dX9_nameHere_29 rfl rfl (Nat.le_of_ble_eq_true rfl)
  refine E_aload_n_k (pc := 8) hx 0 dX9_nameHere_8 rfl rfl ?_
  refine I_getI_k (pc := 9) hx 2 2 rfl fc7 h0 rfl ⟨rfl, rfl, rfl⟩ g290 dX9_nameHere_9 ?_
  refine E_aload_n_k (pc := 12) hx 0 dX9_nameHere_12 rfl rfl ?_
  refine I_getI_k (pc := 13) hx 1 1 rfl fc7 h0 rfl ⟨rfl, rfl, rfl⟩ g289 dX9_nameHere_13 ?_
  refine I_isub_k (pc := 16) hx dX9_nameHere_16 ?_
  refine I_bipush_k (pc := 17) hx 6 dX9_nameHere_17 rfl ?_
  refine E_gd_k (fun hr4 => ?_)
  refine I_icmp_le_k (pc := 19) hx 30 dX9_nameHere_19 rfl ⟨hr4, (by decide)⟩ ?_ ?_
  · refine I_iconst_k (pc := 30) hx 0 dX9_nameHere_30 ?_
    refine E_istore_n_k (pc := 31) hx dX9_nameHere_31 rfl (Nat.le_of_ble_eq_true rfl) rfl ?_
    refine E_aload_n_k (pc := 32) hx 1 dX9_nameHere_32 rfl rfl ?_
    refine I_getI_k (pc := 33) hx 2 2 rfl fc7 h0 rfl ⟨rfl, rfl, rfl⟩ g290 dX9_nameHere_33 ?_
    refine I_iconst_k (pc := 36) hx 1 dX9_nameHere_36 ?_
    refine I_isub_k (pc := 37) hx dX9_nameHere_37 ?_
    refine I_ltv_k (fun v2_5 => ?_)
    refine E_istore_n_k (pc := 38) hx dX9_nameHere_38 rfl (Nat.le_of_ble_eq_true rfl) rfl ?_
    refine En_k.sub [2, 1, 0] rfl ?_
    exact l_X9_nameHere_b39_k F a0 h0 hx F 0 v2_5 w
  refine E_aload_n_k (pc := 22) hx 0 dX9_nameHere_22 rfl rfl ?_
  refine I_iconst_k (pc := 23) hx 1 dX9_nameHere_23 ?_
  refine I_cVBW_k  (pc := 24) hx [.int (oI 1)] [] (ev_X9_fail_k F a0 h0 1 w) vm_X9_fail fc7 h0 g471 dX9_nameHere_24 rfl rfl (Nat.le_of_ble_eq_true rfl) (Nat.le_of_ble_eq_true rfl) (Nat.le_of_ble_eq_true rfl) (fun r9 w10 => ?_)
  refine E_pop_k (pc := 27) hx dX9_nameHere_27 rfl ?_
  refine I_iconst_k (pc := 28) hx (-1) dX9_nameHere_28 ?_
  exact E_iret_k (pc := 29) hx dX9_nameHere_29 rfl rfl (Nat.le_of_ble_eq_true rfl)
set_option maxHeartbeats 4000000 in
set_option maxRecDepth 100000 in
theorem ev_X9_roofHere_k (F : Nat) (a0 : Nat) (h0 : shK_k a0 = 10 + 7) (a1 : Nat) (h1 : shK_k a1 = 10 + 2) (p2 : Int) (w : aI) : Ev_k yX9_roofHere cX9_roofHere 5 (some .int) 2 0 jvIW [.ref a0, .ref a1, .int (oI p2)] (cm w) (f_X9_roofHere F a0 a1 p2 w) := by
  refine Ev_k.of (own := RX9) (by decide +kernel) rfl (Nat.le_of_ble_eq_true rfl) (fun x hx => ?_)
  show En_k x jvIW 0 0 0 [(0, .ref a0), (1, .ref a1), (2, .int (oI p2))] [] (cm w) _
  unfold f_X9_roofHere
  refine E_aload_n_k (pc := 0) hx 0 dX9_roofHere_0 rfl rfl ?_
  refine I_cVIW_k  (pc := 1) hx [] [] (ev_X9_nameHere_k F a0 h0 w) vm_X9_nameHere fc7 h0 g505 dX9_roofHere_1 rfl rfl (Nat.le_of_ble_eq_true rfl) (Nat.le_of_ble_eq_true rfl) (Nat.le_of_ble_eq_true rfl) (fun r1 w2 => ?_)
  refine E_istore_n_k (pc := 4) hx dX9_roofHere_4 rfl (Nat.le_of_ble_eq_true rfl) rfl ?_
  refine E_iload_n_k (pc := 5) hx 0 dX9_roofHere_5 rfl rfl ?_
  refine I_iconst_k (pc := 6) hx (-1) dX9_roofHere_6 ?_
  refine E_gd_k (fun hr3 => ?_)
  refine I_icmp_ne_k (pc := 7) hx 12 dX9_roofHere_7 rfl ⟨hr3, (by decide)⟩ ?_ ?_
  · refine E_aload_n_k (pc := 12) hx 2 dX9_roofHere_12 rfl rfl ?_
    refine E_iload_n_k (pc := 13) hx 0 dX9_roofHere_13 rfl rfl ?_
    refine I_cVI_k  (pc := 14) hx [.int (oI r1)] [] (ev_X2_roofNamed_k F a1 h1 r1 w2) vm_X2_roofNamed fc2 h1 g506 dX9_roofHere_14 rfl rfl (Nat.le_of_ble_eq_true rfl) (Nat.le_of_ble_eq_true rfl) (Nat.le_of_ble_eq_true rfl) (fun r4 => ?_)
    refine E_istore_k (pc := 17) hx dX9_roofHere_17 (Nat.le_of_ble_eq_true rfl) rfl ?_
    refine E_iload_k (pc := 19) hx 0 dX9_roofHere_19 rfl ?_
    refine I_iconst_k (pc := 21) hx (-1) dX9_roofHere_21 ?_
    refine E_gd_k (fun hr5 => ?_)
    refine I_icmp_eq_k (pc := 22) hx 31 dX9_roofHere_22 rfl ⟨hr5, (by decide)⟩ ?_ ?_
    · refine E_aload_n_k (pc := 31) hx 2 dX9_roofHere_31 rfl rfl ?_
      refine I_iconst_k (pc := 32) hx 3 dX9_roofHere_32 ?_
      refine I_cVBW_k  (pc := 33) hx [.int (oI 3)] [] (ev_X9_fail_k F a0 h0 3 w2) vm_X9_fail fc7 h0 g471 dX9_roofHere_33 rfl rfl (Nat.le_of_ble_eq_true rfl) (Nat.le_of_ble_eq_true rfl) (Nat.le_of_ble_eq_true rfl) (fun r6 w7 => ?_)
      refine E_pop_k (pc := 36) hx dX9_roofHere_36 rfl ?_
      refine I_iconst_k (pc := 37) hx (-1) dX9_roofHere_37 ?_
      exact E_iret_k (pc := 38) hx dX9_roofHere_38 rfl rfl (Nat.le_of_ble_eq_true rfl)
    refine E_iload_k (pc := 25) hx 0 dX9_roofHere_25 rfl ?_
    refine E_iload_n_k (pc := 27) hx 4 dX9_roofHere_27 rfl rfl ?_
    refine E_gd_k (fun hr8 => ?_)
    refine I_icmp_ne_k (pc := 28) hx 39 dX9_roofHere_28 rfl ⟨hr5, hr8⟩ ?_ ?_
    · refine E_iload_k (pc := 39) hx 0 dX9_roofHere_39 rfl ?_
      exact E_iret_k (pc := 41) hx dX9_roofHere_41 rfl rfl (Nat.le_of_ble_eq_true rfl)
    refine E_aload_n_k (pc := 31) hx 2 dX9_roofHere_31 rfl rfl ?_
    refine I_iconst_k (pc := 32) hx 3 dX9_roofHere_32 ?_
    refine I_cVBW_k  (pc := 33) hx [.int (oI 3)] [] (ev_X9_fail_k F a0 h0 3 w2) vm_X9_fail fc7 h0 g471 dX9_roofHere_33 rfl rfl (Nat.le_of_ble_eq_true rfl) (Nat.le_of_ble_eq_true rfl) (Nat.le_of_ble_eq_true rfl) (fun r9 w10 => ?_)
    refine E_pop_k (pc := 36) hx dX9_roofHere_36 rfl ?_
    refine I_iconst_k (pc := 37) hx (-1) dX9_roofHere_37 ?_
    exact E_iret_k (pc := 38) hx dX9_roofHere_38 rfl rfl (Nat.le_of_ble_eq_true rfl)
  refine I_iconst_k (pc := 10) hx (-1) dX9_roofHere_10 ?_
  exact E_iret_k (pc := 11) hx dX9_roofHere_11 rfl rfl (Nat.le_of_ble_eq_true rfl)
set_option maxHeartbeats 4000000 in
set_option maxRecDepth 100000 in
theorem l_X9_isNumberHere_b30_k {x : Cx} (F : Nat) (a0 : Nat) (h0 : shK_k a0 = 10 + 7) (p1 : Int) (p2 : Int)  (hx : CxOK_k x RX9 cX9_isNumberHere 3 1 0 (some .boolean))    (w : aI) : En_k x jvBW 0 0 30 [(0, .ref a0)] [] (cm w) (f_X9_isNumberHere_b30 F a0 p1 p2    w) := by
  unfold f_X9_isNumberHere_b30
  refine E_aload_n_k (pc := 30) hx 0 dX9_isNumberHere_30 rfl rfl ?_
  refine I_iconst_k (pc := 31) hx 2 dX9_isNumberHere_31 ?_
  refine I_cVBW_k  (pc := 32) hx [.int (oI 2)] [] (ev_X9_fail_k F a0 h0 2 w) vm_X9_fail fc7 h0 g471 dX9_isNumberHere_32 rfl rfl (Nat.le_of_ble_eq_true rfl) (Nat.le_of_ble_eq_true rfl) (Nat.le_of_ble_eq_true rfl) (fun r3 w4 => ?_)
  refine I_ifB_eq_k (pc := 35) hx 42 dX9_isNumberHere_35 rfl ?_ ?_
  · refine I_iconst_k (pc := 42) hx 0 dX9_isNumberHere_42 ?_
    exact E_zret_k (pc := 43) hx dX9_isNumberHere_43 rfl rfl rfl (Nat.le_of_ble_eq_true rfl)
  refine I_iconst_k (pc := 38) hx 1 dX9_isNumberHere_38 ?_
  refine E_goto_k (pc := 39) hx 43 dX9_isNumberHere_39 rfl ?_
  exact E_zret_k (pc := 43) hx dX9_isNumberHere_43 rfl rfl rfl (Nat.le_of_ble_eq_true rfl)
set_option maxHeartbeats 4000000 in
set_option maxRecDepth 100000 in
theorem ev_X9_isNumberHere_k (F : Nat) (a0 : Nat) (h0 : shK_k a0 = 10 + 7) (p1 : Int) (p2 : Int) (w : aI) : Ev_k yX9_isNumberHere cX9_isNumberHere 3 (some .boolean) 1 0 jvBW [.ref a0, .int (oI p1), .int (oI p2)] (cm w) (f_X9_isNumberHere F a0 p1 p2 w) := by
  refine Ev_k.of (own := RX9) (by decide +kernel) rfl (Nat.le_of_ble_eq_true rfl) (fun x hx => ?_)
  show En_k x jvBW 0 0 0 [(0, .ref a0), (1, .int (oI p1)), (2, .int (oI p2))] [] (cm w) _
  unfold f_X9_isNumberHere
  refine E_aload_n_k (pc := 0) hx 0 dX9_isNumberHere_0 rfl rfl ?_
  refine I_getI_k (pc := 1) hx 3 3 rfl fc7 h0 rfl ⟨rfl, rfl, rfl⟩ g293 dX9_isNumberHere_1 ?_
  refine I_iconst_k (pc := 4) hx 2 dX9_isNumberHere_4 ?_
  refine E_gd_k (fun hr1 => ?_)
  refine I_icmp_eq_k (pc := 5) hx 14 dX9_isNumberHere_5 rfl ⟨hr1, (by decide)⟩ ?_ ?_
  · refine E_aload_n_k (pc := 14) hx 0 dX9_isNumberHere_14 rfl rfl ?_
    refine I_getI_k (pc := 15) hx 4 4 rfl fc7 h0 rfl ⟨rfl, rfl, rfl⟩ g294 dX9_isNumberHere_15 ?_
    refine E_iload_n_k (pc := 18) hx 1 dX9_isNumberHere_18 rfl rfl ?_
    refine E_gd_k (fun hr2 => ?_)
    refine I_icmp_lt_k (pc := 19) hx 30 dX9_isNumberHere_19 rfl ⟨hr2.1, hr2.2⟩ ?_ ?_
    · refine En_k.sub [0] rfl ?_
      exact l_X9_isNumberHere_b30_k F a0 h0 p1 p2 hx w
    refine E_aload_n_k (pc := 22) hx 0 dX9_isNumberHere_22 rfl rfl ?_
    refine I_getI_k (pc := 23) hx 4 4 rfl fc7 h0 rfl ⟨rfl, rfl, rfl⟩ g294 dX9_isNumberHere_23 ?_
    refine E_iload_n_k (pc := 26) hx 2 dX9_isNumberHere_26 rfl rfl ?_
    refine E_gd_k (fun hr5 => ?_)
    refine I_icmp_le_k (pc := 27) hx 38 dX9_isNumberHere_27 rfl ⟨hr2.1, hr5⟩ ?_ ?_
    · refine I_iconst_k (pc := 38) hx 1 dX9_isNumberHere_38 ?_
      refine E_goto_k (pc := 39) hx 43 dX9_isNumberHere_39 rfl ?_
      exact E_zret_k (pc := 43) hx dX9_isNumberHere_43 rfl rfl rfl (Nat.le_of_ble_eq_true rfl)
    refine En_k.sub [0] rfl ?_
    exact l_X9_isNumberHere_b30_k F a0 h0 p1 p2 hx w
  refine E_aload_n_k (pc := 8) hx 0 dX9_isNumberHere_8 rfl rfl ?_
  refine I_iconst_k (pc := 9) hx 1 dX9_isNumberHere_9 ?_
  refine I_cVBW_k  (pc := 10) hx [.int (oI 1)] [] (ev_X9_fail_k F a0 h0 1 w) vm_X9_fail fc7 h0 g471 dX9_isNumberHere_10 rfl rfl (Nat.le_of_ble_eq_true rfl) (Nat.le_of_ble_eq_true rfl) (Nat.le_of_ble_eq_true rfl) (fun r6 w7 => ?_)
  exact E_zret_k (pc := 13) hx dX9_isNumberHere_13 rfl (bI_nar _) rfl (Nat.le_of_ble_eq_true rfl)
set_option maxHeartbeats 4000000 in
set_option maxRecDepth 100000 in
theorem ev_X9_takeNumber_k (F : Nat) (a0 : Nat) (h0 : shK_k a0 = 10 + 7) (p1 : Int) (p2 : Int) (w : aI) : Ev_k yX9_takeNumber cX9_takeNumber 4 (some .int) 2 0 jvIW [.ref a0, .int (oI p1), .int (oI p2)] (cm w) (f_X9_takeNumber F a0 p1 p2 w) := by
  refine Ev_k.of (own := RX9) (by decide +kernel) rfl (Nat.le_of_ble_eq_true rfl) (fun x hx => ?_)
  show En_k x jvIW 0 0 0 [(0, .ref a0), (1, .int (oI p1)), (2, .int (oI p2))] [] (cm w) _
  unfold f_X9_takeNumber
  refine E_aload_n_k (pc := 0) hx 0 dX9_takeNumber_0 rfl rfl ?_
  refine E_iload_n_k (pc := 1) hx 1 dX9_takeNumber_1 rfl rfl ?_
  refine E_iload_n_k (pc := 2) hx 2 dX9_takeNumber_2 rfl rfl ?_
  refine I_cVBW_k  (pc := 3) hx [.int (oI p1), .int (oI p2)] [] (ev_X9_isNumberHere_k F a0 h0 p1 p2 w) vm_X9_isNumberHere fc7 h0 g484 dX9_takeNumber_3 rfl rfl (Nat.le_of_ble_eq_true rfl) (Nat.le_of_ble_eq_true rfl) (Nat.le_of_ble_eq_true rfl) (fun r1 w2 => ?_)
  refine I_ifB_ne_k (pc := 6) hx 11 dX9_takeNumber_6 rfl ?_ ?_
  · refine E_aload_n_k (pc := 11) hx 0 dX9_takeNumber_11 rfl rfl ?_
    refine I_getI_k (pc := 12) hx 4 4 rfl fc7 h0 rfl ⟨rfl, rfl, rfl⟩ g294 dX9_takeNumber_12 ?_
    refine I_ltv_k (fun v3_3 => ?_)
    refine E_istore_n_k (pc := 15) hx dX9_takeNumber_15 rfl (Nat.le_of_ble_eq_true rfl) rfl ?_
    refine E_aload_n_k (pc := 16) hx 1 dX9_takeNumber_16 rfl rfl ?_
    refine I_cVV_k  (pc := 17) hx [] [] (ev_X9_step_k F a0 h0 w2) vm_X9_step fc7 h0 g432 dX9_takeNumber_17 rfl rfl (Nat.le_of_ble_eq_true rfl) (Nat.le_of_ble_eq_true rfl) (Nat.le_of_ble_eq_true rfl) (fun w4 => ?_)
    refine E_iload_n_k (pc := 20) hx 0 dX9_takeNumber_20 rfl rfl ?_
    exact E_iret_k (pc := 21) hx dX9_takeNumber_21 rfl rfl (Nat.le_of_ble_eq_true rfl)
  refine I_iconst_k (pc := 9) hx (-1) dX9_takeNumber_9 ?_
  exact E_iret_k (pc := 10) hx dX9_takeNumber_10 rfl rfl (Nat.le_of_ble_eq_true rfl)
set_option maxHeartbeats 4000000 in
set_option maxRecDepth 100000 in
theorem ev_X9_isSemicolonTaken_k (F : Nat) (a0 : Nat) (h0 : shK_k a0 = 10 + 7) (w : aI) : Ev_k yX9_isSemicolonTaken cX9_isSemicolonTaken 1 (some .boolean) 2 0 jvBW [.ref a0] (cm w) (f_X9_isSemicolonTaken F a0 w) := by
  refine Ev_k.of (own := RX9) (by decide +kernel) rfl (Nat.le_of_ble_eq_true rfl) (fun x hx => ?_)
  show En_k x jvBW 0 0 0 [(0, .ref a0)] [] (cm w) _
  unfold f_X9_isSemicolonTaken
  refine E_aload_n_k (pc := 0) hx 0 dX9_isSemicolonTaken_0 rfl rfl ?_
  refine I_getI_k (pc := 1) hx 3 3 rfl fc7 h0 rfl ⟨rfl, rfl, rfl⟩ g293 dX9_isSemicolonTaken_1 ?_
  refine I_iconst_k (pc := 4) hx 3 dX9_isSemicolonTaken_4 ?_
  refine E_gd_k (fun hr1 => ?_)
  refine I_icmp_eq_k (pc := 5) hx 14 dX9_isSemicolonTaken_5 rfl ⟨hr1, (by decide)⟩ ?_ ?_
  · refine E_aload_n_k (pc := 14) hx 0 dX9_isSemicolonTaken_14 rfl rfl ?_
    refine I_cVV_k  (pc := 15) hx [] [] (ev_X9_step_k F a0 h0 w) vm_X9_step fc7 h0 g432 dX9_isSemicolonTaken_15 rfl rfl (Nat.le_of_ble_eq_true rfl) (Nat.le_of_ble_eq_true rfl) (Nat.le_of_ble_eq_true rfl) (fun w2 => ?_)
    refine I_iconst_k (pc := 18) hx 1 dX9_isSemicolonTaken_18 ?_
    exact E_zret_k (pc := 19) hx dX9_isSemicolonTaken_19 rfl rfl rfl (Nat.le_of_ble_eq_true rfl)
  refine E_aload_n_k (pc := 8) hx 0 dX9_isSemicolonTaken_8 rfl rfl ?_
  refine I_iconst_k (pc := 9) hx 1 dX9_isSemicolonTaken_9 ?_
  refine I_cVBW_k  (pc := 10) hx [.int (oI 1)] [] (ev_X9_fail_k F a0 h0 1 w) vm_X9_fail fc7 h0 g471 dX9_isSemicolonTaken_10 rfl rfl (Nat.le_of_ble_eq_true rfl) (Nat.le_of_ble_eq_true rfl) (Nat.le_of_ble_eq_true rfl) (fun r3 w4 => ?_)
  exact E_zret_k (pc := 13) hx dX9_isSemicolonTaken_13 rfl (bI_nar _) rfl (Nat.le_of_ble_eq_true rfl)

