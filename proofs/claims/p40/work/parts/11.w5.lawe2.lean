set_option maxHeartbeats 4000000 in
set_option maxRecDepth 100000 in
theorem l_L_acts_b231 {x0 x : Cx} (F : Nat) (a0 : Nat) (h0 : shK a0 = 10 + 10) (a1 : Nat) (h1 : shK a1 = 10 + 8) (p2 : Int)  (hx : CxOK x RL cL_acts 9 9 1200 (some .boolean)) (hN : 241 ≤ xN x) (hG : Gr x0 x)   (z0 : Int) (z1 : Int) (z2 : Int) (z3 : Int) (z4 : Nat) (hz4 : shK z4 = 10 + 8) (w : aI) : EnG x0 x jvBW 1200 4 231 [(0, .ref a0)] [.int (oI z0), .int (oI z1), .int (oI z2), .int (oI z3), .ref z4] (cm w) (f_L_acts_b231 F a0 a1 p2    z0 z1 z2 z3 z4 w) := by
  unfold f_L_acts_b231
  refine I_cVT  (pc := 231) hx [.int (oI z3), .int (oI z2), .int (oI z1), .int (oI z0)] [] (ev_X10_send F z4 hz4 z3 z2 z1 z0 w) vm_X10_send fc8 hz4 (hx.ci hz4 (Nat.le_of_ble_eq_true rfl)) g803 dL_acts_231 rfl rfl (Nat.le_of_ble_eq_true rfl) (Nat.le_of_ble_eq_true rfl) (by omega) (fun r31 w32 => ?_)
  refine E_aload_n (pc := 234) hx 0 dL_acts_234 rfl rfl ?_
  refine I_getI (pc := 235) hx 21 21 rfl fc10 h0 (hx.la hN h0 rfl) rfl ⟨rfl, rfl, rfl⟩ g566 dL_acts_235 ?_
  refine I_iconst (pc := 238) hx 1 dL_acts_238 ?_
  refine I_isub (pc := 239) hx dL_acts_239 ?_
  refine E_gd (fun hr33 => ?_)
  refine I_icmp_ne (pc := 240) hx 247 dL_acts_240 rfl ⟨hr33.1, hr33.2⟩ ?_ ?_
  · refine I_iconst (pc := 247) hx 0 dL_acts_247 ?_
    exact G_zret (pc := 248) hx hG dL_acts_248 rfl rfl rfl (by omega)
  refine I_iconst (pc := 243) hx 1 dL_acts_243 ?_
  refine E_goto (pc := 244) hx 248 dL_acts_244 rfl ?_
  exact G_zret (pc := 248) hx hG dL_acts_248 rfl rfl rfl (by omega)
set_option maxHeartbeats 4000000 in
set_option maxRecDepth 100000 in
theorem l_L_acts_b173 {x0 x : Cx} (F : Nat) (a0 : Nat) (h0 : shK a0 = 10 + 10) (a1 : Nat) (h1 : shK a1 = 10 + 8) (p2 : Int)  (hx : CxOK x RL cL_acts 9 9 1200 (some .boolean)) (hN : 241 ≤ xN x) (hG : Gr x0 x) (k129 : Int → Int → Int → Nat → Int → Int → aI → Option (Bool × aI)) (hk129 : ∀ {x : Cx} (hx : CxOK x RL cL_acts 9 9 1200 (some .boolean)) (hN : 241 ≤ xN x) (hG : Gr x0 x) (v3 : Int) (v4 : Int) (v5 : Int) (v6 : Nat) (hv6 : dy x v6) (v7 : Int) (v8 : Int) (w : aI), EnG x0 x jvBW 1200 2 129 [(0, .ref a0), (1, .ref a1), (2, .int (oI p2)), (3, .int (oI v3)), (4, .int (oI v4)), (5, .int (oI v5)), (6, .ref v6), (7, .int (oI v7)), (8, .int (oI v8))] [] (cm w) (k129 v3 v4 v5 v6 v7 v8 w))  (v3 : Int) (v4 : Int) (v5 : Int) (v6 : Nat) (hv6 : dy x v6) (v7 : Int) (v8 : Int) (z0 : Int) (z1 : Int) (z2 : Nat) (hz2 : dy x z2) (w : aI) : EnG x0 x jvBW 1200 2 173 [(0, .ref a0), (1, .ref a1), (2, .int (oI p2)), (3, .int (oI v3)), (4, .int (oI v4)), (5, .int (oI v5)), (6, .ref v6), (7, .int (oI v7)), (8, .int (oI v8))] [.int (oI z0), .int (oI z1), .ref z2] (cm w) (f_L_acts_b173 F a0 a1 p2  k129  v3 v4 v5 v6 v7 v8 z0 z1 z2 w) := by
  unfold f_L_acts_b173
  refine I_iast6 (pc := 173) hx hz2 dL_acts_173 (fun w35 => ?_)
  refine I_bipush (pc := 174) hx 10 dL_acts_174 rfl ?_
  refine E_iload (pc := 176) hx 7 dL_acts_176 rfl ?_
  refine I_imul (pc := 178) hx dL_acts_178 ?_
  refine E_aload (pc := 179) hx 6 dL_acts_179 rfl ?_
  refine E_iload (pc := 181) hx 8 dL_acts_181 rfl ?_
  refine I_iald6 (pc := 183) hx hv6 dL_acts_183 ?_
  refine I_iadd (pc := 184) hx dL_acts_184 ?_
  refine I_ltv (fun v7_36 => ?_)
  refine E_istore (pc := 185) hx dL_acts_185 (Nat.le_of_ble_eq_true rfl) rfl ?_
  refine I_iinc (pc := 187) hx 1 8 dL_acts_187 rfl (Nat.le_of_ble_eq_true rfl) rfl ?_
  refine E_goto (pc := 190) hx 129 dL_acts_190 rfl ?_
  refine En.sub [2, 3, 4, 5, 6, 7, 8, 1, 0] rfl ?_
  exact hk129 hx hN hG v3 v4 v5 v6 hv6 v7_36 (v8 + 1) w35
set_option maxHeartbeats 4000000 in
set_option maxRecDepth 100000 in
theorem l_L_acts_b129_b {x0 x : Cx} (F : Nat) (a0 : Nat) (h0 : shK a0 = 10 + 10) (a1 : Nat) (h1 : shK a1 = 10 + 8) (p2 : Int)  (hx : CxOK x RL cL_acts 9 9 1200 (some .boolean)) (hN : 241 ≤ xN x) (hG : Gr x0 x)  (k129 : Int → Int → Int → Nat → Int → Int → aI → Option (Bool × aI)) (hk129 : ∀ {x : Cx} (hx : CxOK x RL cL_acts 9 9 1200 (some .boolean)) (hN : 241 ≤ xN x) (hG : Gr x0 x) (v3 : Int) (v4 : Int) (v5 : Int) (v6 : Nat) (hv6 : dy x v6) (v7 : Int) (v8 : Int) (w : aI), EnG x0 x jvBW 1200 2 129 [(0, .ref a0), (1, .ref a1), (2, .int (oI p2)), (3, .int (oI v3)), (4, .int (oI v4)), (5, .int (oI v5)), (6, .ref v6), (7, .int (oI v7)), (8, .int (oI v8))] [] (cm w) (k129 v3 v4 v5 v6 v7 v8 w)) (v3 : Int) (v4 : Int) (v5 : Int) (v6 : Nat) (hv6 : dy x v6) (v7 : Int) (v8 : Int) (w : aI) : EnG x0 x jvBW 1200 2 129 [(0, .ref a0), (1, .ref a1), (2, .int (oI p2)), (3, .int (oI v3)), (4, .int (oI v4)), (5, .int (oI v5)), (6, .ref v6), (7, .int (oI v7)), (8, .int (oI v8))] [] (cm w) (f_L_acts_b129_b F a0 a1 p2   k129 v3 v4 v5 v6 v7 v8 w) := by
  unfold f_L_acts_b129_b
  refine E_iload (pc := 129) hx 8 dL_acts_129 rfl ?_
  refine E_iload (pc := 131) hx 5 dL_acts_131 rfl ?_
  refine E_gd (fun hr23 => ?_)
  refine I_icmp_ge (pc := 133) hx 193 dL_acts_133 rfl ⟨hr23.1, hr23.2⟩ ?_ ?_
  · refine E_iload_n (pc := 193) hx 2 dL_acts_193 rfl rfl ?_
    refine I_bipush (pc := 194) hx 19 dL_acts_194 rfl ?_
    refine I_iconst (pc := 196) hx 1 dL_acts_196 ?_
    refine I_cSI  (pc := 197) hx [.int (oI p2), .int (oI 19), .int (oI 1)] [] (ev_L_bits F p2 19 1 w) sm_L_bits g651 dL_acts_197 rfl rfl (Nat.le_of_ble_eq_true rfl) (Nat.le_of_ble_eq_true rfl) (by omega) (fun r24 => ?_)
    refine E_istore (pc := 200) hx dL_acts_200 (Nat.le_of_ble_eq_true rfl) rfl ?_
    refine E_aload_n (pc := 202) hx 1 dL_acts_202 rfl rfl ?_
    refine E_iload_n (pc := 203) hx 4 dL_acts_203 rfl rfl ?_
    refine E_iload (pc := 204) hx 5 dL_acts_204 rfl ?_
    refine E_aload (pc := 206) hx 7 dL_acts_206 rfl ?_
    refine E_iload (pc := 208) hx 0 dL_acts_208 rfl ?_
    refine I_iconst (pc := 210) hx 0 dL_acts_210 ?_
    refine G_cVV (pc := 211) hx [.int (oI v3), .int (oI v4), .ref v6, .int (oI r24), .int (oI 0)] [] (ev_L_sends F a0 h0 v3 v4 v6 r24 0 w) vm_L_sends fc10 h0 (hx.la hN h0 rfl) g852 dL_acts_211 rfl rfl (Nat.le_of_ble_eq_true rfl) (Nat.le_of_ble_eq_true rfl) (by omega) ⟨True.intro, Or.inl (hx.la hN h0 rfl), Or.inl (hx.ci h1 (Nat.le_of_ble_eq_true rfl)), True.intro, True.intro, True.intro, True.intro, Or.inl hv6.xq, True.intro, True.intro⟩ True.intro (fun ad26 N27 hA28 hx29 w25 => ?_)
    have hN := Nat.le_trans hN hA28.1.1
    have hG := hG.step hA28
    have hv6 := dy.up hA28 hv6
    have hx := hx29
    refine E_aload_n (pc := 214) hx 2 dL_acts_214 rfl rfl ?_
    refine E_iload_n (pc := 215) hx 4 dL_acts_215 rfl rfl ?_
    refine E_iload (pc := 216) hx 5 dL_acts_216 rfl ?_
    refine E_iload (pc := 218) hx 8 dL_acts_218 rfl ?_
    refine E_iload (pc := 220) hx 0 dL_acts_220 rfl ?_
    refine I_iconst (pc := 222) hx 1 dL_acts_222 ?_
    refine E_gd (fun hr30 => ?_)
    refine I_icmp_ne (pc := 223) hx 230 dL_acts_223 rfl ⟨hr30, (by decide)⟩ ?_ ?_
    · refine I_iconst (pc := 230) hx 0 dL_acts_230 ?_
      refine En.sub [1] rfl ?_
      exact l_L_acts_b231 F a0 h0 a1 h1 p2 hx hN hG 0 v7 v4 v3 a1 h1 w25
    refine I_iconst (pc := 226) hx 1 dL_acts_226 ?_
    refine E_goto (pc := 227) hx 231 dL_acts_227 rfl ?_
    refine En.sub [1] rfl ?_
    exact l_L_acts_b231 F a0 h0 a1 h1 p2 hx hN hG 1 v7 v4 v3 a1 h1 w25
  refine E_aload (pc := 136) hx 6 dL_acts_136 rfl ?_
  refine E_iload (pc := 138) hx 8 dL_acts_138 rfl ?_
  refine E_iload (pc := 140) hx 8 dL_acts_140 rfl ?_
  refine I_if_ne (pc := 142) hx 160 dL_acts_142 rfl hr23.1 ?_ ?_
  · refine E_iload_n (pc := 160) hx 2 dL_acts_160 rfl rfl ?_
    refine I_bipush (pc := 161) hx 31 dL_acts_161 rfl ?_
    refine I_imul (pc := 163) hx dL_acts_163 ?_
    refine E_iload (pc := 164) hx 8 dL_acts_164 rfl ?_
    refine I_iadd (pc := 166) hx dL_acts_166 ?_
    refine I_bipush (pc := 167) hx 9 dL_acts_167 rfl ?_
    refine I_iconst (pc := 169) hx 3 dL_acts_169 ?_
    refine I_cSI  (pc := 170) hx [.int (oI ((p2 * 31) + v8)), .int (oI 9), .int (oI 3)] [.int (oI v8), .ref v6] (ev_L_bits F ((p2 * 31) + v8) 9 3 w) sm_L_bits g651 dL_acts_170 rfl rfl (Nat.le_of_ble_eq_true rfl) (Nat.le_of_ble_eq_true rfl) (by omega) (fun r34 => ?_)
    exact l_L_acts_b173 F a0 h0 a1 h1 p2 hx hN hG k129 hk129 v3 v4 v5 v6 hv6 v7 v8 r34 v8 v6 hv6 w
  refine I_iconst (pc := 145) hx 1 dL_acts_145 ?_
  refine E_iload_n (pc := 146) hx 2 dL_acts_146 rfl rfl ?_
  refine I_bipush (pc := 147) hx 15 dL_acts_147 rfl ?_
  refine I_iconst (pc := 149) hx 4 dL_acts_149 ?_
  refine I_cSI  (pc := 150) hx [.int (oI p2), .int (oI 15), .int (oI 4)] [.int (oI 1), .int (oI v8), .ref v6] (ev_L_bits F p2 15 4 w) sm_L_bits g651 dL_acts_150 rfl rfl (Nat.le_of_ble_eq_true rfl) (Nat.le_of_ble_eq_true rfl) (by omega) (fun r37 => ?_)
  refine I_bipush (pc := 153) hx 7 dL_acts_153 rfl ?_
  refine E_gd (fun hr38 => ?_)
  refine I_irem (pc := 155) hx dL_acts_155 ⟨hr38, (by decide), (by decide)⟩ ?_
  refine I_iadd (pc := 156) hx dL_acts_156 ?_
  refine E_goto (pc := 157) hx 173 dL_acts_157 rfl ?_
  exact l_L_acts_b173 F a0 h0 a1 h1 p2 hx hN hG k129 hk129 v3 v4 v5 v6 hv6 v7 v8 (1 + (Int.tmod r37 7)) v8 v6 hv6 w
theorem l_L_acts_b129 {x0 x : Cx} (F : Nat) (a0 : Nat) (h0 : shK a0 = 10 + 10) (a1 : Nat) (h1 : shK a1 = 10 + 8) (p2 : Int)  (hx : CxOK x RL cL_acts 9 9 1200 (some .boolean)) (hN : 241 ≤ xN x) (hG : Gr x0 x)  : ∀ (n : Nat) (v3 : Int) (v4 : Int) (v5 : Int) (v6 : Nat) (hv6 : dy x v6) (v7 : Int) (v8 : Int) (w : aI), EnG x0 x jvBW 1200 2 129 [(0, .ref a0), (1, .ref a1), (2, .int (oI p2)), (3, .int (oI v3)), (4, .int (oI v4)), (5, .int (oI v5)), (6, .ref v6), (7, .int (oI v7)), (8, .int (oI v8))] [] (cm w) (f_L_acts_b129 F a0 a1 p2   n v3 v4 v5 v6 v7 v8 w) := by
  intro n
  induction n generalizing x with
  | zero => intro v3 v4 v5 v6 hv6 v7 v8 w; exact E_none
  | succ n ih => intro v3 v4 v5 v6 hv6 v7 v8 w; exact l_L_acts_b129_b F a0 h0 a1 h1 p2  hx hN hG  _ (fun {x} hx hN hG => ih hx hN hG) v3 v4 v5 v6 hv6 v7 v8 w
set_option maxHeartbeats 4000000 in
set_option maxRecDepth 100000 in
theorem l_L_acts_b427_b {x0 x : Cx} (F : Nat) (a0 : Nat) (h0 : shK a0 = 10 + 10) (a1 : Nat) (h1 : shK a1 = 10 + 8) (p2 : Int)  (hx : CxOK x RL cL_acts 9 9 1200 (some .boolean)) (hN : 241 ≤ xN x) (hG : Gr x0 x)  (k427 : Int → Int → Int → aI → Option (Bool × aI)) (hk427 : ∀ {x : Cx} (hx : CxOK x RL cL_acts 9 9 1200 (some .boolean)) (hN : 241 ≤ xN x) (hG : Gr x0 x) (v5 : Int) (v6 : Int) (v7 : Int) (w : aI), EnG x0 x jvBW 1200 (130 * v7.toNat) 427 [(0, .ref a0), (1, .ref a1), (5, .int (oI v5)), (6, .int (oI v6)), (7, .int (oI v7))] [] (cm w) (k427 v5 v6 v7 w)) (v5 : Int) (v6 : Int) (v7 : Int) (w : aI) : EnG x0 x jvBW 1200 (130 * v7.toNat) 427 [(0, .ref a0), (1, .ref a1), (5, .int (oI v5)), (6, .int (oI v6)), (7, .int (oI v7))] [] (cm w) (f_L_acts_b427_b F a0 a1 p2   k427 v5 v6 v7 w) := by
  unfold f_L_acts_b427_b
  refine E_gd (fun hj => ?_)
  refine E_iload (pc := 427) hx 4 dL_acts_427 rfl ?_
  refine E_iload (pc := 429) hx 2 dL_acts_429 rfl ?_
  refine E_gd (fun hr122 => ?_)
  refine I_icmp_ge (pc := 431) hx 444 dL_acts_431 rfl ⟨hr122.1, hr122.2⟩ ?_ ?_
  · refine E_aload_n (pc := 444) hx 1 dL_acts_444 rfl rfl ?_
    refine E_iload (pc := 445) hx 2 dL_acts_445 rfl ?_
    refine I_cVT  (pc := 447) hx [.int (oI v5)] [] (ev_X10_tick F a1 h1 v5 w) vm_X10_tick fc8 h1 (hx.ci h1 (Nat.le_of_ble_eq_true rfl)) g913 dL_acts_447 rfl rfl (Nat.le_of_ble_eq_true rfl) (Nat.le_of_ble_eq_true rfl) (by omega) (fun r123 w124 => ?_)
    refine E_aload_n (pc := 450) hx 0 dL_acts_450 rfl rfl ?_
    refine I_getI (pc := 451) hx 28 28 rfl fc10 h0 (hx.la hN h0 rfl) rfl ⟨rfl, rfl, rfl⟩ g573 dL_acts_451 ?_
    refine E_iload (pc := 454) hx 3 dL_acts_454 rfl ?_
    refine I_isub (pc := 456) hx dL_acts_456 ?_
    refine E_gd (fun hr125 => ?_)
    refine I_icmp_ne (pc := 457) hx 464 dL_acts_457 rfl ⟨hr125.1, hr125.2⟩ ?_ ?_
    · refine I_iconst (pc := 464) hx 0 dL_acts_464 ?_
      exact G_zret (pc := 465) hx hG dL_acts_465 rfl rfl rfl (by omega)
    refine I_iconst (pc := 460) hx 1 dL_acts_460 ?_
    refine E_goto (pc := 461) hx 465 dL_acts_461 rfl ?_
    exact G_zret (pc := 465) hx hG dL_acts_465 rfl rfl rfl (by omega)
  refine E_aload_n (pc := 434) hx 0 dL_acts_434 rfl rfl ?_
  refine G_cVV (pc := 435) hx [] [] (ev_L_ticks F a0 h0 w) vm_L_ticks fc10 h0 (hx.la hN h0 rfl) g886 dL_acts_435 rfl rfl (Nat.le_of_ble_eq_true rfl) (Nat.le_of_ble_eq_true rfl) (by omega) ⟨Or.inl (hx.la hN h0 rfl), Or.inl (hx.ci h1 (Nat.le_of_ble_eq_true rfl)), True.intro, True.intro, True.intro, True.intro⟩ True.intro (fun ad127 N128 hA129 hx130 w126 => ?_)
  have hN := Nat.le_trans hN hA129.1.1
  have hG := hG.step hA129
  have hx := hx130
  refine I_iinc (pc := 438) hx 1 4 dL_acts_438 rfl (Nat.le_of_ble_eq_true rfl) rfl ?_
  refine E_goto (pc := 441) hx 427 dL_acts_441 rfl ?_
  refine E_wid (j2 := 130 * ((v7 + 1) : Int).toNat) (by omega) ?_
  refine En.sub [1, 2, 3, 4, 0] rfl ?_
  exact hk427 hx hN hG v5 v6 (v7 + 1) w126
theorem l_L_acts_b427 {x0 x : Cx} (F : Nat) (a0 : Nat) (h0 : shK a0 = 10 + 10) (a1 : Nat) (h1 : shK a1 = 10 + 8) (p2 : Int)  (hx : CxOK x RL cL_acts 9 9 1200 (some .boolean)) (hN : 241 ≤ xN x) (hG : Gr x0 x)  : ∀ (n : Nat) (v5 : Int) (v6 : Int) (v7 : Int) (w : aI), EnG x0 x jvBW 1200 (130 * v7.toNat) 427 [(0, .ref a0), (1, .ref a1), (5, .int (oI v5)), (6, .int (oI v6)), (7, .int (oI v7))] [] (cm w) (f_L_acts_b427 F a0 a1 p2   n v5 v6 v7 w) := by
  intro n
  induction n generalizing x with
  | zero => intro v5 v6 v7 w; exact E_none
  | succ n ih => intro v5 v6 v7 w; exact l_L_acts_b427_b F a0 h0 a1 h1 p2  hx hN hG  _ (fun {x} hx hN hG => ih hx hN hG) v5 v6 v7 w
set_option maxHeartbeats 4000000 in
set_option maxRecDepth 100000 in
theorem ev_L_acts (F : Nat) (a0 : Nat) (h0 : shK a0 = 10 + 10) (a1 : Nat) (h1 : shK a1 = 10 + 8) (p2 : Int) (w : aI) : EvG yL_acts cL_acts 9 (some .boolean) 9 1200 jvBW [.ref a0, .ref a1, .int (oI p2)] (cm w) (f_L_acts F a0 a1 p2 w) := by
  refine EvG.of (own := RL) (by decide +kernel) rfl (Nat.le_of_ble_eq_true rfl) (fun x hx hG => ?_)
  show EnG x x jvBW 1200 0 0 [(0, .ref a0), (1, .ref a1), (2, .int (oI p2))] [] (cm w) _
  unfold f_L_acts
  refine E_gN (fun hN => ?_)
  refine E_iload_n (pc := 0) hx 2 dL_acts_0 rfl rfl ?_
  refine I_iconst (pc := 1) hx 4 dL_acts_1 ?_
  refine I_iconst (pc := 2) hx 4 dL_acts_2 ?_
  refine I_cSI  (pc := 3) hx [.int (oI p2), .int (oI 4), .int (oI 4)] [] (ev_L_bits F p2 4 4 w) sm_L_bits g651 dL_acts_3 rfl rfl (Nat.le_of_ble_eq_true rfl) (Nat.le_of_ble_eq_true rfl) (by omega) (fun r1 => ?_)
  refine E_aload_n (pc := 6) hx 0 dL_acts_6 rfl rfl ?_
  refine I_getI (pc := 7) hx 20 20 rfl fc10 h0 (hx.la hN h0 rfl) rfl ⟨rfl, rfl, rfl⟩ g565 dL_acts_7 ?_
  refine E_gd (fun hr2 => ?_)
  refine E_gd (fun hd3 => ?_)
  refine I_irem (pc := 10) hx dL_acts_10 ⟨hr2.1, hr2.2, hd3⟩ ?_
  refine I_ltv (fun v3_4 => ?_)
  refine E_istore_n (pc := 11) hx dL_acts_11 rfl (Nat.le_of_ble_eq_true rfl) rfl ?_
  refine E_iload_n (pc := 12) hx 0 dL_acts_12 rfl rfl ?_
  refine I_iconst (pc := 13) hx 1 dL_acts_13 ?_
  refine I_iadd (pc := 14) hx dL_acts_14 ?_
  refine E_iload_n (pc := 15) hx 3 dL_acts_15 rfl rfl ?_
  refine I_bipush (pc := 16) hx 8 dL_acts_16 rfl ?_
  refine I_iconst (pc := 18) hx 4 dL_acts_18 ?_
  refine I_cSI  (pc := 19) hx [.int (oI p2), .int (oI 8), .int (oI 4)] [.int (oI (v3_4 + 1))] (ev_L_bits F p2 8 4 w) sm_L_bits g651 dL_acts_19 rfl rfl (Nat.le_of_ble_eq_true rfl) (Nat.le_of_ble_eq_true rfl) (by omega) (fun r5 => ?_)
  refine E_aload_n (pc := 22) hx 1 dL_acts_22 rfl rfl ?_
  refine I_getI (pc := 23) hx 20 20 rfl fc10 h0 (hx.la hN h0 rfl) rfl ⟨rfl, rfl, rfl⟩ g565 dL_acts_23 ?_
  refine I_iconst (pc := 26) hx 1 dL_acts_26 ?_
  refine I_isub (pc := 27) hx dL_acts_27 ?_
  refine E_gd (fun hr6 => ?_)
  refine E_gd (fun hd7 => ?_)
  refine I_irem (pc := 28) hx dL_acts_28 ⟨hr6.1, hr6.2, hd7⟩ ?_
  refine I_iadd (pc := 29) hx dL_acts_29 ?_
  refine E_aload_n (pc := 30) hx 1 dL_acts_30 rfl rfl ?_
  refine I_getI (pc := 31) hx 20 20 rfl fc10 h0 (hx.la hN h0 rfl) rfl ⟨rfl, rfl, rfl⟩ g565 dL_acts_31 ?_
  refine E_gd (fun hr8 => ?_)
  refine E_gd (fun hd9 => ?_)
  refine I_irem (pc := 34) hx dL_acts_34 ⟨hr8, hr2.2, hd9⟩ ?_
  refine I_ltv (fun v4_10 => ?_)
  refine E_istore (pc := 35) hx dL_acts_35 (Nat.le_of_ble_eq_true rfl) rfl ?_
  refine E_iload_n (pc := 37) hx 4 dL_acts_37 rfl rfl ?_
  refine I_iconst (pc := 38) hx 0 dL_acts_38 ?_
  refine I_iconst (pc := 39) hx 4 dL_acts_39 ?_
  refine I_cSI  (pc := 40) hx [.int (oI p2), .int (oI 0), .int (oI 4)] [] (ev_L_bits F p2 0 4 w) sm_L_bits g651 dL_acts_40 rfl rfl (Nat.le_of_ble_eq_true rfl) (Nat.le_of_ble_eq_true rfl) (by omega) (fun r11 => ?_)
  refine E_gd (fun hr12 => ?_)
  refine E_case (fun hc13 => ?_) (fun hc13 => ?_)
  · refine E_tIn (pc := 43) hx 88 dL_acts_43 (by rw [oI_toInt hr12]; omega) (by rw [oI_toInt hr12]; omega) (by rw [hc13]; rfl) rfl ?_
    refine E_aload_n (pc := 88) hx 2 dL_acts_88 rfl rfl ?_
    refine I_getI (pc := 89) hx 21 21 rfl fc10 h0 (hx.la hN h0 rfl) rfl ⟨rfl, rfl, rfl⟩ g566 dL_acts_89 ?_
    refine I_bipush (pc := 92) hx 30 dL_acts_92 rfl ?_
    refine E_gd (fun hr14 => ?_)
    refine I_icmp_ne (pc := 94) hx 106 dL_acts_94 rfl ⟨hr14, (by decide)⟩ ?_ ?_
    · refine I_iconst (pc := 106) hx 1 dL_acts_106 ?_
      refine E_iload_n (pc := 107) hx 4 dL_acts_107 rfl rfl ?_
      refine I_bipush (pc := 108) hx 12 dL_acts_108 rfl ?_
      refine I_iconst (pc := 110) hx 3 dL_acts_110 ?_
      refine I_cSI  (pc := 111) hx [.int (oI p2), .int (oI 12), .int (oI 3)] [.int (oI 1)] (ev_L_bits F p2 12 3 w) sm_L_bits g651 dL_acts_111 rfl rfl (Nat.le_of_ble_eq_true rfl) (Nat.le_of_ble_eq_true rfl) (by omega) (fun r15 => ?_)
      refine I_iadd (pc := 114) hx dL_acts_114 ?_
      refine I_ltv (fun v5_16 => ?_)
      refine E_istore (pc := 115) hx dL_acts_115 (Nat.le_of_ble_eq_true rfl) rfl ?_
      refine E_iload (pc := 117) hx 0 dL_acts_117 rfl ?_
      refine I_new6 (pc := 119) hx (gw_in 77 (by decide +kernel) (by decide +kernel)) dL_acts_119 (by omega) ⟨True.intro, True.intro, True.intro, Or.inl (hx.la hN h0 rfl), Or.inl (hx.ci h1 (Nat.le_of_ble_eq_true rfl)), True.intro, True.intro⟩ True.intro (fun ad18 N19 hA20 hx21 hd22 w17 => ?_)
      have hN := Nat.le_trans hN hA20.1.1
      have hG := hG.step hA20
      have hx := hx21
      refine E_astore (pc := 121) hx dL_acts_121 (Nat.le_of_ble_eq_true rfl) rfl ?_
      refine I_iconst (pc := 123) hx 0 dL_acts_123 ?_
      refine E_istore (pc := 124) hx dL_acts_124 (Nat.le_of_ble_eq_true rfl) rfl ?_
      refine I_iconst (pc := 126) hx 0 dL_acts_126 ?_
      refine E_istore (pc := 127) hx dL_acts_127 (Nat.le_of_ble_eq_true rfl) rfl ?_
      refine En.sub [6, 7, 8, 5, 4, 3, 2, 1, 0] rfl ?_
      exact l_L_acts_b129 F a0 h0 a1 h1 p2 hx hN hG F v3_4 v4_10 v5_16 ((w 999 0 + 90).toNat) hd22 0 0 w17
    refine E_aload_n (pc := 97) hx 3 dL_acts_97 rfl rfl ?_
    refine I_iconst (pc := 98) hx 1 dL_acts_98 ?_
    refine E_iload_n (pc := 99) hx 1 dL_acts_99 rfl rfl ?_
    refine E_iload (pc := 100) hx 0 dL_acts_100 rfl ?_
    refine I_cSBX  (pc := 102) hx [.ref a1, .int (oI 1), .int (oI v3_4), .int (oI v4_10)] [] (ev_L_isRefused F a1 h1 1 v3_4 v4_10 w) sm_L_isRefused g686 dL_acts_102 rfl rfl (Nat.le_of_ble_eq_true rfl) (Nat.le_of_ble_eq_true rfl) (by omega) (fun r39 w40 => ?_)
    exact G_zret (pc := 105) hx hG dL_acts_105 rfl (bI_nar _) rfl (by omega)
  refine E_case (fun hc41 => ?_) (fun hc41 => ?_)
  · refine E_tIn (pc := 43) hx 88 dL_acts_43 (by rw [oI_toInt hr12]; omega) (by rw [oI_toInt hr12]; omega) (by rw [hc41]; rfl) rfl ?_
    refine E_aload_n (pc := 88) hx 2 dL_acts_88 rfl rfl ?_
    refine I_getI (pc := 89) hx 21 21 rfl fc10 h0 (hx.la hN h0 rfl) rfl ⟨rfl, rfl, rfl⟩ g566 dL_acts_89 ?_
    refine I_bipush (pc := 92) hx 30 dL_acts_92 rfl ?_
    refine E_gd (fun hr42 => ?_)
    refine I_icmp_ne (pc := 94) hx 106 dL_acts_94 rfl ⟨hr42, (by decide)⟩ ?_ ?_
    · refine I_iconst (pc := 106) hx 1 dL_acts_106 ?_
      refine E_iload_n (pc := 107) hx 4 dL_acts_107 rfl rfl ?_
      refine I_bipush (pc := 108) hx 12 dL_acts_108 rfl ?_
      refine I_iconst (pc := 110) hx 3 dL_acts_110 ?_
      refine I_cSI  (pc := 111) hx [.int (oI p2), .int (oI 12), .int (oI 3)] [.int (oI 1)] (ev_L_bits F p2 12 3 w) sm_L_bits g651 dL_acts_111 rfl rfl (Nat.le_of_ble_eq_true rfl) (Nat.le_of_ble_eq_true rfl) (by omega) (fun r43 => ?_)
      refine I_iadd (pc := 114) hx dL_acts_114 ?_
      refine I_ltv (fun v5_44 => ?_)
      refine E_istore (pc := 115) hx dL_acts_115 (Nat.le_of_ble_eq_true rfl) rfl ?_
      refine E_iload (pc := 117) hx 0 dL_acts_117 rfl ?_
      refine I_new6 (pc := 119) hx (gw_in 77 (by decide +kernel) (by decide +kernel)) dL_acts_119 (by omega) ⟨True.intro, True.intro, True.intro, Or.inl (hx.la hN h0 rfl), Or.inl (hx.ci h1 (Nat.le_of_ble_eq_true rfl)), True.intro, True.intro⟩ True.intro (fun ad46 N47 hA48 hx49 hd50 w45 => ?_)
      have hN := Nat.le_trans hN hA48.1.1
      have hG := hG.step hA48
      have hx := hx49
      refine E_astore (pc := 121) hx dL_acts_121 (Nat.le_of_ble_eq_true rfl) rfl ?_
      refine I_iconst (pc := 123) hx 0 dL_acts_123 ?_
      refine E_istore (pc := 124) hx dL_acts_124 (Nat.le_of_ble_eq_true rfl) rfl ?_
      refine I_iconst (pc := 126) hx 0 dL_acts_126 ?_
      refine E_istore (pc := 127) hx dL_acts_127 (Nat.le_of_ble_eq_true rfl) rfl ?_
      refine En.sub [6, 7, 8, 5, 4, 3, 2, 1, 0] rfl ?_
      exact l_L_acts_b129 F a0 h0 a1 h1 p2 hx hN hG F v3_4 v4_10 v5_44 ((w 999 0 + 90).toNat) hd50 0 0 w45
    refine E_aload_n (pc := 97) hx 3 dL_acts_97 rfl rfl ?_
    refine I_iconst (pc := 98) hx 1 dL_acts_98 ?_
    refine E_iload_n (pc := 99) hx 1 dL_acts_99 rfl rfl ?_
    refine E_iload (pc := 100) hx 0 dL_acts_100 rfl ?_
    refine I_cSBX  (pc := 102) hx [.ref a1, .int (oI 1), .int (oI v3_4), .int (oI v4_10)] [] (ev_L_isRefused F a1 h1 1 v3_4 v4_10 w) sm_L_isRefused g686 dL_acts_102 rfl rfl (Nat.le_of_ble_eq_true rfl) (Nat.le_of_ble_eq_true rfl) (by omega) (fun r51 w52 => ?_)
    exact G_zret (pc := 105) hx hG dL_acts_105 rfl (bI_nar _) rfl (by omega)
  refine E_case (fun hc53 => ?_) (fun hc53 => ?_)
  · refine E_tIn (pc := 43) hx 88 dL_acts_43 (by rw [oI_toInt hr12]; omega) (by rw [oI_toInt hr12]; omega) (by rw [hc53]; rfl) rfl ?_
    refine E_aload_n (pc := 88) hx 2 dL_acts_88 rfl rfl ?_
    refine I_getI (pc := 89) hx 21 21 rfl fc10 h0 (hx.la hN h0 rfl) rfl ⟨rfl, rfl, rfl⟩ g566 dL_acts_89 ?_
    refine I_bipush (pc := 92) hx 30 dL_acts_92 rfl ?_
    refine E_gd (fun hr54 => ?_)
    refine I_icmp_ne (pc := 94) hx 106 dL_acts_94 rfl ⟨hr54, (by decide)⟩ ?_ ?_
    · refine I_iconst (pc := 106) hx 1 dL_acts_106 ?_
      refine E_iload_n (pc := 107) hx 4 dL_acts_107 rfl rfl ?_
      refine I_bipush (pc := 108) hx 12 dL_acts_108 rfl ?_
      refine I_iconst (pc := 110) hx 3 dL_acts_110 ?_
      refine I_cSI  (pc := 111) hx [.int (oI p2), .int (oI 12), .int (oI 3)] [.int (oI 1)] (ev_L_bits F p2 12 3 w) sm_L_bits g651 dL_acts_111 rfl rfl (Nat.le_of_ble_eq_true rfl) (Nat.le_of_ble_eq_true rfl) (by omega) (fun r55 => ?_)
      refine I_iadd (pc := 114) hx dL_acts_114 ?_
      refine I_ltv (fun v5_56 => ?_)
      refine E_istore (pc := 115) hx dL_acts_115 (Nat.le_of_ble_eq_true rfl) rfl ?_
      refine E_iload (pc := 117) hx 0 dL_acts_117 rfl ?_
      refine I_new6 (pc := 119) hx (gw_in 77 (by decide +kernel) (by decide +kernel)) dL_acts_119 (by omega) ⟨True.intro, True.intro, True.intro, Or.inl (hx.la hN h0 rfl), Or.inl (hx.ci h1 (Nat.le_of_ble_eq_true rfl)), True.intro, True.intro⟩ True.intro (fun ad58 N59 hA60 hx61 hd62 w57 => ?_)
      have hN := Nat.le_trans hN hA60.1.1
      have hG := hG.step hA60
      have hx := hx61
      refine E_astore (pc := 121) hx dL_acts_121 (Nat.le_of_ble_eq_true rfl) rfl ?_
      refine I_iconst (pc := 123) hx 0 dL_acts_123 ?_
      refine E_istore (pc := 124) hx dL_acts_124 (Nat.le_of_ble_eq_true rfl) rfl ?_
      refine I_iconst (pc := 126) hx 0 dL_acts_126 ?_
      refine E_istore (pc := 127) hx dL_acts_127 (Nat.le_of_ble_eq_true rfl) rfl ?_
      refine En.sub [6, 7, 8, 5, 4, 3, 2, 1, 0] rfl ?_
      exact l_L_acts_b129 F a0 h0 a1 h1 p2 hx hN hG F v3_4 v4_10 v5_56 ((w 999 0 + 90).toNat) hd62 0 0 w57
    refine E_aload_n (pc := 97) hx 3 dL_acts_97 rfl rfl ?_
    refine I_iconst (pc := 98) hx 1 dL_acts_98 ?_
    refine E_iload_n (pc := 99) hx 1 dL_acts_99 rfl rfl ?_
    refine E_iload (pc := 100) hx 0 dL_acts_100 rfl ?_
    refine I_cSBX  (pc := 102) hx [.ref a1, .int (oI 1), .int (oI v3_4), .int (oI v4_10)] [] (ev_L_isRefused F a1 h1 1 v3_4 v4_10 w) sm_L_isRefused g686 dL_acts_102 rfl rfl (Nat.le_of_ble_eq_true rfl) (Nat.le_of_ble_eq_true rfl) (by omega) (fun r63 w64 => ?_)
    exact G_zret (pc := 105) hx hG dL_acts_105 rfl (bI_nar _) rfl (by omega)
  refine E_case (fun hc65 => ?_) (fun hc65 => ?_)
  · refine E_tIn (pc := 43) hx 88 dL_acts_43 (by rw [oI_toInt hr12]; omega) (by rw [oI_toInt hr12]; omega) (by rw [hc65]; rfl) rfl ?_
    refine E_aload_n (pc := 88) hx 2 dL_acts_88 rfl rfl ?_
    refine I_getI (pc := 89) hx 21 21 rfl fc10 h0 (hx.la hN h0 rfl) rfl ⟨rfl, rfl, rfl⟩ g566 dL_acts_89 ?_
    refine I_bipush (pc := 92) hx 30 dL_acts_92 rfl ?_
    refine E_gd (fun hr66 => ?_)
    refine I_icmp_ne (pc := 94) hx 106 dL_acts_94 rfl ⟨hr66, (by decide)⟩ ?_ ?_
    · refine I_iconst (pc := 106) hx 1 dL_acts_106 ?_
      refine E_iload_n (pc := 107) hx 4 dL_acts_107 rfl rfl ?_
      refine I_bipush (pc := 108) hx 12 dL_acts_108 rfl ?_
      refine I_iconst (pc := 110) hx 3 dL_acts_110 ?_
      refine I_cSI  (pc := 111) hx [.int (oI p2), .int (oI 12), .int (oI 3)] [.int (oI 1)] (ev_L_bits F p2 12 3 w) sm_L_bits g651 dL_acts_111 rfl rfl (Nat.le_of_ble_eq_true rfl) (Nat.le_of_ble_eq_true rfl) (by omega) (fun r67 => ?_)
      refine I_iadd (pc := 114) hx dL_acts_114 ?_
      refine I_ltv (fun v5_68 => ?_)
      refine E_istore (pc := 115) hx dL_acts_115 (Nat.le_of_ble_eq_true rfl) rfl ?_
      refine E_iload (pc := 117) hx 0 dL_acts_117 rfl ?_
      refine I_new6 (pc := 119) hx (gw_in 77 (by decide +kernel) (by decide +kernel)) dL_acts_119 (by omega) ⟨True.intro, True.intro, True.intro, Or.inl (hx.la hN h0 rfl), Or.inl (hx.ci h1 (Nat.le_of_ble_eq_true rfl)), True.intro, True.intro⟩ True.intro (fun ad70 N71 hA72 hx73 hd74 w69 => ?_)
      have hN := Nat.le_trans hN hA72.1.1
      have hG := hG.step hA72
      have hx := hx73
      refine E_astore (pc := 121) hx dL_acts_121 (Nat.le_of_ble_eq_true rfl) rfl ?_
      refine I_iconst (pc := 123) hx 0 dL_acts_123 ?_
      refine E_istore (pc := 124) hx dL_acts_124 (Nat.le_of_ble_eq_true rfl) rfl ?_
      refine I_iconst (pc := 126) hx 0 dL_acts_126 ?_
      refine E_istore (pc := 127) hx dL_acts_127 (Nat.le_of_ble_eq_true rfl) rfl ?_
      refine En.sub [6, 7, 8, 5, 4, 3, 2, 1, 0] rfl ?_
      exact l_L_acts_b129 F a0 h0 a1 h1 p2 hx hN hG F v3_4 v4_10 v5_68 ((w 999 0 + 90).toNat) hd74 0 0 w69
    refine E_aload_n (pc := 97) hx 3 dL_acts_97 rfl rfl ?_
    refine I_iconst (pc := 98) hx 1 dL_acts_98 ?_
    refine E_iload_n (pc := 99) hx 1 dL_acts_99 rfl rfl ?_
    refine E_iload (pc := 100) hx 0 dL_acts_100 rfl ?_
    refine I_cSBX  (pc := 102) hx [.ref a1, .int (oI 1), .int (oI v3_4), .int (oI v4_10)] [] (ev_L_isRefused F a1 h1 1 v3_4 v4_10 w) sm_L_isRefused g686 dL_acts_102 rfl rfl (Nat.le_of_ble_eq_true rfl) (Nat.le_of_ble_eq_true rfl) (by omega) (fun r75 w76 => ?_)
    exact G_zret (pc := 105) hx hG dL_acts_105 rfl (bI_nar _) rfl (by omega)
  refine E_case (fun hc77 => ?_) (fun hc77 => ?_)
  · refine E_tIn (pc := 43) hx 88 dL_acts_43 (by rw [oI_toInt hr12]; omega) (by rw [oI_toInt hr12]; omega) (by rw [hc77]; rfl) rfl ?_
    refine E_aload_n (pc := 88) hx 2 dL_acts_88 rfl rfl ?_
    refine I_getI (pc := 89) hx 21 21 rfl fc10 h0 (hx.la hN h0 rfl) rfl ⟨rfl, rfl, rfl⟩ g566 dL_acts_89 ?_
    refine I_bipush (pc := 92) hx 30 dL_acts_92 rfl ?_
    refine E_gd (fun hr78 => ?_)
    refine I_icmp_ne (pc := 94) hx 106 dL_acts_94 rfl ⟨hr78, (by decide)⟩ ?_ ?_
    · refine I_iconst (pc := 106) hx 1 dL_acts_106 ?_
      refine E_iload_n (pc := 107) hx 4 dL_acts_107 rfl rfl ?_
      refine I_bipush (pc := 108) hx 12 dL_acts_108 rfl ?_
      refine I_iconst (pc := 110) hx 3 dL_acts_110 ?_
      refine I_cSI  (pc := 111) hx [.int (oI p2), .int (oI 12), .int (oI 3)] [.int (oI 1)] (ev_L_bits F p2 12 3 w) sm_L_bits g651 dL_acts_111 rfl rfl (Nat.le_of_ble_eq_true rfl) (Nat.le_of_ble_eq_true rfl) (by omega) (fun r79 => ?_)
      refine I_iadd (pc := 114) hx dL_acts_114 ?_
      refine I_ltv (fun v5_80 => ?_)
      refine E_istore (pc := 115) hx dL_acts_115 (Nat.le_of_ble_eq_true rfl) rfl ?_
      refine E_iload (pc := 117) hx 0 dL_acts_117 rfl ?_
      refine I_new6 (pc := 119) hx (gw_in 77 (by decide +kernel) (by decide +kernel)) dL_acts_119 (by omega) ⟨True.intro, True.intro, True.intro, Or.inl (hx.la hN h0 rfl), Or.inl (hx.ci h1 (Nat.le_of_ble_eq_true rfl)), True.intro, True.intro⟩ True.intro (fun ad82 N83 hA84 hx85 hd86 w81 => ?_)
      have hN := Nat.le_trans hN hA84.1.1
      have hG := hG.step hA84
      have hx := hx85
      refine E_astore (pc := 121) hx dL_acts_121 (Nat.le_of_ble_eq_true rfl) rfl ?_
      refine I_iconst (pc := 123) hx 0 dL_acts_123 ?_
      refine E_istore (pc := 124) hx dL_acts_124 (Nat.le_of_ble_eq_true rfl) rfl ?_
      refine I_iconst (pc := 126) hx 0 dL_acts_126 ?_
      refine E_istore (pc := 127) hx dL_acts_127 (Nat.le_of_ble_eq_true rfl) rfl ?_
      refine En.sub [6, 7, 8, 5, 4, 3, 2, 1, 0] rfl ?_
      exact l_L_acts_b129 F a0 h0 a1 h1 p2 hx hN hG F v3_4 v4_10 v5_80 ((w 999 0 + 90).toNat) hd86 0 0 w81
    refine E_aload_n (pc := 97) hx 3 dL_acts_97 rfl rfl ?_
    refine I_iconst (pc := 98) hx 1 dL_acts_98 ?_
    refine E_iload_n (pc := 99) hx 1 dL_acts_99 rfl rfl ?_
    refine E_iload (pc := 100) hx 0 dL_acts_100 rfl ?_
    refine I_cSBX  (pc := 102) hx [.ref a1, .int (oI 1), .int (oI v3_4), .int (oI v4_10)] [] (ev_L_isRefused F a1 h1 1 v3_4 v4_10 w) sm_L_isRefused g686 dL_acts_102 rfl rfl (Nat.le_of_ble_eq_true rfl) (Nat.le_of_ble_eq_true rfl) (by omega) (fun r87 w88 => ?_)
    exact G_zret (pc := 105) hx hG dL_acts_105 rfl (bI_nar _) rfl (by omega)
  refine E_case (fun hc89 => ?_) (fun hc89 => ?_)
  · refine E_tIn (pc := 43) hx 249 dL_acts_43 (by rw [oI_toInt hr12]; omega) (by rw [oI_toInt hr12]; omega) (by rw [hc89]; rfl) rfl ?_
    refine E_aload_n (pc := 249) hx 2 dL_acts_249 rfl rfl ?_
    refine E_getR (pc := 250) hx 6 fc10 h0 (hx.la hN h0 rfl) rfl ⟨rfl, rfl, rfl⟩ g551 dL_acts_250 ?_
    refine E_iload_n (pc := 253) hx 1 dL_acts_253 rfl rfl ?_
    refine I_aald4 (pc := 254) hx hN (kt_10_6 h0) dL_acts_254 (fun ht90 => ?_)
    refine E_iload (pc := 255) hx 0 dL_acts_255 rfl ?_
    refine I_iald7 (pc := 257) hx hN ht90 dL_acts_257 ?_
    refine E_gd (fun hr91 => ?_)
    refine I_if_ne (pc := 258) hx 270 dL_acts_258 rfl hr91 ?_ ?_
    · refine E_iload_n (pc := 270) hx 4 dL_acts_270 rfl rfl ?_
      refine I_bipush (pc := 271) hx 12 dL_acts_271 rfl ?_
      refine I_iconst (pc := 273) hx 2 dL_acts_273 ?_
      refine I_cSI  (pc := 274) hx [.int (oI p2), .int (oI 12), .int (oI 2)] [] (ev_L_bits F p2 12 2 w) sm_L_bits g651 dL_acts_274 rfl rfl (Nat.le_of_ble_eq_true rfl) (Nat.le_of_ble_eq_true rfl) (by omega) (fun r92 => ?_)
      refine E_gd (fun hr93 => ?_)
      refine I_if_le (pc := 277) hx 282 dL_acts_277 rfl hr93 ?_ ?_
      · refine E_aload_n (pc := 282) hx 2 dL_acts_282 rfl rfl ?_
        refine E_getR (pc := 283) hx 6 fc10 h0 (hx.la hN h0 rfl) rfl ⟨rfl, rfl, rfl⟩ g551 dL_acts_283 ?_
        refine E_iload_n (pc := 286) hx 1 dL_acts_286 rfl rfl ?_
        refine I_aald4 (pc := 287) hx hN (kt_10_6 h0) dL_acts_287 (fun ht94 => ?_)
        refine E_iload (pc := 288) hx 0 dL_acts_288 rfl ?_
        refine I_iconst (pc := 290) hx 0 dL_acts_290 ?_
        refine I_iast7 (pc := 291) hx hN ht94 dL_acts_291 (fun w95 => ?_)
        refine E_aload_n (pc := 292) hx 2 dL_acts_292 rfl rfl ?_
        refine E_getR (pc := 293) hx 6 fc10 h0 (hx.la hN h0 rfl) rfl ⟨rfl, rfl, rfl⟩ g551 dL_acts_293 ?_
        refine E_iload (pc := 296) hx 0 dL_acts_296 rfl ?_
        refine I_aald4 (pc := 298) hx hN (kt_10_6 h0) dL_acts_298 (fun ht96 => ?_)
        refine E_iload_n (pc := 299) hx 1 dL_acts_299 rfl rfl ?_
        refine I_iconst (pc := 300) hx 0 dL_acts_300 ?_
        refine I_iast7 (pc := 301) hx hN ht96 dL_acts_301 (fun w97 => ?_)
        refine E_aload_n (pc := 302) hx 2 dL_acts_302 rfl rfl ?_
        refine I_cVV  (pc := 303) hx [] [] (ev_L_reckon F a0 h0 w97) vm_L_reckon fc10 h0 (hx.la hN h0 rfl) g677 dL_acts_303 rfl rfl (Nat.le_of_ble_eq_true rfl) (Nat.le_of_ble_eq_true rfl) (by omega) (fun w98 => ?_)
        refine E_aload_n (pc := 306) hx 3 dL_acts_306 rfl rfl ?_
        refine E_iload_n (pc := 307) hx 1 dL_acts_307 rfl rfl ?_
        refine E_iload (pc := 308) hx 0 dL_acts_308 rfl ?_
        refine I_cVT  (pc := 310) hx [.int (oI v3_4), .int (oI v4_10)] [] (ev_X10_cut F a1 h1 v3_4 v4_10 w98) vm_X10_cut fc8 h1 (hx.ci h1 (Nat.le_of_ble_eq_true rfl)) g690 dL_acts_310 rfl rfl (Nat.le_of_ble_eq_true rfl) (Nat.le_of_ble_eq_true rfl) (by omega) (fun r99 w100 => ?_)
        refine E_gd (fun hr101 => ?_)
        refine I_if_lt (pc := 313) hx 320 dL_acts_313 rfl hr101 ?_ ?_
        · refine I_iconst (pc := 320) hx 0 dL_acts_320 ?_
          exact G_zret (pc := 321) hx hG dL_acts_321 rfl rfl rfl (by omega)
        refine I_iconst (pc := 316) hx 1 dL_acts_316 ?_
        refine E_goto (pc := 317) hx 321 dL_acts_317 rfl ?_
        exact G_zret (pc := 321) hx hG dL_acts_321 rfl rfl rfl (by omega)
      refine I_iconst (pc := 280) hx 1 dL_acts_280 ?_
      exact G_zret (pc := 281) hx hG dL_acts_281 rfl rfl rfl (by omega)
    refine E_aload_n (pc := 261) hx 3 dL_acts_261 rfl rfl ?_
    refine I_iconst (pc := 262) hx 0 dL_acts_262 ?_
    refine E_iload_n (pc := 263) hx 1 dL_acts_263 rfl rfl ?_
    refine E_iload (pc := 264) hx 0 dL_acts_264 rfl ?_
    refine I_cSBX  (pc := 266) hx [.ref a1, .int (oI 0), .int (oI v3_4), .int (oI v4_10)] [] (ev_L_isRefused F a1 h1 0 v3_4 v4_10 w) sm_L_isRefused g686 dL_acts_266 rfl rfl (Nat.le_of_ble_eq_true rfl) (Nat.le_of_ble_eq_true rfl) (by omega) (fun r102 w103 => ?_)
    exact G_zret (pc := 269) hx hG dL_acts_269 rfl (bI_nar _) rfl (by omega)
  refine E_case (fun hc104 => ?_) (fun hc104 => ?_)
  · refine E_tIn (pc := 43) hx 322 dL_acts_43 (by rw [oI_toInt hr12]; omega) (by rw [oI_toInt hr12]; omega) (by rw [hc104]; rfl) rfl ?_
    refine E_aload_n (pc := 322) hx 2 dL_acts_322 rfl rfl ?_
    refine I_getI (pc := 323) hx 23 23 rfl fc10 h0 (hx.la hN h0 rfl) rfl ⟨rfl, rfl, rfl⟩ g568 dL_acts_323 ?_
    refine I_ltv (fun v5_105 => ?_)
    refine E_istore (pc := 326) hx dL_acts_326 (Nat.le_of_ble_eq_true rfl) rfl ?_
    refine E_aload_n (pc := 328) hx 3 dL_acts_328 rfl rfl ?_
    refine E_iload_n (pc := 329) hx 5 dL_acts_329 rfl rfl ?_
    refine I_bipush (pc := 330) hx 12 dL_acts_330 rfl ?_
    refine I_iconst (pc := 332) hx 4 dL_acts_332 ?_
    refine I_cSI  (pc := 333) hx [.int (oI p2), .int (oI 12), .int (oI 4)] [.ref a0] (ev_L_bits F p2 12 4 w) sm_L_bits g651 dL_acts_333 rfl rfl (Nat.le_of_ble_eq_true rfl) (Nat.le_of_ble_eq_true rfl) (by omega) (fun r106 => ?_)
    refine I_bipush (pc := 336) hx 10 dL_acts_336 rfl ?_
    refine E_gd (fun hr107 => ?_)
    refine I_irem (pc := 338) hx dL_acts_338 ⟨hr107, (by decide), (by decide)⟩ ?_
    refine I_put (pc := 339) hx 23 23 rfl .int tyL fc10 tyL_ok h0 (hx.la hN h0 rfl) rfl ⟨rfl, rfl, rfl, rfl, pfd_I⟩ rfl rfl g568 dL_acts_339 (fun w108 => ?_)
    refine E_aload_n (pc := 342) hx 4 dL_acts_342 rfl rfl ?_
    refine I_bipush (pc := 343) hx 8 dL_acts_343 rfl ?_
    refine E_aload_n (pc := 345) hx 3 dL_acts_345 rfl rfl ?_
    refine I_getI (pc := 346) hx 23 23 rfl fc10 h0 (hx.la hN h0 rfl) rfl ⟨rfl, rfl, rfl⟩ g568 dL_acts_346 ?_
    refine I_cVT  (pc := 349) hx [.int (oI 8), .int (oI (w108 a0 23))] [] (ev_X10_set F a1 h1 8 (w108 a0 23) w108) vm_X10_set fc8 h1 (hx.ci h1 (Nat.le_of_ble_eq_true rfl)) g861 dL_acts_349 rfl rfl (Nat.le_of_ble_eq_true rfl) (Nat.le_of_ble_eq_true rfl) (by omega) (fun r109 w110 => ?_)
    refine E_iload (pc := 352) hx 0 dL_acts_352 rfl ?_
    refine E_gd (fun hr111 => ?_)
    refine I_icmp_ne (pc := 354) hx 361 dL_acts_354 rfl ⟨hr111.1, hr111.2⟩ ?_ ?_
    · refine I_iconst (pc := 361) hx 0 dL_acts_361 ?_
      exact G_zret (pc := 362) hx hG dL_acts_362 rfl rfl rfl (by omega)
    refine I_iconst (pc := 357) hx 1 dL_acts_357 ?_
    refine E_goto (pc := 358) hx 362 dL_acts_358 rfl ?_
    exact G_zret (pc := 362) hx hG dL_acts_362 rfl rfl rfl (by omega)
  refine E_case (fun hc112 => ?_) (fun hc112 => ?_)
  · refine E_tIn (pc := 43) hx 363 dL_acts_43 (by rw [oI_toInt hr12]; omega) (by rw [oI_toInt hr12]; omega) (by rw [hc112]; rfl) rfl ?_
    refine I_iconst (pc := 363) hx 1 dL_acts_363 ?_
    refine E_iload_n (pc := 364) hx 4 dL_acts_364 rfl rfl ?_
    refine I_bipush (pc := 365) hx 12 dL_acts_365 rfl ?_
    refine I_iconst (pc := 367) hx 4 dL_acts_367 ?_
    refine I_cSI  (pc := 368) hx [.int (oI p2), .int (oI 12), .int (oI 4)] [.int (oI 1)] (ev_L_bits F p2 12 4 w) sm_L_bits g651 dL_acts_368 rfl rfl (Nat.le_of_ble_eq_true rfl) (Nat.le_of_ble_eq_true rfl) (by omega) (fun r113 => ?_)
    refine I_iadd (pc := 371) hx dL_acts_371 ?_
    refine I_ltv (fun v5_114 => ?_)
    refine E_istore (pc := 372) hx dL_acts_372 (Nat.le_of_ble_eq_true rfl) rfl ?_
    refine E_aload_n (pc := 374) hx 3 dL_acts_374 rfl rfl ?_
    refine E_getR (pc := 375) hx 3 fc10 h0 (hx.la hN h0 rfl) rfl ⟨rfl, rfl, rfl⟩ g548 dL_acts_375 ?_
    refine E_iload_n (pc := 378) hx 2 dL_acts_378 rfl rfl ?_
    refine E_dup2 (pc := 379) hx dL_acts_379 rfl rfl ?_
    refine I_iald7 (pc := 380) hx hN (kt_10_3 h0) dL_acts_380 ?_
    refine E_iload (pc := 381) hx 0 dL_acts_381 rfl ?_
    refine I_iadd (pc := 383) hx dL_acts_383 ?_
    refine I_iast7 (pc := 384) hx hN (kt_10_3 h0) dL_acts_384 (fun w115 => ?_)
    refine E_aload_n (pc := 385) hx 4 dL_acts_385 rfl rfl ?_
    refine E_iload_n (pc := 386) hx 2 dL_acts_386 rfl rfl ?_
    refine E_iload (pc := 387) hx 0 dL_acts_387 rfl ?_
    refine I_cVT  (pc := 389) hx [.int (oI v3_4), .int (oI v5_114)] [] (ev_X10_give F a1 h1 v3_4 v5_114 w115) vm_X10_give fc8 h1 (hx.ci h1 (Nat.le_of_ble_eq_true rfl)) g872 dL_acts_389 rfl rfl (Nat.le_of_ble_eq_true rfl) (Nat.le_of_ble_eq_true rfl) (by omega) (fun r116 w117 => ?_)
    refine E_aload_n (pc := 392) hx 3 dL_acts_392 rfl rfl ?_
    refine E_getR (pc := 393) hx 3 fc10 h0 (hx.la hN h0 rfl) rfl ⟨rfl, rfl, rfl⟩ g548 dL_acts_393 ?_
    refine E_iload_n (pc := 396) hx 2 dL_acts_396 rfl rfl ?_
    refine I_iald7 (pc := 397) hx hN (kt_10_3 h0) dL_acts_397 ?_
    refine E_gd (fun hr118 => ?_)
    refine I_icmp_ne (pc := 398) hx 405 dL_acts_398 rfl ⟨hr118.1, hr118.2⟩ ?_ ?_
    · refine I_iconst (pc := 405) hx 0 dL_acts_405 ?_
      exact G_zret (pc := 406) hx hG dL_acts_406 rfl rfl rfl (by omega)
    refine I_iconst (pc := 401) hx 1 dL_acts_401 ?_
    refine E_goto (pc := 402) hx 406 dL_acts_402 rfl ?_
    exact G_zret (pc := 406) hx hG dL_acts_406 rfl rfl rfl (by omega)
  refine E_tOut (pc := 43) hx 407 dL_acts_43 (swI_out hr12 (by omega)) rfl ?_
  refine I_iconst (pc := 407) hx 1 dL_acts_407 ?_
  refine E_iload_n (pc := 408) hx 4 dL_acts_408 rfl rfl ?_
  refine I_bipush (pc := 409) hx 12 dL_acts_409 rfl ?_
  refine I_iconst (pc := 411) hx 3 dL_acts_411 ?_
  refine I_cSI  (pc := 412) hx [.int (oI p2), .int (oI 12), .int (oI 3)] [.int (oI 1)] (ev_L_bits F p2 12 3 w) sm_L_bits g651 dL_acts_412 rfl rfl (Nat.le_of_ble_eq_true rfl) (Nat.le_of_ble_eq_true rfl) (by omega) (fun r119 => ?_)
  refine I_iadd (pc := 415) hx dL_acts_415 ?_
  refine I_ltv (fun v5_120 => ?_)
  refine E_istore (pc := 416) hx dL_acts_416 (Nat.le_of_ble_eq_true rfl) rfl ?_
  refine E_aload_n (pc := 418) hx 3 dL_acts_418 rfl rfl ?_
  refine I_getI (pc := 419) hx 28 28 rfl fc10 h0 (hx.la hN h0 rfl) rfl ⟨rfl, rfl, rfl⟩ g573 dL_acts_419 ?_
  refine I_ltv (fun v6_121 => ?_)
  refine E_istore (pc := 422) hx dL_acts_422 (Nat.le_of_ble_eq_true rfl) rfl ?_
  refine I_iconst (pc := 424) hx 0 dL_acts_424 ?_
  refine E_istore (pc := 425) hx dL_acts_425 (Nat.le_of_ble_eq_true rfl) rfl ?_
  refine E_wid (j2 := 130 * (0 : Int).toNat) (by omega) ?_
  refine En.sub [5, 6, 2, 1, 0] rfl ?_
  exact l_L_acts_b427 F a0 h0 a1 h1 p2 hx hN hG F v5_120 v6_121 0 w
set_option maxHeartbeats 4000000 in
set_option maxRecDepth 100000 in
theorem l_L_isLike_b404_b {x : Cx} (F : Nat) (a0 : Nat) (h0 : shK a0 = 10 + 10) (a1 : Nat) (h1 : shK a1 = 10 + 8)  (hx : CxOK x RL cL_isLike 4 8 2100 (some .boolean)) (hN : 241 ≤ xN x) (k270 : Int → aI → Option (Bool × aI)) (hk270 : ∀ (v2 : Int) (w : aI), En x jvBW 2100 (230 + 60 * v2.toNat) 270 [(0, .ref a0), (1, .ref a1), (2, .int (oI v2))] [] (cm w) (k270 v2 w)) (k404 : Int → Int → aI → Option (Bool × aI)) (hk404 : ∀ (v2 : Int) (v3 : Int) (w : aI), En x jvBW 2100 (230 + 60 * v2.toNat + 20 + 4 * v3.toNat) 404 [(0, .ref a0), (1, .ref a1), (2, .int (oI v2)), (3, .int (oI v3))] [] (cm w) (k404 v2 v3 w)) (v2 : Int) (v3 : Int) (w : aI) : En x jvBW 2100 (230 + 60 * v2.toNat + 20 + 4 * v3.toNat) 404 [(0, .ref a0), (1, .ref a1), (2, .int (oI v2)), (3, .int (oI v3))] [] (cm w) (f_L_isLike_b404_b F a0 a1  k270 k404 v2 v3 w) := by
  unfold f_L_isLike_b404_b
  refine E_gd (fun hj => ?_)
  refine E_iload_n (pc := 404) hx 3 dL_isLike_404 rfl rfl ?_
  refine E_aload_n (pc := 405) hx 0 dL_isLike_405 rfl rfl ?_
  refine E_getR (pc := 406) hx 18 fc10 h0 (hx.la hN h0 rfl) rfl ⟨rfl, rfl, rfl⟩ g563 dL_isLike_406 ?_
  refine E_iload_n (pc := 409) hx 2 dL_isLike_409 rfl rfl ?_
  refine I_aald5 (pc := 410) hx hN (kt_10_18 h0) dL_isLike_410 (fun hd57 => ?_)
  refine I_alen6 (pc := 411) hx hd57 dL_isLike_411 (fun hr58 => ?_)
  refine E_gd (fun hr59 => ?_)
  refine I_icmp_ge (pc := 412) hx 459 dL_isLike_412 rfl ⟨hr59, hr58⟩ ?_ ?_
  · refine I_iinc (pc := 459) hx 1 2 dL_isLike_459 rfl (Nat.le_of_ble_eq_true rfl) rfl ?_
    refine E_goto (pc := 462) hx 270 dL_isLike_462 rfl ?_
    refine E_wid (j2 := 230 + 60 * ((v2 + 1) : Int).toNat) (by omega) ?_
    refine En.sub [1, 2, 0] rfl ?_
    exact hk270 (v2 + 1) w
  refine E_aload_n (pc := 415) hx 1 dL_isLike_415 rfl rfl ?_
  refine E_iload_n (pc := 416) hx 2 dL_isLike_416 rfl rfl ?_
  refine E_iload_n (pc := 417) hx 3 dL_isLike_417 rfl rfl ?_
  refine I_iconst (pc := 418) hx 1 dL_isLike_418 ?_
  refine I_cVT  (pc := 419) hx [.int (oI v2), .int (oI v3), .int (oI 1)] [] (ev_X10_note F a1 h1 v2 v3 1 w) vm_X10_note fc8 h1 (hx.ci h1 (Nat.le_of_ble_eq_true rfl)) g1076 dL_isLike_419 rfl rfl (Nat.le_of_ble_eq_true rfl) (Nat.le_of_ble_eq_true rfl) (by omega) (fun r60 w61 => ?_)
  refine E_aload_n (pc := 422) hx 0 dL_isLike_422 rfl rfl ?_
  refine E_getR (pc := 423) hx 19 fc10 h0 (hx.la hN h0 rfl) rfl ⟨rfl, rfl, rfl⟩ g564 dL_isLike_423 ?_
  refine E_iload_n (pc := 426) hx 2 dL_isLike_426 rfl rfl ?_
  refine I_aald5 (pc := 427) hx hN (kt_10_19 h0) dL_isLike_427 (fun hd62 => ?_)
  refine E_iload_n (pc := 428) hx 3 dL_isLike_428 rfl rfl ?_
  refine I_iald6 (pc := 429) hx hd62 dL_isLike_429 ?_
  refine E_gd (fun hr63 => ?_)
  refine I_icmp_ne (pc := 430) hx 451 dL_isLike_430 rfl ⟨hr63.1, hr63.2⟩ ?_ ?_
  · refine I_iconst (pc := 451) hx 0 dL_isLike_451 ?_
    exact E_zret (pc := 452) hx dL_isLike_452 rfl rfl rfl (by omega)
  refine E_aload_n (pc := 433) hx 1 dL_isLike_433 rfl rfl ?_
  refine E_iload_n (pc := 434) hx 2 dL_isLike_434 rfl rfl ?_
  refine E_iload_n (pc := 435) hx 3 dL_isLike_435 rfl rfl ?_
  refine I_iconst (pc := 436) hx 0 dL_isLike_436 ?_
  refine I_cVT  (pc := 437) hx [.int (oI v2), .int (oI v3), .int (oI 0)] [] (ev_X10_note F a1 h1 v2 v3 0 w61) vm_X10_note fc8 h1 (hx.ci h1 (Nat.le_of_ble_eq_true rfl)) g1076 dL_isLike_437 rfl rfl (Nat.le_of_ble_eq_true rfl) (Nat.le_of_ble_eq_true rfl) (by omega) (fun r64 w65 => ?_)
  refine E_aload_n (pc := 440) hx 0 dL_isLike_440 rfl rfl ?_
  refine E_getR (pc := 441) hx 18 fc10 h0 (hx.la hN h0 rfl) rfl ⟨rfl, rfl, rfl⟩ g563 dL_isLike_441 ?_
  refine E_iload_n (pc := 444) hx 2 dL_isLike_444 rfl rfl ?_
  refine I_aald5 (pc := 445) hx hN (kt_10_18 h0) dL_isLike_445 (fun hd66 => ?_)
  refine E_iload_n (pc := 446) hx 3 dL_isLike_446 rfl rfl ?_
  refine I_iald6 (pc := 447) hx hd66 dL_isLike_447 ?_
  refine E_gd (fun hr67 => ?_)
  refine I_icmp_eq (pc := 448) hx 453 dL_isLike_448 rfl ⟨hr67.1, hr67.2⟩ ?_ ?_
  · refine I_iinc (pc := 453) hx 1 3 dL_isLike_453 rfl (Nat.le_of_ble_eq_true rfl) rfl ?_
    refine E_goto (pc := 456) hx 404 dL_isLike_456 rfl ?_
    refine E_wid (j2 := 230 + 60 * (v2 : Int).toNat + 20 + 4 * ((v3 + 1) : Int).toNat) (by omega) ?_
    refine En.sub [1, 2, 3, 0] rfl ?_
    exact hk404 v2 (v3 + 1) w65
  refine I_iconst (pc := 451) hx 0 dL_isLike_451 ?_
  exact E_zret (pc := 452) hx dL_isLike_452 rfl rfl rfl (by omega)
theorem l_L_isLike_b404 {x : Cx} (F : Nat) (a0 : Nat) (h0 : shK a0 = 10 + 10) (a1 : Nat) (h1 : shK a1 = 10 + 8)  (hx : CxOK x RL cL_isLike 4 8 2100 (some .boolean)) (hN : 241 ≤ xN x) (k270 : Int → aI → Option (Bool × aI)) (hk270 : ∀ (v2 : Int) (w : aI), En x jvBW 2100 (230 + 60 * v2.toNat) 270 [(0, .ref a0), (1, .ref a1), (2, .int (oI v2))] [] (cm w) (k270 v2 w)) : ∀ (n : Nat) (v2 : Int) (v3 : Int) (w : aI), En x jvBW 2100 (230 + 60 * v2.toNat + 20 + 4 * v3.toNat) 404 [(0, .ref a0), (1, .ref a1), (2, .int (oI v2)), (3, .int (oI v3))] [] (cm w) (f_L_isLike_b404 F a0 a1  k270 n v2 v3 w) := by
  intro n
  induction n with
  | zero => intro v2 v3 w; exact E_none
  | succ n ih => intro v2 v3 w; exact l_L_isLike_b404_b F a0 h0 a1 h1  hx hN k270 hk270 _ ih v2 v3 w
set_option maxHeartbeats 4000000 in
set_option maxRecDepth 100000 in
theorem l_L_isLike_b349 {x : Cx} (F : Nat) (a0 : Nat) (h0 : shK a0 = 10 + 10) (a1 : Nat) (h1 : shK a1 = 10 + 8)  (hx : CxOK x RL cL_isLike 4 8 2100 (some .boolean)) (hN : 241 ≤ xN x) (k270 : Int → aI → Option (Bool × aI)) (hk270 : ∀ (v2 : Int) (w : aI), En x jvBW 2100 (230 + 60 * v2.toNat) 270 [(0, .ref a0), (1, .ref a1), (2, .int (oI v2))] [] (cm w) (k270 v2 w))  (v2 : Int) (z0 : Int) (z1 : Int) (w : aI) : En x jvBW 2100 (230 + 60 * v2.toNat + 8) 349 [(0, .ref a0), (1, .ref a1), (2, .int (oI v2))] [.int (oI z0), .int (oI z1)] (cm w) (f_L_isLike_b349 F a0 a1  k270  v2 z0 z1 w) := by
  unfold f_L_isLike_b349
  refine E_gd (fun hj => ?_)
  refine E_gd (fun hr47 => ?_)
  refine I_icmp_ne (pc := 349) hx 400 dL_isLike_349 rfl ⟨hr47.1, hr47.2⟩ ?_ ?_
  · refine I_iconst (pc := 400) hx 0 dL_isLike_400 ?_
    exact E_zret (pc := 401) hx dL_isLike_401 rfl rfl rfl (by omega)
  refine E_aload_n (pc := 352) hx 1 dL_isLike_352 rfl rfl ?_
  refine E_iload_n (pc := 353) hx 2 dL_isLike_353 rfl rfl ?_
  refine I_bipush (pc := 354) hx 6 dL_isLike_354 rfl ?_
  refine I_cVT  (pc := 356) hx [.int (oI v2), .int (oI 6)] [] (ev_X10_tune F a1 h1 v2 6 w) vm_X10_tune fc8 h1 (hx.ci h1 (Nat.le_of_ble_eq_true rfl)) g1058 dL_isLike_356 rfl rfl (Nat.le_of_ble_eq_true rfl) (Nat.le_of_ble_eq_true rfl) (by omega) (fun r48 w49 => ?_)
  refine E_aload_n (pc := 359) hx 0 dL_isLike_359 rfl rfl ?_
  refine E_getR (pc := 360) hx 17 fc10 h0 (hx.la hN h0 rfl) rfl ⟨rfl, rfl, rfl⟩ g562 dL_isLike_360 ?_
  refine E_iload_n (pc := 363) hx 2 dL_isLike_363 rfl rfl ?_
  refine I_iald7 (pc := 364) hx hN (kt_10_17 h0) dL_isLike_364 ?_
  refine E_gd (fun hr50 => ?_)
  refine I_icmp_ne (pc := 365) hx 400 dL_isLike_365 rfl ⟨hr50.1, hr50.2⟩ ?_ ?_
  · refine I_iconst (pc := 400) hx 0 dL_isLike_400 ?_
    exact E_zret (pc := 401) hx dL_isLike_401 rfl rfl rfl (by omega)
  refine E_aload_n (pc := 368) hx 1 dL_isLike_368 rfl rfl ?_
  refine E_iload_n (pc := 369) hx 2 dL_isLike_369 rfl rfl ?_
  refine I_bipush (pc := 370) hx 8 dL_isLike_370 rfl ?_
  refine I_cVT  (pc := 372) hx [.int (oI v2), .int (oI 8)] [] (ev_X10_tune F a1 h1 v2 8 w49) vm_X10_tune fc8 h1 (hx.ci h1 (Nat.le_of_ble_eq_true rfl)) g1058 dL_isLike_372 rfl rfl (Nat.le_of_ble_eq_true rfl) (Nat.le_of_ble_eq_true rfl) (by omega) (fun r51 w52 => ?_)
  refine E_aload_n (pc := 375) hx 0 dL_isLike_375 rfl rfl ?_
  refine E_getR (pc := 376) hx 14 fc10 h0 (hx.la hN h0 rfl) rfl ⟨rfl, rfl, rfl⟩ g559 dL_isLike_376 ?_
  refine E_iload_n (pc := 379) hx 2 dL_isLike_379 rfl rfl ?_
  refine I_iald7 (pc := 380) hx hN (kt_10_14 h0) dL_isLike_380 ?_
  refine E_gd (fun hr53 => ?_)
  refine I_icmp_ne (pc := 381) hx 400 dL_isLike_381 rfl ⟨hr53.1, hr53.2⟩ ?_ ?_
  · refine I_iconst (pc := 400) hx 0 dL_isLike_400 ?_
    exact E_zret (pc := 401) hx dL_isLike_401 rfl rfl rfl (by omega)
  refine E_aload_n (pc := 384) hx 1 dL_isLike_384 rfl rfl ?_
  refine E_iload_n (pc := 385) hx 2 dL_isLike_385 rfl rfl ?_
  refine I_bipush (pc := 386) hx 11 dL_isLike_386 rfl ?_
  refine I_cVT  (pc := 388) hx [.int (oI v2), .int (oI 11)] [] (ev_X10_tune F a1 h1 v2 11 w52) vm_X10_tune fc8 h1 (hx.ci h1 (Nat.le_of_ble_eq_true rfl)) g1058 dL_isLike_388 rfl rfl (Nat.le_of_ble_eq_true rfl) (Nat.le_of_ble_eq_true rfl) (by omega) (fun r54 w55 => ?_)
  refine E_aload_n (pc := 391) hx 0 dL_isLike_391 rfl rfl ?_
  refine E_getR (pc := 392) hx 15 fc10 h0 (hx.la hN h0 rfl) rfl ⟨rfl, rfl, rfl⟩ g560 dL_isLike_392 ?_
  refine E_iload_n (pc := 395) hx 2 dL_isLike_395 rfl rfl ?_
  refine I_iald7 (pc := 396) hx hN (kt_10_15 h0) dL_isLike_396 ?_
  refine E_gd (fun hr56 => ?_)
  refine I_icmp_eq (pc := 397) hx 402 dL_isLike_397 rfl ⟨hr56.1, hr56.2⟩ ?_ ?_
  · refine I_iconst (pc := 402) hx 0 dL_isLike_402 ?_
    refine E_istore_n (pc := 403) hx dL_isLike_403 rfl (Nat.le_of_ble_eq_true rfl) rfl ?_
    refine E_wid (j2 := 230 + 60 * (v2 : Int).toNat + 20 + 4 * (0 : Int).toNat) (by omega) ?_
    refine En.sub [1, 2, 3, 0] rfl ?_
    exact l_L_isLike_b404 F a0 h0 a1 h1 hx hN k270 hk270 F v2 0 w55
  refine I_iconst (pc := 400) hx 0 dL_isLike_400 ?_
  exact E_zret (pc := 401) hx dL_isLike_401 rfl rfl rfl (by omega)
set_option maxHeartbeats 4000000 in
set_option maxRecDepth 100000 in
theorem l_L_isLike_b270_b {x : Cx} (F : Nat) (a0 : Nat) (h0 : shK a0 = 10 + 10) (a1 : Nat) (h1 : shK a1 = 10 + 8)  (hx : CxOK x RL cL_isLike 4 8 2100 (some .boolean)) (hN : 241 ≤ xN x)  (k270 : Int → aI → Option (Bool × aI)) (hk270 : ∀ (v2 : Int) (w : aI), En x jvBW 2100 (230 + 60 * v2.toNat) 270 [(0, .ref a0), (1, .ref a1), (2, .int (oI v2))] [] (cm w) (k270 v2 w)) (v2 : Int) (w : aI) : En x jvBW 2100 (230 + 60 * v2.toNat) 270 [(0, .ref a0), (1, .ref a1), (2, .int (oI v2))] [] (cm w) (f_L_isLike_b270_b F a0 a1   k270 v2 w) := by
  unfold f_L_isLike_b270_b
  refine E_gd (fun hj => ?_)
  refine E_iload_n (pc := 270) hx 2 dL_isLike_270 rfl rfl ?_
  refine E_aload_n (pc := 271) hx 0 dL_isLike_271 rfl rfl ?_
  refine I_getI (pc := 272) hx 21 21 rfl fc10 h0 (hx.la hN h0 rfl) rfl ⟨rfl, rfl, rfl⟩ g566 dL_isLike_272 ?_
  refine E_gd (fun hr32 => ?_)
  refine I_icmp_ge (pc := 275) hx 465 dL_isLike_275 rfl ⟨hr32.1, hr32.2⟩ ?_ ?_
  · refine E_aload_n (pc := 465) hx 1 dL_isLike_465 rfl rfl ?_
    refine I_cVBW  (pc := 466) hx [] [] (ev_X10_agree F a1 h1 w) vm_X10_agree fc8 h1 (hx.ci h1 (Nat.le_of_ble_eq_true rfl)) g1081 dL_isLike_466 rfl rfl (Nat.le_of_ble_eq_true rfl) (Nat.le_of_ble_eq_true rfl) (by omega) (fun r33 w34 => ?_)
    exact E_zret (pc := 469) hx dL_isLike_469 rfl (bI_nar _) rfl (by omega)
  refine E_aload_n (pc := 278) hx 1 dL_isLike_278 rfl rfl ?_
  refine E_iload_n (pc := 279) hx 2 dL_isLike_279 rfl rfl ?_
  refine I_iconst (pc := 280) hx 0 dL_isLike_280 ?_
  refine I_cVT  (pc := 281) hx [.int (oI v2), .int (oI 0)] [] (ev_X10_tune F a1 h1 v2 0 w) vm_X10_tune fc8 h1 (hx.ci h1 (Nat.le_of_ble_eq_true rfl)) g1058 dL_isLike_281 rfl rfl (Nat.le_of_ble_eq_true rfl) (Nat.le_of_ble_eq_true rfl) (by omega) (fun r35 w36 => ?_)
  refine E_aload_n (pc := 284) hx 0 dL_isLike_284 rfl rfl ?_
  refine E_getR (pc := 285) hx 8 fc10 h0 (hx.la hN h0 rfl) rfl ⟨rfl, rfl, rfl⟩ g553 dL_isLike_285 ?_
  refine E_iload_n (pc := 288) hx 2 dL_isLike_288 rfl rfl ?_
  refine I_iald7 (pc := 289) hx hN (kt_10_8 h0) dL_isLike_289 ?_
  refine E_gd (fun hr37 => ?_)
  refine I_icmp_ne (pc := 290) hx 400 dL_isLike_290 rfl ⟨hr37.1, hr37.2⟩ ?_ ?_
  · refine I_iconst (pc := 400) hx 0 dL_isLike_400 ?_
    exact E_zret (pc := 401) hx dL_isLike_401 rfl rfl rfl (by omega)
  refine E_aload_n (pc := 293) hx 1 dL_isLike_293 rfl rfl ?_
  refine E_iload_n (pc := 294) hx 2 dL_isLike_294 rfl rfl ?_
  refine I_iconst (pc := 295) hx 3 dL_isLike_295 ?_
  refine I_cVT  (pc := 296) hx [.int (oI v2), .int (oI 3)] [] (ev_X10_tune F a1 h1 v2 3 w36) vm_X10_tune fc8 h1 (hx.ci h1 (Nat.le_of_ble_eq_true rfl)) g1058 dL_isLike_296 rfl rfl (Nat.le_of_ble_eq_true rfl) (Nat.le_of_ble_eq_true rfl) (by omega) (fun r38 w39 => ?_)
  refine E_aload_n (pc := 299) hx 0 dL_isLike_299 rfl rfl ?_
  refine E_getR (pc := 300) hx 10 fc10 h0 (hx.la hN h0 rfl) rfl ⟨rfl, rfl, rfl⟩ g555 dL_isLike_300 ?_
  refine E_iload_n (pc := 303) hx 2 dL_isLike_303 rfl rfl ?_
  refine I_iald7 (pc := 304) hx hN (kt_10_10 h0) dL_isLike_304 ?_
  refine E_gd (fun hr40 => ?_)
  refine I_icmp_ne (pc := 305) hx 400 dL_isLike_305 rfl ⟨hr40.1, hr40.2⟩ ?_ ?_
  · refine I_iconst (pc := 400) hx 0 dL_isLike_400 ?_
    exact E_zret (pc := 401) hx dL_isLike_401 rfl rfl rfl (by omega)
  refine E_aload_n (pc := 308) hx 1 dL_isLike_308 rfl rfl ?_
  refine E_iload_n (pc := 309) hx 2 dL_isLike_309 rfl rfl ?_
  refine I_iconst (pc := 310) hx 4 dL_isLike_310 ?_
  refine I_cVT  (pc := 311) hx [.int (oI v2), .int (oI 4)] [] (ev_X10_tune F a1 h1 v2 4 w39) vm_X10_tune fc8 h1 (hx.ci h1 (Nat.le_of_ble_eq_true rfl)) g1058 dL_isLike_311 rfl rfl (Nat.le_of_ble_eq_true rfl) (Nat.le_of_ble_eq_true rfl) (by omega) (fun r41 w42 => ?_)
  refine E_aload_n (pc := 314) hx 0 dL_isLike_314 rfl rfl ?_
  refine E_getR (pc := 315) hx 11 fc10 h0 (hx.la hN h0 rfl) rfl ⟨rfl, rfl, rfl⟩ g556 dL_isLike_315 ?_
  refine E_iload_n (pc := 318) hx 2 dL_isLike_318 rfl rfl ?_
  refine I_iald7 (pc := 319) hx hN (kt_10_11 h0) dL_isLike_319 ?_
  refine E_gd (fun hr43 => ?_)
  refine I_icmp_ne (pc := 320) hx 400 dL_isLike_320 rfl ⟨hr43.1, hr43.2⟩ ?_ ?_
  · refine I_iconst (pc := 400) hx 0 dL_isLike_400 ?_
    exact E_zret (pc := 401) hx dL_isLike_401 rfl rfl rfl (by omega)
  refine E_aload_n (pc := 323) hx 1 dL_isLike_323 rfl rfl ?_
  refine E_iload_n (pc := 324) hx 2 dL_isLike_324 rfl rfl ?_
  refine I_iconst (pc := 325) hx 5 dL_isLike_325 ?_
  refine I_cVT  (pc := 326) hx [.int (oI v2), .int (oI 5)] [] (ev_X10_tune F a1 h1 v2 5 w42) vm_X10_tune fc8 h1 (hx.ci h1 (Nat.le_of_ble_eq_true rfl)) g1058 dL_isLike_326 rfl rfl (Nat.le_of_ble_eq_true rfl) (Nat.le_of_ble_eq_true rfl) (by omega) (fun r44 w45 => ?_)
  refine E_aload_n (pc := 329) hx 0 dL_isLike_329 rfl rfl ?_
  refine E_getR (pc := 330) hx 10 fc10 h0 (hx.la hN h0 rfl) rfl ⟨rfl, rfl, rfl⟩ g555 dL_isLike_330 ?_
  refine E_iload_n (pc := 333) hx 2 dL_isLike_333 rfl rfl ?_
  refine I_iald7 (pc := 334) hx hN (kt_10_10 h0) dL_isLike_334 ?_
  refine I_iconst (pc := 335) hx 1 dL_isLike_335 ?_
  refine E_gd (fun hr46 => ?_)
  refine I_icmp_ne (pc := 336) hx 348 dL_isLike_336 rfl ⟨hr46, (by decide)⟩ ?_ ?_
  · refine I_iconst (pc := 348) hx (-1) dL_isLike_348 ?_
    refine E_wid (j2 := 230 + 60 * (v2 : Int).toNat + 8) (by omega) ?_
    exact l_L_isLike_b349 F a0 h0 a1 h1 hx hN k270 hk270 v2 (-1) r44 w45
  refine E_aload_n (pc := 339) hx 0 dL_isLike_339 rfl rfl ?_
  refine E_getR (pc := 340) hx 12 fc10 h0 (hx.la hN h0 rfl) rfl ⟨rfl, rfl, rfl⟩ g557 dL_isLike_340 ?_
  refine E_iload_n (pc := 343) hx 2 dL_isLike_343 rfl rfl ?_
  refine I_iald7 (pc := 344) hx hN (kt_10_12 h0) dL_isLike_344 ?_
  refine E_goto (pc := 345) hx 349 dL_isLike_345 rfl ?_
  refine E_wid (j2 := 230 + 60 * (v2 : Int).toNat + 8) (by omega) ?_
  exact l_L_isLike_b349 F a0 h0 a1 h1 hx hN k270 hk270 v2 (w45 (shR a0 12) v2) r44 w45
theorem l_L_isLike_b270 {x : Cx} (F : Nat) (a0 : Nat) (h0 : shK a0 = 10 + 10) (a1 : Nat) (h1 : shK a1 = 10 + 8)  (hx : CxOK x RL cL_isLike 4 8 2100 (some .boolean)) (hN : 241 ≤ xN x)  : ∀ (n : Nat) (v2 : Int) (w : aI), En x jvBW 2100 (230 + 60 * v2.toNat) 270 [(0, .ref a0), (1, .ref a1), (2, .int (oI v2))] [] (cm w) (f_L_isLike_b270 F a0 a1   n v2 w) := by
  intro n
  induction n with
  | zero => intro v2 w; exact E_none
  | succ n ih => intro v2 w; exact l_L_isLike_b270_b F a0 h0 a1 h1  hx hN  _ ih v2 w
set_option maxHeartbeats 4000000 in
set_option maxRecDepth 100000 in
theorem l_L_isLike_b236 {x : Cx} (F : Nat) (a0 : Nat) (h0 : shK a0 = 10 + 10) (a1 : Nat) (h1 : shK a1 = 10 + 8)  (hx : CxOK x RL cL_isLike 4 8 2100 (some .boolean)) (hN : 241 ≤ xN x) (k129 : Int → aI → Option (Bool × aI)) (hk129 : ∀ (v2 : Int) (w : aI), En x jvBW 2100 (20 + 40 * v2.toNat) 129 [(0, .ref a0), (1, .ref a1), (2, .int (oI v2))] [] (cm w) (k129 v2 w)) (k196 : Int → Int → aI → Option (Bool × aI)) (hk196 : ∀ (v2 : Int) (v3 : Int) (w : aI), En x jvBW 2100 (20 + 40 * v2.toNat + 10 + 4 * v3.toNat) 196 [(0, .ref a0), (1, .ref a1), (2, .int (oI v2)), (3, .int (oI v3))] [] (cm w) (k196 v2 v3 w))  (v2 : Int) (v3 : Int) (z0 : Int) (z1 : Int) (w : aI) : En x jvBW 2100 (20 + 40 * v2.toNat + 10 + 4 * v3.toNat + 2) 236 [(0, .ref a0), (1, .ref a1), (2, .int (oI v2)), (3, .int (oI v3))] [.int (oI z0), .int (oI z1)] (cm w) (f_L_isLike_b236 F a0 a1  k129 k196  v2 v3 z0 z1 w) := by
  unfold f_L_isLike_b236
  refine E_gd (fun hj => ?_)
  refine E_gd (fun hr83 => ?_)
  refine I_icmp_ne (pc := 236) hx 254 dL_isLike_236 rfl ⟨hr83.1, hr83.2⟩ ?_ ?_
  · refine I_iconst (pc := 254) hx 0 dL_isLike_254 ?_
    exact E_zret (pc := 255) hx dL_isLike_255 rfl rfl rfl (by omega)
  refine E_aload_n (pc := 239) hx 1 dL_isLike_239 rfl rfl ?_
  refine E_iload_n (pc := 240) hx 2 dL_isLike_240 rfl rfl ?_
  refine E_iload_n (pc := 241) hx 3 dL_isLike_241 rfl rfl ?_
  refine I_cVT  (pc := 242) hx [.int (oI v2), .int (oI v3)] [] (ev_X10_next F a1 h1 v2 v3 w) vm_X10_next fc8 h1 (hx.ci h1 (Nat.le_of_ble_eq_true rfl)) g1054 dL_isLike_242 rfl rfl (Nat.le_of_ble_eq_true rfl) (Nat.le_of_ble_eq_true rfl) (by omega) (fun r84 w85 => ?_)
  refine E_aload_n (pc := 245) hx 0 dL_isLike_245 rfl rfl ?_
  refine E_iload_n (pc := 246) hx 2 dL_isLike_246 rfl rfl ?_
  refine E_iload_n (pc := 247) hx 3 dL_isLike_247 rfl rfl ?_
  refine I_cVI  (pc := 248) hx [.int (oI v2), .int (oI v3)] [.int (oI r84)] (ev_L_next F a0 h0 v2 v3 w85) vm_L_next fc10 h0 (hx.la hN h0 rfl) g905 dL_isLike_248 rfl rfl (Nat.le_of_ble_eq_true rfl) (Nat.le_of_ble_eq_true rfl) (by omega) (fun r86 => ?_)
  refine E_gd (fun hr87 => ?_)
  refine I_icmp_eq (pc := 251) hx 256 dL_isLike_251 rfl ⟨hr87.1, hr87.2⟩ ?_ ?_
  · refine I_iinc (pc := 256) hx 1 3 dL_isLike_256 rfl (Nat.le_of_ble_eq_true rfl) rfl ?_
    refine E_goto (pc := 259) hx 196 dL_isLike_259 rfl ?_
    refine E_wid (j2 := 20 + 40 * (v2 : Int).toNat + 10 + 4 * ((v3 + 1) : Int).toNat) (by omega) ?_
    refine En.sub [1, 2, 3, 0] rfl ?_
    exact hk196 v2 (v3 + 1) w85
  refine I_iconst (pc := 254) hx 0 dL_isLike_254 ?_
  exact E_zret (pc := 255) hx dL_isLike_255 rfl rfl rfl (by omega)
set_option maxHeartbeats 4000000 in
set_option maxRecDepth 100000 in
theorem l_L_isLike_b196_b {x : Cx} (F : Nat) (a0 : Nat) (h0 : shK a0 = 10 + 10) (a1 : Nat) (h1 : shK a1 = 10 + 8)  (hx : CxOK x RL cL_isLike 4 8 2100 (some .boolean)) (hN : 241 ≤ xN x) (k129 : Int → aI → Option (Bool × aI)) (hk129 : ∀ (v2 : Int) (w : aI), En x jvBW 2100 (20 + 40 * v2.toNat) 129 [(0, .ref a0), (1, .ref a1), (2, .int (oI v2))] [] (cm w) (k129 v2 w)) (k196 : Int → Int → aI → Option (Bool × aI)) (hk196 : ∀ (v2 : Int) (v3 : Int) (w : aI), En x jvBW 2100 (20 + 40 * v2.toNat + 10 + 4 * v3.toNat) 196 [(0, .ref a0), (1, .ref a1), (2, .int (oI v2)), (3, .int (oI v3))] [] (cm w) (k196 v2 v3 w)) (v2 : Int) (v3 : Int) (w : aI) : En x jvBW 2100 (20 + 40 * v2.toNat + 10 + 4 * v3.toNat) 196 [(0, .ref a0), (1, .ref a1), (2, .int (oI v2)), (3, .int (oI v3))] [] (cm w) (f_L_isLike_b196_b F a0 a1  k129 k196 v2 v3 w) := by
  unfold f_L_isLike_b196_b
  refine E_gd (fun hj => ?_)
  refine E_iload_n (pc := 196) hx 3 dL_isLike_196 rfl rfl ?_
  refine E_aload_n (pc := 197) hx 0 dL_isLike_197 rfl rfl ?_
  refine I_getI (pc := 198) hx 20 20 rfl fc10 h0 (hx.la hN h0 rfl) rfl ⟨rfl, rfl, rfl⟩ g565 dL_isLike_198 ?_
  refine E_gd (fun hr78 => ?_)
  refine I_icmp_ge (pc := 201) hx 262 dL_isLike_201 rfl ⟨hr78.1, hr78.2⟩ ?_ ?_
  · refine I_iinc (pc := 262) hx 1 2 dL_isLike_262 rfl (Nat.le_of_ble_eq_true rfl) rfl ?_
    refine E_goto (pc := 265) hx 129 dL_isLike_265 rfl ?_
    refine E_wid (j2 := 20 + 40 * ((v2 + 1) : Int).toNat) (by omega) ?_
    refine En.sub [1, 2, 0] rfl ?_
    exact hk129 (v2 + 1) w
  refine E_aload_n (pc := 204) hx 1 dL_isLike_204 rfl rfl ?_
  refine E_iload_n (pc := 205) hx 2 dL_isLike_205 rfl rfl ?_
  refine E_iload_n (pc := 206) hx 3 dL_isLike_206 rfl rfl ?_
  refine I_cVT  (pc := 207) hx [.int (oI v2), .int (oI v3)] [] (ev_X10_route F a1 h1 v2 v3 w) vm_X10_route fc8 h1 (hx.ci h1 (Nat.le_of_ble_eq_true rfl)) g1050 dL_isLike_207 rfl rfl (Nat.le_of_ble_eq_true rfl) (Nat.le_of_ble_eq_true rfl) (by omega) (fun r79 w80 => ?_)
  refine E_aload_n (pc := 210) hx 0 dL_isLike_210 rfl rfl ?_
  refine E_getR (pc := 211) hx 7 fc10 h0 (hx.la hN h0 rfl) rfl ⟨rfl, rfl, rfl⟩ g552 dL_isLike_211 ?_
  refine E_iload_n (pc := 214) hx 2 dL_isLike_214 rfl rfl ?_
  refine I_aald4 (pc := 215) hx hN (kt_10_7 h0) dL_isLike_215 (fun ht81 => ?_)
  refine E_iload_n (pc := 216) hx 3 dL_isLike_216 rfl rfl ?_
  refine I_iald7 (pc := 217) hx hN ht81 dL_isLike_217 ?_
  refine I_sipush (pc := 218) hx 9999 dL_isLike_218 rfl ?_
  refine E_gd (fun hr82 => ?_)
  refine I_icmp_ge (pc := 221) hx 235 dL_isLike_221 rfl ⟨hr82, (by decide)⟩ ?_ ?_
  · refine I_iconst (pc := 235) hx (-1) dL_isLike_235 ?_
    refine E_wid (j2 := 20 + 40 * (v2 : Int).toNat + 10 + 4 * (v3 : Int).toNat + 2) (by omega) ?_
    exact l_L_isLike_b236 F a0 h0 a1 h1 hx hN k129 hk129 k196 hk196 v2 v3 (-1) r79 w80
  refine E_aload_n (pc := 224) hx 0 dL_isLike_224 rfl rfl ?_
  refine E_getR (pc := 225) hx 7 fc10 h0 (hx.la hN h0 rfl) rfl ⟨rfl, rfl, rfl⟩ g552 dL_isLike_225 ?_
  refine E_iload_n (pc := 228) hx 2 dL_isLike_228 rfl rfl ?_
  refine I_aald4 (pc := 229) hx hN (kt_10_7 h0) dL_isLike_229 (fun ht88 => ?_)
  refine E_iload_n (pc := 230) hx 3 dL_isLike_230 rfl rfl ?_
  refine I_iald7 (pc := 231) hx hN ht88 dL_isLike_231 ?_
  refine E_goto (pc := 232) hx 236 dL_isLike_232 rfl ?_
  refine E_wid (j2 := 20 + 40 * (v2 : Int).toNat + 10 + 4 * (v3 : Int).toNat + 2) (by omega) ?_
  exact l_L_isLike_b236 F a0 h0 a1 h1 hx hN k129 hk129 k196 hk196 v2 v3 (w80 (shR (shR a0 7) v2.toNat) v3) r79 w80
theorem l_L_isLike_b196 {x : Cx} (F : Nat) (a0 : Nat) (h0 : shK a0 = 10 + 10) (a1 : Nat) (h1 : shK a1 = 10 + 8)  (hx : CxOK x RL cL_isLike 4 8 2100 (some .boolean)) (hN : 241 ≤ xN x) (k129 : Int → aI → Option (Bool × aI)) (hk129 : ∀ (v2 : Int) (w : aI), En x jvBW 2100 (20 + 40 * v2.toNat) 129 [(0, .ref a0), (1, .ref a1), (2, .int (oI v2))] [] (cm w) (k129 v2 w)) : ∀ (n : Nat) (v2 : Int) (v3 : Int) (w : aI), En x jvBW 2100 (20 + 40 * v2.toNat + 10 + 4 * v3.toNat) 196 [(0, .ref a0), (1, .ref a1), (2, .int (oI v2)), (3, .int (oI v3))] [] (cm w) (f_L_isLike_b196 F a0 a1  k129 n v2 v3 w) := by
  intro n
  induction n with
  | zero => intro v2 v3 w; exact E_none
  | succ n ih => intro v2 v3 w; exact l_L_isLike_b196_b F a0 h0 a1 h1  hx hN k129 hk129 _ ih v2 v3 w
set_option maxHeartbeats 4000000 in
set_option maxRecDepth 100000 in
theorem l_L_isLike_b129_b {x : Cx} (F : Nat) (a0 : Nat) (h0 : shK a0 = 10 + 10) (a1 : Nat) (h1 : shK a1 = 10 + 8)  (hx : CxOK x RL cL_isLike 4 8 2100 (some .boolean)) (hN : 241 ≤ xN x)  (k129 : Int → aI → Option (Bool × aI)) (hk129 : ∀ (v2 : Int) (w : aI), En x jvBW 2100 (20 + 40 * v2.toNat) 129 [(0, .ref a0), (1, .ref a1), (2, .int (oI v2))] [] (cm w) (k129 v2 w)) (v2 : Int) (w : aI) : En x jvBW 2100 (20 + 40 * v2.toNat) 129 [(0, .ref a0), (1, .ref a1), (2, .int (oI v2))] [] (cm w) (f_L_isLike_b129_b F a0 a1   k129 v2 w) := by
  unfold f_L_isLike_b129_b
  refine E_gd (fun hj => ?_)
  refine E_iload_n (pc := 129) hx 2 dL_isLike_129 rfl rfl ?_
  refine E_aload_n (pc := 130) hx 0 dL_isLike_130 rfl rfl ?_
  refine I_getI (pc := 131) hx 20 20 rfl fc10 h0 (hx.la hN h0 rfl) rfl ⟨rfl, rfl, rfl⟩ g565 dL_isLike_131 ?_
  refine E_gd (fun hr31 => ?_)
  refine I_icmp_ge (pc := 134) hx 268 dL_isLike_134 rfl ⟨hr31.1, hr31.2⟩ ?_ ?_
  · refine I_iconst (pc := 268) hx 0 dL_isLike_268 ?_
    refine E_istore_n (pc := 269) hx dL_isLike_269 rfl (Nat.le_of_ble_eq_true rfl) rfl ?_
    refine E_wid (j2 := 230 + 60 * (0 : Int).toNat) (by omega) ?_
    refine En.sub [1, 2, 0] rfl ?_
    exact l_L_isLike_b270 F a0 h0 a1 h1 hx hN F 0 w
  refine E_aload_n (pc := 137) hx 1 dL_isLike_137 rfl rfl ?_
  refine E_iload_n (pc := 138) hx 2 dL_isLike_138 rfl rfl ?_
  refine I_iconst (pc := 139) hx 3 dL_isLike_139 ?_
  refine I_cVT  (pc := 140) hx [.int (oI v2), .int (oI 3)] [] (ev_X10_roof F a1 h1 v2 3 w) vm_X10_roof fc8 h1 (hx.ci h1 (Nat.le_of_ble_eq_true rfl)) g1034 dL_isLike_140 rfl rfl (Nat.le_of_ble_eq_true rfl) (Nat.le_of_ble_eq_true rfl) (by omega) (fun r68 w69 => ?_)
  refine E_aload_n (pc := 143) hx 0 dL_isLike_143 rfl rfl ?_
  refine E_getR (pc := 144) hx 3 fc10 h0 (hx.la hN h0 rfl) rfl ⟨rfl, rfl, rfl⟩ g548 dL_isLike_144 ?_
  refine E_iload_n (pc := 147) hx 2 dL_isLike_147 rfl rfl ?_
  refine I_iald7 (pc := 148) hx hN (kt_10_3 h0) dL_isLike_148 ?_
  refine E_gd (fun hr70 => ?_)
  refine I_icmp_ne (pc := 149) hx 192 dL_isLike_149 rfl ⟨hr70.1, hr70.2⟩ ?_ ?_
  · refine I_iconst (pc := 192) hx 0 dL_isLike_192 ?_
    exact E_zret (pc := 193) hx dL_isLike_193 rfl rfl rfl (by omega)
  refine E_aload_n (pc := 152) hx 1 dL_isLike_152 rfl rfl ?_
  refine E_iload_n (pc := 153) hx 2 dL_isLike_153 rfl rfl ?_
  refine I_iconst (pc := 154) hx 4 dL_isLike_154 ?_
  refine I_cVT  (pc := 155) hx [.int (oI v2), .int (oI 4)] [] (ev_X10_roof F a1 h1 v2 4 w69) vm_X10_roof fc8 h1 (hx.ci h1 (Nat.le_of_ble_eq_true rfl)) g1034 dL_isLike_155 rfl rfl (Nat.le_of_ble_eq_true rfl) (Nat.le_of_ble_eq_true rfl) (by omega) (fun r71 w72 => ?_)
  refine I_iconst (pc := 158) hx 0 dL_isLike_158 ?_
  refine E_aload_n (pc := 159) hx 0 dL_isLike_159 rfl rfl ?_
  refine E_getR (pc := 160) hx 4 fc10 h0 (hx.la hN h0 rfl) rfl ⟨rfl, rfl, rfl⟩ g549 dL_isLike_160 ?_
  refine E_iload_n (pc := 163) hx 2 dL_isLike_163 rfl rfl ?_
  refine I_iald7 (pc := 164) hx hN (kt_10_4 h0) dL_isLike_164 ?_
  refine E_aload_n (pc := 165) hx 0 dL_isLike_165 rfl rfl ?_
  refine I_getI (pc := 166) hx 22 22 rfl fc10 h0 (hx.la hN h0 rfl) rfl ⟨rfl, rfl, rfl⟩ g567 dL_isLike_166 ?_
  refine I_isub (pc := 169) hx dL_isLike_169 ?_
  refine E_gd (fun hr73 => ?_)
  refine I_mmax (pc := 170) hx ⟨(by decide), hr73⟩ g894 g895 g40 g896 (Nat.le_of_ble_eq_true rfl) (Nat.le_of_ble_eq_true rfl) (by omega) dL_isLike_170 ?_
  refine E_gd (fun hr74 => ?_)
  refine I_icmp_ne (pc := 173) hx 192 dL_isLike_173 rfl ⟨hr74.1, hr74.2⟩ ?_ ?_
  · refine I_iconst (pc := 192) hx 0 dL_isLike_192 ?_
    exact E_zret (pc := 193) hx dL_isLike_193 rfl rfl rfl (by omega)
  refine E_aload_n (pc := 176) hx 1 dL_isLike_176 rfl rfl ?_
  refine E_iload_n (pc := 177) hx 2 dL_isLike_177 rfl rfl ?_
  refine I_bipush (pc := 178) hx 7 dL_isLike_178 rfl ?_
  refine I_cVT  (pc := 180) hx [.int (oI v2), .int (oI 7)] [] (ev_X10_roof F a1 h1 v2 7 w72) vm_X10_roof fc8 h1 (hx.ci h1 (Nat.le_of_ble_eq_true rfl)) g1034 dL_isLike_180 rfl rfl (Nat.le_of_ble_eq_true rfl) (Nat.le_of_ble_eq_true rfl) (by omega) (fun r75 w76 => ?_)
  refine E_aload_n (pc := 183) hx 0 dL_isLike_183 rfl rfl ?_
  refine E_getR (pc := 184) hx 5 fc10 h0 (hx.la hN h0 rfl) rfl ⟨rfl, rfl, rfl⟩ g550 dL_isLike_184 ?_
  refine E_iload_n (pc := 187) hx 2 dL_isLike_187 rfl rfl ?_
  refine I_iald7 (pc := 188) hx hN (kt_10_5 h0) dL_isLike_188 ?_
  refine E_gd (fun hr77 => ?_)
  refine I_icmp_eq (pc := 189) hx 194 dL_isLike_189 rfl ⟨hr77.1, hr77.2⟩ ?_ ?_
  · refine I_iconst (pc := 194) hx 0 dL_isLike_194 ?_
    refine E_istore_n (pc := 195) hx dL_isLike_195 rfl (Nat.le_of_ble_eq_true rfl) rfl ?_
    refine E_wid (j2 := 20 + 40 * (v2 : Int).toNat + 10 + 4 * (0 : Int).toNat) (by omega) ?_
    refine En.sub [1, 2, 3, 0] rfl ?_
    exact l_L_isLike_b196 F a0 h0 a1 h1 hx hN k129 hk129 F v2 0 w76
  refine I_iconst (pc := 192) hx 0 dL_isLike_192 ?_
  exact E_zret (pc := 193) hx dL_isLike_193 rfl rfl rfl (by omega)
theorem l_L_isLike_b129 {x : Cx} (F : Nat) (a0 : Nat) (h0 : shK a0 = 10 + 10) (a1 : Nat) (h1 : shK a1 = 10 + 8)  (hx : CxOK x RL cL_isLike 4 8 2100 (some .boolean)) (hN : 241 ≤ xN x)  : ∀ (n : Nat) (v2 : Int) (w : aI), En x jvBW 2100 (20 + 40 * v2.toNat) 129 [(0, .ref a0), (1, .ref a1), (2, .int (oI v2))] [] (cm w) (f_L_isLike_b129 F a0 a1   n v2 w) := by
  intro n
  induction n with
  | zero => intro v2 w; exact E_none
  | succ n ih => intro v2 w; exact l_L_isLike_b129_b F a0 h0 a1 h1  hx hN  _ ih v2 w
set_option maxHeartbeats 4000000 in
set_option maxRecDepth 100000 in
theorem ev_L_isLike (F : Nat) (a0 : Nat) (h0 : shK a0 = 10 + 10) (a1 : Nat) (h1 : shK a1 = 10 + 8) (w : aI) : Ev yL_isLike cL_isLike 4 (some .boolean) 8 2100 jvBW [.ref a0, .ref a1] (cm w) (f_L_isLike F a0 a1 w) := by
  refine Ev.of (own := RL) (by decide +kernel) rfl (Nat.le_of_ble_eq_true rfl) (fun x hx => ?_)
  show En x jvBW 2100 0 0 [(0, .ref a0), (1, .ref a1)] [] (cm w) _
  unfold f_L_isLike
  refine E_gN (fun hN => ?_)
  refine E_aload_n (pc := 0) hx 1 dL_isLike_0 rfl rfl ?_
  refine I_iconst (pc := 1) hx 2 dL_isLike_1 ?_
  refine I_cVT  (pc := 2) hx [.int (oI 2)] [] (ev_X10_count F a1 h1 2 w) vm_X10_count fc8 h1 (hx.ci h1 (Nat.le_of_ble_eq_true rfl)) g1004 dL_isLike_2 rfl rfl (Nat.le_of_ble_eq_true rfl) (Nat.le_of_ble_eq_true rfl) (by omega) (fun r1 w2 => ?_)
  refine E_aload_n (pc := 5) hx 0 dL_isLike_5 rfl rfl ?_
  refine I_getI (pc := 6) hx 21 21 rfl fc10 h0 (hx.la hN h0 rfl) rfl ⟨rfl, rfl, rfl⟩ g566 dL_isLike_6 ?_
  refine E_gd (fun hr3 => ?_)
  refine I_icmp_ne (pc := 9) hx 125 dL_isLike_9 rfl ⟨hr3.1, hr3.2⟩ ?_ ?_
  · refine I_iconst (pc := 125) hx 0 dL_isLike_125 ?_
    exact E_zret (pc := 126) hx dL_isLike_126 rfl rfl rfl (by omega)
  refine E_aload_n (pc := 12) hx 1 dL_isLike_12 rfl rfl ?_
  refine I_bipush (pc := 13) hx 7 dL_isLike_13 rfl ?_
  refine I_cVT  (pc := 15) hx [.int (oI 7)] [] (ev_X10_count F a1 h1 7 w2) vm_X10_count fc8 h1 (hx.ci h1 (Nat.le_of_ble_eq_true rfl)) g1004 dL_isLike_15 rfl rfl (Nat.le_of_ble_eq_true rfl) (Nat.le_of_ble_eq_true rfl) (by omega) (fun r4 w5 => ?_)
  refine E_aload_n (pc := 18) hx 0 dL_isLike_18 rfl rfl ?_
  refine I_getI (pc := 19) hx 22 22 rfl fc10 h0 (hx.la hN h0 rfl) rfl ⟨rfl, rfl, rfl⟩ g567 dL_isLike_19 ?_
  refine E_gd (fun hr6 => ?_)
  refine I_icmp_ne (pc := 22) hx 125 dL_isLike_22 rfl ⟨hr6.1, hr6.2⟩ ?_ ?_
  · refine I_iconst (pc := 125) hx 0 dL_isLike_125 ?_
    exact E_zret (pc := 126) hx dL_isLike_126 rfl rfl rfl (by omega)
  refine E_aload_n (pc := 25) hx 1 dL_isLike_25 rfl rfl ?_
  refine I_iconst (pc := 26) hx 2 dL_isLike_26 ?_
  refine I_cVT  (pc := 27) hx [.int (oI 2)] [] (ev_X10_account F a1 h1 2 w5) vm_X10_account fc8 h1 (hx.ci h1 (Nat.le_of_ble_eq_true rfl)) g1030 dL_isLike_27 rfl rfl (Nat.le_of_ble_eq_true rfl) (Nat.le_of_ble_eq_true rfl) (by omega) (fun r7 w8 => ?_)
  refine E_aload_n (pc := 30) hx 0 dL_isLike_30 rfl rfl ?_
  refine I_getI (pc := 31) hx 26 26 rfl fc10 h0 (hx.la hN h0 rfl) rfl ⟨rfl, rfl, rfl⟩ g571 dL_isLike_31 ?_
  refine E_gd (fun hr9 => ?_)
  refine I_icmp_ne (pc := 34) hx 125 dL_isLike_34 rfl ⟨hr9.1, hr9.2⟩ ?_ ?_
  · refine I_iconst (pc := 125) hx 0 dL_isLike_125 ?_
    exact E_zret (pc := 126) hx dL_isLike_126 rfl rfl rfl (by omega)
  refine E_aload_n (pc := 37) hx 1 dL_isLike_37 rfl rfl ?_
  refine I_iconst (pc := 38) hx 3 dL_isLike_38 ?_
  refine I_cVT  (pc := 39) hx [.int (oI 3)] [] (ev_X10_account F a1 h1 3 w8) vm_X10_account fc8 h1 (hx.ci h1 (Nat.le_of_ble_eq_true rfl)) g1030 dL_isLike_39 rfl rfl (Nat.le_of_ble_eq_true rfl) (Nat.le_of_ble_eq_true rfl) (by omega) (fun r10 w11 => ?_)
  refine E_aload_n (pc := 42) hx 0 dL_isLike_42 rfl rfl ?_
  refine I_getI (pc := 43) hx 33 33 rfl fc10 h0 (hx.la hN h0 rfl) rfl ⟨rfl, rfl, rfl⟩ g578 dL_isLike_43 ?_
  refine E_gd (fun hr12 => ?_)
  refine I_icmp_ne (pc := 46) hx 125 dL_isLike_46 rfl ⟨hr12.1, hr12.2⟩ ?_ ?_
  · refine I_iconst (pc := 125) hx 0 dL_isLike_125 ?_
    exact E_zret (pc := 126) hx dL_isLike_126 rfl rfl rfl (by omega)
  refine E_aload_n (pc := 49) hx 1 dL_isLike_49 rfl rfl ?_
  refine I_iconst (pc := 50) hx 4 dL_isLike_50 ?_
  refine I_cVT  (pc := 51) hx [.int (oI 4)] [] (ev_X10_account F a1 h1 4 w11) vm_X10_account fc8 h1 (hx.ci h1 (Nat.le_of_ble_eq_true rfl)) g1030 dL_isLike_51 rfl rfl (Nat.le_of_ble_eq_true rfl) (Nat.le_of_ble_eq_true rfl) (by omega) (fun r13 w14 => ?_)
  refine E_aload_n (pc := 54) hx 0 dL_isLike_54 rfl rfl ?_
  refine I_getI (pc := 55) hx 27 27 rfl fc10 h0 (hx.la hN h0 rfl) rfl ⟨rfl, rfl, rfl⟩ g572 dL_isLike_55 ?_
  refine E_gd (fun hr15 => ?_)
  refine I_icmp_ne (pc := 58) hx 125 dL_isLike_58 rfl ⟨hr15.1, hr15.2⟩ ?_ ?_
  · refine I_iconst (pc := 125) hx 0 dL_isLike_125 ?_
    exact E_zret (pc := 126) hx dL_isLike_126 rfl rfl rfl (by omega)
  refine E_aload_n (pc := 61) hx 1 dL_isLike_61 rfl rfl ?_
  refine I_iconst (pc := 62) hx 5 dL_isLike_62 ?_
  refine I_cVT  (pc := 63) hx [.int (oI 5)] [] (ev_X10_account F a1 h1 5 w14) vm_X10_account fc8 h1 (hx.ci h1 (Nat.le_of_ble_eq_true rfl)) g1030 dL_isLike_63 rfl rfl (Nat.le_of_ble_eq_true rfl) (Nat.le_of_ble_eq_true rfl) (by omega) (fun r16 w17 => ?_)
  refine E_aload_n (pc := 66) hx 0 dL_isLike_66 rfl rfl ?_
  refine I_getI (pc := 67) hx 28 28 rfl fc10 h0 (hx.la hN h0 rfl) rfl ⟨rfl, rfl, rfl⟩ g573 dL_isLike_67 ?_
  refine E_gd (fun hr18 => ?_)
  refine I_icmp_ne (pc := 70) hx 125 dL_isLike_70 rfl ⟨hr18.1, hr18.2⟩ ?_ ?_
  · refine I_iconst (pc := 125) hx 0 dL_isLike_125 ?_
    exact E_zret (pc := 126) hx dL_isLike_126 rfl rfl rfl (by omega)
  refine E_aload_n (pc := 73) hx 1 dL_isLike_73 rfl rfl ?_
  refine I_bipush (pc := 74) hx 6 dL_isLike_74 rfl ?_
  refine I_cVT  (pc := 76) hx [.int (oI 6)] [] (ev_X10_account F a1 h1 6 w17) vm_X10_account fc8 h1 (hx.ci h1 (Nat.le_of_ble_eq_true rfl)) g1030 dL_isLike_76 rfl rfl (Nat.le_of_ble_eq_true rfl) (Nat.le_of_ble_eq_true rfl) (by omega) (fun r19 w20 => ?_)
  refine E_aload_n (pc := 79) hx 0 dL_isLike_79 rfl rfl ?_
  refine I_getI (pc := 80) hx 29 29 rfl fc10 h0 (hx.la hN h0 rfl) rfl ⟨rfl, rfl, rfl⟩ g574 dL_isLike_80 ?_
  refine E_gd (fun hr21 => ?_)
  refine I_icmp_ne (pc := 83) hx 125 dL_isLike_83 rfl ⟨hr21.1, hr21.2⟩ ?_ ?_
  · refine I_iconst (pc := 125) hx 0 dL_isLike_125 ?_
    exact E_zret (pc := 126) hx dL_isLike_126 rfl rfl rfl (by omega)
  refine E_aload_n (pc := 86) hx 1 dL_isLike_86 rfl rfl ?_
  refine I_bipush (pc := 87) hx 7 dL_isLike_87 rfl ?_
  refine I_cVT  (pc := 89) hx [.int (oI 7)] [] (ev_X10_account F a1 h1 7 w20) vm_X10_account fc8 h1 (hx.ci h1 (Nat.le_of_ble_eq_true rfl)) g1030 dL_isLike_89 rfl rfl (Nat.le_of_ble_eq_true rfl) (Nat.le_of_ble_eq_true rfl) (by omega) (fun r22 w23 => ?_)
  refine E_aload_n (pc := 92) hx 0 dL_isLike_92 rfl rfl ?_
  refine I_getI (pc := 93) hx 30 30 rfl fc10 h0 (hx.la hN h0 rfl) rfl ⟨rfl, rfl, rfl⟩ g575 dL_isLike_93 ?_
  refine E_gd (fun hr24 => ?_)
  refine I_icmp_ne (pc := 96) hx 125 dL_isLike_96 rfl ⟨hr24.1, hr24.2⟩ ?_ ?_
  · refine I_iconst (pc := 125) hx 0 dL_isLike_125 ?_
    exact E_zret (pc := 126) hx dL_isLike_126 rfl rfl rfl (by omega)
  refine E_aload_n (pc := 99) hx 1 dL_isLike_99 rfl rfl ?_
  refine I_bipush (pc := 100) hx 8 dL_isLike_100 rfl ?_
  refine I_cVT  (pc := 102) hx [.int (oI 8)] [] (ev_X10_account F a1 h1 8 w23) vm_X10_account fc8 h1 (hx.ci h1 (Nat.le_of_ble_eq_true rfl)) g1030 dL_isLike_102 rfl rfl (Nat.le_of_ble_eq_true rfl) (Nat.le_of_ble_eq_true rfl) (by omega) (fun r25 w26 => ?_)
  refine E_aload_n (pc := 105) hx 0 dL_isLike_105 rfl rfl ?_
  refine I_getI (pc := 106) hx 31 31 rfl fc10 h0 (hx.la hN h0 rfl) rfl ⟨rfl, rfl, rfl⟩ g576 dL_isLike_106 ?_
  refine E_gd (fun hr27 => ?_)
  refine I_icmp_ne (pc := 109) hx 125 dL_isLike_109 rfl ⟨hr27.1, hr27.2⟩ ?_ ?_
  · refine I_iconst (pc := 125) hx 0 dL_isLike_125 ?_
    exact E_zret (pc := 126) hx dL_isLike_126 rfl rfl rfl (by omega)
  refine E_aload_n (pc := 112) hx 1 dL_isLike_112 rfl rfl ?_
  refine I_bipush (pc := 113) hx 9 dL_isLike_113 rfl ?_
  refine I_cVT  (pc := 115) hx [.int (oI 9)] [] (ev_X10_account F a1 h1 9 w26) vm_X10_account fc8 h1 (hx.ci h1 (Nat.le_of_ble_eq_true rfl)) g1030 dL_isLike_115 rfl rfl (Nat.le_of_ble_eq_true rfl) (Nat.le_of_ble_eq_true rfl) (by omega) (fun r28 w29 => ?_)
  refine E_aload_n (pc := 118) hx 0 dL_isLike_118 rfl rfl ?_
  refine I_getI (pc := 119) hx 32 32 rfl fc10 h0 (hx.la hN h0 rfl) rfl ⟨rfl, rfl, rfl⟩ g577 dL_isLike_119 ?_
  refine E_gd (fun hr30 => ?_)
  refine I_icmp_eq (pc := 122) hx 127 dL_isLike_122 rfl ⟨hr30.1, hr30.2⟩ ?_ ?_
  · refine I_iconst (pc := 127) hx 0 dL_isLike_127 ?_
    refine E_istore_n (pc := 128) hx dL_isLike_128 rfl (Nat.le_of_ble_eq_true rfl) rfl ?_
    refine E_wid (j2 := 20 + 40 * (0 : Int).toNat) (by omega) ?_
    refine En.sub [1, 2, 0] rfl ?_
    exact l_L_isLike_b129 F a0 h0 a1 h1 hx hN F 0 w29
  refine I_iconst (pc := 125) hx 0 dL_isLike_125 ?_
  exact E_zret (pc := 126) hx dL_isLike_126 rfl rfl rfl (by omega)
