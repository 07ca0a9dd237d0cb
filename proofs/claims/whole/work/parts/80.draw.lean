/-! ===== meanPurse and rightPart: quotients that are no NaN ===== -/
theorem z_and63 (a : UInt64) : (a &&& 0x7fffffffffffffff).toNat = a.toNat % 2 ^ 63 := by
  rw [UInt64.toNat_and]
  exact Nat.and_two_pow_sub_one_eq_mod a.toNat 63
theorem z_and31 (a : UInt32) : (a &&& 0x7fffffff).toNat = a.toNat % 2 ^ 31 := by
  rw [UInt32.toNat_and]
  exact Nat.and_two_pow_sub_one_eq_mod a.toNat 31
theorem z_n64 {r : UInt64} (h : FP.Core.dIsNaN r = false) : vf_n64 r := by
  unfold vf_n64
  rw [UInt64.le_iff_toNat_le, z_and63]
  show r.toNat % 2 ^ 63 ≤ 9218868437227405312
  rcases Nat.lt_or_ge 9218868437227405312 (r.toNat % 2 ^ 63) with c | c
  · rw [(FP.Core.isNaN_bits r).mpr c] at h
    cases h
  · exact c
theorem z_n32 {r : UInt32} (h : FP.Core.fIsNaN r = false) : vf_n32 r := by
  unfold vf_n32
  rw [UInt32.le_iff_toNat_le, z_and31]
  show r.toNat % 2 ^ 31 ≤ 2139095040
  rcases Nat.lt_or_ge 2139095040 (r.toNat % 2 ^ 31) with c | c
  · rw [(FP.Core.isNaN_bits32 r).mpr c] at h
    cases h
  · exact c
theorem z_ddiv {a b : Int32} (hb : ¬ b = 0) : vf_n64 (FP.ddiv (FP.i2d a) (FP.i2d b)) := by
  refine z_n64 (FP.Core.ddiv_out ?_ (FP.Core.i2d_fin b) (fun z => FP.Core.i2d_ne_zero hb ((FP.Core.zero_bits2 _).mp z)))
  exact (FP.Core.i2d_fin a).notNaN
theorem z_fdiv {a b : Int32} (hb : ¬ b = 0) : vf_n32 (FP.fdiv (FP.i2f a) (FP.i2f b)) := by
  refine z_n32 (FP.Core.fdiv_out ?_ (FP.Core.i2f_fin b) (fun z => FP.Core.i2f_ne_zero hb ((FP.Core.zero_bits232 _).mp z)))
  have hm := FP.Core.i2f_mag a
  cases h : FP.Core.fIsNaN (FP.Core.i2f a) with
  | false => rfl
  | true =>
    have := (FP.Core.isNaN_bits32 (FP.Core.i2f a)).mp h
    omega
section
variable {T : Type} {x : Cx} {cv : T → aO} {own : String} {cc : ByteArray} {nL dp mc j pc : Nat} {ret : Option FieldType} {L : List (Nat × Value)} {st : List Value} {w : aW} {X Y : Option T}
theorem E_i2d (hx : CxOK x own cc nL dp mc ret) {a : Int32} (d : decode cc pc = .ok (.i2d, 1)) (kk : En x cv mc j (pc + 1) L (.double (FP.i2d a) :: st) w X) : En x cv mc j pc L (.int a :: st) w X := fun t ht H locs ls hP hS hl => lv_i2d hx.ex hx.bs d (kk t ht H locs ls hP hS hl)
theorem E_i2f (hx : CxOK x own cc nL dp mc ret) {a : Int32} (d : decode cc pc = .ok (.i2f, 1)) (kk : En x cv mc j (pc + 1) L (.float (FP.i2f a) :: st) w X) : En x cv mc j pc L (.int a :: st) w X := fun t ht H locs ls hP hS hl => lv_i2f hx.ex hx.bs d (kk t ht H locs ls hP hS hl)
theorem E_ddiv (hx : CxOK x own cc nL dp mc ret) {a b : UInt64} (hn : vf_n64 (FP.ddiv a b)) (d : decode cc pc = .ok (.ddiv, 1)) (kk : En x cv mc j (pc + 1) L (.double (FP.ddiv a b) :: st) w X) : En x cv mc j pc L (.double b :: .double a :: st) w X := fun t ht H locs ls hP hS hl => lv_ddiv hx.ex hx.bs d hn (kk t ht H locs ls hP hS hl)
theorem E_fdiv (hx : CxOK x own cc nL dp mc ret) {a b : UInt32} (hn : vf_n32 (FP.fdiv a b)) (d : decode cc pc = .ok (.fdiv, 1)) (kk : En x cv mc j (pc + 1) L (.float (FP.fdiv a b) :: st) w X) : En x cv mc j pc L (.float b :: .float a :: st) w X := fun t ht H locs ls hP hS hl => lv_fdiv hx.ex hx.bs d hn (kk t ht H locs ls hP hS hl)
theorem E_dc0 (hx : CxOK x own cc nL dp mc ret) (d : decode cc pc = .ok (.dconst 0, 1)) (kk : En x cv mc j (pc + 1) L (.double FP.dconst0 :: st) w X) : En x cv mc j pc L st w X := fun t ht H locs ls hP hS hl => lv_dconst0 hx.ex hx.bs d (kk t ht H locs ls hP hS hl)
theorem E_fc0 (hx : CxOK x own cc nL dp mc ret) (d : decode cc pc = .ok (.fconst 0, 1)) (kk : En x cv mc j (pc + 1) L (.float FP.fconst0 :: st) w X) : En x cv mc j pc L st w X := fun t ht H locs ls hP hS hl => lv_fconst0 hx.ex hx.bs d (kk t ht H locs ls hP hS hl)
theorem E_dret (hx : CxOK x own cc nL dp mc ret) {v : UInt64} {r : T} (d : decode cc pc = .ok (.dreturn, 1)) (hr : ret = some .double) (hc : cv r = (.inl (some (.double v)), w)) (hj : j ≤ mc) : En x cv mc j pc L [.double v] w (some r) := by
  intro t ht H locs ls hP hS hl
  cases ht
  refine Qm_ret (v := some (.double v)) hx (by rw [hc]) (by rw [hc]; exact hP) hS hj (fun h1 h2 => W.dret (v := v) hx.ex hx.bs (by rw [hx.rt]; exact hr) h1 h2 d (hlocks := hx.lk))
theorem E_fret (hx : CxOK x own cc nL dp mc ret) {v : UInt32} {r : T} (d : decode cc pc = .ok (.freturn, 1)) (hr : ret = some .float) (hc : cv r = (.inl (some (.float v)), w)) (hj : j ≤ mc) : En x cv mc j pc L [.float v] w (some r) := by
  intro t ht H locs ls hP hS hl
  cases ht
  refine Qm_ret (v := some (.float v)) hx (by rw [hc]) (by rw [hc]; exact hP) hS hj (fun h1 h2 => W.fret (v := v) hx.ex hx.bs (by rw [hx.rt]; exact hr) h1 h2 d (hlocks := hx.lk))
end
def jvD (w : aI) (v : UInt64) : aO := (.inl (some (.double v)), cm w)
def jvF (w : aI) (v : UInt32) : aO := (.inl (some (.float v)), cm w)
def jvDW (r : UInt64 × aI) : aO := (.inl (some (.double r.1)), cm r.2)
def jvFW (r : UInt32 × aI) : aO := (.inl (some (.float r.1)), cm r.2)
/-- a quotient of whole numbers -/
def qD (a b : Int) : UInt64 := FP.ddiv (FP.i2d (oI a)) (FP.i2d (oI b))
def qF (a b : Int) : UInt32 := FP.fdiv (FP.i2f (oI a)) (FP.i2f (oI b))
def f_X10_meanPurse (F : Nat) (a0 : Nat) (w : aI) : Option UInt64 :=
  gd (rg (w (shR a0 5) 1)) (if w (shR a0 5) 1 ≤ 0 then some FP.dconst0 else (f_X2_pursesTogether F (shR a0 5) w).bind (fun r1 => gd (¬ oI (w (shR a0 5) 1) = 0) (some (qD r1 (w (shR a0 5) 1)))))
def f_X11_meanPurse (F : Nat) (a0 : Nat) (w : aI) : Option (UInt64 × aI) :=
  ltM (iset w a0 6 0) (fun w1 => (f_X11_purses F a0 w1).bind (fun r1 => gd (inI 0 (shL (shR a0 0))) (gd (¬ oI (w1 (shR a0 0) 0) = 0) (some (qD r1 (w1 (shR a0 0) 0), w1)))))
def f_X10_rightPart (F : Nat) (a0 : Nat) (w : aI) : Option UInt32 :=
  (f_X7_get F (shR (shR a0 5) 8) 0 5 w).bind (fun r1 => (f_X7_get F (shR (shR a0 5) 8) 0 6 w).bind (fun r2 => gd (rg r1) (if r1 ≤ 0 then some FP.fconst0 else gd (¬ oI r1 = 0) (some (qF r2 r1)))))
def f_X11_rightPart (a0 : Nat) (w : aI) : Option (UInt32 × aI) :=
  ltM (iset w a0 6 0) (fun w1 => gd (inI 15 (shL (shR a0 0))) (gd (rg (w1 (shR a0 0) 15)) (if w1 (shR a0 0) 15 = 0 then some (FP.fconst0, w1) else gd (inI 16 (shL (shR a0 0))) (gd (¬ oI (w1 (shR a0 0) 15) = 0) (some (qF (w1 (shR a0 0) 16) (w1 (shR a0 0) 15), w1))))))
theorem vm_X10_meanPurse : VMet yX10_meanPurse RX10 cX10_meanPurse 1 (some .double) 0 := ⟨g885, g886, g108, g887, ⟨by decide +kernel, by decide +kernel⟩, by decide +kernel, Nat.le_of_ble_eq_true rfl⟩
set_option maxHeartbeats 4000000 in
set_option maxRecDepth 100000 in
theorem ev_X10_meanPurse (F : Nat) (a0 : Nat) (h0 : shK a0 = 10 + 8) (w : aI) : Ev yX10_meanPurse cX10_meanPurse 1 (some .double) 2 0 (jvD w) [.ref a0] (cm w) (f_X10_meanPurse F a0 w) := by
  refine Ev.of (own := RX10) (by decide +kernel) rfl (Nat.le_of_ble_eq_true rfl) (fun x hx => ?_)
  show En x (jvD w) 0 0 0 [(0, .ref a0)] [] (cm w) _
  unfold f_X10_meanPurse
  refine E_gd fun hr => ?_
  refine E_aload_n (pc := 0) hx 0 dX10_meanPurse_0 rfl rfl ?_
  refine E_getR (pc := 1) hx 5 fc8 h0 rfl ⟨rfl, rfl, rfl⟩ g593 dX10_meanPurse_1 ?_
  refine I_getI (pc := 4) hx 1 1 rfl fc2 (kt_8_5 h0) rfl ⟨rfl, rfl, rfl⟩ g211 dX10_meanPurse_4 ?_
  refine I_if_le (pc := 7) hx 30 dX10_meanPurse_7 rfl hr ?_ ?_
  · refine E_dc0 (pc := 30) hx dX10_meanPurse_30 ?_
    exact E_dret (pc := 31) hx dX10_meanPurse_31 rfl rfl (Nat.le_of_ble_eq_true rfl)
  · refine E_aload_n (pc := 10) hx 0 dX10_meanPurse_10 rfl rfl ?_
    refine E_getR (pc := 11) hx 5 fc8 h0 rfl ⟨rfl, rfl, rfl⟩ g593 dX10_meanPurse_11 ?_
    refine I_cVI  (pc := 14) hx [] [] (ev_X2_pursesTogether F (shR a0 5) (kt_8_5 h0) w) vm_X2_pursesTogether fc2 (kt_8_5 h0) g888 dX10_meanPurse_14 rfl rfl (Nat.le_of_ble_eq_true rfl) (Nat.le_of_ble_eq_true rfl) (Nat.le_of_ble_eq_true rfl) (fun r1 => ?_)
    refine E_i2d (pc := 17) hx dX10_meanPurse_17 ?_
    refine E_aload_n (pc := 18) hx 0 dX10_meanPurse_18 rfl rfl ?_
    refine E_getR (pc := 19) hx 5 fc8 h0 rfl ⟨rfl, rfl, rfl⟩ g593 dX10_meanPurse_19 ?_
    refine I_getI (pc := 22) hx 1 1 rfl fc2 (kt_8_5 h0) rfl ⟨rfl, rfl, rfl⟩ g211 dX10_meanPurse_22 ?_
    refine E_i2d (pc := 25) hx dX10_meanPurse_25 ?_
    refine E_gd fun hz => ?_
    refine E_ddiv (pc := 26) hx (z_ddiv hz) dX10_meanPurse_26 ?_
    refine E_goto (pc := 27) hx 31 dX10_meanPurse_27 rfl ?_
    exact E_dret (pc := 31) hx dX10_meanPurse_31 rfl rfl (Nat.le_of_ble_eq_true rfl)
theorem vm_X10_rightPart : VMet yX10_rightPart RX10 cX10_rightPart 3 (some .float) 0 := ⟨g890, g891, g108, g892, ⟨by decide +kernel, by decide +kernel⟩, by decide +kernel, Nat.le_of_ble_eq_true rfl⟩
theorem vm_X11_meanPurse : VMet yX11_meanPurse RX11 cX11_meanPurse 1 (some .double) 0 := ⟨g1861, g1862, g123, g1863, ⟨by decide +kernel, by decide +kernel⟩, by decide +kernel, Nat.le_of_ble_eq_true rfl⟩
theorem vm_X11_rightPart : VMet yX11_rightPart RX11 cX11_rightPart 2 (some .float) 0 := ⟨g1865, g1866, g123, g1867, ⟨by decide +kernel, by decide +kernel⟩, by decide +kernel, Nat.le_of_ble_eq_true rfl⟩
set_option maxHeartbeats 4000000 in
set_option maxRecDepth 100000 in
theorem ev_X10_rightPart (F : Nat) (a0 : Nat) (h0 : shK a0 = 10 + 8) (w : aI) : Ev yX10_rightPart cX10_rightPart 3 (some .float) 1 0 (jvF w) [.ref a0] (cm w) (f_X10_rightPart F a0 w) := by
  refine Ev.of (own := RX10) (by decide +kernel) rfl (Nat.le_of_ble_eq_true rfl) (fun x hx => ?_)
  show En x (jvF w) 0 0 0 [(0, .ref a0)] [] (cm w) _
  unfold f_X10_rightPart
  refine E_aload_n (pc := 0) hx 0 dX10_rightPart_0 rfl rfl ?_
  refine E_getR (pc := 1) hx 5 fc8 h0 rfl ⟨rfl, rfl, rfl⟩ g593 dX10_rightPart_1 ?_
  refine E_getR (pc := 4) hx 8 fc2 (kt_8_5 h0) rfl ⟨rfl, rfl, rfl⟩ g236 dX10_rightPart_4 ?_
  refine I_iconst (pc := 7) hx 0 dX10_rightPart_7 ?_
  refine I_iconst (pc := 8) hx 5 dX10_rightPart_8 ?_
  refine I_cVI  (pc := 9) hx [.int (oI 0), .int (oI 5)] [] (ev_X7_get F (shR (shR a0 5) 8) (kt_2_8 (kt_8_5 h0)) 0 5 w) vm_X7_get fc6 (kt_2_8 (kt_8_5 h0)) g705 dX10_rightPart_9 rfl rfl (Nat.le_of_ble_eq_true rfl) (Nat.le_of_ble_eq_true rfl) (Nat.le_of_ble_eq_true rfl) (fun r1 => ?_)
  refine E_istore_n (pc := 12) hx dX10_rightPart_12 rfl (Nat.le_of_ble_eq_true rfl) rfl ?_
  refine E_aload_n (pc := 13) hx 1 dX10_rightPart_13 rfl rfl ?_
  refine E_getR (pc := 14) hx 5 fc8 h0 rfl ⟨rfl, rfl, rfl⟩ g593 dX10_rightPart_14 ?_
  refine E_getR (pc := 17) hx 8 fc2 (kt_8_5 h0) rfl ⟨rfl, rfl, rfl⟩ g236 dX10_rightPart_17 ?_
  refine I_iconst (pc := 20) hx 0 dX10_rightPart_20 ?_
  refine I_bipush (pc := 21) hx 6 dX10_rightPart_21 rfl ?_
  refine I_cVI  (pc := 23) hx [.int (oI 0), .int (oI 6)] [] (ev_X7_get F (shR (shR a0 5) 8) (kt_2_8 (kt_8_5 h0)) 0 6 w) vm_X7_get fc6 (kt_2_8 (kt_8_5 h0)) g705 dX10_rightPart_23 rfl rfl (Nat.le_of_ble_eq_true rfl) (Nat.le_of_ble_eq_true rfl) (Nat.le_of_ble_eq_true rfl) (fun r2 => ?_)
  refine E_istore_n (pc := 26) hx dX10_rightPart_26 rfl (Nat.le_of_ble_eq_true rfl) rfl ?_
  refine E_iload_n (pc := 27) hx 1 dX10_rightPart_27 rfl rfl ?_
  refine E_gd fun hr => ?_
  refine I_if_le (pc := 28) hx 39 dX10_rightPart_28 rfl hr ?_ ?_
  · refine E_fc0 (pc := 39) hx dX10_rightPart_39 ?_
    exact E_fret (pc := 40) hx dX10_rightPart_40 rfl rfl (Nat.le_of_ble_eq_true rfl)
  · refine E_iload_n (pc := 31) hx 0 dX10_rightPart_31 rfl rfl ?_
    refine E_i2f (pc := 32) hx dX10_rightPart_32 ?_
    refine E_iload_n (pc := 33) hx 1 dX10_rightPart_33 rfl rfl ?_
    refine E_i2f (pc := 34) hx dX10_rightPart_34 ?_
    refine E_gd fun hz => ?_
    refine E_fdiv (pc := 35) hx (z_fdiv hz) dX10_rightPart_35 ?_
    refine E_goto (pc := 36) hx 40 dX10_rightPart_36 rfl ?_
    exact E_fret (pc := 40) hx dX10_rightPart_40 rfl rfl (Nat.le_of_ble_eq_true rfl)
set_option maxHeartbeats 4000000 in
set_option maxRecDepth 100000 in
theorem ev_X11_meanPurse (F : Nat) (a0 : Nat) (h0 : shK a0 = 10 + 9) (w : aI) : Ev yX11_meanPurse cX11_meanPurse 1 (some .double) 2 0 jvDW [.ref a0] (cm w) (f_X11_meanPurse F a0 w) := by
  refine Ev.of (own := RX11) (by decide +kernel) rfl (Nat.le_of_ble_eq_true rfl) (fun x hx => ?_)
  show En x jvDW 0 0 0 [(0, .ref a0)] [] (cm w) _
  unfold f_X11_meanPurse
  refine E_aload_n (pc := 0) hx 0 dX11_meanPurse_0 rfl rfl ?_
  refine I_iconst (pc := 1) hx 0 dX11_meanPurse_1 ?_
  refine I_put (pc := 2) hx 6 6 rfl .int tyX11 fc9 tyX11_ok h0 rfl ⟨rfl, rfl, rfl, rfl, pfd_I⟩ rfl rfl g1338 dX11_meanPurse_2 (fun w1 => ?_)
  refine E_aload_n (pc := 5) hx 0 dX11_meanPurse_5 rfl rfl ?_
  refine I_cVI  (pc := 6) hx [] [] (ev_X11_purses F a0 h0 w1) vm_X11_purses fc9 h0 g1726 dX11_meanPurse_6 rfl rfl (Nat.le_of_ble_eq_true rfl) (Nat.le_of_ble_eq_true rfl) (Nat.le_of_ble_eq_true rfl) (fun r1 => ?_)
  refine E_i2d (pc := 9) hx dX11_meanPurse_9 ?_
  refine E_aload_n (pc := 10) hx 0 dX11_meanPurse_10 rfl rfl ?_
  refine E_getR (pc := 11) hx 0 fc9 h0 rfl ⟨rfl, rfl, rfl⟩ g1332 dX11_meanPurse_11 ?_
  refine I_iconst (pc := 14) hx 0 dX11_meanPurse_14 ?_
  refine I_iald (pc := 15) hx (kt_9_0 h0) dX11_meanPurse_15 ?_
  refine E_i2d (pc := 16) hx dX11_meanPurse_16 ?_
  refine E_gd fun hz => ?_
  refine E_ddiv (pc := 17) hx (z_ddiv hz) dX11_meanPurse_17 ?_
  exact E_dret (pc := 18) hx dX11_meanPurse_18 rfl rfl (Nat.le_of_ble_eq_true rfl)
set_option maxHeartbeats 4000000 in
set_option maxRecDepth 100000 in
theorem ev_X11_rightPart (a0 : Nat) (h0 : shK a0 = 10 + 9) (w : aI) : Ev yX11_rightPart cX11_rightPart 2 (some .float) 0 0 jvFW [.ref a0] (cm w) (f_X11_rightPart a0 w) := by
  refine Ev.of (own := RX11) (by decide +kernel) rfl (Nat.le_of_ble_eq_true rfl) (fun x hx => ?_)
  show En x jvFW 0 0 0 [(0, .ref a0)] [] (cm w) _
  unfold f_X11_rightPart
  refine E_aload_n (pc := 0) hx 0 dX11_rightPart_0 rfl rfl ?_
  refine I_iconst (pc := 1) hx 0 dX11_rightPart_1 ?_
  refine I_put (pc := 2) hx 6 6 rfl .int tyX11 fc9 tyX11_ok h0 rfl ⟨rfl, rfl, rfl, rfl, pfd_I⟩ rfl rfl g1338 dX11_rightPart_2 (fun w1 => ?_)
  refine E_aload_n (pc := 5) hx 0 dX11_rightPart_5 rfl rfl ?_
  refine E_getR (pc := 6) hx 0 fc9 h0 rfl ⟨rfl, rfl, rfl⟩ g1332 dX11_rightPart_6 ?_
  refine I_bipush (pc := 9) hx 15 dX11_rightPart_9 rfl ?_
  refine I_iald (pc := 11) hx (kt_9_0 h0) dX11_rightPart_11 ?_
  refine E_istore_n (pc := 12) hx dX11_rightPart_12 rfl (Nat.le_of_ble_eq_true rfl) rfl ?_
  refine E_iload_n (pc := 13) hx 0 dX11_rightPart_13 rfl rfl ?_
  refine E_gd fun hr => ?_
  refine I_if_ne (pc := 14) hx 21 dX11_rightPart_14 rfl hr ?_ ?_
  · refine E_aload_n (pc := 21) hx 1 dX11_rightPart_21 rfl rfl ?_
    refine E_getR (pc := 22) hx 0 fc9 h0 rfl ⟨rfl, rfl, rfl⟩ g1332 dX11_rightPart_22 ?_
    refine I_bipush (pc := 25) hx 16 dX11_rightPart_25 rfl ?_
    refine I_iald (pc := 27) hx (kt_9_0 h0) dX11_rightPart_27 ?_
    refine E_i2f (pc := 28) hx dX11_rightPart_28 ?_
    refine E_iload_n (pc := 29) hx 0 dX11_rightPart_29 rfl rfl ?_
    refine E_i2f (pc := 30) hx dX11_rightPart_30 ?_
    refine E_gd fun hz => ?_
    refine E_fdiv (pc := 31) hx (z_fdiv hz) dX11_rightPart_31 ?_
    exact E_fret (pc := 32) hx dX11_rightPart_32 rfl rfl (Nat.le_of_ble_eq_true rfl)
  · refine E_fc0 (pc := 17) hx dX11_rightPart_17 ?_
    refine E_goto (pc := 18) hx 32 dX11_rightPart_18 rfl ?_
    exact E_fret (pc := 32) hx dX11_rightPart_32 rfl rfl (Nat.le_of_ble_eq_true rfl)
/-- both say the same number -/
theorem top_meanPurse {F : Nat} (hF : 20000 ≤ F) : ∀ w, Inv w → ∃ v w2, f_X10_meanPurse F 0 w = some v ∧ f_X11_meanPurse F 210 w = some (v, w2) ∧ Inv w2 := by
  intro w hI
  obtain ⟨hN, hW, h3⟩ := hI.2.2.2.2.1
  obtain ⟨b0, -⟩ := hW.1
  have hrg : rg (w 211 0) := by omega
  have hz : ¬ oI (w 211 0) = 0 := by rw [oI_eq0 hrg]; omega
  obtain ⟨x, hx⟩ : ∃ x, x = iset w 210 6 0 := ⟨_, rfl⟩
  have x211 : x 211 = w 211 := by rw [hx, is_ne (by decide)]
  have hm := m_purses (F := F) (w := x) (by omega) (by rw [x211]; exact hW)
  have hc := c_purses (F := F) (by omega) P12 hN hW
  rw [x211] at hm
  refine ⟨qD (sm (fun x => w 211 (25 + 13 * x + 10)) (w 211 0).toNat) (w 211 0), x, ?_, ?_, hx ▸ hI.thr 0⟩
  · unfold f_X10_meanPurse
    rw [k5, hN.1.2.2.1, gd_t hrg, if_neg (by omega), hc, bs, gd_t hz]
  · unfold f_X11_meanPurse
    rw [ltm, ← hx, hm, bs, m0, n0, x211, gd_t (by decide), gd_t hz]
theorem top_rightPart {F : Nat} : ∀ w, Inv w → ∃ v w2, f_X10_rightPart F 0 w = some v ∧ f_X11_rightPart 210 w = some (v, w2) ∧ Inv w2 := by
  intro w hI
  obtain ⟨hN, hW, h3⟩ := hI.2.2.2.2.1
  obtain ⟨-, -, b2, -⟩ := hW.1
  have ha := hW.2.2.2.2.2.1
  have hl := cnt_le (fun i => decide (w 211 (220 + 27 * i + 3) = 2)) (w 211 2).toNat
  have hrg : rg (w 211 15) := by omega
  obtain ⟨x, hx⟩ : ∃ x, x = iset w 210 6 0 := ⟨_, rfl⟩
  have x211 : x 211 = w 211 := by rw [hx, is_ne (by decide)]
  have a5 := hN.2.2.1 5 (by omega) (by omega)
  have a6 := hN.2.2.1 6 (by omega) (by omega)
  have g5 : f_X7_get F (12 + 9) 0 5 w = some (w 211 15) := by rw [getA P12 hN.1.1 (by omega), a5]; rfl
  have g6 : f_X7_get F (12 + 9) 0 6 w = some (w 211 16) := by rw [getA P12 hN.1.1 (by omega), a6]; rfl
  by_cases c : w 211 15 = 0
  · refine ⟨FP.fconst0, x, ?_, ?_, hx ▸ hI.thr 0⟩
    · unfold f_X10_rightPart
      rw [k5, pf8 P12, g5, bs, g6, bs, gd_t hrg, if_pos (by omega)]
    · unfold f_X11_rightPart
      rw [ltm, ← hx, m0, n0, x211, gd_t (by decide), gd_t hrg, if_pos c]
  · have hz : ¬ oI (w 211 15) = 0 := by rw [oI_eq0 hrg]; exact c
    refine ⟨qF (w 211 16) (w 211 15), x, ?_, ?_, hx ▸ hI.thr 0⟩
    · unfold f_X10_rightPart
      rw [k5, pf8 P12, g5, bs, g6, bs, gd_t hrg, if_neg (by omega), gd_t hz]
    · unfold f_X11_rightPart
      rw [ltm, ← hx, m0, n0, x211, gd_t (by decide), gd_t hrg, if_neg c, gd_t (by decide), gd_t hz]
