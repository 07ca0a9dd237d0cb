/-! ===== the law's cases ===== -/
abbrev LL (ad : Nat → Nat) (b ao : Nat) (i : Int32) : List (Nat × Value) := [(0, .ref b), (1, .ref (ad 0)), (2, .ref (ad 210)), (3, .ref ao), (4, .int i)]
def LwC (p : Program) (l : Launch) (s : State) (m : MethodId) (meth : Method) (c : Code) (D : va_G) (aT : Nat → ClassId) (aL : ClassId) (ad adV : Nat → Nat) (A : Nat → Prop) (b L : Nat) (xs : Nat → Int32) : Prop := LxC p l s m #[Value.ref b] meth c RL cL_law 9 D aT [(aL, .long)] ad adV A ∧ XNc s ∧ va_X b L xs s s.heap ∧ b < s.heap.size ∧ ¬ A b
def LwA (L : Nat) (xs : Nat → Int32) (i k : Int32) (xk : Int) : Prop := vp_in (i + k) L ∧ xs (i + k).toNatClampNeg = oI xk ∧ rg xk
def LwK (p : Program) (l : Launch) (e : Env) (R : Room) (s : State) (m : MethodId) (below : List Frame) (meth : Method) (c : Code) (Q : State → Prop) (D : va_G) (ad : Nat → Nat) (aT : Nat → ClassId) (aL : ClassId) (A : Nat → Prop) (b ao : Nat) (i : Int32) (cells slots : Nat) : Prop :=
  ∀ (w : aI) (f : Nat → Int64) (H : Heap) (locs : List Loc) (ls : Array Slot), Inv w → Lx D ad aT A s.heap (cm w) (oW aL ao f) H locs → lv_has ls 9 (LL ad b ao i) → W p l e R s m #[Value.ref b] below meth c H locs cells slots Q (F0 m 2131 ls [])
theorem cdl_bd : ∀ (lst : List String) (E : String), 0 ≤ cdl lst E ∧ cdl lst E ≤ lst.length := by
  intro lst
  induction lst with
  | nil => intro E; exact ⟨Int.le_refl 0, Int.le_refl 0⟩
  | cons a q ih =>
    intro E
    have h := ih E
    show 0 ≤ (if E = a then (1 : Int) else 1 + cdl q E) ∧ (if E = a then (1 : Int) else 1 + cdl q E) ≤ ((q.length + 1 : Nat) : Int)
    split <;> omega
theorem Ag.mem {lst : List String} {res : Int ⊕ String} {b t : Int} (h : Ag lst res b t) : ∀ E, res = .inr E → E ∈ lst := by
  intro E hE
  subst hE
  exact h.2.2
section LwR
variable {p : Program} {l : Launch} {e : Env} {R : Room} {s : State} {m : MethodId} {below : List Frame} {meth : Method} {c : Code} {H : Heap} {locs : List Loc} {cells slots : Nat} {Q : State → Prop}
variable {D : va_G} {ad adV : Nat → Nat} {aT : Nat → ClassId} {A : Nat → Prop} {aL : ClassId} {b ao L pc : Nat} {xs : Nat → Int32} {i : Int32} {ls : Array Slot} {rest : List Value}
theorem L_arg (hc : LwC p l s m meth c D aT aL ad adV A b L xs) {w : aW} {X : va_W} (hL : Lx D ad aT A s.heap w X H locs) {k : Int32} {n : Int} {xk : Int} (ha : LwA L xs i k xk) (hk : Int32.ofInt n = k) (h0 : ls[0]? = some (.val (.ref b))) (h4 : ls[4]? = some (.val (.int i))) (d0 : decode cL_law pc = .ok (.aload_n 0, 1)) (d1 : decode cL_law (pc + 1) = .ok (.iload 4, 2)) (d2 : decode cL_law (pc + 3) = .ok (.iconst n, 1)) (d3 : decode cL_law (pc + 4) = .ok (.iadd, 1)) (d4 : decode cL_law (pc + 5) = .ok (.iaload, 1))
    (kk : W p l e R s m #[Value.ref b] below meth c H locs cells slots Q (F0 m (pc + 6) ls (.int (oI xk) :: rest))) : W p l e R s m #[Value.ref b] below meth c H locs cells slots Q (F0 m pc ls rest) := by
  obtain ⟨hx, hN, hX, hbl, hbA⟩ := hc
  obtain ⟨a1, a2, a3⟩ := ha
  refine lv_aload_n hx.1 hx.2.1 d0 rfl h0 ?_
  refine lv_iload hx.1 hx.2.1 d1 h4 ?_
  refine lv_iconst (v := k) hx.1 hx.2.1 d2 hk ?_
  refine lv_iadd hx.1 hx.2.1 d3 ?_
  refine va_sld hx.1 hx.2.1 hX hbl hbA hL.2.2 a1 d4 ?_
  rw [a2]
  exact kk
theorem L_bool (hc : LwC p l s m meth c D aT aL ad adV A b L xs) {x : Int} (d0 : decode cL_law pc = .ok (.ifCond .eq 7, 3)) (d1 : decode cL_law (pc + 3) = .ok (.iconst 1, 1)) (d2 : decode cL_law (pc + 4) = .ok (.goto 4, 3)) (d3 : decode cL_law (pc + 7) = .ok (.iconst 0, 1)) (hr : rg x)
    (kk : W p l e R s m #[Value.ref b] below meth c H locs cells slots Q (F0 m (pc + 8) ls (.int (oI (if x = 0 then 0 else 1)) :: rest))) : W p l e R s m #[Value.ref b] below meth c H locs cells slots Q (F0 m pc ls (.int (oI x) :: rest)) := by
  obtain ⟨hx, -⟩ := hc
  refine lv_if_eq (tgt := pc + 7) hx.1 hx.2.1 d0 (by omega) (fun z => ?_) (fun z => ?_)
  · rw [oI_eq0 hr] at z
    rw [if_pos z] at kk
    exact lv_iconst (v := oI 0) hx.1 hx.2.1 d3 (by decide) kk
  · rw [oI_eq0 hr] at z
    rw [if_neg z] at kk
    refine lv_iconst (v := oI 1) hx.1 hx.2.1 d1 (by decide) ?_
    exact lv_goto (tgt := pc + 8) hx.1 hx.2.1 d2 (by omega) kk
set_option maxHeartbeats 2000000 in
/-- behind the reference's answer: which was thrown, and the two answers -/
theorem L_tail (hc : LwC p l s m meth c D aT aL ad adV A b L xs) (hR : 11 ≤ R.frames ∧ 510 ≤ R.locals) {w2 : aI} {f : Nat → Int64} (hI : Inv w2) (hL : Lx D ad aT A s.heap (cm w2) (oW aL ao f) H locs) {lst : List String} {res : Int ⊕ String} {bb : Int} (hA : Ag lst res bb (w2 210 6)) (hlst : lst.length ≤ 3) (hf : ∀ v, res = .inl v → f 0 = (oI v).toInt64)
    (hl : lv_has ls 9 [(6, .int (oI bb)), (5, .int (hres lst res)), (0, .ref b), (1, .ref (ad 0)), (2, .ref (ad 210)), (3, .ref ao), (4, .int i)]) (hj : cells ≤ R.cells ∧ slots ≤ R.slots) {off : Int}
    (d0 : decode cL_law pc = .ok (.aload_n 2, 1)) (d1 : decode cL_law (pc + 1) = .ok (.invokevirtual 131, 3)) (d4 : decode cL_law (pc + 4) = .ok (.iload 5, 2)) (d6 : decode cL_law (pc + 6) = .ok (.if_icmp .eq 5, 3)) (d11 : decode cL_law (pc + 11) = .ok (.iload 5, 2)) (d13 : decode cL_law (pc + 13) = .ok (.ifCond .ne 15, 3)) (d16 : decode cL_law (pc + 16) = .ok (.aload_n 3, 1)) (d17 : decode cL_law (pc + 17) = .ok (.iconst 0, 1)) (d18 : decode cL_law (pc + 18) = .ok (.laload, 1)) (d19 : decode cL_law (pc + 19) = .ok (.iload 6, 2)) (d21 : decode cL_law (pc + 21) = .ok (.i2l, 1)) (d22 : decode cL_law (pc + 22) = .ok (.lcmp, 1)) (d23 : decode cL_law (pc + 23) = .ok (.ifCond .eq 5, 3)) (d28 : decode cL_law (pc + 28) = .ok (.goto off, 3)) (ho : ((pc + 28 : Nat) : Int) + off = ((2131 : Nat) : Int))
    (kk : LwK p l e R s m below meth c Q D ad aT aL A b ao i cells slots) : W p l e R s m #[Value.ref b] below meth c H locs cells slots Q (F0 m pc ls []) := by
  obtain ⟨hx, -⟩ := id hc
  have hb := cdl_bd lst
  have fin : W p l e R s m #[Value.ref b] below meth c H locs cells slots Q (F0 m (pc + 28) ls []) := lv_goto (tgt := 2131) hx.1 hx.2.1 d28 ho (kk w2 f H locs ls hI hL (lv_sub hl [2, 3, 4, 5, 6] rfl))
  refine lv_aload_n hx.1 hx.2.1 d0 rfl (lv_at hl 4 rfl) ?_
  refine L_callV hx (b := 210) [] [] (ev_X11_thrown 20000 210 (by decide +kernel) w2) vm_X11_thrown fc9 (by decide +kernel) g1418 d1 rfl rfl (Nat.le_of_ble_eq_true rfl) ⟨by omega, by omega⟩ hj hl.1 hL (r2 := w2 210 6) rfl (fun v hv H locs hL => ?_) (fun E hE => absurd hE (by intro h; cases h))
  cases hv
  refine lv_iload hx.1 hx.2.1 d4 (lv_at hl 1 rfl) ?_
  have fin : W p l e R s m #[Value.ref b] below meth c H locs cells slots Q (F0 m (pc + 28) ls []) := lv_goto (tgt := 2131) hx.1 hx.2.1 d28 ho (kk w2 f H locs ls hI hL (lv_sub hl [2, 3, 4, 5, 6] rfl))
  refine lv_icmp_eq (tgt := pc + 11) hx.1 hx.2.1 d6 (by omega) (fun _ => ?_) (fun z => absurd ?_ z)
  · refine lv_iload hx.1 hx.2.1 d11 (lv_at hl 1 rfl) ?_
    refine lv_if_ne (tgt := pc + 28) hx.1 hx.2.1 d13 (by omega) (fun _ => fin) (fun z => ?_)
    cases res with
    | inr E =>
      refine absurd z ?_
      have h1 := hb E
      have h2 := hA.1
      have h3 := hA.2.1
      show ¬ oI (cdl lst E) = 0
      rw [oI_eq0 (by omega)]
      omega
    | inl v =>
      refine lv_aload_n hx.1 hx.2.1 d16 rfl (lv_at hl 5 rfl) ?_
      refine lv_iconst (v := 0) hx.1 hx.2.1 d17 (by decide) ?_
      refine L_lald hx hL d18 ?_
      refine lv_iload hx.1 hx.2.1 d19 (lv_at hl 0 rfl) ?_
      refine lv_i2l hx.1 hx.2.1 d21 rfl ?_
      refine W.lcmp hx.1 hx.2.1 d22 ?_
      rw [hf v rfl, hA.2]
      have e0 : lg_cmp (oI bb).toInt64 (oI bb).toInt64 = 0 := by unfold lg_cmp; simp
      rw [e0]
      exact lv_if_eq (tgt := pc + 28) hx.1 hx.2.1 d23 (by omega) (fun _ => fin) (fun z => absurd rfl z)
  · show oI (w2 210 6) = hres lst res
    cases res with
    | inr E => rw [hA.1]; rfl
    | inl v => rw [hA.1]; rfl
end LwR
section LwCases
variable {p : Program} {l : Launch} {e : Env} {R : Room} {s : State} {m : MethodId} {below : List Frame} {meth : Method} {c : Code} {H : Heap} {locs : List Loc} {cells slots : Nat} {Q : State → Prop}
variable {D : va_G} {ad adV : Nat → Nat} {aT : Nat → ClassId} {A : Nat → Prop} {aL : ClassId} {b ao L : Nat} {xs : Nat → Int32} {i : Int32} {ls : Array Slot} {w : aI} {f : Nat → Int64} {x1 x2 x3 x4 x5 : Int}
theorem gi926 : (Cond.codeWith yL_count method_3_code 4 (Option.some Jvm.ClassFile.FieldType.int) [(0, 9, 12, 13)]) ∈ Gw := gw_in 926 (by decide +kernel) (by decide +kernel)
theorem gi1022 : (Cond.codeWith yL_account method_4_code 4 (Option.some Jvm.ClassFile.FieldType.int) [(0, 9, 12, 13)]) ∈ Gw := gw_in 1022 (by decide +kernel) (by decide +kernel)
theorem gi1029 : (Cond.codeWith yL_nameByte method_5_code 5 (Option.some Jvm.ClassFile.FieldType.int) [(0, 10, 13, 22)]) ∈ Gw := gw_in 1029 (by decide +kernel) (by decide +kernel)
theorem gi1057 : (Cond.codeWith yL_roof method_6_code 5 (Option.some Jvm.ClassFile.FieldType.int) [(0, 10, 13, 22), (0, 10, 17, 13)]) ∈ Gw := gw_in 1057 (by decide +kernel) (by decide +kernel)
theorem gi1073 : (Cond.codeWith yL_way method_7_code 5 (Option.some Jvm.ClassFile.FieldType.int) [(0, 10, 13, 22), (0, 10, 17, 13)]) ∈ Gw := gw_in 1073 (by decide +kernel) (by decide +kernel)
theorem gi1081 : (Cond.codeWith yL_route method_8_code 5 (Option.some Jvm.ClassFile.FieldType.int) [(0, 10, 13, 22)]) ∈ Gw := gw_in 1081 (by decide +kernel) (by decide +kernel)
theorem gi1088 : (Cond.codeWith yL_next method_9_code 5 (Option.some Jvm.ClassFile.FieldType.int) [(0, 10, 13, 22)]) ∈ Gw := gw_in 1088 (by decide +kernel) (by decide +kernel)
theorem gi1095 : (Cond.codeWith yL_tune method_10_code 5 (Option.some Jvm.ClassFile.FieldType.int) [(0, 10, 13, 22), (0, 10, 17, 13)]) ∈ Gw := gw_in 1095 (by decide +kernel) (by decide +kernel)
theorem gi1116 : (Cond.codeWith yL_note method_11_code 6 (Option.some Jvm.ClassFile.FieldType.int) [(0, 12, 15, 22)]) ∈ Gw := gw_in 1116 (by decide +kernel) (by decide +kernel)
theorem gi1124 : (Cond.codeWith yL_waiting method_12_code 5 (Option.some Jvm.ClassFile.FieldType.int) [(0, 10, 13, 22)]) ∈ Gw := gw_in 1124 (by decide +kernel) (by decide +kernel)
theorem gi1135 : (Cond.codeWith yL_why method_13_code 5 (Option.some Jvm.ClassFile.FieldType.int) [(0, 10, 13, 22), (0, 10, 17, 13)]) ∈ Gw := gw_in 1135 (by decide +kernel) (by decide +kernel)
theorem gi1150 : (Cond.codeWith yL_costOf method_14_code 6 (Option.some Jvm.ClassFile.FieldType.int) [(0, 12, 15, 22), (0, 12, 19, 13)]) ∈ Gw := gw_in 1150 (by decide +kernel) (by decide +kernel)
theorem gi1161 : (Cond.codeWith yL_wrongOn method_15_code 6 (Option.some Jvm.ClassFile.FieldType.int) [(0, 12, 15, 22), (0, 12, 19, 13)]) ∈ Gw := gw_in 1161 (by decide +kernel) (by decide +kernel)
theorem gi1173 : (Cond.codeWith yL_calmest method_16_code 5 (Option.some Jvm.ClassFile.FieldType.int) [(0, 10, 13, 22)]) ∈ Gw := gw_in 1173 (by decide +kernel) (by decide +kernel)
theorem gi1180 : (Cond.codeWith yL_arrivesIn method_17_code 4 (Option.some Jvm.ClassFile.FieldType.int) [(0, 9, 12, 22)]) ∈ Gw := gw_in 1180 (by decide +kernel) (by decide +kernel)
theorem gi1187 : (Cond.codeWith yL_growsBy method_18_code 5 (Option.some Jvm.ClassFile.FieldType.int) [(0, 10, 13, 13)]) ∈ Gw := gw_in 1187 (by decide +kernel) (by decide +kernel)
theorem gi1194 : (Cond.codeWith yL_send method_19_code 7 (Option.some Jvm.ClassFile.FieldType.int) [(0, 14, 17, 22), (0, 14, 21, 13), (0, 14, 25, 69)]) ∈ Gw := gw_in 1194 (by decide +kernel) (by decide +kernel)
theorem gi1230 : (Cond.codeWith yL_tick method_20_code 4 (Option.some Jvm.ClassFile.FieldType.int) [(0, 9, 12, 13), (0, 9, 15, 69)]) ∈ Gw := gw_in 1230 (by decide +kernel) (by decide +kernel)
theorem gi1238 : (Cond.codeWith yL_give method_21_code 5 (Option.some Jvm.ClassFile.FieldType.int) [(0, 10, 13, 22), (0, 10, 17, 13), (0, 10, 21, 69)]) ∈ Gw := gw_in 1238 (by decide +kernel) (by decide +kernel)
theorem gi1246 : (Cond.codeWith yL_cut method_22_code 5 (Option.some Jvm.ClassFile.FieldType.int) [(0, 10, 13, 22), (0, 10, 17, 69)]) ∈ Gw := gw_in 1246 (by decide +kernel) (by decide +kernel)
theorem gi1255 : (Cond.codeWith yL_set method_23_code 5 (Option.some Jvm.ClassFile.FieldType.int) [(0, 10, 13, 13)]) ∈ Gw := gw_in 1255 (by decide +kernel) (by decide +kernel)
theorem gi1264 : (Cond.codeWith yL_undo method_24_code 3 (Option.some Jvm.ClassFile.FieldType.int) [(0, 8, 11, 87)]) ∈ Gw := gw_in 1264 (by decide +kernel) (by decide +kernel)
theorem gi1292 : (Cond.codeWith yL_printTune method_25_code 4 (Option.some Jvm.ClassFile.FieldType.int) [(0, 9, 12, 22)]) ∈ Gw := gw_in 1292 (by decide +kernel) (by decide +kernel)
theorem gi1299 : (Cond.codeWith yL_restoreState method_26_code 3 (Option.some Jvm.ClassFile.FieldType.int) [(0, 8, 11, 87)]) ∈ Gw := gw_in 1299 (by decide +kernel) (by decide +kernel)
theorem z01 (x : Int) : (if x = 0 then (0 : Int) else 1) = 0 ∨ (if x = 0 then (0 : Int) else 1) = 1 := by split <;> simp
set_option maxHeartbeats 4000000 in
set_option maxRecDepth 100000 in
theorem lc_0 (hc : LwC p l s m meth c D aT aL ad adV A b L xs) (hR : 11 ≤ R.frames ∧ 510 ≤ R.locals) (ha1 : LwA L xs i 1 x1) (ha2 : LwA L xs i 2 x2) (ha3 : LwA L xs i 3 x3) (ha4 : LwA L xs i 4 x4) (ha5 : LwA L xs i 5 x5) (hI : Inv w) (hL : Lx D ad aT A s.heap (cm w) (oW aL ao f) H locs) (hl : lv_has ls 9 (LL ad b ao i)) (hj : cells + 4 ≤ R.cells ∧ slots + 24 ≤ R.slots) (kk : LwK p l e R s m below meth c Q D ad aT aL A b ao i (cells + 4) (slots + 24)) :
    W p l e R s m #[Value.ref b] below meth c H locs cells slots Q (F0 m 204 ls []) := by
  obtain ⟨hx, hN, -⟩ := id hc
  have hjz : cells ≤ R.cells ∧ slots ≤ R.slots := ⟨by omega, by omega⟩
  have hl : lv_has ls 9 [(0, .ref b), (1, .ref (ad 0)), (2, .ref (ad 210)), (3, .ref ao), (4, .int i)] := hl
  refine lv_aload_n hx.1 hx.2.1 dL_law_204 rfl (lv_at hl 1 rfl) ?_
  refine L_arg hc hL ha1 rfl (lv_at hl 0 rfl) (lv_at hl 4 rfl) dL_law_205 dL_law_206 dL_law_208 dL_law_209 dL_law_210 ?_
  refine L_arg hc hL ha2 rfl (lv_at hl 0 rfl) (lv_at hl 4 rfl) dL_law_211 dL_law_212 dL_law_214 dL_law_215 dL_law_216 ?_
  refine L_arg hc hL ha3 rfl (lv_at hl 0 rfl) (lv_at hl 4 rfl) dL_law_217 dL_law_218 dL_law_220 dL_law_221 dL_law_222 ?_
  refine L_arg hc hL ha4 rfl (lv_at hl 0 rfl) (lv_at hl 4 rfl) dL_law_223 dL_law_224 dL_law_226 dL_law_227 dL_law_228 ?_
  refine L_arg hc hL ha5 rfl (lv_at hl 0 rfl) (lv_at hl 4 rfl) dL_law_229 dL_law_230 dL_law_232 dL_law_233 dL_law_234 ?_
  obtain ⟨v, w1, w2, f1, f2, hI2⟩ := top_appendInput (F := 20000) (Nat.le_refl _) ha1.2.2 ha2.2.2 ha3.2.2 ha4.2.2 ha5.2.2 w hI
  refine L_callV hx (b := 0) [.int (oI x1), .int (oI x2), .int (oI x3), .int (oI x4), .int (oI x5)] [] (ev_X10_appendInput 20000 0 (by decide +kernel) x1 x2 x3 x4 x5 w) vm_X10_appendInput fc8 (by decide +kernel) g620 dL_law_235 rfl rfl (Nat.le_of_ble_eq_true rfl) ⟨by omega, by omega⟩ hjz hl.1 hL f1 (fun v9 hv H locs hL => ?_) (fun E hE => absurd hE (by intro h; cases h))
  cases hv
  refine lv_aload_n hx.1 hx.2.1 dL_law_238 rfl (lv_at hl 2 rfl) ?_
  refine L_arg hc hL ha1 rfl (lv_at hl 0 rfl) (lv_at hl 4 rfl) dL_law_239 dL_law_240 dL_law_242 dL_law_243 dL_law_244 ?_
  refine L_arg hc hL ha2 rfl (lv_at hl 0 rfl) (lv_at hl 4 rfl) dL_law_245 dL_law_246 dL_law_248 dL_law_249 dL_law_250 ?_
  refine L_arg hc hL ha3 rfl (lv_at hl 0 rfl) (lv_at hl 4 rfl) dL_law_251 dL_law_252 dL_law_254 dL_law_255 dL_law_256 ?_
  refine L_arg hc hL ha4 rfl (lv_at hl 0 rfl) (lv_at hl 4 rfl) dL_law_257 dL_law_258 dL_law_260 dL_law_261 dL_law_262 ?_
  refine L_arg hc hL ha5 rfl (lv_at hl 0 rfl) (lv_at hl 4 rfl) dL_law_263 dL_law_264 dL_law_266 dL_law_267 dL_law_268 ?_
  refine L_callV hx (b := 210) [.int (oI x1), .int (oI x2), .int (oI x3), .int (oI x4), .int (oI x5)] [.int (oI v)] (ev_X11_appendInput 20000 210 (by decide +kernel) x1 x2 x3 x4 x5 w1) vm_X11_appendInput fc9 (by decide +kernel) g1422 dL_law_269 rfl rfl (Nat.le_of_ble_eq_true rfl) ⟨by omega, by omega⟩ hjz hl.1 hL f2 (fun v9 hv H locs hL => ?_) (fun E hE => absurd hE (by intro h; cases h))
  cases hv
  refine lv_icmp_eq (tgt := 2131) hx.1 hx.2.1 dL_law_272 (by decide) (fun _ => ?_) (fun z => absurd rfl z)
  exact W.widen (by omega) (by omega) (kk w2 f H locs ls hI2 hL hl)
set_option maxHeartbeats 4000000 in
set_option maxRecDepth 100000 in
theorem lc_1 (hc : LwC p l s m meth c D aT aL ad adV A b L xs) (hR : 11 ≤ R.frames ∧ 510 ≤ R.locals) (ha1 : LwA L xs i 1 x1) (ha2 : LwA L xs i 2 x2) (ha3 : LwA L xs i 3 x3) (ha4 : LwA L xs i 4 x4) (ha5 : LwA L xs i 5 x5) (hI : Inv w) (hL : Lx D ad aT A s.heap (cm w) (oW aL ao f) H locs) (hl : lv_has ls 9 (LL ad b ao i)) (hj : cells + 4 ≤ R.cells ∧ slots + 24 ≤ R.slots) (kk : LwK p l e R s m below meth c Q D ad aT aL A b ao i (cells + 4) (slots + 24)) :
    W p l e R s m #[Value.ref b] below meth c H locs cells slots Q (F0 m 277 ls []) := by
  obtain ⟨hx, hN, -⟩ := id hc
  have hjz : cells ≤ R.cells ∧ slots ≤ R.slots := ⟨by omega, by omega⟩
  have hl : lv_has ls 9 [(0, .ref b), (1, .ref (ad 0)), (2, .ref (ad 210)), (3, .ref ao), (4, .int i)] := hl
  refine lv_aload_n hx.1 hx.2.1 dL_law_277 rfl (lv_at hl 1 rfl) ?_
  refine L_arg hc hL ha1 rfl (lv_at hl 0 rfl) (lv_at hl 4 rfl) dL_law_278 dL_law_279 dL_law_281 dL_law_282 dL_law_283 ?_
  obtain ⟨v, w1, w2, f1, f2, hI2⟩ := top_truncateInput (F := 20000) ha1.2.2 w hI
  refine L_callV hx (b := 0) [.int (oI x1)] [] (ev_X10_truncateInput 20000 0 (by decide +kernel) x1 w) vm_X10_truncateInput fc8 (by decide +kernel) g630 dL_law_284 rfl rfl (Nat.le_of_ble_eq_true rfl) ⟨by omega, by omega⟩ hjz hl.1 hL f1 (fun v9 hv H locs hL => ?_) (fun E hE => absurd hE (by intro h; cases h))
  cases hv
  refine lv_aload_n hx.1 hx.2.1 dL_law_287 rfl (lv_at hl 2 rfl) ?_
  refine L_arg hc hL ha1 rfl (lv_at hl 0 rfl) (lv_at hl 4 rfl) dL_law_288 dL_law_289 dL_law_291 dL_law_292 dL_law_293 ?_
  refine L_callV hx (b := 210) [.int (oI x1)] [.int (oI (bI v))] (ev_X11_truncateInput 20000 210 (by decide +kernel) x1 w1) vm_X11_truncateInput fc9 (by decide +kernel) g1430 dL_law_294 rfl rfl (Nat.le_of_ble_eq_true rfl) ⟨by omega, by omega⟩ hjz hl.1 hL f2 (fun v9 hv H locs hL => ?_) (fun E hE => absurd hE (by intro h; cases h))
  cases hv
  refine lv_icmp_eq (tgt := 2131) hx.1 hx.2.1 dL_law_297 (by decide) (fun _ => ?_) (fun z => absurd rfl z)
  exact W.widen (by omega) (by omega) (kk w2 f H locs ls hI2 hL hl)
set_option maxHeartbeats 4000000 in
set_option maxRecDepth 100000 in
theorem lc_2 (hc : LwC p l s m meth c D aT aL ad adV A b L xs) (hR : 11 ≤ R.frames ∧ 510 ≤ R.locals) (ha1 : LwA L xs i 1 x1) (ha2 : LwA L xs i 2 x2) (ha3 : LwA L xs i 3 x3) (ha4 : LwA L xs i 4 x4) (ha5 : LwA L xs i 5 x5) (hI : Inv w) (hL : Lx D ad aT A s.heap (cm w) (oW aL ao f) H locs) (hl : lv_has ls 9 (LL ad b ao i)) (hj : cells + 4 ≤ R.cells ∧ slots + 24 ≤ R.slots) (kk : LwK p l e R s m below meth c Q D ad aT aL A b ao i (cells + 4) (slots + 24)) :
    W p l e R s m #[Value.ref b] below meth c H locs cells slots Q (F0 m 302 ls []) := by
  obtain ⟨hx, hN, -⟩ := id hc
  have hjz : cells ≤ R.cells ∧ slots ≤ R.slots := ⟨by omega, by omega⟩
  have hl : lv_has ls 9 [(0, .ref b), (1, .ref (ad 0)), (2, .ref (ad 210)), (3, .ref ao), (4, .int i)] := hl
  refine lv_aload_n hx.1 hx.2.1 dL_law_302 rfl (lv_at hl 1 rfl) ?_
  obtain ⟨u, eu⟩ : ∃ u, u = iset w 210 19 (oI (w 210 19)).toInt := ⟨_, rfl⟩
  have hcu : cm u = cm w := by
    funext a k
    show oI (u a k) = oI (w a k)
    rw [eu]
    by_cases c1 : a = 210
    · rw [c1, is_eq]
      by_cases c2 : (k : Int) = 19
      · rw [c2, rs_self, oI_of]
      · rw [rs_ne c2]
    · rw [is_ne c1]
  have hIu : Inv u := by rw [eu]; exact hI.w19 _
  have h19 : rg (u 210 19) := by
    rw [eu, is_eq, rs_self]
    exact ⟨Int32.le_toInt _, Int32.toInt_le _⟩
  rw [← hcu] at hL
  obtain ⟨v, w1, w2, f1, f2, hI2⟩ := top_loadPost (F := 20000) (Nat.le_refl _) u hIu h19
  refine L_callV hx (b := 0) [] [] (ev_X10_loadPost 20000 0 (by decide +kernel) u) vm_X10_loadPost fc8 (by decide +kernel) g638 dL_law_303 rfl rfl (Nat.le_of_ble_eq_true rfl) ⟨by omega, by omega⟩ hjz hl.1 hL f1 (fun v9 hv H locs hL => ?_) (fun E hE => absurd hE (by intro h; cases h))
  cases hv
  refine lv_aload_n hx.1 hx.2.1 dL_law_306 rfl (lv_at hl 2 rfl) ?_
  refine L_callV hx (b := 210) [] [.int (oI v)] (ev_X11_loadPost 20000 210 (by decide +kernel) w1) vm_X11_loadPost fc9 (by decide +kernel) g1445 dL_law_307 rfl rfl (Nat.le_of_ble_eq_true rfl) ⟨by omega, by omega⟩ hjz hl.1 hL f2 (fun v9 hv H locs hL => ?_) (fun E hE => absurd hE (by intro h; cases h))
  cases hv
  refine lv_icmp_eq (tgt := 2131) hx.1 hx.2.1 dL_law_310 (by decide) (fun _ => ?_) (fun z => absurd rfl z)
  exact W.widen (by omega) (by omega) (kk w2 f H locs ls hI2 hL hl)
set_option maxHeartbeats 4000000 in
set_option maxRecDepth 100000 in
theorem lc_3 (hc : LwC p l s m meth c D aT aL ad adV A b L xs) (hR : 11 ≤ R.frames ∧ 510 ≤ R.locals) (ha1 : LwA L xs i 1 x1) (ha2 : LwA L xs i 2 x2) (ha3 : LwA L xs i 3 x3) (ha4 : LwA L xs i 4 x4) (ha5 : LwA L xs i 5 x5) (hI : Inv w) (hL : Lx D ad aT A s.heap (cm w) (oW aL ao f) H locs) (hl : lv_has ls 9 (LL ad b ao i)) (hj : cells + 4 ≤ R.cells ∧ slots + 24 ≤ R.slots) (kk : LwK p l e R s m below meth c Q D ad aT aL A b ao i (cells + 4) (slots + 24)) :
    W p l e R s m #[Value.ref b] below meth c H locs cells slots Q (F0 m 315 ls []) := by
  obtain ⟨hx, hN, -⟩ := id hc
  have hjz : cells ≤ R.cells ∧ slots ≤ R.slots := ⟨by omega, by omega⟩
  have hl : lv_has ls 9 [(0, .ref b), (1, .ref (ad 0)), (2, .ref (ad 210)), (3, .ref ao), (4, .int i)] := hl
  refine lv_aload_n hx.1 hx.2.1 dL_law_315 rfl (lv_at hl 1 rfl) ?_
  obtain ⟨u, eu⟩ : ∃ u, u = iset w 210 19 (oI (w 210 19)).toInt := ⟨_, rfl⟩
  have hcu : cm u = cm w := by
    funext a k
    show oI (u a k) = oI (w a k)
    rw [eu]
    by_cases c1 : a = 210
    · rw [c1, is_eq]
      by_cases c2 : (k : Int) = 19
      · rw [c2, rs_self, oI_of]
      · rw [rs_ne c2]
    · rw [is_ne c1]
  have hIu : Inv u := by rw [eu]; exact hI.w19 _
  have h19 : rg (u 210 19) := by
    rw [eu, is_eq, rs_self]
    exact ⟨Int32.le_toInt _, Int32.toInt_le _⟩
  rw [← hcu] at hL
  obtain ⟨v, w1, w2, f1, f2, hI2⟩ := top_playScript (F := 20000) (Nat.le_refl _) u hIu h19
  refine L_callV hx (b := 0) [] [] (ev_X10_playScript 20000 0 (by decide +kernel) u) vm_X10_playScript fc8 (by decide +kernel) g646 dL_law_316 rfl rfl (Nat.le_of_ble_eq_true rfl) ⟨by omega, by omega⟩ hjz hl.1 hL f1 (fun v9 hv H locs hL => ?_) (fun E hE => absurd hE (by intro h; cases h))
  cases hv
  refine lv_aload_n hx.1 hx.2.1 dL_law_319 rfl (lv_at hl 2 rfl) ?_
  refine L_callV hx (b := 210) [] [.int (oI v)] (ev_X11_playScript 20000 210 (by decide +kernel) w1) vm_X11_playScript fc9 (by decide +kernel) g1557 dL_law_320 rfl rfl (Nat.le_of_ble_eq_true rfl) ⟨by omega, by omega⟩ hjz hl.1 hL f2 (fun v9 hv H locs hL => ?_) (fun E hE => absurd hE (by intro h; cases h))
  cases hv
  refine lv_icmp_eq (tgt := 2131) hx.1 hx.2.1 dL_law_323 (by decide) (fun _ => ?_) (fun z => absurd rfl z)
  exact W.widen (by omega) (by omega) (kk w2 f H locs ls hI2 hL hl)
set_option maxHeartbeats 4000000 in
set_option maxRecDepth 100000 in
theorem lc_4 (hc : LwC p l s m meth c D aT aL ad adV A b L xs) (hR : 11 ≤ R.frames ∧ 510 ≤ R.locals) (ha1 : LwA L xs i 1 x1) (ha2 : LwA L xs i 2 x2) (ha3 : LwA L xs i 3 x3) (ha4 : LwA L xs i 4 x4) (ha5 : LwA L xs i 5 x5) (hI : Inv w) (hL : Lx D ad aT A s.heap (cm w) (oW aL ao f) H locs) (hl : lv_has ls 9 (LL ad b ao i)) (hj : cells + 4 ≤ R.cells ∧ slots + 24 ≤ R.slots) (kk : LwK p l e R s m below meth c Q D ad aT aL A b ao i (cells + 4) (slots + 24)) :
    W p l e R s m #[Value.ref b] below meth c H locs cells slots Q (F0 m 328 ls []) := by
  obtain ⟨hx, hN, -⟩ := id hc
  have hjz : cells ≤ R.cells ∧ slots ≤ R.slots := ⟨by omega, by omega⟩
  have hl : lv_has ls 9 [(0, .ref b), (1, .ref (ad 0)), (2, .ref (ad 210)), (3, .ref ao), (4, .int i)] := hl
  refine lv_aload_n hx.1 hx.2.1 dL_law_328 rfl (lv_at hl 1 rfl) ?_
  obtain ⟨v, w2, f1, f2, hI2⟩ := top_errorCode (F := 20000) w hI
  refine L_callV hx (b := 0) [] [] (ev_X10_errorCode 20000 0 (by decide +kernel) w) vm_X10_errorCode fc8 (by decide +kernel) g830 dL_law_329 rfl rfl (Nat.le_of_ble_eq_true rfl) ⟨by omega, by omega⟩ hjz hl.1 hL f1 (fun v9 hv H locs hL => ?_) (fun E hE => absurd hE (by intro h; cases h))
  cases hv
  refine lv_aload_n hx.1 hx.2.1 dL_law_332 rfl (lv_at hl 2 rfl) ?_
  refine L_callV hx (b := 210) [] [.int (oI v)] (ev_X11_errorCode 20000 210 (by decide +kernel) w) vm_X11_errorCode fc9 (by decide +kernel) g1437 dL_law_333 rfl rfl (Nat.le_of_ble_eq_true rfl) ⟨by omega, by omega⟩ hjz hl.1 hL f2 (fun v9 hv H locs hL => ?_) (fun E hE => absurd hE (by intro h; cases h))
  cases hv
  refine lv_icmp_eq (tgt := 2131) hx.1 hx.2.1 dL_law_336 (by decide) (fun _ => ?_) (fun z => absurd rfl z)
  exact W.widen (by omega) (by omega) (kk w2 f H locs ls hI2 hL hl)
set_option maxHeartbeats 4000000 in
set_option maxRecDepth 100000 in
theorem lc_5 (hc : LwC p l s m meth c D aT aL ad adV A b L xs) (hR : 11 ≤ R.frames ∧ 510 ≤ R.locals) (ha1 : LwA L xs i 1 x1) (ha2 : LwA L xs i 2 x2) (ha3 : LwA L xs i 3 x3) (ha4 : LwA L xs i 4 x4) (ha5 : LwA L xs i 5 x5) (hI : Inv w) (hL : Lx D ad aT A s.heap (cm w) (oW aL ao f) H locs) (hl : lv_has ls 9 (LL ad b ao i)) (hj : cells + 4 ≤ R.cells ∧ slots + 24 ≤ R.slots) (kk : LwK p l e R s m below meth c Q D ad aT aL A b ao i (cells + 4) (slots + 24)) :
    W p l e R s m #[Value.ref b] below meth c H locs cells slots Q (F0 m 341 ls []) := by
  obtain ⟨hx, hN, -⟩ := id hc
  have hjz : cells ≤ R.cells ∧ slots ≤ R.slots := ⟨by omega, by omega⟩
  have hl : lv_has ls 9 [(0, .ref b), (1, .ref (ad 0)), (2, .ref (ad 210)), (3, .ref ao), (4, .int i)] := hl
  refine lv_aload_n hx.1 hx.2.1 dL_law_341 rfl (lv_at hl 1 rfl) ?_
  obtain ⟨v, w2, f1, f2, hI2⟩ := top_errorOffset (F := 20000) w hI
  refine L_callV hx (b := 0) [] [] (ev_X10_errorOffset 20000 0 (by decide +kernel) w) vm_X10_errorOffset fc8 (by decide +kernel) g834 dL_law_342 rfl rfl (Nat.le_of_ble_eq_true rfl) ⟨by omega, by omega⟩ hjz hl.1 hL f1 (fun v9 hv H locs hL => ?_) (fun E hE => absurd hE (by intro h; cases h))
  cases hv
  refine lv_aload_n hx.1 hx.2.1 dL_law_345 rfl (lv_at hl 2 rfl) ?_
  refine L_callV hx (b := 210) [] [.int (oI v)] (ev_X11_errorOffset 20000 210 (by decide +kernel) w) vm_X11_errorOffset fc9 (by decide +kernel) g1441 dL_law_346 rfl rfl (Nat.le_of_ble_eq_true rfl) ⟨by omega, by omega⟩ hjz hl.1 hL f2 (fun v9 hv H locs hL => ?_) (fun E hE => absurd hE (by intro h; cases h))
  cases hv
  refine lv_icmp_eq (tgt := 2131) hx.1 hx.2.1 dL_law_349 (by decide) (fun _ => ?_) (fun z => absurd rfl z)
  exact W.widen (by omega) (by omega) (kk w2 f H locs ls hI2 hL hl)
set_option maxHeartbeats 4000000 in
set_option maxRecDepth 100000 in
theorem lc_6 (hc : LwC p l s m meth c D aT aL ad adV A b L xs) (hR : 11 ≤ R.frames ∧ 510 ≤ R.locals) (ha1 : LwA L xs i 1 x1) (ha2 : LwA L xs i 2 x2) (ha3 : LwA L xs i 3 x3) (ha4 : LwA L xs i 4 x4) (ha5 : LwA L xs i 5 x5) (hI : Inv w) (hL : Lx D ad aT A s.heap (cm w) (oW aL ao f) H locs) (hl : lv_has ls 9 (LL ad b ao i)) (hj : cells + 4 ≤ R.cells ∧ slots + 24 ≤ R.slots) (kk : LwK p l e R s m below meth c Q D ad aT aL A b ao i (cells + 4) (slots + 24)) :
    W p l e R s m #[Value.ref b] below meth c H locs cells slots Q (F0 m 354 ls []) := by
  obtain ⟨hx, hN, -⟩ := id hc
  have hjz : cells ≤ R.cells ∧ slots ≤ R.slots := ⟨by omega, by omega⟩
  have hl : lv_has ls 9 [(0, .ref b), (1, .ref (ad 0)), (2, .ref (ad 210)), (3, .ref ao), (4, .int i)] := hl
  refine lv_aload_n hx.1 hx.2.1 dL_law_354 rfl (lv_at hl 1 rfl) ?_
  refine L_arg hc hL ha1 rfl (lv_at hl 0 rfl) (lv_at hl 4 rfl) dL_law_355 dL_law_356 dL_law_358 dL_law_359 dL_law_360 ?_
  refine lv_aload_n hx.1 hx.2.1 dL_law_361 rfl (lv_at hl 3 rfl) ?_
  obtain ⟨res, w1, bb, w2, f1, f2, hI2, hA⟩ := (top_count (F := 20000) (Nat.le_refl _) ha1.2.2) w hI
  refine L_callH (n := 3) hx hN (st := []) (hm_count x1 f1 hA.mem) hL gi926 g107 g924 g925 (by decide +kernel) dL_law_362 rfl rfl (Nat.le_of_ble_eq_true rfl) ⟨by omega, by omega⟩ hj hl.1 (fun f9 H locs hf9 hL => ?_)
  refine lv_istore (lv' := [(5, .int (hres [eIA] res)), (0, .ref b), (1, .ref (ad 0)), (2, .ref (ad 210)), (3, .ref ao), (4, .int i)]) hx.1 hx.2.1 dL_law_365 hl (by decide) rfl (fun ls hl => ?_)
  refine lv_aload_n hx.1 hx.2.1 dL_law_367 rfl (lv_at hl 3 rfl) ?_
  refine L_arg hc hL ha1 rfl (lv_at hl 1 rfl) (lv_at hl 5 rfl) dL_law_368 dL_law_369 dL_law_371 dL_law_372 dL_law_373 ?_
  refine L_callV hx (b := 210) [.int (oI x1)] [] (ev_X11_count 20000 210 (by decide +kernel) x1 w1) vm_X11_count fc9 (by decide +kernel) g1709 dL_law_374 rfl rfl (Nat.le_of_ble_eq_true rfl) ⟨by omega, by omega⟩ hj hl.1 hL f2 (fun v9 hv H locs hL => ?_) (fun E hE => absurd hE (by intro h; cases h))
  cases hv
  refine lv_istore (lv' := [(6, .int (oI bb)), (5, .int (hres [eIA] res)), (0, .ref b), (1, .ref (ad 0)), (2, .ref (ad 210)), (3, .ref ao), (4, .int i)]) hx.1 hx.2.1 dL_law_377 hl (by decide) rfl (fun ls hl => ?_)
  exact L_tail hc hR hI2 hL hA (by decide) hf9 hl hj dL_law_379 dL_law_380 dL_law_383 dL_law_385 dL_law_390 dL_law_392 dL_law_395 dL_law_396 dL_law_397 dL_law_398 dL_law_400 dL_law_401 dL_law_402 dL_law_407 (by decide) kk
set_option maxHeartbeats 4000000 in
set_option maxRecDepth 100000 in
theorem lc_7 (hc : LwC p l s m meth c D aT aL ad adV A b L xs) (hR : 11 ≤ R.frames ∧ 510 ≤ R.locals) (ha1 : LwA L xs i 1 x1) (ha2 : LwA L xs i 2 x2) (ha3 : LwA L xs i 3 x3) (ha4 : LwA L xs i 4 x4) (ha5 : LwA L xs i 5 x5) (hI : Inv w) (hL : Lx D ad aT A s.heap (cm w) (oW aL ao f) H locs) (hl : lv_has ls 9 (LL ad b ao i)) (hj : cells + 4 ≤ R.cells ∧ slots + 24 ≤ R.slots) (kk : LwK p l e R s m below meth c Q D ad aT aL A b ao i (cells + 4) (slots + 24)) :
    W p l e R s m #[Value.ref b] below meth c H locs cells slots Q (F0 m 410 ls []) := by
  obtain ⟨hx, hN, -⟩ := id hc
  have hjz : cells ≤ R.cells ∧ slots ≤ R.slots := ⟨by omega, by omega⟩
  have hl : lv_has ls 9 [(0, .ref b), (1, .ref (ad 0)), (2, .ref (ad 210)), (3, .ref ao), (4, .int i)] := hl
  refine lv_aload_n hx.1 hx.2.1 dL_law_410 rfl (lv_at hl 1 rfl) ?_
  refine L_arg hc hL ha1 rfl (lv_at hl 0 rfl) (lv_at hl 4 rfl) dL_law_411 dL_law_412 dL_law_414 dL_law_415 dL_law_416 ?_
  refine lv_aload_n hx.1 hx.2.1 dL_law_417 rfl (lv_at hl 3 rfl) ?_
  obtain ⟨res, w1, bb, w2, f1, f2, hI2, hA⟩ := (top_account (F := 20000) (Nat.le_refl _) ha1.2.2) w hI
  refine L_callH (n := 3) hx hN (st := []) (hm_account x1 f1 hA.mem) hL gi1022 g107 g1020 g1021 (by decide +kernel) dL_law_418 rfl rfl (Nat.le_of_ble_eq_true rfl) ⟨by omega, by omega⟩ hj hl.1 (fun f9 H locs hf9 hL => ?_)
  refine lv_istore (lv' := [(5, .int (hres [eIA] res)), (0, .ref b), (1, .ref (ad 0)), (2, .ref (ad 210)), (3, .ref ao), (4, .int i)]) hx.1 hx.2.1 dL_law_421 hl (by decide) rfl (fun ls hl => ?_)
  refine lv_aload_n hx.1 hx.2.1 dL_law_423 rfl (lv_at hl 3 rfl) ?_
  refine L_arg hc hL ha1 rfl (lv_at hl 1 rfl) (lv_at hl 5 rfl) dL_law_424 dL_law_425 dL_law_427 dL_law_428 dL_law_429 ?_
  refine L_callV hx (b := 210) [.int (oI x1)] [] (ev_X11_account 20000 210 (by decide +kernel) x1 w1) vm_X11_account fc9 (by decide +kernel) g1730 dL_law_430 rfl rfl (Nat.le_of_ble_eq_true rfl) ⟨by omega, by omega⟩ hj hl.1 hL f2 (fun v9 hv H locs hL => ?_) (fun E hE => absurd hE (by intro h; cases h))
  cases hv
  refine lv_istore (lv' := [(6, .int (oI bb)), (5, .int (hres [eIA] res)), (0, .ref b), (1, .ref (ad 0)), (2, .ref (ad 210)), (3, .ref ao), (4, .int i)]) hx.1 hx.2.1 dL_law_433 hl (by decide) rfl (fun ls hl => ?_)
  exact L_tail hc hR hI2 hL hA (by decide) hf9 hl hj dL_law_435 dL_law_436 dL_law_439 dL_law_441 dL_law_446 dL_law_448 dL_law_451 dL_law_452 dL_law_453 dL_law_454 dL_law_456 dL_law_457 dL_law_458 dL_law_463 (by decide) kk
set_option maxHeartbeats 4000000 in
set_option maxRecDepth 100000 in
theorem lc_8 (hc : LwC p l s m meth c D aT aL ad adV A b L xs) (hR : 11 ≤ R.frames ∧ 510 ≤ R.locals) (ha1 : LwA L xs i 1 x1) (ha2 : LwA L xs i 2 x2) (ha3 : LwA L xs i 3 x3) (ha4 : LwA L xs i 4 x4) (ha5 : LwA L xs i 5 x5) (hI : Inv w) (hL : Lx D ad aT A s.heap (cm w) (oW aL ao f) H locs) (hl : lv_has ls 9 (LL ad b ao i)) (hj : cells + 4 ≤ R.cells ∧ slots + 24 ≤ R.slots) (kk : LwK p l e R s m below meth c Q D ad aT aL A b ao i (cells + 4) (slots + 24)) :
    W p l e R s m #[Value.ref b] below meth c H locs cells slots Q (F0 m 466 ls []) := by
  obtain ⟨hx, hN, -⟩ := id hc
  have hjz : cells ≤ R.cells ∧ slots ≤ R.slots := ⟨by omega, by omega⟩
  have hl : lv_has ls 9 [(0, .ref b), (1, .ref (ad 0)), (2, .ref (ad 210)), (3, .ref ao), (4, .int i)] := hl
  refine lv_aload_n hx.1 hx.2.1 dL_law_466 rfl (lv_at hl 1 rfl) ?_
  refine L_arg hc hL ha1 rfl (lv_at hl 0 rfl) (lv_at hl 4 rfl) dL_law_467 dL_law_468 dL_law_470 dL_law_471 dL_law_472 ?_
  refine L_arg hc hL ha2 rfl (lv_at hl 0 rfl) (lv_at hl 4 rfl) dL_law_473 dL_law_474 dL_law_476 dL_law_477 dL_law_478 ?_
  refine lv_aload_n hx.1 hx.2.1 dL_law_479 rfl (lv_at hl 3 rfl) ?_
  obtain ⟨res, w1, bb, w2, f1, f2, hI2, hA⟩ := (top_nameByte (F := 20000) (Nat.le_refl _) ha1.2.2 ha2.2.2).top w hI
  refine L_callH (n := 4) hx hN (st := []) (hm_nameByte x1 x2 f1 hA.mem) hL gi1029 g107 g1027 g1028 (by decide +kernel) dL_law_480 rfl rfl (Nat.le_of_ble_eq_true rfl) ⟨by omega, by omega⟩ hj hl.1 (fun f9 H locs hf9 hL => ?_)
  refine lv_istore (lv' := [(5, .int (hres [eIO] res)), (0, .ref b), (1, .ref (ad 0)), (2, .ref (ad 210)), (3, .ref ao), (4, .int i)]) hx.1 hx.2.1 dL_law_483 hl (by decide) rfl (fun ls hl => ?_)
  refine lv_aload_n hx.1 hx.2.1 dL_law_485 rfl (lv_at hl 3 rfl) ?_
  refine L_arg hc hL ha1 rfl (lv_at hl 1 rfl) (lv_at hl 5 rfl) dL_law_486 dL_law_487 dL_law_489 dL_law_490 dL_law_491 ?_
  refine L_arg hc hL ha2 rfl (lv_at hl 1 rfl) (lv_at hl 5 rfl) dL_law_492 dL_law_493 dL_law_495 dL_law_496 dL_law_497 ?_
  refine L_callV hx (b := 210) [.int (oI x1), .int (oI x2)] [] (ev_X11_nameByte 20000 210 (by decide +kernel) x1 x2 w1) vm_X11_nameByte fc9 (by decide +kernel) g1735 dL_law_498 rfl rfl (Nat.le_of_ble_eq_true rfl) ⟨by omega, by omega⟩ hj hl.1 hL f2 (fun v9 hv H locs hL => ?_) (fun E hE => absurd hE (by intro h; cases h))
  cases hv
  refine lv_istore (lv' := [(6, .int (oI bb)), (5, .int (hres [eIO] res)), (0, .ref b), (1, .ref (ad 0)), (2, .ref (ad 210)), (3, .ref ao), (4, .int i)]) hx.1 hx.2.1 dL_law_501 hl (by decide) rfl (fun ls hl => ?_)
  exact L_tail hc hR hI2 hL hA (by decide) hf9 hl hj dL_law_503 dL_law_504 dL_law_507 dL_law_509 dL_law_514 dL_law_516 dL_law_519 dL_law_520 dL_law_521 dL_law_522 dL_law_524 dL_law_525 dL_law_526 dL_law_531 (by decide) kk
set_option maxHeartbeats 4000000 in
set_option maxRecDepth 100000 in
theorem lc_9 (hc : LwC p l s m meth c D aT aL ad adV A b L xs) (hR : 11 ≤ R.frames ∧ 510 ≤ R.locals) (ha1 : LwA L xs i 1 x1) (ha2 : LwA L xs i 2 x2) (ha3 : LwA L xs i 3 x3) (ha4 : LwA L xs i 4 x4) (ha5 : LwA L xs i 5 x5) (hI : Inv w) (hL : Lx D ad aT A s.heap (cm w) (oW aL ao f) H locs) (hl : lv_has ls 9 (LL ad b ao i)) (hj : cells + 4 ≤ R.cells ∧ slots + 24 ≤ R.slots) (kk : LwK p l e R s m below meth c Q D ad aT aL A b ao i (cells + 4) (slots + 24)) :
    W p l e R s m #[Value.ref b] below meth c H locs cells slots Q (F0 m 534 ls []) := by
  obtain ⟨hx, hN, -⟩ := id hc
  have hjz : cells ≤ R.cells ∧ slots ≤ R.slots := ⟨by omega, by omega⟩
  have hl : lv_has ls 9 [(0, .ref b), (1, .ref (ad 0)), (2, .ref (ad 210)), (3, .ref ao), (4, .int i)] := hl
  refine lv_aload_n hx.1 hx.2.1 dL_law_534 rfl (lv_at hl 1 rfl) ?_
  refine L_arg hc hL ha1 rfl (lv_at hl 0 rfl) (lv_at hl 4 rfl) dL_law_535 dL_law_536 dL_law_538 dL_law_539 dL_law_540 ?_
  refine L_arg hc hL ha2 rfl (lv_at hl 0 rfl) (lv_at hl 4 rfl) dL_law_541 dL_law_542 dL_law_544 dL_law_545 dL_law_546 ?_
  refine lv_aload_n hx.1 hx.2.1 dL_law_547 rfl (lv_at hl 3 rfl) ?_
  obtain ⟨res, w1, bb, w2, f1, f2, hI2, hA⟩ := (top_roof (F := 20000) (Nat.le_refl _) ha1.2.2 ha2.2.2).top w hI
  refine L_callH (n := 4) hx hN (st := []) (hm_roof x1 x2 f1 hA.mem) hL gi1057 g107 g1055 g1056 (by decide +kernel) dL_law_548 rfl rfl (Nat.le_of_ble_eq_true rfl) ⟨by omega, by omega⟩ hj hl.1 (fun f9 H locs hf9 hL => ?_)
  refine lv_istore (lv' := [(5, .int (hres [eIO, eIA] res)), (0, .ref b), (1, .ref (ad 0)), (2, .ref (ad 210)), (3, .ref ao), (4, .int i)]) hx.1 hx.2.1 dL_law_551 hl (by decide) rfl (fun ls hl => ?_)
  refine lv_aload_n hx.1 hx.2.1 dL_law_553 rfl (lv_at hl 3 rfl) ?_
  refine L_arg hc hL ha1 rfl (lv_at hl 1 rfl) (lv_at hl 5 rfl) dL_law_554 dL_law_555 dL_law_557 dL_law_558 dL_law_559 ?_
  refine L_arg hc hL ha2 rfl (lv_at hl 1 rfl) (lv_at hl 5 rfl) dL_law_560 dL_law_561 dL_law_563 dL_law_564 dL_law_565 ?_
  refine L_callV hx (b := 210) [.int (oI x1), .int (oI x2)] [] (ev_X11_roof 20000 210 (by decide +kernel) x1 x2 w1) vm_X11_roof fc9 (by decide +kernel) g1743 dL_law_566 rfl rfl (Nat.le_of_ble_eq_true rfl) ⟨by omega, by omega⟩ hj hl.1 hL f2 (fun v9 hv H locs hL => ?_) (fun E hE => absurd hE (by intro h; cases h))
  cases hv
  refine lv_istore (lv' := [(6, .int (oI bb)), (5, .int (hres [eIO, eIA] res)), (0, .ref b), (1, .ref (ad 0)), (2, .ref (ad 210)), (3, .ref ao), (4, .int i)]) hx.1 hx.2.1 dL_law_569 hl (by decide) rfl (fun ls hl => ?_)
  exact L_tail hc hR hI2 hL hA (by decide) hf9 hl hj dL_law_571 dL_law_572 dL_law_575 dL_law_577 dL_law_582 dL_law_584 dL_law_587 dL_law_588 dL_law_589 dL_law_590 dL_law_592 dL_law_593 dL_law_594 dL_law_599 (by decide) kk
set_option maxHeartbeats 4000000 in
set_option maxRecDepth 100000 in
theorem lc_10 (hc : LwC p l s m meth c D aT aL ad adV A b L xs) (hR : 11 ≤ R.frames ∧ 510 ≤ R.locals) (ha1 : LwA L xs i 1 x1) (ha2 : LwA L xs i 2 x2) (ha3 : LwA L xs i 3 x3) (ha4 : LwA L xs i 4 x4) (ha5 : LwA L xs i 5 x5) (hI : Inv w) (hL : Lx D ad aT A s.heap (cm w) (oW aL ao f) H locs) (hl : lv_has ls 9 (LL ad b ao i)) (hj : cells + 4 ≤ R.cells ∧ slots + 24 ≤ R.slots) (kk : LwK p l e R s m below meth c Q D ad aT aL A b ao i (cells + 4) (slots + 24)) :
    W p l e R s m #[Value.ref b] below meth c H locs cells slots Q (F0 m 602 ls []) := by
  obtain ⟨hx, hN, -⟩ := id hc
  have hjz : cells ≤ R.cells ∧ slots ≤ R.slots := ⟨by omega, by omega⟩
  have hl : lv_has ls 9 [(0, .ref b), (1, .ref (ad 0)), (2, .ref (ad 210)), (3, .ref ao), (4, .int i)] := hl
  refine lv_aload_n hx.1 hx.2.1 dL_law_602 rfl (lv_at hl 1 rfl) ?_
  refine L_arg hc hL ha1 rfl (lv_at hl 0 rfl) (lv_at hl 4 rfl) dL_law_603 dL_law_604 dL_law_606 dL_law_607 dL_law_608 ?_
  refine L_arg hc hL ha2 rfl (lv_at hl 0 rfl) (lv_at hl 4 rfl) dL_law_609 dL_law_610 dL_law_612 dL_law_613 dL_law_614 ?_
  refine lv_aload_n hx.1 hx.2.1 dL_law_615 rfl (lv_at hl 3 rfl) ?_
  obtain ⟨res, w1, bb, w2, f1, f2, hI2, hA⟩ := (top_way (F := 20000) (Nat.le_refl _) ha1.2.2 ha2.2.2).top w hI
  refine L_callH (n := 4) hx hN (st := []) (hm_way x1 x2 f1 hA.mem) hL gi1073 g107 g1071 g1072 (by decide +kernel) dL_law_616 rfl rfl (Nat.le_of_ble_eq_true rfl) ⟨by omega, by omega⟩ hj hl.1 (fun f9 H locs hf9 hL => ?_)
  refine lv_istore (lv' := [(5, .int (hres [eIO, eIA] res)), (0, .ref b), (1, .ref (ad 0)), (2, .ref (ad 210)), (3, .ref ao), (4, .int i)]) hx.1 hx.2.1 dL_law_619 hl (by decide) rfl (fun ls hl => ?_)
  refine lv_aload_n hx.1 hx.2.1 dL_law_621 rfl (lv_at hl 3 rfl) ?_
  refine L_arg hc hL ha1 rfl (lv_at hl 1 rfl) (lv_at hl 5 rfl) dL_law_622 dL_law_623 dL_law_625 dL_law_626 dL_law_627 ?_
  refine L_arg hc hL ha2 rfl (lv_at hl 1 rfl) (lv_at hl 5 rfl) dL_law_628 dL_law_629 dL_law_631 dL_law_632 dL_law_633 ?_
  refine L_callV hx (b := 210) [.int (oI x1), .int (oI x2)] [] (ev_X11_way 20000 210 (by decide +kernel) x1 x2 w1) vm_X11_way fc9 (by decide +kernel) g1756 dL_law_634 rfl rfl (Nat.le_of_ble_eq_true rfl) ⟨by omega, by omega⟩ hj hl.1 hL f2 (fun v9 hv H locs hL => ?_) (fun E hE => absurd hE (by intro h; cases h))
  cases hv
  refine lv_istore (lv' := [(6, .int (oI bb)), (5, .int (hres [eIO, eIA] res)), (0, .ref b), (1, .ref (ad 0)), (2, .ref (ad 210)), (3, .ref ao), (4, .int i)]) hx.1 hx.2.1 dL_law_637 hl (by decide) rfl (fun ls hl => ?_)
  exact L_tail hc hR hI2 hL hA (by decide) hf9 hl hj dL_law_639 dL_law_640 dL_law_643 dL_law_645 dL_law_650 dL_law_652 dL_law_655 dL_law_656 dL_law_657 dL_law_658 dL_law_660 dL_law_661 dL_law_662 dL_law_667 (by decide) kk
set_option maxHeartbeats 4000000 in
set_option maxRecDepth 100000 in
theorem lc_11 (hc : LwC p l s m meth c D aT aL ad adV A b L xs) (hR : 11 ≤ R.frames ∧ 510 ≤ R.locals) (ha1 : LwA L xs i 1 x1) (ha2 : LwA L xs i 2 x2) (ha3 : LwA L xs i 3 x3) (ha4 : LwA L xs i 4 x4) (ha5 : LwA L xs i 5 x5) (hI : Inv w) (hL : Lx D ad aT A s.heap (cm w) (oW aL ao f) H locs) (hl : lv_has ls 9 (LL ad b ao i)) (hj : cells + 4 ≤ R.cells ∧ slots + 24 ≤ R.slots) (kk : LwK p l e R s m below meth c Q D ad aT aL A b ao i (cells + 4) (slots + 24)) :
    W p l e R s m #[Value.ref b] below meth c H locs cells slots Q (F0 m 670 ls []) := by
  obtain ⟨hx, hN, -⟩ := id hc
  have hjz : cells ≤ R.cells ∧ slots ≤ R.slots := ⟨by omega, by omega⟩
  have hl : lv_has ls 9 [(0, .ref b), (1, .ref (ad 0)), (2, .ref (ad 210)), (3, .ref ao), (4, .int i)] := hl
  refine lv_aload_n hx.1 hx.2.1 dL_law_670 rfl (lv_at hl 1 rfl) ?_
  refine L_arg hc hL ha1 rfl (lv_at hl 0 rfl) (lv_at hl 4 rfl) dL_law_671 dL_law_672 dL_law_674 dL_law_675 dL_law_676 ?_
  refine L_arg hc hL ha2 rfl (lv_at hl 0 rfl) (lv_at hl 4 rfl) dL_law_677 dL_law_678 dL_law_680 dL_law_681 dL_law_682 ?_
  refine lv_aload_n hx.1 hx.2.1 dL_law_683 rfl (lv_at hl 3 rfl) ?_
  obtain ⟨res, w1, bb, w2, f1, f2, hI2, hA⟩ := (top_route (F := 20000) (Nat.le_refl _) ha1.2.2 ha2.2.2).top w hI
  refine L_callH (n := 4) hx hN (st := []) (hm_route x1 x2 f1 hA.mem) hL gi1081 g107 g1079 g1080 (by decide +kernel) dL_law_684 rfl rfl (Nat.le_of_ble_eq_true rfl) ⟨by omega, by omega⟩ hj hl.1 (fun f9 H locs hf9 hL => ?_)
  refine lv_istore (lv' := [(5, .int (hres [eIO] res)), (0, .ref b), (1, .ref (ad 0)), (2, .ref (ad 210)), (3, .ref ao), (4, .int i)]) hx.1 hx.2.1 dL_law_687 hl (by decide) rfl (fun ls hl => ?_)
  refine lv_aload_n hx.1 hx.2.1 dL_law_689 rfl (lv_at hl 3 rfl) ?_
  refine L_arg hc hL ha1 rfl (lv_at hl 1 rfl) (lv_at hl 5 rfl) dL_law_690 dL_law_691 dL_law_693 dL_law_694 dL_law_695 ?_
  refine L_arg hc hL ha2 rfl (lv_at hl 1 rfl) (lv_at hl 5 rfl) dL_law_696 dL_law_697 dL_law_699 dL_law_700 dL_law_701 ?_
  refine L_callV hx (b := 210) [.int (oI x1), .int (oI x2)] [] (ev_X11_route 20000 210 (by decide +kernel) x1 x2 w1) vm_X11_route fc9 (by decide +kernel) g1761 dL_law_702 rfl rfl (Nat.le_of_ble_eq_true rfl) ⟨by omega, by omega⟩ hj hl.1 hL f2 (fun v9 hv H locs hL => ?_) (fun E hE => absurd hE (by intro h; cases h))
  cases hv
  refine lv_istore (lv' := [(6, .int (oI bb)), (5, .int (hres [eIO] res)), (0, .ref b), (1, .ref (ad 0)), (2, .ref (ad 210)), (3, .ref ao), (4, .int i)]) hx.1 hx.2.1 dL_law_705 hl (by decide) rfl (fun ls hl => ?_)
  exact L_tail hc hR hI2 hL hA (by decide) hf9 hl hj dL_law_707 dL_law_708 dL_law_711 dL_law_713 dL_law_718 dL_law_720 dL_law_723 dL_law_724 dL_law_725 dL_law_726 dL_law_728 dL_law_729 dL_law_730 dL_law_735 (by decide) kk
set_option maxHeartbeats 4000000 in
set_option maxRecDepth 100000 in
theorem lc_12 (hc : LwC p l s m meth c D aT aL ad adV A b L xs) (hR : 11 ≤ R.frames ∧ 510 ≤ R.locals) (ha1 : LwA L xs i 1 x1) (ha2 : LwA L xs i 2 x2) (ha3 : LwA L xs i 3 x3) (ha4 : LwA L xs i 4 x4) (ha5 : LwA L xs i 5 x5) (hI : Inv w) (hL : Lx D ad aT A s.heap (cm w) (oW aL ao f) H locs) (hl : lv_has ls 9 (LL ad b ao i)) (hj : cells + 4 ≤ R.cells ∧ slots + 24 ≤ R.slots) (kk : LwK p l e R s m below meth c Q D ad aT aL A b ao i (cells + 4) (slots + 24)) :
    W p l e R s m #[Value.ref b] below meth c H locs cells slots Q (F0 m 738 ls []) := by
  obtain ⟨hx, hN, -⟩ := id hc
  have hjz : cells ≤ R.cells ∧ slots ≤ R.slots := ⟨by omega, by omega⟩
  have hl : lv_has ls 9 [(0, .ref b), (1, .ref (ad 0)), (2, .ref (ad 210)), (3, .ref ao), (4, .int i)] := hl
  refine lv_aload_n hx.1 hx.2.1 dL_law_738 rfl (lv_at hl 1 rfl) ?_
  refine L_arg hc hL ha1 rfl (lv_at hl 0 rfl) (lv_at hl 4 rfl) dL_law_739 dL_law_740 dL_law_742 dL_law_743 dL_law_744 ?_
  refine L_arg hc hL ha2 rfl (lv_at hl 0 rfl) (lv_at hl 4 rfl) dL_law_745 dL_law_746 dL_law_748 dL_law_749 dL_law_750 ?_
  refine lv_aload_n hx.1 hx.2.1 dL_law_751 rfl (lv_at hl 3 rfl) ?_
  obtain ⟨res, w1, bb, w2, f1, f2, hI2, hA⟩ := (top_next (F := 20000) (Nat.le_refl _) ha1.2.2 ha2.2.2).top w hI
  refine L_callH (n := 4) hx hN (st := []) (hm_next x1 x2 f1 hA.mem) hL gi1088 g107 g1086 g1087 (by decide +kernel) dL_law_752 rfl rfl (Nat.le_of_ble_eq_true rfl) ⟨by omega, by omega⟩ hj hl.1 (fun f9 H locs hf9 hL => ?_)
  refine lv_istore (lv' := [(5, .int (hres [eIO] res)), (0, .ref b), (1, .ref (ad 0)), (2, .ref (ad 210)), (3, .ref ao), (4, .int i)]) hx.1 hx.2.1 dL_law_755 hl (by decide) rfl (fun ls hl => ?_)
  refine lv_aload_n hx.1 hx.2.1 dL_law_757 rfl (lv_at hl 3 rfl) ?_
  refine L_arg hc hL ha1 rfl (lv_at hl 1 rfl) (lv_at hl 5 rfl) dL_law_758 dL_law_759 dL_law_761 dL_law_762 dL_law_763 ?_
  refine L_arg hc hL ha2 rfl (lv_at hl 1 rfl) (lv_at hl 5 rfl) dL_law_764 dL_law_765 dL_law_767 dL_law_768 dL_law_769 ?_
  refine L_callV hx (b := 210) [.int (oI x1), .int (oI x2)] [] (ev_X11_next 20000 210 (by decide +kernel) x1 x2 w1) vm_X11_next fc9 (by decide +kernel) g1769 dL_law_770 rfl rfl (Nat.le_of_ble_eq_true rfl) ⟨by omega, by omega⟩ hj hl.1 hL f2 (fun v9 hv H locs hL => ?_) (fun E hE => absurd hE (by intro h; cases h))
  cases hv
  refine lv_istore (lv' := [(6, .int (oI bb)), (5, .int (hres [eIO] res)), (0, .ref b), (1, .ref (ad 0)), (2, .ref (ad 210)), (3, .ref ao), (4, .int i)]) hx.1 hx.2.1 dL_law_773 hl (by decide) rfl (fun ls hl => ?_)
  exact L_tail hc hR hI2 hL hA (by decide) hf9 hl hj dL_law_775 dL_law_776 dL_law_779 dL_law_781 dL_law_786 dL_law_788 dL_law_791 dL_law_792 dL_law_793 dL_law_794 dL_law_796 dL_law_797 dL_law_798 dL_law_803 (by decide) kk
set_option maxHeartbeats 4000000 in
set_option maxRecDepth 100000 in
theorem lc_13 (hc : LwC p l s m meth c D aT aL ad adV A b L xs) (hR : 11 ≤ R.frames ∧ 510 ≤ R.locals) (ha1 : LwA L xs i 1 x1) (ha2 : LwA L xs i 2 x2) (ha3 : LwA L xs i 3 x3) (ha4 : LwA L xs i 4 x4) (ha5 : LwA L xs i 5 x5) (hI : Inv w) (hL : Lx D ad aT A s.heap (cm w) (oW aL ao f) H locs) (hl : lv_has ls 9 (LL ad b ao i)) (hj : cells + 4 ≤ R.cells ∧ slots + 24 ≤ R.slots) (kk : LwK p l e R s m below meth c Q D ad aT aL A b ao i (cells + 4) (slots + 24)) :
    W p l e R s m #[Value.ref b] below meth c H locs cells slots Q (F0 m 806 ls []) := by
  obtain ⟨hx, hN, -⟩ := id hc
  have hjz : cells ≤ R.cells ∧ slots ≤ R.slots := ⟨by omega, by omega⟩
  have hl : lv_has ls 9 [(0, .ref b), (1, .ref (ad 0)), (2, .ref (ad 210)), (3, .ref ao), (4, .int i)] := hl
  refine lv_aload_n hx.1 hx.2.1 dL_law_806 rfl (lv_at hl 1 rfl) ?_
  refine L_arg hc hL ha1 rfl (lv_at hl 0 rfl) (lv_at hl 4 rfl) dL_law_807 dL_law_808 dL_law_810 dL_law_811 dL_law_812 ?_
  refine L_arg hc hL ha2 rfl (lv_at hl 0 rfl) (lv_at hl 4 rfl) dL_law_813 dL_law_814 dL_law_816 dL_law_817 dL_law_818 ?_
  refine lv_aload_n hx.1 hx.2.1 dL_law_819 rfl (lv_at hl 3 rfl) ?_
  obtain ⟨res, w1, bb, w2, f1, f2, hI2, hA⟩ := (top_tune (F := 20000) (Nat.le_refl _) ha1.2.2 ha2.2.2).top w hI
  refine L_callH (n := 4) hx hN (st := []) (hm_tune x1 x2 f1 hA.mem) hL gi1095 g107 g1093 g1094 (by decide +kernel) dL_law_820 rfl rfl (Nat.le_of_ble_eq_true rfl) ⟨by omega, by omega⟩ hj hl.1 (fun f9 H locs hf9 hL => ?_)
  refine lv_istore (lv' := [(5, .int (hres [eIO, eIA] res)), (0, .ref b), (1, .ref (ad 0)), (2, .ref (ad 210)), (3, .ref ao), (4, .int i)]) hx.1 hx.2.1 dL_law_823 hl (by decide) rfl (fun ls hl => ?_)
  refine lv_aload_n hx.1 hx.2.1 dL_law_825 rfl (lv_at hl 3 rfl) ?_
  refine L_arg hc hL ha1 rfl (lv_at hl 1 rfl) (lv_at hl 5 rfl) dL_law_826 dL_law_827 dL_law_829 dL_law_830 dL_law_831 ?_
  refine L_arg hc hL ha2 rfl (lv_at hl 1 rfl) (lv_at hl 5 rfl) dL_law_832 dL_law_833 dL_law_835 dL_law_836 dL_law_837 ?_
  refine L_callV hx (b := 210) [.int (oI x1), .int (oI x2)] [] (ev_X11_tune 20000 210 (by decide +kernel) x1 x2 w1) vm_X11_tune fc9 (by decide +kernel) g1773 dL_law_838 rfl rfl (Nat.le_of_ble_eq_true rfl) ⟨by omega, by omega⟩ hj hl.1 hL f2 (fun v9 hv H locs hL => ?_) (fun E hE => absurd hE (by intro h; cases h))
  cases hv
  refine lv_istore (lv' := [(6, .int (oI bb)), (5, .int (hres [eIO, eIA] res)), (0, .ref b), (1, .ref (ad 0)), (2, .ref (ad 210)), (3, .ref ao), (4, .int i)]) hx.1 hx.2.1 dL_law_841 hl (by decide) rfl (fun ls hl => ?_)
  exact L_tail hc hR hI2 hL hA (by decide) hf9 hl hj dL_law_843 dL_law_844 dL_law_847 dL_law_849 dL_law_854 dL_law_856 dL_law_859 dL_law_860 dL_law_861 dL_law_862 dL_law_864 dL_law_865 dL_law_866 dL_law_871 (by decide) kk
set_option maxHeartbeats 4000000 in
set_option maxRecDepth 100000 in
theorem lc_14 (hc : LwC p l s m meth c D aT aL ad adV A b L xs) (hR : 11 ≤ R.frames ∧ 510 ≤ R.locals) (ha1 : LwA L xs i 1 x1) (ha2 : LwA L xs i 2 x2) (ha3 : LwA L xs i 3 x3) (ha4 : LwA L xs i 4 x4) (ha5 : LwA L xs i 5 x5) (hI : Inv w) (hL : Lx D ad aT A s.heap (cm w) (oW aL ao f) H locs) (hl : lv_has ls 9 (LL ad b ao i)) (hj : cells + 4 ≤ R.cells ∧ slots + 24 ≤ R.slots) (kk : LwK p l e R s m below meth c Q D ad aT aL A b ao i (cells + 4) (slots + 24)) :
    W p l e R s m #[Value.ref b] below meth c H locs cells slots Q (F0 m 874 ls []) := by
  obtain ⟨hx, hN, -⟩ := id hc
  have hjz : cells ≤ R.cells ∧ slots ≤ R.slots := ⟨by omega, by omega⟩
  have hl : lv_has ls 9 [(0, .ref b), (1, .ref (ad 0)), (2, .ref (ad 210)), (3, .ref ao), (4, .int i)] := hl
  refine lv_aload_n hx.1 hx.2.1 dL_law_874 rfl (lv_at hl 1 rfl) ?_
  refine L_arg hc hL ha1 rfl (lv_at hl 0 rfl) (lv_at hl 4 rfl) dL_law_875 dL_law_876 dL_law_878 dL_law_879 dL_law_880 ?_
  refine L_arg hc hL ha2 rfl (lv_at hl 0 rfl) (lv_at hl 4 rfl) dL_law_881 dL_law_882 dL_law_884 dL_law_885 dL_law_886 ?_
  refine L_arg hc hL ha3 rfl (lv_at hl 0 rfl) (lv_at hl 4 rfl) dL_law_887 dL_law_888 dL_law_890 dL_law_891 dL_law_892 ?_
  refine L_bool hc dL_law_893 dL_law_896 dL_law_897 dL_law_900 ha3.2.2 ?_
  refine lv_aload_n hx.1 hx.2.1 dL_law_901 rfl (lv_at hl 3 rfl) ?_
  obtain ⟨res, w1, bb, w2, f1, f2, hI2, hA⟩ := (top_note (F := 20000) (Nat.le_refl _) ha1.2.2 ha2.2.2 (z01 _)).top w hI
  refine L_callH (n := 5) hx hN (st := []) (hm_note x1 x2 (if x3 = 0 then 0 else 1) f1 hA.mem) hL gi1116 g107 g1114 g1115 (by decide +kernel) dL_law_902 rfl rfl (Nat.le_of_ble_eq_true rfl) ⟨by omega, by omega⟩ hj hl.1 (fun f9 H locs hf9 hL => ?_)
  refine lv_istore (lv' := [(5, .int (hres [eIO] res)), (0, .ref b), (1, .ref (ad 0)), (2, .ref (ad 210)), (3, .ref ao), (4, .int i)]) hx.1 hx.2.1 dL_law_905 hl (by decide) rfl (fun ls hl => ?_)
  refine lv_aload_n hx.1 hx.2.1 dL_law_907 rfl (lv_at hl 3 rfl) ?_
  refine L_arg hc hL ha1 rfl (lv_at hl 1 rfl) (lv_at hl 5 rfl) dL_law_908 dL_law_909 dL_law_911 dL_law_912 dL_law_913 ?_
  refine L_arg hc hL ha2 rfl (lv_at hl 1 rfl) (lv_at hl 5 rfl) dL_law_914 dL_law_915 dL_law_917 dL_law_918 dL_law_919 ?_
  refine L_arg hc hL ha3 rfl (lv_at hl 1 rfl) (lv_at hl 5 rfl) dL_law_920 dL_law_921 dL_law_923 dL_law_924 dL_law_925 ?_
  refine L_bool hc dL_law_926 dL_law_929 dL_law_930 dL_law_933 ha3.2.2 ?_
  refine L_callV hx (b := 210) [.int (oI x1), .int (oI x2), .int (oI (if x3 = 0 then 0 else 1))] [] (ev_X11_note 20000 210 (by decide +kernel) x1 x2 (if x3 = 0 then 0 else 1) w1) vm_X11_note fc9 (by decide +kernel) g1782 dL_law_934 rfl rfl (Nat.le_of_ble_eq_true rfl) ⟨by omega, by omega⟩ hj hl.1 hL f2 (fun v9 hv H locs hL => ?_) (fun E hE => absurd hE (by intro h; cases h))
  cases hv
  refine lv_istore (lv' := [(6, .int (oI bb)), (5, .int (hres [eIO] res)), (0, .ref b), (1, .ref (ad 0)), (2, .ref (ad 210)), (3, .ref ao), (4, .int i)]) hx.1 hx.2.1 dL_law_937 hl (by decide) rfl (fun ls hl => ?_)
  exact L_tail hc hR hI2 hL hA (by decide) hf9 hl hj dL_law_939 dL_law_940 dL_law_943 dL_law_945 dL_law_950 dL_law_952 dL_law_955 dL_law_956 dL_law_957 dL_law_958 dL_law_960 dL_law_961 dL_law_962 dL_law_967 (by decide) kk
set_option maxHeartbeats 4000000 in
set_option maxRecDepth 100000 in
theorem lc_15 (hc : LwC p l s m meth c D aT aL ad adV A b L xs) (hR : 11 ≤ R.frames ∧ 510 ≤ R.locals) (ha1 : LwA L xs i 1 x1) (ha2 : LwA L xs i 2 x2) (ha3 : LwA L xs i 3 x3) (ha4 : LwA L xs i 4 x4) (ha5 : LwA L xs i 5 x5) (hI : Inv w) (hL : Lx D ad aT A s.heap (cm w) (oW aL ao f) H locs) (hl : lv_has ls 9 (LL ad b ao i)) (hj : cells + 4 ≤ R.cells ∧ slots + 24 ≤ R.slots) (kk : LwK p l e R s m below meth c Q D ad aT aL A b ao i (cells + 4) (slots + 24)) :
    W p l e R s m #[Value.ref b] below meth c H locs cells slots Q (F0 m 970 ls []) := by
  obtain ⟨hx, hN, -⟩ := id hc
  have hjz : cells ≤ R.cells ∧ slots ≤ R.slots := ⟨by omega, by omega⟩
  have hl : lv_has ls 9 [(0, .ref b), (1, .ref (ad 0)), (2, .ref (ad 210)), (3, .ref ao), (4, .int i)] := hl
  refine lv_aload_n hx.1 hx.2.1 dL_law_970 rfl (lv_at hl 1 rfl) ?_
  refine L_arg hc hL ha1 rfl (lv_at hl 0 rfl) (lv_at hl 4 rfl) dL_law_971 dL_law_972 dL_law_974 dL_law_975 dL_law_976 ?_
  refine L_arg hc hL ha2 rfl (lv_at hl 0 rfl) (lv_at hl 4 rfl) dL_law_977 dL_law_978 dL_law_980 dL_law_981 dL_law_982 ?_
  refine lv_aload_n hx.1 hx.2.1 dL_law_983 rfl (lv_at hl 3 rfl) ?_
  obtain ⟨res, w1, bb, w2, f1, f2, hI2, hA⟩ := (top_waiting (F := 20000) (Nat.le_refl _) ha1.2.2 ha2.2.2).top w hI
  refine L_callH (n := 4) hx hN (st := []) (hm_waiting x1 x2 f1 hA.mem) hL gi1124 g107 g1122 g1123 (by decide +kernel) dL_law_984 rfl rfl (Nat.le_of_ble_eq_true rfl) ⟨by omega, by omega⟩ hj hl.1 (fun f9 H locs hf9 hL => ?_)
  refine lv_istore (lv' := [(5, .int (hres [eIO] res)), (0, .ref b), (1, .ref (ad 0)), (2, .ref (ad 210)), (3, .ref ao), (4, .int i)]) hx.1 hx.2.1 dL_law_987 hl (by decide) rfl (fun ls hl => ?_)
  refine lv_aload_n hx.1 hx.2.1 dL_law_989 rfl (lv_at hl 3 rfl) ?_
  refine L_arg hc hL ha1 rfl (lv_at hl 1 rfl) (lv_at hl 5 rfl) dL_law_990 dL_law_991 dL_law_993 dL_law_994 dL_law_995 ?_
  refine L_arg hc hL ha2 rfl (lv_at hl 1 rfl) (lv_at hl 5 rfl) dL_law_996 dL_law_997 dL_law_999 dL_law_1000 dL_law_1001 ?_
  refine L_callV hx (b := 210) [.int (oI x1), .int (oI x2)] [] (ev_X11_waiting 20000 210 (by decide +kernel) x1 x2 w1) vm_X11_waiting fc9 (by decide +kernel) g1786 dL_law_1002 rfl rfl (Nat.le_of_ble_eq_true rfl) ⟨by omega, by omega⟩ hj hl.1 hL f2 (fun v9 hv H locs hL => ?_) (fun E hE => absurd hE (by intro h; cases h))
  cases hv
  refine lv_istore (lv' := [(6, .int (oI bb)), (5, .int (hres [eIO] res)), (0, .ref b), (1, .ref (ad 0)), (2, .ref (ad 210)), (3, .ref ao), (4, .int i)]) hx.1 hx.2.1 dL_law_1005 hl (by decide) rfl (fun ls hl => ?_)
  exact L_tail hc hR hI2 hL hA (by decide) hf9 hl hj dL_law_1007 dL_law_1008 dL_law_1011 dL_law_1013 dL_law_1018 dL_law_1020 dL_law_1023 dL_law_1024 dL_law_1025 dL_law_1026 dL_law_1028 dL_law_1029 dL_law_1030 dL_law_1035 (by decide) kk
set_option maxHeartbeats 4000000 in
set_option maxRecDepth 100000 in
theorem lc_16 (hc : LwC p l s m meth c D aT aL ad adV A b L xs) (hR : 11 ≤ R.frames ∧ 510 ≤ R.locals) (ha1 : LwA L xs i 1 x1) (ha2 : LwA L xs i 2 x2) (ha3 : LwA L xs i 3 x3) (ha4 : LwA L xs i 4 x4) (ha5 : LwA L xs i 5 x5) (hI : Inv w) (hL : Lx D ad aT A s.heap (cm w) (oW aL ao f) H locs) (hl : lv_has ls 9 (LL ad b ao i)) (hj : cells + 4 ≤ R.cells ∧ slots + 24 ≤ R.slots) (kk : LwK p l e R s m below meth c Q D ad aT aL A b ao i (cells + 4) (slots + 24)) :
    W p l e R s m #[Value.ref b] below meth c H locs cells slots Q (F0 m 1038 ls []) := by
  obtain ⟨hx, hN, -⟩ := id hc
  have hjz : cells ≤ R.cells ∧ slots ≤ R.slots := ⟨by omega, by omega⟩
  have hl : lv_has ls 9 [(0, .ref b), (1, .ref (ad 0)), (2, .ref (ad 210)), (3, .ref ao), (4, .int i)] := hl
  refine lv_aload_n hx.1 hx.2.1 dL_law_1038 rfl (lv_at hl 1 rfl) ?_
  refine L_arg hc hL ha1 rfl (lv_at hl 0 rfl) (lv_at hl 4 rfl) dL_law_1039 dL_law_1040 dL_law_1042 dL_law_1043 dL_law_1044 ?_
  refine L_arg hc hL ha2 rfl (lv_at hl 0 rfl) (lv_at hl 4 rfl) dL_law_1045 dL_law_1046 dL_law_1048 dL_law_1049 dL_law_1050 ?_
  refine lv_aload_n hx.1 hx.2.1 dL_law_1051 rfl (lv_at hl 3 rfl) ?_
  obtain ⟨res, w1, bb, w2, f1, f2, hI2, hA⟩ := (top_why (F := 20000) (Nat.le_refl _) ha1.2.2 ha2.2.2).top w hI
  refine L_callH (n := 4) hx hN (st := []) (hm_why x1 x2 f1 hA.mem) hL gi1135 g107 g1133 g1134 (by decide +kernel) dL_law_1052 rfl rfl (Nat.le_of_ble_eq_true rfl) ⟨by omega, by omega⟩ hj hl.1 (fun f9 H locs hf9 hL => ?_)
  refine lv_istore (lv' := [(5, .int (hres [eIO, eIA] res)), (0, .ref b), (1, .ref (ad 0)), (2, .ref (ad 210)), (3, .ref ao), (4, .int i)]) hx.1 hx.2.1 dL_law_1055 hl (by decide) rfl (fun ls hl => ?_)
  refine lv_aload_n hx.1 hx.2.1 dL_law_1057 rfl (lv_at hl 3 rfl) ?_
  refine L_arg hc hL ha1 rfl (lv_at hl 1 rfl) (lv_at hl 5 rfl) dL_law_1058 dL_law_1059 dL_law_1061 dL_law_1062 dL_law_1063 ?_
  refine L_arg hc hL ha2 rfl (lv_at hl 1 rfl) (lv_at hl 5 rfl) dL_law_1064 dL_law_1065 dL_law_1067 dL_law_1068 dL_law_1069 ?_
  refine L_callV hx (b := 210) [.int (oI x1), .int (oI x2)] [] (ev_X11_why 20000 210 (by decide +kernel) x1 x2 w1) vm_X11_why fc9 (by decide +kernel) g1794 dL_law_1070 rfl rfl (Nat.le_of_ble_eq_true rfl) ⟨by omega, by omega⟩ hj hl.1 hL f2 (fun v9 hv H locs hL => ?_) (fun E hE => absurd hE (by intro h; cases h))
  cases hv
  refine lv_istore (lv' := [(6, .int (oI bb)), (5, .int (hres [eIO, eIA] res)), (0, .ref b), (1, .ref (ad 0)), (2, .ref (ad 210)), (3, .ref ao), (4, .int i)]) hx.1 hx.2.1 dL_law_1073 hl (by decide) rfl (fun ls hl => ?_)
  exact L_tail hc hR hI2 hL hA (by decide) hf9 hl hj dL_law_1075 dL_law_1076 dL_law_1079 dL_law_1081 dL_law_1086 dL_law_1088 dL_law_1091 dL_law_1092 dL_law_1093 dL_law_1094 dL_law_1096 dL_law_1097 dL_law_1098 dL_law_1103 (by decide) kk
set_option maxHeartbeats 4000000 in
set_option maxRecDepth 100000 in
theorem lc_17 (hc : LwC p l s m meth c D aT aL ad adV A b L xs) (hR : 11 ≤ R.frames ∧ 510 ≤ R.locals) (ha1 : LwA L xs i 1 x1) (ha2 : LwA L xs i 2 x2) (ha3 : LwA L xs i 3 x3) (ha4 : LwA L xs i 4 x4) (ha5 : LwA L xs i 5 x5) (hI : Inv w) (hL : Lx D ad aT A s.heap (cm w) (oW aL ao f) H locs) (hl : lv_has ls 9 (LL ad b ao i)) (hj : cells + 4 ≤ R.cells ∧ slots + 24 ≤ R.slots) (kk : LwK p l e R s m below meth c Q D ad aT aL A b ao i (cells + 4) (slots + 24)) :
    W p l e R s m #[Value.ref b] below meth c H locs cells slots Q (F0 m 1106 ls []) := by
  obtain ⟨hx, hN, -⟩ := id hc
  have hjz : cells ≤ R.cells ∧ slots ≤ R.slots := ⟨by omega, by omega⟩
  have hl : lv_has ls 9 [(0, .ref b), (1, .ref (ad 0)), (2, .ref (ad 210)), (3, .ref ao), (4, .int i)] := hl
  refine lv_aload_n hx.1 hx.2.1 dL_law_1106 rfl (lv_at hl 1 rfl) ?_
  refine L_arg hc hL ha1 rfl (lv_at hl 0 rfl) (lv_at hl 4 rfl) dL_law_1107 dL_law_1108 dL_law_1110 dL_law_1111 dL_law_1112 ?_
  refine L_arg hc hL ha2 rfl (lv_at hl 0 rfl) (lv_at hl 4 rfl) dL_law_1113 dL_law_1114 dL_law_1116 dL_law_1117 dL_law_1118 ?_
  refine L_arg hc hL ha3 rfl (lv_at hl 0 rfl) (lv_at hl 4 rfl) dL_law_1119 dL_law_1120 dL_law_1122 dL_law_1123 dL_law_1124 ?_
  refine lv_aload_n hx.1 hx.2.1 dL_law_1125 rfl (lv_at hl 3 rfl) ?_
  obtain ⟨res, w1, bb, w2, f1, f2, hI2, hA⟩ := (top_costOf (F := 20000) (Nat.le_refl _) ha1.2.2 ha2.2.2 ha3.2.2).top w hI
  refine L_callH (n := 5) hx hN (st := []) (hm_costOf x1 x2 x3 f1 hA.mem) hL gi1150 g107 g1148 g1149 (by decide +kernel) dL_law_1126 rfl rfl (Nat.le_of_ble_eq_true rfl) ⟨by omega, by omega⟩ hj hl.1 (fun f9 H locs hf9 hL => ?_)
  refine lv_istore (lv' := [(5, .int (hres [eIO, eIA] res)), (0, .ref b), (1, .ref (ad 0)), (2, .ref (ad 210)), (3, .ref ao), (4, .int i)]) hx.1 hx.2.1 dL_law_1129 hl (by decide) rfl (fun ls hl => ?_)
  refine lv_aload_n hx.1 hx.2.1 dL_law_1131 rfl (lv_at hl 3 rfl) ?_
  refine L_arg hc hL ha1 rfl (lv_at hl 1 rfl) (lv_at hl 5 rfl) dL_law_1132 dL_law_1133 dL_law_1135 dL_law_1136 dL_law_1137 ?_
  refine L_arg hc hL ha2 rfl (lv_at hl 1 rfl) (lv_at hl 5 rfl) dL_law_1138 dL_law_1139 dL_law_1141 dL_law_1142 dL_law_1143 ?_
  refine L_arg hc hL ha3 rfl (lv_at hl 1 rfl) (lv_at hl 5 rfl) dL_law_1144 dL_law_1145 dL_law_1147 dL_law_1148 dL_law_1149 ?_
  refine L_callV hx (b := 210) [.int (oI x1), .int (oI x2), .int (oI x3)] [] (ev_X11_costOf 20000 210 (by decide +kernel) x1 x2 x3 w1) vm_X11_costOf fc9 (by decide +kernel) g1806 dL_law_1150 rfl rfl (Nat.le_of_ble_eq_true rfl) ⟨by omega, by omega⟩ hj hl.1 hL f2 (fun v9 hv H locs hL => ?_) (fun E hE => absurd hE (by intro h; cases h))
  cases hv
  refine lv_istore (lv' := [(6, .int (oI bb)), (5, .int (hres [eIO, eIA] res)), (0, .ref b), (1, .ref (ad 0)), (2, .ref (ad 210)), (3, .ref ao), (4, .int i)]) hx.1 hx.2.1 dL_law_1153 hl (by decide) rfl (fun ls hl => ?_)
  exact L_tail hc hR hI2 hL hA (by decide) hf9 hl hj dL_law_1155 dL_law_1156 dL_law_1159 dL_law_1161 dL_law_1166 dL_law_1168 dL_law_1171 dL_law_1172 dL_law_1173 dL_law_1174 dL_law_1176 dL_law_1177 dL_law_1178 dL_law_1183 (by decide) kk
set_option maxHeartbeats 4000000 in
set_option maxRecDepth 100000 in
theorem lc_18 (hc : LwC p l s m meth c D aT aL ad adV A b L xs) (hR : 11 ≤ R.frames ∧ 510 ≤ R.locals) (ha1 : LwA L xs i 1 x1) (ha2 : LwA L xs i 2 x2) (ha3 : LwA L xs i 3 x3) (ha4 : LwA L xs i 4 x4) (ha5 : LwA L xs i 5 x5) (hI : Inv w) (hL : Lx D ad aT A s.heap (cm w) (oW aL ao f) H locs) (hl : lv_has ls 9 (LL ad b ao i)) (hj : cells + 4 ≤ R.cells ∧ slots + 24 ≤ R.slots) (kk : LwK p l e R s m below meth c Q D ad aT aL A b ao i (cells + 4) (slots + 24)) :
    W p l e R s m #[Value.ref b] below meth c H locs cells slots Q (F0 m 1186 ls []) := by
  obtain ⟨hx, hN, -⟩ := id hc
  have hjz : cells ≤ R.cells ∧ slots ≤ R.slots := ⟨by omega, by omega⟩
  have hl : lv_has ls 9 [(0, .ref b), (1, .ref (ad 0)), (2, .ref (ad 210)), (3, .ref ao), (4, .int i)] := hl
  refine lv_aload_n hx.1 hx.2.1 dL_law_1186 rfl (lv_at hl 1 rfl) ?_
  refine L_arg hc hL ha1 rfl (lv_at hl 0 rfl) (lv_at hl 4 rfl) dL_law_1187 dL_law_1188 dL_law_1190 dL_law_1191 dL_law_1192 ?_
  refine L_arg hc hL ha2 rfl (lv_at hl 0 rfl) (lv_at hl 4 rfl) dL_law_1193 dL_law_1194 dL_law_1196 dL_law_1197 dL_law_1198 ?_
  refine L_arg hc hL ha3 rfl (lv_at hl 0 rfl) (lv_at hl 4 rfl) dL_law_1199 dL_law_1200 dL_law_1202 dL_law_1203 dL_law_1204 ?_
  refine lv_aload_n hx.1 hx.2.1 dL_law_1205 rfl (lv_at hl 3 rfl) ?_
  obtain ⟨res, w1, bb, w2, f1, f2, hI2, hA⟩ := (top_wrongOn (F := 20000) (Nat.le_refl _) ha1.2.2 ha2.2.2 ha3.2.2).top w hI
  refine L_callH (n := 5) hx hN (st := []) (hm_wrongOn x1 x2 x3 f1 hA.mem) hL gi1161 g107 g1159 g1160 (by decide +kernel) dL_law_1206 rfl rfl (Nat.le_of_ble_eq_true rfl) ⟨by omega, by omega⟩ hj hl.1 (fun f9 H locs hf9 hL => ?_)
  refine lv_istore (lv' := [(5, .int (hres [eIO, eIA] res)), (0, .ref b), (1, .ref (ad 0)), (2, .ref (ad 210)), (3, .ref ao), (4, .int i)]) hx.1 hx.2.1 dL_law_1209 hl (by decide) rfl (fun ls hl => ?_)
  refine lv_aload_n hx.1 hx.2.1 dL_law_1211 rfl (lv_at hl 3 rfl) ?_
  refine L_arg hc hL ha1 rfl (lv_at hl 1 rfl) (lv_at hl 5 rfl) dL_law_1212 dL_law_1213 dL_law_1215 dL_law_1216 dL_law_1217 ?_
  refine L_arg hc hL ha2 rfl (lv_at hl 1 rfl) (lv_at hl 5 rfl) dL_law_1218 dL_law_1219 dL_law_1221 dL_law_1222 dL_law_1223 ?_
  refine L_arg hc hL ha3 rfl (lv_at hl 1 rfl) (lv_at hl 5 rfl) dL_law_1224 dL_law_1225 dL_law_1227 dL_law_1228 dL_law_1229 ?_
  refine L_callV hx (b := 210) [.int (oI x1), .int (oI x2), .int (oI x3)] [] (ev_X11_wrongOn 20000 210 (by decide +kernel) x1 x2 x3 w1) vm_X11_wrongOn fc9 (by decide +kernel) g1811 dL_law_1230 rfl rfl (Nat.le_of_ble_eq_true rfl) ⟨by omega, by omega⟩ hj hl.1 hL f2 (fun v9 hv H locs hL => ?_) (fun E hE => absurd hE (by intro h; cases h))
  cases hv
  refine lv_istore (lv' := [(6, .int (oI bb)), (5, .int (hres [eIO, eIA] res)), (0, .ref b), (1, .ref (ad 0)), (2, .ref (ad 210)), (3, .ref ao), (4, .int i)]) hx.1 hx.2.1 dL_law_1233 hl (by decide) rfl (fun ls hl => ?_)
  exact L_tail hc hR hI2 hL hA (by decide) hf9 hl hj dL_law_1235 dL_law_1236 dL_law_1239 dL_law_1241 dL_law_1246 dL_law_1248 dL_law_1251 dL_law_1252 dL_law_1253 dL_law_1254 dL_law_1256 dL_law_1257 dL_law_1258 dL_law_1263 (by decide) kk
set_option maxHeartbeats 4000000 in
set_option maxRecDepth 100000 in
theorem lc_19 (hc : LwC p l s m meth c D aT aL ad adV A b L xs) (hR : 11 ≤ R.frames ∧ 510 ≤ R.locals) (ha1 : LwA L xs i 1 x1) (ha2 : LwA L xs i 2 x2) (ha3 : LwA L xs i 3 x3) (ha4 : LwA L xs i 4 x4) (ha5 : LwA L xs i 5 x5) (hI : Inv w) (hL : Lx D ad aT A s.heap (cm w) (oW aL ao f) H locs) (hl : lv_has ls 9 (LL ad b ao i)) (hj : cells + 4 ≤ R.cells ∧ slots + 24 ≤ R.slots) (kk : LwK p l e R s m below meth c Q D ad aT aL A b ao i (cells + 4) (slots + 24)) :
    W p l e R s m #[Value.ref b] below meth c H locs cells slots Q (F0 m 1266 ls []) := by
  obtain ⟨hx, hN, -⟩ := id hc
  have hjz : cells ≤ R.cells ∧ slots ≤ R.slots := ⟨by omega, by omega⟩
  have hl : lv_has ls 9 [(0, .ref b), (1, .ref (ad 0)), (2, .ref (ad 210)), (3, .ref ao), (4, .int i)] := hl
  refine lv_aload_n hx.1 hx.2.1 dL_law_1266 rfl (lv_at hl 1 rfl) ?_
  refine L_arg hc hL ha1 rfl (lv_at hl 0 rfl) (lv_at hl 4 rfl) dL_law_1267 dL_law_1268 dL_law_1270 dL_law_1271 dL_law_1272 ?_
  refine L_arg hc hL ha2 rfl (lv_at hl 0 rfl) (lv_at hl 4 rfl) dL_law_1273 dL_law_1274 dL_law_1276 dL_law_1277 dL_law_1278 ?_
  refine lv_aload_n hx.1 hx.2.1 dL_law_1279 rfl (lv_at hl 3 rfl) ?_
  obtain ⟨res, w1, bb, w2, f1, f2, hI2, hA⟩ := (top_calmest (F := 20000) (Nat.le_refl _) ha1.2.2 ha2.2.2).top w hI
  refine L_callH (n := 4) hx hN (st := []) (hm_calmest x1 x2 f1 hA.mem) hL gi1173 g107 g1171 g1172 (by decide +kernel) dL_law_1280 rfl rfl (Nat.le_of_ble_eq_true rfl) ⟨by omega, by omega⟩ hj hl.1 (fun f9 H locs hf9 hL => ?_)
  refine lv_istore (lv' := [(5, .int (hres [eIO] res)), (0, .ref b), (1, .ref (ad 0)), (2, .ref (ad 210)), (3, .ref ao), (4, .int i)]) hx.1 hx.2.1 dL_law_1283 hl (by decide) rfl (fun ls hl => ?_)
  refine lv_aload_n hx.1 hx.2.1 dL_law_1285 rfl (lv_at hl 3 rfl) ?_
  refine L_arg hc hL ha1 rfl (lv_at hl 1 rfl) (lv_at hl 5 rfl) dL_law_1286 dL_law_1287 dL_law_1289 dL_law_1290 dL_law_1291 ?_
  refine L_arg hc hL ha2 rfl (lv_at hl 1 rfl) (lv_at hl 5 rfl) dL_law_1292 dL_law_1293 dL_law_1295 dL_law_1296 dL_law_1297 ?_
  refine L_callV hx (b := 210) [.int (oI x1), .int (oI x2)] [] (ev_X11_calmest 20000 210 (by decide +kernel) x1 x2 w1) vm_X11_calmest fc9 (by decide +kernel) g1819 dL_law_1298 rfl rfl (Nat.le_of_ble_eq_true rfl) ⟨by omega, by omega⟩ hj hl.1 hL f2 (fun v9 hv H locs hL => ?_) (fun E hE => absurd hE (by intro h; cases h))
  cases hv
  refine lv_istore (lv' := [(6, .int (oI bb)), (5, .int (hres [eIO] res)), (0, .ref b), (1, .ref (ad 0)), (2, .ref (ad 210)), (3, .ref ao), (4, .int i)]) hx.1 hx.2.1 dL_law_1301 hl (by decide) rfl (fun ls hl => ?_)
  exact L_tail hc hR hI2 hL hA (by decide) hf9 hl hj dL_law_1303 dL_law_1304 dL_law_1307 dL_law_1309 dL_law_1314 dL_law_1316 dL_law_1319 dL_law_1320 dL_law_1321 dL_law_1322 dL_law_1324 dL_law_1325 dL_law_1326 dL_law_1331 (by decide) kk
set_option maxHeartbeats 4000000 in
set_option maxRecDepth 100000 in
theorem lc_20 (hc : LwC p l s m meth c D aT aL ad adV A b L xs) (hR : 11 ≤ R.frames ∧ 510 ≤ R.locals) (ha1 : LwA L xs i 1 x1) (ha2 : LwA L xs i 2 x2) (ha3 : LwA L xs i 3 x3) (ha4 : LwA L xs i 4 x4) (ha5 : LwA L xs i 5 x5) (hI : Inv w) (hL : Lx D ad aT A s.heap (cm w) (oW aL ao f) H locs) (hl : lv_has ls 9 (LL ad b ao i)) (hj : cells + 4 ≤ R.cells ∧ slots + 24 ≤ R.slots) (kk : LwK p l e R s m below meth c Q D ad aT aL A b ao i (cells + 4) (slots + 24)) :
    W p l e R s m #[Value.ref b] below meth c H locs cells slots Q (F0 m 1334 ls []) := by
  obtain ⟨hx, hN, -⟩ := id hc
  have hjz : cells ≤ R.cells ∧ slots ≤ R.slots := ⟨by omega, by omega⟩
  have hl : lv_has ls 9 [(0, .ref b), (1, .ref (ad 0)), (2, .ref (ad 210)), (3, .ref ao), (4, .int i)] := hl
  refine lv_aload_n hx.1 hx.2.1 dL_law_1334 rfl (lv_at hl 1 rfl) ?_
  refine L_arg hc hL ha1 rfl (lv_at hl 0 rfl) (lv_at hl 4 rfl) dL_law_1335 dL_law_1336 dL_law_1338 dL_law_1339 dL_law_1340 ?_
  refine lv_aload_n hx.1 hx.2.1 dL_law_1341 rfl (lv_at hl 3 rfl) ?_
  obtain ⟨res, w1, bb, w2, f1, f2, hI2, hA⟩ := (top_arrivesIn (F := 20000) (Nat.le_refl _) ha1.2.2) w hI
  refine L_callH (n := 3) hx hN (st := []) (hm_arrivesIn x1 f1 hA.mem) hL gi1180 g107 g1178 g1179 (by decide +kernel) dL_law_1342 rfl rfl (Nat.le_of_ble_eq_true rfl) ⟨by omega, by omega⟩ hj hl.1 (fun f9 H locs hf9 hL => ?_)
  refine lv_istore (lv' := [(5, .int (hres [eIO] res)), (0, .ref b), (1, .ref (ad 0)), (2, .ref (ad 210)), (3, .ref ao), (4, .int i)]) hx.1 hx.2.1 dL_law_1345 hl (by decide) rfl (fun ls hl => ?_)
  refine lv_aload_n hx.1 hx.2.1 dL_law_1347 rfl (lv_at hl 3 rfl) ?_
  refine L_arg hc hL ha1 rfl (lv_at hl 1 rfl) (lv_at hl 5 rfl) dL_law_1348 dL_law_1349 dL_law_1351 dL_law_1352 dL_law_1353 ?_
  refine L_callV hx (b := 210) [.int (oI x1)] [] (ev_X11_arrivesIn 20000 210 (by decide +kernel) x1 w1) vm_X11_arrivesIn fc9 (by decide +kernel) g1823 dL_law_1354 rfl rfl (Nat.le_of_ble_eq_true rfl) ⟨by omega, by omega⟩ hj hl.1 hL f2 (fun v9 hv H locs hL => ?_) (fun E hE => absurd hE (by intro h; cases h))
  cases hv
  refine lv_istore (lv' := [(6, .int (oI bb)), (5, .int (hres [eIO] res)), (0, .ref b), (1, .ref (ad 0)), (2, .ref (ad 210)), (3, .ref ao), (4, .int i)]) hx.1 hx.2.1 dL_law_1357 hl (by decide) rfl (fun ls hl => ?_)
  exact L_tail hc hR hI2 hL hA (by decide) hf9 hl hj dL_law_1359 dL_law_1360 dL_law_1363 dL_law_1365 dL_law_1370 dL_law_1372 dL_law_1375 dL_law_1376 dL_law_1377 dL_law_1378 dL_law_1380 dL_law_1381 dL_law_1382 dL_law_1387 (by decide) kk
set_option maxHeartbeats 4000000 in
set_option maxRecDepth 100000 in
theorem lc_21 (hc : LwC p l s m meth c D aT aL ad adV A b L xs) (hR : 11 ≤ R.frames ∧ 510 ≤ R.locals) (ha1 : LwA L xs i 1 x1) (ha2 : LwA L xs i 2 x2) (ha3 : LwA L xs i 3 x3) (ha4 : LwA L xs i 4 x4) (ha5 : LwA L xs i 5 x5) (hI : Inv w) (hL : Lx D ad aT A s.heap (cm w) (oW aL ao f) H locs) (hl : lv_has ls 9 (LL ad b ao i)) (hj : cells + 4 ≤ R.cells ∧ slots + 24 ≤ R.slots) (kk : LwK p l e R s m below meth c Q D ad aT aL A b ao i (cells + 4) (slots + 24)) :
    W p l e R s m #[Value.ref b] below meth c H locs cells slots Q (F0 m 1390 ls []) := by
  obtain ⟨hx, hN, -⟩ := id hc
  have hjz : cells ≤ R.cells ∧ slots ≤ R.slots := ⟨by omega, by omega⟩
  have hl : lv_has ls 9 [(0, .ref b), (1, .ref (ad 0)), (2, .ref (ad 210)), (3, .ref ao), (4, .int i)] := hl
  refine lv_aload_n hx.1 hx.2.1 dL_law_1390 rfl (lv_at hl 1 rfl) ?_
  refine L_arg hc hL ha1 rfl (lv_at hl 0 rfl) (lv_at hl 4 rfl) dL_law_1391 dL_law_1392 dL_law_1394 dL_law_1395 dL_law_1396 ?_
  refine L_arg hc hL ha2 rfl (lv_at hl 0 rfl) (lv_at hl 4 rfl) dL_law_1397 dL_law_1398 dL_law_1400 dL_law_1401 dL_law_1402 ?_
  refine lv_aload_n hx.1 hx.2.1 dL_law_1403 rfl (lv_at hl 3 rfl) ?_
  obtain ⟨res, w1, bb, w2, f1, f2, hI2, hA⟩ := (top_growsBy (F := 20000) (Nat.le_refl _) ha1.2.2 ha2.2.2) w hI
  refine L_callH (n := 4) hx hN (st := []) (hm_growsBy x1 x2 f1 hA.mem) hL gi1187 g107 g1185 g1186 (by decide +kernel) dL_law_1404 rfl rfl (Nat.le_of_ble_eq_true rfl) ⟨by omega, by omega⟩ hj hl.1 (fun f9 H locs hf9 hL => ?_)
  refine lv_istore (lv' := [(5, .int (hres [eIA] res)), (0, .ref b), (1, .ref (ad 0)), (2, .ref (ad 210)), (3, .ref ao), (4, .int i)]) hx.1 hx.2.1 dL_law_1407 hl (by decide) rfl (fun ls hl => ?_)
  refine lv_aload_n hx.1 hx.2.1 dL_law_1409 rfl (lv_at hl 3 rfl) ?_
  refine L_arg hc hL ha1 rfl (lv_at hl 1 rfl) (lv_at hl 5 rfl) dL_law_1410 dL_law_1411 dL_law_1413 dL_law_1414 dL_law_1415 ?_
  refine L_arg hc hL ha2 rfl (lv_at hl 1 rfl) (lv_at hl 5 rfl) dL_law_1416 dL_law_1417 dL_law_1419 dL_law_1420 dL_law_1421 ?_
  refine L_callV hx (b := 210) [.int (oI x1), .int (oI x2)] [] (ev_X11_growsBy 20000 210 (by decide +kernel) x1 x2 w1) vm_X11_growsBy fc9 (by decide +kernel) g1827 dL_law_1422 rfl rfl (Nat.le_of_ble_eq_true rfl) ⟨by omega, by omega⟩ hj hl.1 hL f2 (fun v9 hv H locs hL => ?_) (fun E hE => absurd hE (by intro h; cases h))
  cases hv
  refine lv_istore (lv' := [(6, .int (oI bb)), (5, .int (hres [eIA] res)), (0, .ref b), (1, .ref (ad 0)), (2, .ref (ad 210)), (3, .ref ao), (4, .int i)]) hx.1 hx.2.1 dL_law_1425 hl (by decide) rfl (fun ls hl => ?_)
  exact L_tail hc hR hI2 hL hA (by decide) hf9 hl hj dL_law_1427 dL_law_1428 dL_law_1431 dL_law_1433 dL_law_1438 dL_law_1440 dL_law_1443 dL_law_1444 dL_law_1445 dL_law_1446 dL_law_1448 dL_law_1449 dL_law_1450 dL_law_1455 (by decide) kk
set_option maxHeartbeats 4000000 in
set_option maxRecDepth 100000 in
theorem lc_22 (hc : LwC p l s m meth c D aT aL ad adV A b L xs) (hR : 11 ≤ R.frames ∧ 510 ≤ R.locals) (ha1 : LwA L xs i 1 x1) (ha2 : LwA L xs i 2 x2) (ha3 : LwA L xs i 3 x3) (ha4 : LwA L xs i 4 x4) (ha5 : LwA L xs i 5 x5) (hI : Inv w) (hL : Lx D ad aT A s.heap (cm w) (oW aL ao f) H locs) (hl : lv_has ls 9 (LL ad b ao i)) (hj : cells + 4 ≤ R.cells ∧ slots + 24 ≤ R.slots) (kk : LwK p l e R s m below meth c Q D ad aT aL A b ao i (cells + 4) (slots + 24)) :
    W p l e R s m #[Value.ref b] below meth c H locs cells slots Q (F0 m 1458 ls []) := by
  obtain ⟨hx, hN, -⟩ := id hc
  have hjz : cells ≤ R.cells ∧ slots ≤ R.slots := ⟨by omega, by omega⟩
  have hl : lv_has ls 9 [(0, .ref b), (1, .ref (ad 0)), (2, .ref (ad 210)), (3, .ref ao), (4, .int i)] := hl
  refine lv_aload_n hx.1 hx.2.1 dL_law_1458 rfl (lv_at hl 1 rfl) ?_
  obtain ⟨v, w2, f1, f2, hI2⟩ := top_dearestWay (F := 20000) (Nat.le_refl _) w hI
  refine L_callV hx (b := 0) [] [] (ev_X10_dearestWay 20000 0 (by decide +kernel) w) vm_X10_dearestWay fc8 (by decide +kernel) g838 dL_law_1459 rfl rfl (Nat.le_of_ble_eq_true rfl) ⟨by omega, by omega⟩ hjz hl.1 hL f1 (fun v9 hv H locs hL => ?_) (fun E hE => absurd hE (by intro h; cases h))
  cases hv
  refine lv_aload_n hx.1 hx.2.1 dL_law_1462 rfl (lv_at hl 2 rfl) ?_
  refine L_callV hx (b := 210) [] [.int (oI v)] (ev_X11_dearestWay 20000 210 (by decide +kernel) w) vm_X11_dearestWay fc9 (by decide +kernel) g1832 dL_law_1463 rfl rfl (Nat.le_of_ble_eq_true rfl) ⟨by omega, by omega⟩ hjz hl.1 hL f2 (fun v9 hv H locs hL => ?_) (fun E hE => absurd hE (by intro h; cases h))
  cases hv
  refine lv_icmp_eq (tgt := 2131) hx.1 hx.2.1 dL_law_1466 (by decide) (fun _ => ?_) (fun z => absurd rfl z)
  exact W.widen (by omega) (by omega) (kk w2 f H locs ls hI2 hL hl)
set_option maxHeartbeats 4000000 in
set_option maxRecDepth 100000 in
theorem lc_23 (hc : LwC p l s m meth c D aT aL ad adV A b L xs) (hR : 11 ≤ R.frames ∧ 510 ≤ R.locals) (ha1 : LwA L xs i 1 x1) (ha2 : LwA L xs i 2 x2) (ha3 : LwA L xs i 3 x3) (ha4 : LwA L xs i 4 x4) (ha5 : LwA L xs i 5 x5) (hI : Inv w) (hL : Lx D ad aT A s.heap (cm w) (oW aL ao f) H locs) (hl : lv_has ls 9 (LL ad b ao i)) (hj : cells + 4 ≤ R.cells ∧ slots + 24 ≤ R.slots) (kk : LwK p l e R s m below meth c Q D ad aT aL A b ao i (cells + 4) (slots + 24)) :
    W p l e R s m #[Value.ref b] below meth c H locs cells slots Q (F0 m 1471 ls []) := by
  obtain ⟨hx, hN, -⟩ := id hc
  have hjz : cells ≤ R.cells ∧ slots ≤ R.slots := ⟨by omega, by omega⟩
  have hl : lv_has ls 9 [(0, .ref b), (1, .ref (ad 0)), (2, .ref (ad 210)), (3, .ref ao), (4, .int i)] := hl
  refine lv_aload_n hx.1 hx.2.1 dL_law_1471 rfl (lv_at hl 1 rfl) ?_
  obtain ⟨v, w1, w2, f1, f2, hI2⟩ := top_agree (F := 20000) (Nat.le_refl _) w hI
  refine L_callV hx (b := 0) [] [] (ev_X10_agree 20000 0 (by decide +kernel) w) vm_X10_agree fc8 (by decide +kernel) g858 dL_law_1472 rfl rfl (Nat.le_of_ble_eq_true rfl) ⟨by omega, by omega⟩ hjz hl.1 hL f1 (fun v9 hv H locs hL => ?_) (fun E hE => absurd hE (by intro h; cases h))
  cases hv
  refine lv_aload_n hx.1 hx.2.1 dL_law_1475 rfl (lv_at hl 2 rfl) ?_
  refine L_callV hx (b := 210) [] [.int (oI (bI v))] (ev_X11_agree 20000 210 (by decide +kernel) w1) vm_X11_agree fc9 (by decide +kernel) g1840 dL_law_1476 rfl rfl (Nat.le_of_ble_eq_true rfl) ⟨by omega, by omega⟩ hjz hl.1 hL f2 (fun v9 hv H locs hL => ?_) (fun E hE => absurd hE (by intro h; cases h))
  cases hv
  refine lv_icmp_eq (tgt := 2131) hx.1 hx.2.1 dL_law_1479 (by decide) (fun _ => ?_) (fun z => absurd rfl z)
  exact W.widen (by omega) (by omega) (kk w2 f H locs ls hI2 hL hl)
set_option maxHeartbeats 4000000 in
set_option maxRecDepth 100000 in
theorem lc_24 (hc : LwC p l s m meth c D aT aL ad adV A b L xs) (hR : 11 ≤ R.frames ∧ 510 ≤ R.locals) (ha1 : LwA L xs i 1 x1) (ha2 : LwA L xs i 2 x2) (ha3 : LwA L xs i 3 x3) (ha4 : LwA L xs i 4 x4) (ha5 : LwA L xs i 5 x5) (hI : Inv w) (hL : Lx D ad aT A s.heap (cm w) (oW aL ao f) H locs) (hl : lv_has ls 9 (LL ad b ao i)) (hj : cells + 4 ≤ R.cells ∧ slots + 24 ≤ R.slots) (kk : LwK p l e R s m below meth c Q D ad aT aL A b ao i (cells + 4) (slots + 24)) :
    W p l e R s m #[Value.ref b] below meth c H locs cells slots Q (F0 m 1484 ls []) := by
  obtain ⟨hx, hN, -⟩ := id hc
  have hjz : cells ≤ R.cells ∧ slots ≤ R.slots := ⟨by omega, by omega⟩
  have hl : lv_has ls 9 [(0, .ref b), (1, .ref (ad 0)), (2, .ref (ad 210)), (3, .ref ao), (4, .int i)] := hl
  refine lv_aload_n hx.1 hx.2.1 dL_law_1484 rfl (lv_at hl 1 rfl) ?_
  obtain ⟨v, w2, f1, f2, hI2⟩ := top_meanPurse (F := 20000) (Nat.le_refl _) w hI
  refine L_callV hx (b := 0) [] [] (ev_X10_meanPurse 20000 0 (by decide +kernel) w) vm_X10_meanPurse fc8 (by decide +kernel) g884 dL_law_1485 rfl rfl (Nat.le_of_ble_eq_true rfl) ⟨by omega, by omega⟩ hjz hl.1 hL f1 (fun v9 hv H locs hL => ?_) (fun E hE => absurd hE (by intro h; cases h))
  cases hv
  refine lv_dstore (lv' := [(5, .double v), (0, .ref b), (1, .ref (ad 0)), (2, .ref (ad 210)), (3, .ref ao), (4, .int i)]) hx.1 hx.2.1 dL_law_1488 hl (by decide) rfl (fun ls hl => ?_)
  refine lv_aload_n hx.1 hx.2.1 dL_law_1490 rfl (lv_at hl 3 rfl) ?_
  refine L_callV hx (b := 210) [] [] (ev_X11_meanPurse 20000 210 (by decide +kernel) w) vm_X11_meanPurse fc9 (by decide +kernel) g1860 dL_law_1491 rfl rfl (Nat.le_of_ble_eq_true rfl) ⟨by omega, by omega⟩ hjz hl.1 hL f2 (fun v9 hv H locs hL => ?_) (fun E hE => absurd hE (by intro h; cases h))
  cases hv
  refine lv_dstore (lv' := [(7, .double v), (5, .double v), (0, .ref b), (1, .ref (ad 0)), (2, .ref (ad 210)), (3, .ref ao), (4, .int i)]) hx.1 hx.2.1 dL_law_1494 hl (by decide) rfl (fun ls hl => ?_)
  refine lv_dload hx.1 hx.2.1 dL_law_1496 (lv_at hl 1 rfl) ?_
  refine lv_dload hx.1 hx.2.1 dL_law_1498 (lv_at hl 0 rfl) ?_
  refine lv_dcmp hx.1 hx.2.1 dL_law_1500 ?_
  refine lv_if_eq (tgt := 1522) hx.1 hx.2.1 dL_law_1501 (by decide) (fun _ => lv_goto (tgt := 2131) hx.1 hx.2.1 dL_law_1522 (by decide) (W.widen (by omega) (by omega) (kk w2 f H locs ls hI2 hL (lv_sub hl [2, 3, 4, 5, 6] rfl)))) (fun z => ?_)
  refine lv_dload hx.1 hx.2.1 dL_law_1504 (lv_at hl 1 rfl) ?_
  refine lv_dload hx.1 hx.2.1 dL_law_1506 (lv_at hl 1 rfl) ?_
  refine lv_dcmp hx.1 hx.2.1 dL_law_1508 ?_
  refine lv_if_eq (tgt := 1520) hx.1 hx.2.1 dL_law_1509 (by decide) (fun y => absurd y z) (fun _ => ?_)
  refine lv_dload hx.1 hx.2.1 dL_law_1512 (lv_at hl 0 rfl) ?_
  refine lv_dload hx.1 hx.2.1 dL_law_1514 (lv_at hl 0 rfl) ?_
  refine lv_dcmp hx.1 hx.2.1 dL_law_1516 ?_
  exact lv_if_ne (tgt := 1522) hx.1 hx.2.1 dL_law_1517 (by decide) (fun _ => lv_goto (tgt := 2131) hx.1 hx.2.1 dL_law_1522 (by decide) (W.widen (by omega) (by omega) (kk w2 f H locs ls hI2 hL (lv_sub hl [2, 3, 4, 5, 6] rfl)))) (fun y => absurd y z)
set_option maxHeartbeats 4000000 in
set_option maxRecDepth 100000 in
theorem lc_25 (hc : LwC p l s m meth c D aT aL ad adV A b L xs) (hR : 11 ≤ R.frames ∧ 510 ≤ R.locals) (ha1 : LwA L xs i 1 x1) (ha2 : LwA L xs i 2 x2) (ha3 : LwA L xs i 3 x3) (ha4 : LwA L xs i 4 x4) (ha5 : LwA L xs i 5 x5) (hI : Inv w) (hL : Lx D ad aT A s.heap (cm w) (oW aL ao f) H locs) (hl : lv_has ls 9 (LL ad b ao i)) (hj : cells + 4 ≤ R.cells ∧ slots + 24 ≤ R.slots) (kk : LwK p l e R s m below meth c Q D ad aT aL A b ao i (cells + 4) (slots + 24)) :
    W p l e R s m #[Value.ref b] below meth c H locs cells slots Q (F0 m 1525 ls []) := by
  obtain ⟨hx, hN, -⟩ := id hc
  have hjz : cells ≤ R.cells ∧ slots ≤ R.slots := ⟨by omega, by omega⟩
  have hl : lv_has ls 9 [(0, .ref b), (1, .ref (ad 0)), (2, .ref (ad 210)), (3, .ref ao), (4, .int i)] := hl
  refine lv_aload_n hx.1 hx.2.1 dL_law_1525 rfl (lv_at hl 1 rfl) ?_
  obtain ⟨v, w2, f1, f2, hI2, hnn⟩ := top_rightN w hI
  refine L_callV hx (b := 0) [] [] (ev_X10_rightPart 20000 0 (by decide +kernel) w) vm_X10_rightPart fc8 (by decide +kernel) g889 dL_law_1526 rfl rfl (Nat.le_of_ble_eq_true rfl) ⟨by omega, by omega⟩ hjz hl.1 hL f1 (fun v9 hv H locs hL => ?_) (fun E hE => absurd hE (by intro h; cases h))
  cases hv
  refine lv_f2d hx.1 hx.2.1 dL_law_1529 hnn ?_
  refine lv_dstore (lv' := [(5, .double (FP.f2d v)), (0, .ref b), (1, .ref (ad 0)), (2, .ref (ad 210)), (3, .ref ao), (4, .int i)]) hx.1 hx.2.1 dL_law_1530 hl (by decide) rfl (fun ls hl => ?_)
  refine lv_aload_n hx.1 hx.2.1 dL_law_1532 rfl (lv_at hl 3 rfl) ?_
  refine L_callV hx (b := 210) [] [] (ev_X11_rightPart 210 (by decide +kernel) w) vm_X11_rightPart fc9 (by decide +kernel) g1864 dL_law_1533 rfl rfl (Nat.le_of_ble_eq_true rfl) ⟨by omega, by omega⟩ hjz hl.1 hL f2 (fun v9 hv H locs hL => ?_) (fun E hE => absurd hE (by intro h; cases h))
  cases hv
  refine lv_f2d hx.1 hx.2.1 dL_law_1536 hnn ?_
  refine lv_dstore (lv' := [(7, .double (FP.f2d v)), (5, .double (FP.f2d v)), (0, .ref b), (1, .ref (ad 0)), (2, .ref (ad 210)), (3, .ref ao), (4, .int i)]) hx.1 hx.2.1 dL_law_1537 hl (by decide) rfl (fun ls hl => ?_)
  refine lv_dload hx.1 hx.2.1 dL_law_1539 (lv_at hl 1 rfl) ?_
  refine lv_dload hx.1 hx.2.1 dL_law_1541 (lv_at hl 0 rfl) ?_
  refine lv_dcmp hx.1 hx.2.1 dL_law_1543 ?_
  refine lv_if_eq (tgt := 1565) hx.1 hx.2.1 dL_law_1544 (by decide) (fun _ => lv_goto (tgt := 2131) hx.1 hx.2.1 dL_law_1565 (by decide) (W.widen (by omega) (by omega) (kk w2 f H locs ls hI2 hL (lv_sub hl [2, 3, 4, 5, 6] rfl)))) (fun z => ?_)
  refine lv_dload hx.1 hx.2.1 dL_law_1547 (lv_at hl 1 rfl) ?_
  refine lv_dload hx.1 hx.2.1 dL_law_1549 (lv_at hl 1 rfl) ?_
  refine lv_dcmp hx.1 hx.2.1 dL_law_1551 ?_
  refine lv_if_eq (tgt := 1563) hx.1 hx.2.1 dL_law_1552 (by decide) (fun y => absurd y z) (fun _ => ?_)
  refine lv_dload hx.1 hx.2.1 dL_law_1555 (lv_at hl 0 rfl) ?_
  refine lv_dload hx.1 hx.2.1 dL_law_1557 (lv_at hl 0 rfl) ?_
  refine lv_dcmp hx.1 hx.2.1 dL_law_1559 ?_
  exact lv_if_ne (tgt := 1565) hx.1 hx.2.1 dL_law_1560 (by decide) (fun _ => lv_goto (tgt := 2131) hx.1 hx.2.1 dL_law_1565 (by decide) (W.widen (by omega) (by omega) (kk w2 f H locs ls hI2 hL (lv_sub hl [2, 3, 4, 5, 6] rfl)))) (fun y => absurd y z)
set_option maxHeartbeats 4000000 in
set_option maxRecDepth 100000 in
theorem lc_26 (hc : LwC p l s m meth c D aT aL ad adV A b L xs) (hR : 11 ≤ R.frames ∧ 510 ≤ R.locals) (ha1 : LwA L xs i 1 x1) (ha2 : LwA L xs i 2 x2) (ha3 : LwA L xs i 3 x3) (ha4 : LwA L xs i 4 x4) (ha5 : LwA L xs i 5 x5) (hI : Inv w) (hL : Lx D ad aT A s.heap (cm w) (oW aL ao f) H locs) (hl : lv_has ls 9 (LL ad b ao i)) (hj : cells + 4 ≤ R.cells ∧ slots + 24 ≤ R.slots) (kk : LwK p l e R s m below meth c Q D ad aT aL A b ao i (cells + 4) (slots + 24)) :
    W p l e R s m #[Value.ref b] below meth c H locs cells slots Q (F0 m 1568 ls []) := by
  obtain ⟨hx, hN, -⟩ := id hc
  have hjz : cells ≤ R.cells ∧ slots ≤ R.slots := ⟨by omega, by omega⟩
  have hl : lv_has ls 9 [(0, .ref b), (1, .ref (ad 0)), (2, .ref (ad 210)), (3, .ref ao), (4, .int i)] := hl
  refine lv_aload_n hx.1 hx.2.1 dL_law_1568 rfl (lv_at hl 1 rfl) ?_
  refine L_arg hc hL ha1 rfl (lv_at hl 0 rfl) (lv_at hl 4 rfl) dL_law_1569 dL_law_1570 dL_law_1572 dL_law_1573 dL_law_1574 ?_
  refine L_arg hc hL ha2 rfl (lv_at hl 0 rfl) (lv_at hl 4 rfl) dL_law_1575 dL_law_1576 dL_law_1578 dL_law_1579 dL_law_1580 ?_
  refine L_arg hc hL ha3 rfl (lv_at hl 0 rfl) (lv_at hl 4 rfl) dL_law_1581 dL_law_1582 dL_law_1584 dL_law_1585 dL_law_1586 ?_
  refine L_arg hc hL ha4 rfl (lv_at hl 0 rfl) (lv_at hl 4 rfl) dL_law_1587 dL_law_1588 dL_law_1590 dL_law_1591 dL_law_1592 ?_
  refine L_bool hc dL_law_1593 dL_law_1596 dL_law_1597 dL_law_1600 ha4.2.2 ?_
  refine lv_aload_n hx.1 hx.2.1 dL_law_1601 rfl (lv_at hl 3 rfl) ?_
  obtain ⟨res, w1, bb, w2, f1, f2, hI2, hA⟩ := (top_send (F := 20000) (Nat.le_refl _) ha1.2.2 ha2.2.2 ha3.2.2 (z01 _)) w hI
  refine L_callH (n := 6) hx hN (st := []) (hm_send x1 x2 x3 (if x4 = 0 then 0 else 1) f1 hA.mem) hL gi1194 g107 g1192 g1193 (by decide +kernel) dL_law_1602 rfl rfl (Nat.le_of_ble_eq_true rfl) ⟨by omega, by omega⟩ hj hl.1 (fun f9 H locs hf9 hL => ?_)
  refine lv_istore (lv' := [(5, .int (hres [eIO, eIA, eIS] res)), (0, .ref b), (1, .ref (ad 0)), (2, .ref (ad 210)), (3, .ref ao), (4, .int i)]) hx.1 hx.2.1 dL_law_1605 hl (by decide) rfl (fun ls hl => ?_)
  refine lv_aload_n hx.1 hx.2.1 dL_law_1607 rfl (lv_at hl 3 rfl) ?_
  refine L_arg hc hL ha1 rfl (lv_at hl 1 rfl) (lv_at hl 5 rfl) dL_law_1608 dL_law_1609 dL_law_1611 dL_law_1612 dL_law_1613 ?_
  refine L_arg hc hL ha2 rfl (lv_at hl 1 rfl) (lv_at hl 5 rfl) dL_law_1614 dL_law_1615 dL_law_1617 dL_law_1618 dL_law_1619 ?_
  refine L_arg hc hL ha3 rfl (lv_at hl 1 rfl) (lv_at hl 5 rfl) dL_law_1620 dL_law_1621 dL_law_1623 dL_law_1624 dL_law_1625 ?_
  refine L_arg hc hL ha4 rfl (lv_at hl 1 rfl) (lv_at hl 5 rfl) dL_law_1626 dL_law_1627 dL_law_1629 dL_law_1630 dL_law_1631 ?_
  refine L_bool hc dL_law_1632 dL_law_1635 dL_law_1636 dL_law_1639 ha4.2.2 ?_
  refine L_callV hx (b := 210) [.int (oI x1), .int (oI x2), .int (oI x3), .int (oI (if x4 = 0 then 0 else 1))] [] (ev_X11_send 20000 210 (by decide +kernel) x1 x2 x3 (if x4 = 0 then 0 else 1) w1) vm_X11_send fc9 (by decide +kernel) g1868 dL_law_1640 rfl rfl (Nat.le_of_ble_eq_true rfl) ⟨by omega, by omega⟩ hj hl.1 hL f2 (fun v9 hv H locs hL => ?_) (fun E hE => absurd hE (by intro h; cases h))
  cases hv
  refine lv_istore (lv' := [(6, .int (oI bb)), (5, .int (hres [eIO, eIA, eIS] res)), (0, .ref b), (1, .ref (ad 0)), (2, .ref (ad 210)), (3, .ref ao), (4, .int i)]) hx.1 hx.2.1 dL_law_1643 hl (by decide) rfl (fun ls hl => ?_)
  exact L_tail hc hR hI2 hL hA (by decide) hf9 hl hj dL_law_1645 dL_law_1646 dL_law_1649 dL_law_1651 dL_law_1656 dL_law_1658 dL_law_1661 dL_law_1662 dL_law_1663 dL_law_1664 dL_law_1666 dL_law_1667 dL_law_1668 dL_law_1673 (by decide) kk
set_option maxHeartbeats 4000000 in
set_option maxRecDepth 100000 in
theorem lc_27 (hc : LwC p l s m meth c D aT aL ad adV A b L xs) (hR : 11 ≤ R.frames ∧ 510 ≤ R.locals) (ha1 : LwA L xs i 1 x1) (ha2 : LwA L xs i 2 x2) (ha3 : LwA L xs i 3 x3) (ha4 : LwA L xs i 4 x4) (ha5 : LwA L xs i 5 x5) (hI : Inv w) (hL : Lx D ad aT A s.heap (cm w) (oW aL ao f) H locs) (hl : lv_has ls 9 (LL ad b ao i)) (hj : cells + 4 ≤ R.cells ∧ slots + 24 ≤ R.slots) (kk : LwK p l e R s m below meth c Q D ad aT aL A b ao i (cells + 4) (slots + 24)) :
    W p l e R s m #[Value.ref b] below meth c H locs cells slots Q (F0 m 1676 ls []) := by
  obtain ⟨hx, hN, -⟩ := id hc
  have hjz : cells ≤ R.cells ∧ slots ≤ R.slots := ⟨by omega, by omega⟩
  have hl : lv_has ls 9 [(0, .ref b), (1, .ref (ad 0)), (2, .ref (ad 210)), (3, .ref ao), (4, .int i)] := hl
  refine lv_aload_n hx.1 hx.2.1 dL_law_1676 rfl (lv_at hl 1 rfl) ?_
  refine L_arg hc hL ha1 rfl (lv_at hl 0 rfl) (lv_at hl 4 rfl) dL_law_1677 dL_law_1678 dL_law_1680 dL_law_1681 dL_law_1682 ?_
  refine lv_aload_n hx.1 hx.2.1 dL_law_1683 rfl (lv_at hl 3 rfl) ?_
  obtain ⟨res, w1, bb, w2, f1, f2, hI2, hA⟩ := (top_tick (F := 20000) (Nat.le_refl _) ha1.2.2) w hI
  refine L_callH (n := 3) hx hN (st := []) (hm_tick x1 f1 hA.mem) hL gi1230 g107 g1228 g1229 (by decide +kernel) dL_law_1684 rfl rfl (Nat.le_of_ble_eq_true rfl) ⟨by omega, by omega⟩ hj hl.1 (fun f9 H locs hf9 hL => ?_)
  refine lv_istore (lv' := [(5, .int (hres [eIA, eIS] res)), (0, .ref b), (1, .ref (ad 0)), (2, .ref (ad 210)), (3, .ref ao), (4, .int i)]) hx.1 hx.2.1 dL_law_1687 hl (by decide) rfl (fun ls hl => ?_)
  refine lv_aload_n hx.1 hx.2.1 dL_law_1689 rfl (lv_at hl 3 rfl) ?_
  refine L_arg hc hL ha1 rfl (lv_at hl 1 rfl) (lv_at hl 5 rfl) dL_law_1690 dL_law_1691 dL_law_1693 dL_law_1694 dL_law_1695 ?_
  refine L_callV hx (b := 210) [.int (oI x1)] [] (ev_X11_tick 20000 210 (by decide +kernel) x1 w1) vm_X11_tick fc9 (by decide +kernel) g1877 dL_law_1696 rfl rfl (Nat.le_of_ble_eq_true rfl) ⟨by omega, by omega⟩ hj hl.1 hL f2 (fun v9 hv H locs hL => ?_) (fun E hE => absurd hE (by intro h; cases h))
  cases hv
  refine lv_istore (lv' := [(6, .int (oI bb)), (5, .int (hres [eIA, eIS] res)), (0, .ref b), (1, .ref (ad 0)), (2, .ref (ad 210)), (3, .ref ao), (4, .int i)]) hx.1 hx.2.1 dL_law_1699 hl (by decide) rfl (fun ls hl => ?_)
  exact L_tail hc hR hI2 hL hA (by decide) hf9 hl hj dL_law_1701 dL_law_1702 dL_law_1705 dL_law_1707 dL_law_1712 dL_law_1714 dL_law_1717 dL_law_1718 dL_law_1719 dL_law_1720 dL_law_1722 dL_law_1723 dL_law_1724 dL_law_1729 (by decide) kk
set_option maxHeartbeats 4000000 in
set_option maxRecDepth 100000 in
theorem lc_28 (hc : LwC p l s m meth c D aT aL ad adV A b L xs) (hR : 11 ≤ R.frames ∧ 510 ≤ R.locals) (ha1 : LwA L xs i 1 x1) (ha2 : LwA L xs i 2 x2) (ha3 : LwA L xs i 3 x3) (ha4 : LwA L xs i 4 x4) (ha5 : LwA L xs i 5 x5) (hI : Inv w) (hL : Lx D ad aT A s.heap (cm w) (oW aL ao f) H locs) (hl : lv_has ls 9 (LL ad b ao i)) (hj : cells + 4 ≤ R.cells ∧ slots + 24 ≤ R.slots) (kk : LwK p l e R s m below meth c Q D ad aT aL A b ao i (cells + 4) (slots + 24)) :
    W p l e R s m #[Value.ref b] below meth c H locs cells slots Q (F0 m 1732 ls []) := by
  obtain ⟨hx, hN, -⟩ := id hc
  have hjz : cells ≤ R.cells ∧ slots ≤ R.slots := ⟨by omega, by omega⟩
  have hl : lv_has ls 9 [(0, .ref b), (1, .ref (ad 0)), (2, .ref (ad 210)), (3, .ref ao), (4, .int i)] := hl
  refine lv_aload_n hx.1 hx.2.1 dL_law_1732 rfl (lv_at hl 1 rfl) ?_
  refine L_arg hc hL ha1 rfl (lv_at hl 0 rfl) (lv_at hl 4 rfl) dL_law_1733 dL_law_1734 dL_law_1736 dL_law_1737 dL_law_1738 ?_
  refine L_arg hc hL ha2 rfl (lv_at hl 0 rfl) (lv_at hl 4 rfl) dL_law_1739 dL_law_1740 dL_law_1742 dL_law_1743 dL_law_1744 ?_
  refine lv_aload_n hx.1 hx.2.1 dL_law_1745 rfl (lv_at hl 3 rfl) ?_
  obtain ⟨res, w1, bb, w2, f1, f2, hI2, hA⟩ := (top_give (F := 20000) (Nat.le_refl _) ha1.2.2 ha2.2.2) w hI
  refine L_callH (n := 4) hx hN (st := []) (hm_give x1 x2 f1 hA.mem) hL gi1238 g107 g1236 g1237 (by decide +kernel) dL_law_1746 rfl rfl (Nat.le_of_ble_eq_true rfl) ⟨by omega, by omega⟩ hj hl.1 (fun f9 H locs hf9 hL => ?_)
  refine lv_istore (lv' := [(5, .int (hres [eIO, eIA, eIS] res)), (0, .ref b), (1, .ref (ad 0)), (2, .ref (ad 210)), (3, .ref ao), (4, .int i)]) hx.1 hx.2.1 dL_law_1749 hl (by decide) rfl (fun ls hl => ?_)
  refine lv_aload_n hx.1 hx.2.1 dL_law_1751 rfl (lv_at hl 3 rfl) ?_
  refine L_arg hc hL ha1 rfl (lv_at hl 1 rfl) (lv_at hl 5 rfl) dL_law_1752 dL_law_1753 dL_law_1755 dL_law_1756 dL_law_1757 ?_
  refine L_arg hc hL ha2 rfl (lv_at hl 1 rfl) (lv_at hl 5 rfl) dL_law_1758 dL_law_1759 dL_law_1761 dL_law_1762 dL_law_1763 ?_
  refine L_callV hx (b := 210) [.int (oI x1), .int (oI x2)] [] (ev_X11_give 20000 210 (by decide +kernel) x1 x2 w1) vm_X11_give fc9 (by decide +kernel) g1882 dL_law_1764 rfl rfl (Nat.le_of_ble_eq_true rfl) ⟨by omega, by omega⟩ hj hl.1 hL f2 (fun v9 hv H locs hL => ?_) (fun E hE => absurd hE (by intro h; cases h))
  cases hv
  refine lv_istore (lv' := [(6, .int (oI bb)), (5, .int (hres [eIO, eIA, eIS] res)), (0, .ref b), (1, .ref (ad 0)), (2, .ref (ad 210)), (3, .ref ao), (4, .int i)]) hx.1 hx.2.1 dL_law_1767 hl (by decide) rfl (fun ls hl => ?_)
  exact L_tail hc hR hI2 hL hA (by decide) hf9 hl hj dL_law_1769 dL_law_1770 dL_law_1773 dL_law_1775 dL_law_1780 dL_law_1782 dL_law_1785 dL_law_1786 dL_law_1787 dL_law_1788 dL_law_1790 dL_law_1791 dL_law_1792 dL_law_1797 (by decide) kk
set_option maxHeartbeats 4000000 in
set_option maxRecDepth 100000 in
theorem lc_29 (hc : LwC p l s m meth c D aT aL ad adV A b L xs) (hR : 11 ≤ R.frames ∧ 510 ≤ R.locals) (ha1 : LwA L xs i 1 x1) (ha2 : LwA L xs i 2 x2) (ha3 : LwA L xs i 3 x3) (ha4 : LwA L xs i 4 x4) (ha5 : LwA L xs i 5 x5) (hI : Inv w) (hL : Lx D ad aT A s.heap (cm w) (oW aL ao f) H locs) (hl : lv_has ls 9 (LL ad b ao i)) (hj : cells + 4 ≤ R.cells ∧ slots + 24 ≤ R.slots) (kk : LwK p l e R s m below meth c Q D ad aT aL A b ao i (cells + 4) (slots + 24)) :
    W p l e R s m #[Value.ref b] below meth c H locs cells slots Q (F0 m 1800 ls []) := by
  obtain ⟨hx, hN, -⟩ := id hc
  have hjz : cells ≤ R.cells ∧ slots ≤ R.slots := ⟨by omega, by omega⟩
  have hl : lv_has ls 9 [(0, .ref b), (1, .ref (ad 0)), (2, .ref (ad 210)), (3, .ref ao), (4, .int i)] := hl
  refine lv_aload_n hx.1 hx.2.1 dL_law_1800 rfl (lv_at hl 1 rfl) ?_
  refine L_arg hc hL ha1 rfl (lv_at hl 0 rfl) (lv_at hl 4 rfl) dL_law_1801 dL_law_1802 dL_law_1804 dL_law_1805 dL_law_1806 ?_
  refine L_arg hc hL ha2 rfl (lv_at hl 0 rfl) (lv_at hl 4 rfl) dL_law_1807 dL_law_1808 dL_law_1810 dL_law_1811 dL_law_1812 ?_
  refine lv_aload_n hx.1 hx.2.1 dL_law_1813 rfl (lv_at hl 3 rfl) ?_
  obtain ⟨res, w1, bb, w2, f1, f2, hI2, hA⟩ := (top_cut (F := 20000) (Nat.le_refl _) ha1.2.2 ha2.2.2) w hI
  refine L_callH (n := 4) hx hN (st := []) (hm_cut x1 x2 f1 hA.mem) hL gi1246 g107 g1244 g1245 (by decide +kernel) dL_law_1814 rfl rfl (Nat.le_of_ble_eq_true rfl) ⟨by omega, by omega⟩ hj hl.1 (fun f9 H locs hf9 hL => ?_)
  refine lv_istore (lv' := [(5, .int (hres [eIO, eIS] res)), (0, .ref b), (1, .ref (ad 0)), (2, .ref (ad 210)), (3, .ref ao), (4, .int i)]) hx.1 hx.2.1 dL_law_1817 hl (by decide) rfl (fun ls hl => ?_)
  refine lv_aload_n hx.1 hx.2.1 dL_law_1819 rfl (lv_at hl 3 rfl) ?_
  refine L_arg hc hL ha1 rfl (lv_at hl 1 rfl) (lv_at hl 5 rfl) dL_law_1820 dL_law_1821 dL_law_1823 dL_law_1824 dL_law_1825 ?_
  refine L_arg hc hL ha2 rfl (lv_at hl 1 rfl) (lv_at hl 5 rfl) dL_law_1826 dL_law_1827 dL_law_1829 dL_law_1830 dL_law_1831 ?_
  refine L_callV hx (b := 210) [.int (oI x1), .int (oI x2)] [] (ev_X11_cut 20000 210 (by decide +kernel) x1 x2 w1) vm_X11_cut fc9 (by decide +kernel) g1887 dL_law_1832 rfl rfl (Nat.le_of_ble_eq_true rfl) ⟨by omega, by omega⟩ hj hl.1 hL f2 (fun v9 hv H locs hL => ?_) (fun E hE => absurd hE (by intro h; cases h))
  cases hv
  refine lv_istore (lv' := [(6, .int (oI bb)), (5, .int (hres [eIO, eIS] res)), (0, .ref b), (1, .ref (ad 0)), (2, .ref (ad 210)), (3, .ref ao), (4, .int i)]) hx.1 hx.2.1 dL_law_1835 hl (by decide) rfl (fun ls hl => ?_)
  exact L_tail hc hR hI2 hL hA (by decide) hf9 hl hj dL_law_1837 dL_law_1838 dL_law_1841 dL_law_1843 dL_law_1848 dL_law_1850 dL_law_1853 dL_law_1854 dL_law_1855 dL_law_1856 dL_law_1858 dL_law_1859 dL_law_1860 dL_law_1865 (by decide) kk
set_option maxHeartbeats 4000000 in
set_option maxRecDepth 100000 in
theorem lc_30 (hc : LwC p l s m meth c D aT aL ad adV A b L xs) (hR : 11 ≤ R.frames ∧ 510 ≤ R.locals) (ha1 : LwA L xs i 1 x1) (ha2 : LwA L xs i 2 x2) (ha3 : LwA L xs i 3 x3) (ha4 : LwA L xs i 4 x4) (ha5 : LwA L xs i 5 x5) (hI : Inv w) (hL : Lx D ad aT A s.heap (cm w) (oW aL ao f) H locs) (hl : lv_has ls 9 (LL ad b ao i)) (hj : cells + 4 ≤ R.cells ∧ slots + 24 ≤ R.slots) (kk : LwK p l e R s m below meth c Q D ad aT aL A b ao i (cells + 4) (slots + 24)) :
    W p l e R s m #[Value.ref b] below meth c H locs cells slots Q (F0 m 1868 ls []) := by
  obtain ⟨hx, hN, -⟩ := id hc
  have hjz : cells ≤ R.cells ∧ slots ≤ R.slots := ⟨by omega, by omega⟩
  have hl : lv_has ls 9 [(0, .ref b), (1, .ref (ad 0)), (2, .ref (ad 210)), (3, .ref ao), (4, .int i)] := hl
  refine lv_aload_n hx.1 hx.2.1 dL_law_1868 rfl (lv_at hl 1 rfl) ?_
  refine L_arg hc hL ha1 rfl (lv_at hl 0 rfl) (lv_at hl 4 rfl) dL_law_1869 dL_law_1870 dL_law_1872 dL_law_1873 dL_law_1874 ?_
  refine L_arg hc hL ha2 rfl (lv_at hl 0 rfl) (lv_at hl 4 rfl) dL_law_1875 dL_law_1876 dL_law_1878 dL_law_1879 dL_law_1880 ?_
  refine lv_aload_n hx.1 hx.2.1 dL_law_1881 rfl (lv_at hl 3 rfl) ?_
  obtain ⟨res, w1, bb, w2, f1, f2, hI2, hA⟩ := (topSet (F := 20000) (Nat.le_refl _) ha1.2.2 ha2.2.2) w hI
  refine L_callH (n := 4) hx hN (st := []) (hm_set x1 x2 f1 hA.mem) hL gi1255 g107 g1253 g1254 (by decide +kernel) dL_law_1882 rfl rfl (Nat.le_of_ble_eq_true rfl) ⟨by omega, by omega⟩ hj hl.1 (fun f9 H locs hf9 hL => ?_)
  refine lv_istore (lv' := [(5, .int (hres [eIA] res)), (0, .ref b), (1, .ref (ad 0)), (2, .ref (ad 210)), (3, .ref ao), (4, .int i)]) hx.1 hx.2.1 dL_law_1885 hl (by decide) rfl (fun ls hl => ?_)
  refine lv_aload_n hx.1 hx.2.1 dL_law_1887 rfl (lv_at hl 3 rfl) ?_
  refine L_arg hc hL ha1 rfl (lv_at hl 1 rfl) (lv_at hl 5 rfl) dL_law_1888 dL_law_1889 dL_law_1891 dL_law_1892 dL_law_1893 ?_
  refine L_arg hc hL ha2 rfl (lv_at hl 1 rfl) (lv_at hl 5 rfl) dL_law_1894 dL_law_1895 dL_law_1897 dL_law_1898 dL_law_1899 ?_
  refine L_callV hx (b := 210) [.int (oI x1), .int (oI x2)] [] (ev_X11_set 20000 210 (by decide +kernel) x1 x2 w1) vm_X11_set fc9 (by decide +kernel) g1891 dL_law_1900 rfl rfl (Nat.le_of_ble_eq_true rfl) ⟨by omega, by omega⟩ hj hl.1 hL f2 (fun v9 hv H locs hL => ?_) (fun E hE => absurd hE (by intro h; cases h))
  cases hv
  refine lv_istore (lv' := [(6, .int (oI bb)), (5, .int (hres [eIA] res)), (0, .ref b), (1, .ref (ad 0)), (2, .ref (ad 210)), (3, .ref ao), (4, .int i)]) hx.1 hx.2.1 dL_law_1903 hl (by decide) rfl (fun ls hl => ?_)
  exact L_tail hc hR hI2 hL hA (by decide) hf9 hl hj dL_law_1905 dL_law_1906 dL_law_1909 dL_law_1911 dL_law_1916 dL_law_1918 dL_law_1921 dL_law_1922 dL_law_1923 dL_law_1924 dL_law_1926 dL_law_1927 dL_law_1928 dL_law_1933 (by decide) kk
set_option maxHeartbeats 4000000 in
set_option maxRecDepth 100000 in
theorem lc_31 (hc : LwC p l s m meth c D aT aL ad adV A b L xs) (hR : 11 ≤ R.frames ∧ 510 ≤ R.locals) (ha1 : LwA L xs i 1 x1) (ha2 : LwA L xs i 2 x2) (ha3 : LwA L xs i 3 x3) (ha4 : LwA L xs i 4 x4) (ha5 : LwA L xs i 5 x5) (hI : Inv w) (hL : Lx D ad aT A s.heap (cm w) (oW aL ao f) H locs) (hl : lv_has ls 9 (LL ad b ao i)) (hj : cells + 4 ≤ R.cells ∧ slots + 24 ≤ R.slots) (kk : LwK p l e R s m below meth c Q D ad aT aL A b ao i (cells + 4) (slots + 24)) :
    W p l e R s m #[Value.ref b] below meth c H locs cells slots Q (F0 m 1936 ls []) := by
  obtain ⟨hx, hN, -⟩ := id hc
  have hjz : cells ≤ R.cells ∧ slots ≤ R.slots := ⟨by omega, by omega⟩
  have hl : lv_has ls 9 [(0, .ref b), (1, .ref (ad 0)), (2, .ref (ad 210)), (3, .ref ao), (4, .int i)] := hl
  refine lv_aload_n hx.1 hx.2.1 dL_law_1936 rfl (lv_at hl 1 rfl) ?_
  refine lv_aload_n hx.1 hx.2.1 dL_law_1937 rfl (lv_at hl 3 rfl) ?_
  obtain ⟨res, w1, bb, w2, f1, f2, hI2, hA⟩ := (top_undo (F := 20000) (Nat.le_refl _)) w hI
  refine L_callH (n := 2) hx hN (st := []) (hm_undo f1 hA.mem) hL gi1264 g107 g1262 g1263 (by decide +kernel) dL_law_1938 rfl rfl (Nat.le_of_ble_eq_true rfl) ⟨by omega, by omega⟩ hj hl.1 (fun f9 H locs hf9 hL => ?_)
  refine lv_istore (lv' := [(5, .int (hres [eNS] res)), (0, .ref b), (1, .ref (ad 0)), (2, .ref (ad 210)), (3, .ref ao), (4, .int i)]) hx.1 hx.2.1 dL_law_1941 hl (by decide) rfl (fun ls hl => ?_)
  refine lv_aload_n hx.1 hx.2.1 dL_law_1943 rfl (lv_at hl 3 rfl) ?_
  refine L_callV hx (b := 210) [] [] (ev_X11_undo 20000 210 (by decide +kernel) w1) vm_X11_undo fc9 (by decide +kernel) g1895 dL_law_1944 rfl rfl (Nat.le_of_ble_eq_true rfl) ⟨by omega, by omega⟩ hj hl.1 hL f2 (fun v9 hv H locs hL => ?_) (fun E hE => absurd hE (by intro h; cases h))
  cases hv
  refine lv_istore (lv' := [(6, .int (oI bb)), (5, .int (hres [eNS] res)), (0, .ref b), (1, .ref (ad 0)), (2, .ref (ad 210)), (3, .ref ao), (4, .int i)]) hx.1 hx.2.1 dL_law_1947 hl (by decide) rfl (fun ls hl => ?_)
  exact L_tail hc hR hI2 hL hA (by decide) hf9 hl hj dL_law_1949 dL_law_1950 dL_law_1953 dL_law_1955 dL_law_1960 dL_law_1962 dL_law_1965 dL_law_1966 dL_law_1967 dL_law_1968 dL_law_1970 dL_law_1971 dL_law_1972 dL_law_1977 (by decide) kk
set_option maxHeartbeats 4000000 in
set_option maxRecDepth 100000 in
theorem lc_32 (hc : LwC p l s m meth c D aT aL ad adV A b L xs) (hR : 11 ≤ R.frames ∧ 510 ≤ R.locals) (ha1 : LwA L xs i 1 x1) (ha2 : LwA L xs i 2 x2) (ha3 : LwA L xs i 3 x3) (ha4 : LwA L xs i 4 x4) (ha5 : LwA L xs i 5 x5) (hI : Inv w) (hL : Lx D ad aT A s.heap (cm w) (oW aL ao f) H locs) (hl : lv_has ls 9 (LL ad b ao i)) (hj : cells + 4 ≤ R.cells ∧ slots + 24 ≤ R.slots) (kk : LwK p l e R s m below meth c Q D ad aT aL A b ao i (cells + 4) (slots + 24)) :
    W p l e R s m #[Value.ref b] below meth c H locs cells slots Q (F0 m 1980 ls []) := by
  obtain ⟨hx, hN, -⟩ := id hc
  have hjz : cells ≤ R.cells ∧ slots ≤ R.slots := ⟨by omega, by omega⟩
  have hl : lv_has ls 9 [(0, .ref b), (1, .ref (ad 0)), (2, .ref (ad 210)), (3, .ref ao), (4, .int i)] := hl
  refine lv_aload_n hx.1 hx.2.1 dL_law_1980 rfl (lv_at hl 1 rfl) ?_
  obtain ⟨v, w1, w2, f1, f2, hI2⟩ := top_printRoofs (F := 20000) (Nat.le_refl _) w hI
  refine L_callV hx (b := 0) [] [] (ev_X10_printRoofs 20000 0 (by decide +kernel) w) vm_X10_printRoofs fc8 (by decide +kernel) g893 dL_law_1981 rfl rfl (Nat.le_of_ble_eq_true rfl) ⟨by omega, by omega⟩ hjz hl.1 hL f1 (fun v9 hv H locs hL => ?_) (fun E hE => absurd hE (by intro h; cases h))
  cases hv
  refine lv_aload_n hx.1 hx.2.1 dL_law_1984 rfl (lv_at hl 2 rfl) ?_
  refine L_callV hx (b := 210) [] [.int (oI v)] (ev_X11_printRoofs 20000 210 (by decide +kernel) w1) vm_X11_printRoofs fc9 (by decide +kernel) g1899 dL_law_1985 rfl rfl (Nat.le_of_ble_eq_true rfl) ⟨by omega, by omega⟩ hjz hl.1 hL f2 (fun v9 hv H locs hL => ?_) (fun E hE => absurd hE (by intro h; cases h))
  cases hv
  refine lv_icmp_eq (tgt := 2131) hx.1 hx.2.1 dL_law_1988 (by decide) (fun _ => ?_) (fun z => absurd rfl z)
  exact W.widen (by omega) (by omega) (kk w2 f H locs ls hI2 hL hl)
set_option maxHeartbeats 4000000 in
set_option maxRecDepth 100000 in
theorem lc_33 (hc : LwC p l s m meth c D aT aL ad adV A b L xs) (hR : 11 ≤ R.frames ∧ 510 ≤ R.locals) (ha1 : LwA L xs i 1 x1) (ha2 : LwA L xs i 2 x2) (ha3 : LwA L xs i 3 x3) (ha4 : LwA L xs i 4 x4) (ha5 : LwA L xs i 5 x5) (hI : Inv w) (hL : Lx D ad aT A s.heap (cm w) (oW aL ao f) H locs) (hl : lv_has ls 9 (LL ad b ao i)) (hj : cells + 4 ≤ R.cells ∧ slots + 24 ≤ R.slots) (kk : LwK p l e R s m below meth c Q D ad aT aL A b ao i (cells + 4) (slots + 24)) :
    W p l e R s m #[Value.ref b] below meth c H locs cells slots Q (F0 m 1993 ls []) := by
  obtain ⟨hx, hN, -⟩ := id hc
  have hjz : cells ≤ R.cells ∧ slots ≤ R.slots := ⟨by omega, by omega⟩
  have hl : lv_has ls 9 [(0, .ref b), (1, .ref (ad 0)), (2, .ref (ad 210)), (3, .ref ao), (4, .int i)] := hl
  refine lv_aload_n hx.1 hx.2.1 dL_law_1993 rfl (lv_at hl 1 rfl) ?_
  refine L_arg hc hL ha1 rfl (lv_at hl 0 rfl) (lv_at hl 4 rfl) dL_law_1994 dL_law_1995 dL_law_1997 dL_law_1998 dL_law_1999 ?_
  refine lv_aload_n hx.1 hx.2.1 dL_law_2000 rfl (lv_at hl 3 rfl) ?_
  obtain ⟨res, w1, bb, w2, f1, f2, hI2, hA⟩ := (top_printTune (F := 20000) (Nat.le_refl _) ha1.2.2) w hI
  refine L_callH (n := 3) hx hN (st := []) (hm_printTune x1 f1 hA.mem) hL gi1292 g107 g1290 g1291 (by decide +kernel) dL_law_2001 rfl rfl (Nat.le_of_ble_eq_true rfl) ⟨by omega, by omega⟩ hj hl.1 (fun f9 H locs hf9 hL => ?_)
  refine lv_istore (lv' := [(5, .int (hres [eIO] res)), (0, .ref b), (1, .ref (ad 0)), (2, .ref (ad 210)), (3, .ref ao), (4, .int i)]) hx.1 hx.2.1 dL_law_2004 hl (by decide) rfl (fun ls hl => ?_)
  refine lv_aload_n hx.1 hx.2.1 dL_law_2006 rfl (lv_at hl 3 rfl) ?_
  refine L_arg hc hL ha1 rfl (lv_at hl 1 rfl) (lv_at hl 5 rfl) dL_law_2007 dL_law_2008 dL_law_2010 dL_law_2011 dL_law_2012 ?_
  refine L_callV hx (b := 210) [.int (oI x1)] [] (ev_X11_printTune 20000 210 (by decide +kernel) x1 w1) vm_X11_printTune fc9 (by decide +kernel) g1919 dL_law_2013 rfl rfl (Nat.le_of_ble_eq_true rfl) ⟨by omega, by omega⟩ hj hl.1 hL f2 (fun v9 hv H locs hL => ?_) (fun E hE => absurd hE (by intro h; cases h))
  cases hv
  refine lv_istore (lv' := [(6, .int (oI bb)), (5, .int (hres [eIO] res)), (0, .ref b), (1, .ref (ad 0)), (2, .ref (ad 210)), (3, .ref ao), (4, .int i)]) hx.1 hx.2.1 dL_law_2016 hl (by decide) rfl (fun ls hl => ?_)
  exact L_tail hc hR hI2 hL hA (by decide) hf9 hl hj dL_law_2018 dL_law_2019 dL_law_2022 dL_law_2024 dL_law_2029 dL_law_2031 dL_law_2034 dL_law_2035 dL_law_2036 dL_law_2037 dL_law_2039 dL_law_2040 dL_law_2041 dL_law_2046 (by decide) kk
set_option maxHeartbeats 4000000 in
set_option maxRecDepth 100000 in
theorem lc_34 (hc : LwC p l s m meth c D aT aL ad adV A b L xs) (hR : 11 ≤ R.frames ∧ 510 ≤ R.locals) (ha1 : LwA L xs i 1 x1) (ha2 : LwA L xs i 2 x2) (ha3 : LwA L xs i 3 x3) (ha4 : LwA L xs i 4 x4) (ha5 : LwA L xs i 5 x5) (hI : Inv w) (hL : Lx D ad aT A s.heap (cm w) (oW aL ao f) H locs) (hl : lv_has ls 9 (LL ad b ao i)) (hj : cells + 4 ≤ R.cells ∧ slots + 24 ≤ R.slots) (kk : LwK p l e R s m below meth c Q D ad aT aL A b ao i (cells + 4) (slots + 24)) :
    W p l e R s m #[Value.ref b] below meth c H locs cells slots Q (F0 m 2049 ls []) := by
  obtain ⟨hx, hN, -⟩ := id hc
  have hjz : cells ≤ R.cells ∧ slots ≤ R.slots := ⟨by omega, by omega⟩
  have hl : lv_has ls 9 [(0, .ref b), (1, .ref (ad 0)), (2, .ref (ad 210)), (3, .ref ao), (4, .int i)] := hl
  refine lv_aload_n hx.1 hx.2.1 dL_law_2049 rfl (lv_at hl 1 rfl) ?_
  refine L_arg hc hL ha1 rfl (lv_at hl 0 rfl) (lv_at hl 4 rfl) dL_law_2050 dL_law_2051 dL_law_2053 dL_law_2054 dL_law_2055 ?_
  obtain ⟨v, w2, f1, f2, hI2⟩ := top_outputByte (F := 20000) ha1.2.2 w hI
  refine L_callV hx (b := 0) [.int (oI x1)] [] (ev_X10_outputByte 20000 0 (by decide +kernel) x1 w) vm_X10_outputByte fc8 (by decide +kernel) g915 dL_law_2056 rfl rfl (Nat.le_of_ble_eq_true rfl) ⟨by omega, by omega⟩ hjz hl.1 hL f1 (fun v9 hv H locs hL => ?_) (fun E hE => absurd hE (by intro h; cases h))
  cases hv
  refine lv_aload_n hx.1 hx.2.1 dL_law_2059 rfl (lv_at hl 2 rfl) ?_
  refine L_arg hc hL ha1 rfl (lv_at hl 0 rfl) (lv_at hl 4 rfl) dL_law_2060 dL_law_2061 dL_law_2063 dL_law_2064 dL_law_2065 ?_
  refine L_callV hx (b := 210) [.int (oI x1)] [.int (oI v)] (ev_X11_outputByte 20000 210 (by decide +kernel) x1 w) vm_X11_outputByte fc9 (by decide +kernel) g1923 dL_law_2066 rfl rfl (Nat.le_of_ble_eq_true rfl) ⟨by omega, by omega⟩ hjz hl.1 hL f2 (fun v9 hv H locs hL => ?_) (fun E hE => absurd hE (by intro h; cases h))
  cases hv
  refine lv_icmp_eq (tgt := 2131) hx.1 hx.2.1 dL_law_2069 (by decide) (fun _ => ?_) (fun z => absurd rfl z)
  exact W.widen (by omega) (by omega) (kk w2 f H locs ls hI2 hL hl)
set_option maxHeartbeats 4000000 in
set_option maxRecDepth 100000 in
theorem lc_35 (hc : LwC p l s m meth c D aT aL ad adV A b L xs) (hR : 11 ≤ R.frames ∧ 510 ≤ R.locals) (ha1 : LwA L xs i 1 x1) (ha2 : LwA L xs i 2 x2) (ha3 : LwA L xs i 3 x3) (ha4 : LwA L xs i 4 x4) (ha5 : LwA L xs i 5 x5) (hI : Inv w) (hL : Lx D ad aT A s.heap (cm w) (oW aL ao f) H locs) (hl : lv_has ls 9 (LL ad b ao i)) (hj : cells + 4 ≤ R.cells ∧ slots + 24 ≤ R.slots) (kk : LwK p l e R s m below meth c Q D ad aT aL A b ao i (cells + 4) (slots + 24)) :
    W p l e R s m #[Value.ref b] below meth c H locs cells slots Q (F0 m 2074 ls []) := by
  obtain ⟨hx, hN, -⟩ := id hc
  have hjz : cells ≤ R.cells ∧ slots ≤ R.slots := ⟨by omega, by omega⟩
  have hl : lv_has ls 9 [(0, .ref b), (1, .ref (ad 0)), (2, .ref (ad 210)), (3, .ref ao), (4, .int i)] := hl
  refine lv_aload_n hx.1 hx.2.1 dL_law_2074 rfl (lv_at hl 1 rfl) ?_
  obtain ⟨v, w1, w2, f1, f2, hI2⟩ := top_saveState (F := 20000) (Nat.le_refl _) w hI
  refine L_callV hx (b := 0) [] [] (ev_X10_saveState 20000 0 (by decide +kernel) w) vm_X10_saveState fc8 (by decide +kernel) g920 dL_law_2075 rfl rfl (Nat.le_of_ble_eq_true rfl) ⟨by omega, by omega⟩ hjz hl.1 hL f1 (fun v9 hv H locs hL => ?_) (fun E hE => absurd hE (by intro h; cases h))
  cases hv
  refine lv_aload_n hx.1 hx.2.1 dL_law_2078 rfl (lv_at hl 2 rfl) ?_
  refine L_callV hx (b := 210) [] [.int (oI v)] (ev_X11_saveState 20000 210 (by decide +kernel) w1) vm_X11_saveState fc9 (by decide +kernel) g1927 dL_law_2079 rfl rfl (Nat.le_of_ble_eq_true rfl) ⟨by omega, by omega⟩ hjz hl.1 hL f2 (fun v9 hv H locs hL => ?_) (fun E hE => absurd hE (by intro h; cases h))
  cases hv
  refine lv_icmp_eq (tgt := 2131) hx.1 hx.2.1 dL_law_2082 (by decide) (fun _ => ?_) (fun z => absurd rfl z)
  exact W.widen (by omega) (by omega) (kk w2 f H locs ls hI2 hL hl)
set_option maxHeartbeats 4000000 in
set_option maxRecDepth 100000 in
theorem lc_36 (hc : LwC p l s m meth c D aT aL ad adV A b L xs) (hR : 11 ≤ R.frames ∧ 510 ≤ R.locals) (ha1 : LwA L xs i 1 x1) (ha2 : LwA L xs i 2 x2) (ha3 : LwA L xs i 3 x3) (ha4 : LwA L xs i 4 x4) (ha5 : LwA L xs i 5 x5) (hI : Inv w) (hL : Lx D ad aT A s.heap (cm w) (oW aL ao f) H locs) (hl : lv_has ls 9 (LL ad b ao i)) (hj : cells + 4 ≤ R.cells ∧ slots + 24 ≤ R.slots) (kk : LwK p l e R s m below meth c Q D ad aT aL A b ao i (cells + 4) (slots + 24)) :
    W p l e R s m #[Value.ref b] below meth c H locs cells slots Q (F0 m 2087 ls []) := by
  obtain ⟨hx, hN, -⟩ := id hc
  have hjz : cells ≤ R.cells ∧ slots ≤ R.slots := ⟨by omega, by omega⟩
  have hl : lv_has ls 9 [(0, .ref b), (1, .ref (ad 0)), (2, .ref (ad 210)), (3, .ref ao), (4, .int i)] := hl
  refine lv_aload_n hx.1 hx.2.1 dL_law_2087 rfl (lv_at hl 1 rfl) ?_
  refine lv_aload_n hx.1 hx.2.1 dL_law_2088 rfl (lv_at hl 3 rfl) ?_
  obtain ⟨res, w1, bb, w2, f1, f2, hI2, hA⟩ := (top_restoreState (F := 20000) (Nat.le_refl _)) w hI
  refine L_callH (n := 2) hx hN (st := []) (hm_restoreState f1 hA.mem) hL gi1299 g107 g1297 g1298 (by decide +kernel) dL_law_2089 rfl rfl (Nat.le_of_ble_eq_true rfl) ⟨by omega, by omega⟩ hj hl.1 (fun f9 H locs hf9 hL => ?_)
  refine lv_istore (lv' := [(5, .int (hres [eNS] res)), (0, .ref b), (1, .ref (ad 0)), (2, .ref (ad 210)), (3, .ref ao), (4, .int i)]) hx.1 hx.2.1 dL_law_2092 hl (by decide) rfl (fun ls hl => ?_)
  refine lv_aload_n hx.1 hx.2.1 dL_law_2094 rfl (lv_at hl 3 rfl) ?_
  refine L_callV hx (b := 210) [] [] (ev_X11_restoreState 20000 210 (by decide +kernel) w1) vm_X11_restoreState fc9 (by decide +kernel) g1931 dL_law_2095 rfl rfl (Nat.le_of_ble_eq_true rfl) ⟨by omega, by omega⟩ hj hl.1 hL f2 (fun v9 hv H locs hL => ?_) (fun E hE => absurd hE (by intro h; cases h))
  cases hv
  refine lv_istore (lv' := [(6, .int (oI bb)), (5, .int (hres [eNS] res)), (0, .ref b), (1, .ref (ad 0)), (2, .ref (ad 210)), (3, .ref ao), (4, .int i)]) hx.1 hx.2.1 dL_law_2098 hl (by decide) rfl (fun ls hl => ?_)
  exact L_tail hc hR hI2 hL hA (by decide) hf9 hl hj dL_law_2100 dL_law_2101 dL_law_2104 dL_law_2106 dL_law_2111 dL_law_2113 dL_law_2116 dL_law_2117 dL_law_2118 dL_law_2119 dL_law_2121 dL_law_2122 dL_law_2123 dL_law_2128 (by decide) kk
end LwCases
