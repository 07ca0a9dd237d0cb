/-! ===== new StringBuilder(), toString() ===== -/
section BR3
variable {p : Program} {l : Launch} {e : Env} {R : Room} {s : State} {m : MethodId} {args : Array Value} {below : List Frame} {meth : Method} {c : Code} {H : Heap} {locs : List Loc} {cells slots : Nat} {Q : State → Prop}
variable {D : va_G} {cB : ClassId} {A : Nat → Prop} {ws wr wc : va_W} {own : String} {cc : ByteArray} {nL pc : Nat} {ret : Option FieldType} {ls : Array Slot} {rest : List Value}
theorem fcS : (∀ w ∈ u_ws RJ0 TJ0 4, w ∈ Gw) := gw_ws [1313, 1315, 1317, 1319] (by decide +kernel) (by decide +kernel)
theorem B_putF (hx : BxC p s m args meth c RJ0 cc nL ret D cB A) (hin : meth.name = "<init>") (hS : Sx D A s.heap ws H locs) {b ix : Nat} {fs : List Value} (q0 k : Nat) (he : ws[q0]? = some (b, .inr (0, fs))) (hk : k < 4) {fn fd : String} (hT : (TJ0 k).1 = RJ0 ∧ (TJ0 k).2.1 = fn ∧ (TJ0 k).2.2.1 = fd) (g : Cond.fieldLink RJ0 ix RJ0 fn fd ∈ Gw) {v : Value} {ty : FieldType} (hfin : (TJ0 k).2.2.2 = true) (hd : parseFieldDescriptor (TJ0 k).2.2.1 = some ty) (hn : narrow ty v = v) (hfit : fits ty v = true) (hl : k < fs.length) (d : decode cc pc = .ok (.putfield ix, 3)) {w1 : va_W} (hw1 : ws.set q0 (b, .inr (0, fs.set k v)) = w1)
    (kk : ∀ (H1 : Heap) (locs1 : List Loc), Sx D A s.heap w1 H1 locs1 → W p l e R s m args below meth c H1 locs1 cells slots Q (F0 m (pc + 3) ls rest)) : W p l e R s m args below meth c H locs cells slots Q (F0 m pc ls (v :: .ref b :: rest)) := by
  subst hw1
  obtain ⟨q1, q2, q3, q4, q5, q6, q7, q8, q9, q10, q11⟩ := hx
  obtain ⟨t1, t2, t3⟩ := hT
  exact va_putF (D := D) (ci := 0) (v := v) (ty := ty) (C := RJ0) (T := TJ0) (N := 4) (ref := RJ0) q1 q2 q5 fcS tyJ0 tyJ0_ok nmJ0 q4 q8 hS.1 hS.2.1 hS.2.2 q0 he rfl k hk (by rw [t2, t3]; exact q5 _ g) (fun _ h9 => by rw [t1] at h9; exact h9) hfin hin t1 hd hn hfit hl d (fun H1 locs1 a1 a2 a3 => kk H1 locs1 ⟨a1, a2, a3⟩)
theorem B_obj (hx : BxC p s m args meth c own cc nL ret D cB A) {a idx : Nat} (g : Cond.methodLink own idx Lib.objectInit ∈ Gw) (hls : ls.size = nL) (d : decode cc pc = .ok (.invokespecial idx, 3)) (hf : 1 ≤ R.frames) (hr : (rest.map fun v => v.category).sum + 12 ≤ R.locals)
    (kk : W p l e R s m args below meth c H locs cells slots Q (F0 m (pc + 3) ls rest)) : W p l e R s m args below meth c H locs cells slots Q (F0 m pc ls (.ref a :: rest)) := by
  obtain ⟨q1, q2, q3, q4, q5, q6, q7, q8, q9, q10, q11⟩ := hx
  exact W.objInit q1 q2 q4 (q5 _ g) (q5 _ g62) (q5 _ g63) rfl (by rw [q3]; exact hls) rfl d hf (by show 2 * 0 + _ + 12 ≤ _; omega) kk
/-- a call whose method is another's that is overridden -/
theorem B_callX (hx : BxC p s m args meth c own cc nL ret D cB A) {x y : MethodName} {C owner : String} {cc2 : ByteArray} {nL2 dp2 mc2 ms2 ix n b : Nat} {ret2 : Option FieldType} {F : aF} {As : List Value} {post : Option Value → va_W → Prop} (hC : Bc y cc2 nL2 ret2 dp2 mc2 ms2 F (.ref b :: As) cB wc post) (hF : FOK F) (hS : Sx D A s.heap (wr ++ wc) H locs) (hFc : F (va_A wc H.size) s H) (hrecv : ∃ cell : Cell, H[b]? = some cell ∧ cell.vm.isStatics = false ∧ s.vm.findClass C = some cell.cls)
    (g1 : Cond.code y cc2 nL2 ret2 ∈ Gw) (g2 : Cond.initialized y.cls ∈ Gw) (g3 : Cond.methodLink own ix x ∈ Gw) (g4 : Cond.instanceMethod y ∈ Gw) (g5 : Cond.sameMethod x.cls owner x.name x.desc ∈ Gw) (g6 : Cond.selects C x y ∈ Gw) (g7 : va_Decl s ⟨owner, x.name, x.desc⟩) (hd : (owner ≠ "java/lang/invoke/MethodHandle" ∧ owner ≠ "java/lang/invoke/VarHandle") ∧ (parseMethodDescriptor x.desc).map (fun d => d.parameters.length) = some n) (d : decode cc pc = .ok (.invokevirtual ix, 3)) (st : List Value) {sk : List Value} (hs : sk = As.reverse ++ .ref b :: st) (hn : As.length = n) (hst : (st.map fun v => v.category).sum ≤ 8) (hfr : dp2 + 1 ≤ R.frames ∧ 8 + (nL2 + 11) + 39 * dp2 ≤ R.locals) (hj : cells + mc2 ≤ R.cells ∧ slots + ms2 ≤ R.slots) (hls : ls.size = nL)
    (kk : ∀ (v : Option Value) (w1 : va_W) (H1 : Heap) (locs1 : List Loc), post v w1 → Sx D A s.heap (wr ++ w1) H1 locs1 → W p l e R s m args below meth c H1 locs1 (cells + mc2) (slots + ms2) Q (F0 m (pc + 3) ls (v.toList ++ st))) : W p l e R s m args below meth c H locs cells slots Q (F0 m pc ls sk) := by
  subst hs
  obtain ⟨q1, q2, q3, q4, q5, q6, q7, q8, q9, q10, q11⟩ := id hx
  exact B_run (va_runU (x := x) (owner := owner) (As := As) (rest := st) (C := C) ⟨q1, q2, q3, q4, q5⟩ (hC l D H.size) ⟨⟨rfl, rfl, hfr.1, hfr.2, B_ws q5 g1, List.mem_cons_self⟩, q5 _ g1, q5 _ g2, hd.1, hx_par hd.2, q5 _ g3, q5 _ g5, g7, q5 _ g6, q5 _ g4⟩ ⟨BcP_blind hF, hrecv, fun U hU hW => B_at hF q8 q10 q11 q9 hS hFc (.ref b :: As) hU hW⟩ rfl hn hls rfl (by show 2 * 0 + _ ≤ 8; omega) d hj) hS q9 kk
end BR3
theorem gx1280 : (Cond.sameMethod RJ5 RJ5 "getValue" "()[B") ∈ Gw := gw_in 1280 (by decide +kernel) (by decide +kernel)
theorem gx1285 : (Cond.sameMethod RJ5 RJ5 "length" "()I") ∈ Gw := gw_in 1285 (by decide +kernel) (by decide +kernel)
theorem i0_sub (x : Int32) : x - 0 = x := by simp
theorem gx1164 : (Cond.sameMethod "[B" "java/lang/Object" "clone" "()Ljava/lang/Object;") ∈ Gw := gw_in 1164 (by decide +kernel) (by decide +kernel)
theorem gx1165 : (Cond.native ⟨"java/lang/Object", "clone", "()Ljava/lang/Object;"⟩) ∈ Gw := gw_in 1165 (by decide +kernel) (by decide +kernel)
theorem gx1166 : (Cond.instanceMethod ⟨"java/lang/Object", "clone", "()Ljava/lang/Object;"⟩) ∈ Gw := gw_in 1166 (by decide +kernel) (by decide +kernel)
theorem gx1167 : (Cond.selects "[B" ⟨"[B", "clone", "()Ljava/lang/Object;"⟩ ⟨"java/lang/Object", "clone", "()Ljava/lang/Object;"⟩) ∈ Gw := gw_in 1167 (by decide +kernel) (by decide +kernel)
theorem gx1163 : (Cond.methodLink "java/util/Arrays" 310 ⟨"[B", "clone", "()Ljava/lang/Object;"⟩) ∈ Gw := gw_in 1163 (by decide +kernel) (by decide +kernel)
theorem gx1169 : (Cond.classLink "java/util/Arrays" 311 "[B") ∈ Gw := gw_in 1169 (by decide +kernel) (by decide +kernel)
theorem gx1270 : (Cond.instantiable "java/lang/String" 4) ∈ Gw := gw_in 1270 (by decide +kernel) (by decide +kernel)
theorem gx1269 : (Cond.classLink "java/lang/StringBuilder" 18 "java/lang/String") ∈ Gw := gw_in 1269 (by decide +kernel) (by decide +kernel)
theorem bc_asbI0 (cB : ClassId) {b : Nat} : Bc yJ5_init_d00df cJ5_init_d00df 2 none 1 1 16 FNo [.ref b, .int (nI 16)] cB [(b, .inr (1, [.null, .int 0, .int 0, .int 0]))] (fun r w1 => r = none ∧ ∃ v, w1 = wSB cB b v 0 0 16 (fun _ => 0)) := by
  refine Bc.of (own := RJ5) (by decide +kernel) rfl (Nat.le_of_ble_eq_true rfl) (fun p l e s mt args below meth c D ls hx hS hF hl => ?_)
  have hl : lv_has ls 2 [(0, .ref b), (1, .int (nI 16))] := hl
  refine lv_aload_n hx.1 hx.2.1 dJ5_init_d00df_0 rfl (lv_at hl 0 rfl) ?_
  refine B_obj hx g1110 hl.1 dJ5_init_d00df_1 (by decide) (by decide) ?_
  refine B_cmp hx hS g1111 dJ5_init_d00df_4 ?_
  refine lv_if_eq (tgt := 25) hx.1 hx.2.1 dJ5_init_d00df_7 (by decide) (fun z => absurd z (by decide)) (fun _ => ?_)
  refine lv_aload_n hx.1 hx.2.1 dJ5_init_d00df_10 rfl (lv_at hl 0 rfl) ?_
  refine lv_iload_n hx.1 hx.2.1 dJ5_init_d00df_11 rfl (lv_at hl 1 rfl) ?_
  refine B_newa hx hS (N' := 16) rfl (by decide) ⟨by decide, by decide⟩ dJ5_init_d00df_12 (fun v H1 hS => ?_)
  refine B_put hx hS (v := .ref v) (ty := .array .byte) 0 0 rfl (by decide) ⟨rfl, rfl, rfl⟩ g1119 rfl (by decide +kernel) rfl rfl (by show 0 < 4; decide) dJ5_init_d00df_14 rfl (fun H2 locs2 hS => ?_)
  refine lv_aload_n hx.1 hx.2.1 dJ5_init_d00df_17 rfl (lv_at hl 0 rfl) ?_
  refine lv_iconst (v := 0) hx.1 hx.2.1 dJ5_init_d00df_18 (by decide) ?_
  refine B_put hx hS (v := .int 0) (ty := .byte) 0 1 rfl (by decide) ⟨rfl, rfl, rfl⟩ g1120 rfl (by decide +kernel) rfl rfl (by show 1 < 4; decide) dJ5_init_d00df_19 rfl (fun H3 locs3 hS => ?_)
  refine lv_goto (tgt := 38) hx.1 hx.2.1 dJ5_init_d00df_22 (by decide) ?_
  exact B_retV (ws := wSB cB b v 0 0 16 (fun _ => 0)) hx hS ⟨rfl, v, rfl⟩ ⟨by decide, by decide⟩ dJ5_init_d00df_38 rfl rfl
theorem bc_sbI0 (cB : ClassId) {b : Nat} : Bc yJ4_init_da8c8 cJ4_init_da8c8 1 none 2 1 16 FNo [.ref b] cB [(b, .inr (1, [.null, .int 0, .int 0, .int 0]))] (fun r w1 => r = none ∧ BT cB b [] w1) := by
  refine Bc.of (own := RJ4) (by decide +kernel) rfl (Nat.le_of_ble_eq_true rfl) (fun p l e s mt args below meth c D ls hx hS hF hl => ?_)
  have hl : lv_has ls 1 [(0, .ref b)] := hl
  refine lv_aload_n hx.1 hx.2.1 dJ4_init_da8c8_0 rfl (lv_at hl 0 rfl) ?_
  refine lv_bipush (v := nI 16) hx.1 hx.2.1 dJ4_init_da8c8_1 (by decide) ?_
  refine B_callI (n := 1) hx (wr := []) (bc_asbI0 cB (b := b)) FNo_ok hS trivial g1109 g42 g1107 g1108 rfl ⟨⟨by decide +kernel, by decide +kernel⟩, by decide +kernel⟩ dJ4_init_da8c8_3 [] rfl rfl (Nat.le_of_ble_eq_true rfl) ⟨by decide, by decide⟩ ⟨by decide, by decide⟩ hl.1 (fun r w1 H1 locs1 hp hS => ?_)
  obtain ⟨rfl, v, rfl⟩ := hp
  exact B_retV hx hS ⟨rfl, v, 16, _, rfl, sb_fit0, (fun j hj => by have h9 : j < 0 := hj; omega), Or.inl rfl, Nat.zero_le _⟩ ⟨by decide, by decide⟩ dJ4_init_da8c8_6 rfl rfl
theorem bc_getV (cB : ClassId) {b v n m : Nat} {ml : Int32} {f : Nat → Int32} : Bc yJ5_getValue_6d5f1 cJ5_getValue_6d5f1 1 (some (.array .byte)) 1 0 0 FNo [.ref b] cB (wSB cB b v ml n m f) (fun r w1 => r = some (.ref v) ∧ w1 = wSB cB b v ml n m f) := by
  refine Bc.of (own := RJ5) (by decide +kernel) rfl (Nat.le_of_ble_eq_true rfl) (fun p l e s mt args below meth c D ls hx hS hF hl => ?_)
  have hl : lv_has ls 1 [(0, .ref b)] := hl
  refine lv_aload_n hx.1 hx.2.1 dJ5_getValue_6d5f1_0 rfl (lv_at hl 0 rfl) ?_
  refine B_get hx hS 0 0 rfl (by decide) ⟨rfl, rfl, rfl⟩ g1119 rfl dJ5_getValue_6d5f1_1 ?_
  exact B_retA hx hS ⟨rfl, rfl⟩ (.array .byte) rfl (Or.inr ⟨_, rfl⟩) ⟨by decide, by decide⟩ dJ5_getValue_6d5f1_4 rfl
theorem bc_asbL (cB : ClassId) {b v n m : Nat} {ml : Int32} {f : Nat → Int32} : Bc yJ5_length_8abf5 cJ5_length_8abf5 1 (some .int) 1 0 0 FNo [.ref b] cB (wSB cB b v ml n m f) (fun r w1 => r = some (.int (nI n)) ∧ w1 = wSB cB b v ml n m f) := by
  refine Bc.of (own := RJ5) (by decide +kernel) rfl (Nat.le_of_ble_eq_true rfl) (fun p l e s mt args below meth c D ls hx hS hF hl => ?_)
  have hl : lv_has ls 1 [(0, .ref b)] := hl
  refine lv_aload_n hx.1 hx.2.1 dJ5_length_8abf5_0 rfl (lv_at hl 0 rfl) ?_
  refine B_get hx hS 0 3 rfl (by decide) ⟨rfl, rfl, rfl⟩ g1122 rfl dJ5_length_8abf5_1 ?_
  exact B_retI hx hS ⟨rfl, rfl⟩ .int rfl rfl ⟨Nat.le_refl _, Nat.le_refl _⟩ dJ5_length_8abf5_4 rfl
theorem bc_sbL (cB : ClassId) {b v n m : Nat} {ml : Int32} {f : Nat → Int32} : Bc yJ4_length_8abf5 cJ4_length_8abf5 1 (some .int) 2 0 0 FNo [.ref b] cB (wSB cB b v ml n m f) (fun r w1 => r = some (.int (nI n)) ∧ w1 = wSB cB b v ml n m f) := by
  refine Bc.of (own := RJ4) (by decide +kernel) rfl (Nat.le_of_ble_eq_true rfl) (fun p l e s mt args below meth c D ls hx hS hF hl => ?_)
  have hl : lv_has ls 1 [(0, .ref b)] := hl
  refine lv_aload_n hx.1 hx.2.1 dJ4_length_8abf5_0 rfl (lv_at hl 0 rfl) ?_
  refine B_callU (n := 0) hx (B_cls hx) (wr := []) (bc_asbL cB (b := b) (v := v) (n := n) (m := m) (ml := ml) (f := f)) FNo_ok hS trivial (B_recv hx hS 0 rfl) g1290 g42 g1289 g1284 gx1285 gx1131 ⟨by decide +kernel, by decide +kernel⟩ dJ4_length_8abf5_1 [] rfl rfl (Nat.le_of_ble_eq_true rfl) ⟨by decide, by decide⟩ ⟨by decide, by decide⟩ hl.1 (fun r w1 H1 locs1 hp hS => ?_)
  obtain ⟨rfl, rfl⟩ := hp
  exact B_retI hx (ws := wSB cB b v ml n m f) hS ⟨rfl, rfl⟩ .int rfl rfl ⟨Nat.le_refl _, Nat.le_refl _⟩ dJ4_length_8abf5_4 rfl
theorem bc_chkL (cB : ClassId) {n : Nat} (h : n ≤ 300) : Bc yJ7_checkLength_df160 cJ7_checkLength_df160 2 none 1 0 0 FNo [.int 0, .int (nI n)] cB [] (fun r w1 => r = none ∧ w1 = []) := by
  refine Bc.of (own := RJ7) (by decide +kernel) rfl (Nat.le_of_ble_eq_true rfl) (fun p l e s mt args below meth c D ls hx hS hF hl => ?_)
  have hl : lv_has ls 2 [(0, .int 0), (1, .int (nI n))] := hl
  refine lv_iload_n hx.1 hx.2.1 dJ7_checkLength_df160_0 rfl (lv_at hl 1 rfl) ?_
  refine lv_iload_n hx.1 hx.2.1 dJ7_checkLength_df160_1 rfl (lv_at hl 0 rfl) ?_
  refine lv_icmp_ge (tgt := 37) hx.1 hx.2.1 dJ7_checkLength_df160_2 (by decide) (fun _ => ?_) (fun z => absurd (nI_pos' (by omega)) z)
  exact B_retV hx hS ⟨rfl, rfl⟩ ⟨Nat.zero_le _, Nat.zero_le _⟩ dJ7_checkLength_df160_37 rfl rfl
theorem bc_cprB (cB : ClassId) {v n m : Nat} {f : Nat → Int32} (h : n ≤ m ∧ m ≤ 300) (hf : sb_Fit f) : Bc yJ7_copyOfRangeByte_39247 cJ7_copyOfRangeByte_39247 5 (some (.array .byte)) 2 1 300 (FT cB v m f) [.ref v, .int 0, .int (nI n)] cB [] (fun r w1 => ∃ a : Nat, r = some (.ref a) ∧ w1 = [(a, .inl (cB, n, .inl (va_cpy f (fun _ => 0) 0 0 n)))]) := by
  refine Bc.of (own := RJ7) (by decide +kernel) rfl (Nat.le_of_ble_eq_true rfl) (fun p l e s mt args below meth c D ls hx hS hF hl => ?_)
  have hl : lv_has ls 5 [(0, .ref v), (1, .int 0), (2, .int (nI n))] := hl
  have hF : va_T .byte v m (fun j => .int (f j)) (va_A [] s.heap.size) s s.heap := hF
  refine lv_iload_n hx.1 hx.2.1 dJ7_copyOfRangeByte_39247_0 rfl (lv_at hl 1 rfl) ?_
  refine lv_iload_n hx.1 hx.2.1 dJ7_copyOfRangeByte_39247_1 rfl (lv_at hl 2 rfl) ?_
  refine B_callS (n := 2) hx (bc_chkL cB (n := n) (by omega)) FNo_ok hS.nil trivial g1300 g45 g1298 g1299 ⟨⟨by decide +kernel, by decide +kernel⟩, by decide +kernel⟩ dJ7_copyOfRangeByte_39247_2 [] rfl rfl (Nat.le_of_ble_eq_true rfl) ⟨by decide, by decide⟩ ⟨by decide, by decide⟩ hl.1 (fun r w1 H0 locs0 hp hS => ?_)
  obtain ⟨rfl, rfl⟩ := hp
  have hS := hS.nil'
  refine lv_iload_n hx.1 hx.2.1 dJ7_copyOfRangeByte_39247_5 rfl (lv_at hl 2 rfl) ?_
  refine lv_iload_n hx.1 hx.2.1 dJ7_copyOfRangeByte_39247_6 rfl (lv_at hl 1 rfl) ?_
  refine lv_isub hx.1 hx.2.1 dJ7_copyOfRangeByte_39247_7 ?_
  rw [i0_sub]
  refine lv_istore_n (lv' := [(3, .int (nI n)), (0, .ref v), (1, .int 0), (2, .int (nI n))]) hx.1 hx.2.1 dJ7_copyOfRangeByte_39247_8 rfl hl (by decide) rfl (fun ls hl => ?_)
  refine lv_iload_n hx.1 hx.2.1 dJ7_copyOfRangeByte_39247_9 rfl (lv_at hl 0 rfl) ?_
  refine B_newa hx hS (N' := n) rfl (by omega) ⟨by decide, by show 0 + 0 + n ≤ 300; omega⟩ dJ7_copyOfRangeByte_39247_10 (fun a H1 hS => ?_)
  refine lv_astore (lv' := [(4, .ref a), (3, .int (nI n)), (0, .ref v), (1, .int 0), (2, .int (nI n))]) hx.1 hx.2.1 dJ7_copyOfRangeByte_39247_12 hl (by decide) rfl (fun ls hl => ?_)
  refine lv_aload_n hx.1 hx.2.1 dJ7_copyOfRangeByte_39247_14 rfl (lv_at hl 2 rfl) ?_
  refine lv_iload_n hx.1 hx.2.1 dJ7_copyOfRangeByte_39247_15 rfl (lv_at hl 3 rfl) ?_
  refine lv_aload hx.1 hx.2.1 dJ7_copyOfRangeByte_39247_16 (lv_at hl 0 rfl) ?_
  refine lv_iconst (v := 0) hx.1 hx.2.1 dJ7_copyOfRangeByte_39247_18 (by decide) ?_
  refine lv_aload_n hx.1 hx.2.1 dJ7_copyOfRangeByte_39247_19 rfl (lv_at hl 2 rfl) ?_
  refine va_tlen hx.1 hx.2.1 hF hS.2.2 (v := nI m) rfl dJ7_copyOfRangeByte_39247_20 ?_
  refine lv_iload_n hx.1 hx.2.1 dJ7_copyOfRangeByte_39247_21 rfl (lv_at hl 3 rfl) ?_
  refine lv_isub hx.1 hx.2.1 dJ7_copyOfRangeByte_39247_22 ?_
  rw [i0_sub]
  refine lv_iload_n hx.1 hx.2.1 dJ7_copyOfRangeByte_39247_23 rfl (lv_at hl 1 rfl) ?_
  refine va_mmin hx.1 hx.2.1 (by rw [hx.2.2.1]; exact hl.1.symm) hx.2.2.2.1 (hx.2.2.2.2.1 _ g1170) (hx.2.2.2.2.1 _ g482) (hx.2.2.2.2.1 _ g40) (hx.2.2.2.2.1 _ g483) (by show 1 ≤ 2; decide) (by show 4 + 13 ≤ 78; decide) (by show 0 + 0 + 1 ≤ 1; decide) (by show 0 + 0 + n ≤ 300; omega) dJ7_copyOfRangeByte_39247_24 ?_
  have e1 : (if nI n < nI m then nI n else nI m) = nI n := by
    by_cases c9 : n < m
    · exact if_pos (nI_lt c9 (by omega))
    · rw [if_neg (nI_nlt (by omega) (by omega)), show m = n by omega]
  rw [e1]
  refine vk_copyt hx.1 hx.2.1 (by rw [hx.2.2.1]; exact hl.1.symm) hx.2.2.2.1 (hx.2.2.2.2.1 _ g1171) (hx.2.2.2.2.1 _ g486) (hx.2.2.2.2.1 _ g485) (hx.2.2.2.2.1 _ g41) hx.2.2.2.2.2.2.2.1 hS.1 hS.2.1 hS.2.2 hF 0 0 rfl rfl (by decide) (by decide) (nI_pos (by omega)) (by rw [nI_clamp (by omega)]; show 0 + n ≤ m; omega) (by rw [nI_clamp (by omega)]; show 0 + n ≤ n; omega) (fun i _ => hf _) (by show 1 ≤ 2; decide) (by show 0 + (nativeFrameWords "java/lang/System" "arraycopy" 5 + 11) ≤ 78; decide +kernel) dJ7_copyOfRangeByte_39247_27 (fun H2 locs2 a1 a2 a3 => ?_)
  rw [nI_clamp (by omega), sb_cl0] at a1 a2
  refine lv_aload hx.1 hx.2.1 dJ7_copyOfRangeByte_39247_30 (lv_at hl 0 rfl) ?_
  exact B_retA hx (ws := [(a, .inl (cB, n, .inl (va_cpy f (fun _ => 0) 0 0 n)))]) ⟨a1, a2, a3⟩ ⟨a, rfl, rfl⟩ (.array .byte) rfl (Or.inr ⟨_, rfl⟩) ⟨by show 0 + 0 + 1 ≤ 1; decide, by show 0 + 0 + n ≤ 300; omega⟩ dJ7_copyOfRangeByte_39247_32 rfl
theorem bc_cpr (cB : ClassId) {v n m : Nat} {f : Nat → Int32} (h : n ≤ m ∧ m ≤ 300) (hf : sb_Fit f) : Bc yJ7_copyOfRange_39247 cJ7_copyOfRange_39247 3 (some (.array .byte)) 3 1 300 FNo [.ref v, .int 0, .int (nI n)] cB [(v, .inl (cB, m, .inl f))] (fun r w1 => ∃ (a : Nat) (g : Nat → Int32), r = some (.ref a) ∧ w1 = [(v, .inl (cB, m, .inl f)), (a, .inl (cB, n, .inl g))] ∧ ∀ j, j < n → g j = f j) := by
  refine Bc.of (own := RJ7) (by decide +kernel) rfl (Nat.le_of_ble_eq_true rfl) (fun p l e s mt args below meth c D ls hx hS hF hl => ?_)
  have hl : lv_has ls 3 [(0, .ref v), (1, .int 0), (2, .int (nI n))] := hl
  refine lv_iload_n hx.1 hx.2.1 dJ7_copyOfRange_39247_0 rfl (lv_at hl 1 rfl) ?_
  refine lv_if_ne (tgt := 10) hx.1 hx.2.1 dJ7_copyOfRange_39247_1 (by decide) (fun z => absurd rfl z) (fun _ => ?_)
  refine lv_iload_n hx.1 hx.2.1 dJ7_copyOfRange_39247_4 rfl (lv_at hl 2 rfl) ?_
  refine lv_aload_n hx.1 hx.2.1 dJ7_copyOfRange_39247_5 rfl (lv_at hl 0 rfl) ?_
  refine B_alen hx hS 0 rfl (v := nI m) rfl dJ7_copyOfRange_39247_6 ?_
  refine lv_icmp_eq (tgt := 17) hx.1 hx.2.1 dJ7_copyOfRange_39247_7 (by decide) (fun z => ?_) (fun z => ?_)
  · have e0 : n = m := (nI_eq (by omega) (by omega)).mp z
    subst e0
    refine lv_aload_n hx.1 hx.2.1 dJ7_copyOfRange_39247_17 rfl (lv_at hl 0 rfl) ?_
    refine va_clone (ad := "[B") hx.1 hx.2.1 (by rw [hx.2.2.1]; exact hl.1.symm) hx.2.2.2.1 (hx.2.2.2.2.1 _ gx1163) (hx.2.2.2.2.1 _ gx1164) (hx.2.2.2.2.1 _ gx1165) (hx.2.2.2.2.1 _ gx1166) (hx.2.2.2.2.1 _ gx1167) hx.2.2.2.2.2.2.2.2.2.2.2 hx.2.2.2.2.2.2.2.1 hS.1 hS.2.1 hS.2.2 hx.2.2.2.2.2.2.2.2.1 0 0 rfl rfl (va_nm_byte (hx.2.2.2.2.2.2.2.1.2 0 (cB, .byte) rfl).2) (fun i x9 hi => ?_) (by show 1 ≤ 3; decide) (by show 0 + 14 ≤ 117; decide) (by show 0 + 1 ≤ 1; decide) (by show 0 + n ≤ 300; omega) dJ7_copyOfRange_39247_18 (fun a H1 a0 a1 a2 a3 => ?_)
    · by_cases c9 : i < n
      · have h9 : (arrV cB n (fun j => .int (f j))).slots[i]? = some x9 := hi
        rw [arrV_read cB _ c9] at h9
        rw [← Option.some.inj h9]
        exact hf i
      · have h9 : (arrV cB n (fun j => .int (f j))).slots[i]? = some x9 := hi
        rw [Array.getElem?_eq_none (by rw [arrV_size]; omega)] at h9
        cases h9
    refine va_castA (nm := "[B") hx.1 hx.2.1 hx.2.2.2.1 (hx.2.2.2.2.1 _ gx1169) a1 1 rfl (va_nm_byte (hx.2.2.2.2.2.2.2.1.2 0 (cB, .byte) rfl).2) dJ7_copyOfRange_39247_21 ?_
    exact B_retA hx (ws := [(v, .inl (cB, n, .inl f)), (a, .inl (cB, n, .inl f))]) ⟨a1, a2, a3⟩ ⟨a, f, rfl, rfl, fun _ _ => rfl⟩ (.array .byte) rfl (Or.inr ⟨_, rfl⟩) ⟨by show 0 + 1 ≤ 1; decide, by show 0 + n ≤ 300; omega⟩ dJ7_copyOfRange_39247_24 rfl
  · have e0 : ¬ n = m := fun q => z (by rw [q])
    have hv : v < s.heap.size := (hS.1 0 _ rfl).lt
    refine lv_aload_n hx.1 hx.2.1 dJ7_copyOfRange_39247_10 rfl (lv_at hl 0 rfl) ?_
    refine lv_iload_n hx.1 hx.2.1 dJ7_copyOfRange_39247_11 rfl (lv_at hl 1 rfl) ?_
    refine lv_iload_n hx.1 hx.2.1 dJ7_copyOfRange_39247_12 rfl (lv_at hl 2 rfl) ?_
    refine B_callS (n := 3) hx (bc_cprB cB (v := v) (n := n) (m := m) (f := f) h hf) FT_ok hS.nil (B_T hx hS 0 rfl (fun z => z.elim (fun z => by obtain ⟨k, e9, hk⟩ := z; simp at hk) (fun z => by omega))) g1297 g45 g1295 g1296 ⟨⟨by decide +kernel, by decide +kernel⟩, by decide +kernel⟩ dJ7_copyOfRange_39247_13 [] rfl rfl (Nat.le_of_ble_eq_true rfl) ⟨by decide, by decide⟩ ⟨by decide, by decide⟩ hl.1 (fun r w1 H1 locs1 hp hS => ?_)
    obtain ⟨a, rfl, rfl⟩ := hp
    exact B_retA hx (ws := [(v, .inl (cB, m, .inl f)), (a, .inl (cB, n, .inl (va_cpy f (fun _ => 0) 0 0 n)))]) hS ⟨a, _, rfl, rfl, fun j hj => sb_cpy0 hj⟩ (.array .byte) rfl (Or.inr ⟨_, rfl⟩) ⟨by decide, by decide⟩ dJ7_copyOfRange_39247_16 rfl
def wST (cB : ClassId) (q a n : Nat) (g : Nat → Int32) : va_W := [(q, .inr (0, [.ref a, .int 0, .int 0, .int 0])), (a, .inl (cB, n, .inl g))]
theorem bc_strA (cB : ClassId) {q b v n m : Nat} {ml : Int32} {f : Nat → Int32} (h : n ≤ m ∧ m ≤ 300) (hf : sb_Fit f) : Bc yJ0_init_db425 cJ0_init_db425 5 none 4 1 300 FNo [.ref q, .ref b, .null] cB ((q, .inr (0, [.null, .int 0, .int 0, .int 0])) :: wSB cB b v ml n m f) (fun r w1 => r = none ∧ ∃ (a : Nat) (g : Nat → Int32), w1 = wST cB q a n g ∧ ∀ j, j < n → g j = f j) := by
  refine Bc.ofN (own := RJ0) (by decide +kernel) rfl (Nat.le_of_ble_eq_true rfl) (fun p l e s mt args below meth c D ls hx hS hF hl hin => ?_)
  have hl : lv_has ls 5 [(0, .ref q), (1, .ref b), (2, .null)] := hl
  refine lv_aload_n hx.1 hx.2.1 dJ0_init_db425_0 rfl (lv_at hl 0 rfl) ?_
  refine B_obj hx g1277 hl.1 dJ0_init_db425_1 (by decide) (by decide) ?_
  have hS : Sx D (va_A ((q, .inr (0, [.null, .int 0, .int 0, .int 0])) :: wSB cB b v ml n m f) s.heap.size) s.heap ([(q, .inr (0, [.null, .int 0, .int 0, .int 0]))] ++ wSB cB b v ml n m f) s.heap [] := hS
  refine lv_aload_n hx.1 hx.2.1 dJ0_init_db425_4 rfl (lv_at hl 1 rfl) ?_
  refine B_callV (n := 0) hx (bc_getV cB (b := b) (v := v) (n := n) (m := m) (ml := ml) (f := f)) FNo_ok hS trivial (B_recv hx hS 1 rfl) (hx.2.2.2.2.1 _ g1281) g1282 g42 g1278 g1279 ⟨⟨by decide +kernel, by decide +kernel⟩, by decide +kernel⟩ dJ0_init_db425_5 [] rfl rfl (Nat.le_of_ble_eq_true rfl) ⟨by decide, by decide⟩ ⟨by decide, by decide⟩ hl.1 (fun r w1 H1 locs1 hp hS => ?_)
  obtain ⟨rfl, rfl⟩ := hp
  refine lv_astore_n (lv' := [(3, .ref v), (0, .ref q), (1, .ref b), (2, .null)]) hx.1 hx.2.1 dJ0_init_db425_8 rfl hl (by decide) rfl (fun ls hl => ?_)
  refine lv_aload_n hx.1 hx.2.1 dJ0_init_db425_9 rfl (lv_at hl 2 rfl) ?_
  refine B_callX (n := 0) (x := yJ5_length_8abf5) (owner := RJ5) hx (bc_sbL cB (b := b) (v := v) (n := n) (m := m) (ml := ml) (f := f)) FNo_ok hS trivial (B_recv hx hS 1 rfl) g1288 g43 g1283 g1287 gx1285 g1286 (va_Decl.of (hx.2.2.2.2.1 _ g1284) (hx.2.2.2.2.1 _ g1290)) ⟨⟨by decide +kernel, by decide +kernel⟩, by decide +kernel⟩ dJ0_init_db425_10 [] rfl rfl (Nat.le_of_ble_eq_true rfl) ⟨by decide, by decide⟩ ⟨by decide, by decide⟩ hl.1 (fun r w1 H2 locs2 hp hS => ?_)
  obtain ⟨rfl, rfl⟩ := hp
  refine lv_istore (lv' := [(4, .int (nI n)), (3, .ref v), (0, .ref q), (1, .ref b), (2, .null)]) hx.1 hx.2.1 dJ0_init_db425_13 hl (by decide) rfl (fun ls hl => ?_)
  refine lv_aload_n hx.1 hx.2.1 dJ0_init_db425_15 rfl (lv_at hl 3 rfl) ?_
  refine B_callV (n := 0) hx (bc_lat1 cB (b := b) (v := v) (n := n) (m := m) (ml := ml) (f := f)) FNo_ok hS trivial (B_recv hx hS 1 rfl) (hx.2.2.2.2.1 _ g1175) g1176 g42 g1291 g1173 ⟨⟨by decide +kernel, by decide +kernel⟩, by decide +kernel⟩ dJ0_init_db425_16 [] rfl rfl (Nat.le_of_ble_eq_true rfl) ⟨by decide, by decide⟩ ⟨by decide, by decide⟩ hl.1 (fun r w1 H3 locs3 hp hS => ?_)
  obtain ⟨rfl, rfl⟩ := hp
  refine lv_if_eq (tgt := 41) hx.1 hx.2.1 dJ0_init_db425_19 (by decide) (fun z => absurd z (by decide)) (fun _ => ?_)
  refine lv_aload_n hx.1 hx.2.1 dJ0_init_db425_22 rfl (lv_at hl 2 rfl) ?_
  refine lv_iconst (v := 0) hx.1 hx.2.1 dJ0_init_db425_23 (by decide) ?_
  refine B_putF hx hin hS (v := .int 0) (ty := .byte) 0 1 rfl (by decide) ⟨rfl, rfl, rfl⟩ g1312 rfl (by decide +kernel) rfl rfl (by show 1 < 4; decide) dJ0_init_db425_24 rfl (fun H4 locs4 hS => ?_)
  refine lv_aload_n hx.1 hx.2.1 dJ0_init_db425_27 rfl (lv_at hl 2 rfl) ?_
  refine lv_aload_n hx.1 hx.2.1 dJ0_init_db425_28 rfl (lv_at hl 1 rfl) ?_
  refine lv_iconst (v := 0) hx.1 hx.2.1 dJ0_init_db425_29 (by decide) ?_
  refine lv_iload hx.1 hx.2.1 dJ0_init_db425_30 (lv_at hl 0 rfl) ?_
  have hS : Sx D (va_A ((q, .inr (0, [.null, .int 0, .int 0, .int 0])) :: wSB cB b v ml n m f) s.heap.size) s.heap ([(q, .inr (0, [.null, .int 0, .int 0, .int 0])), (b, .inr (1, [.ref v, .int 0, .int ml, .int (nI n)]))] ++ [(v, .inl (cB, m, .inl f))]) H4 locs4 := hS
  refine B_callS (n := 3) hx (bc_cpr cB (v := v) (n := n) (m := m) (f := f) h hf) FNo_ok hS trivial g1294 g45 g1292 g1293 ⟨⟨by decide +kernel, by decide +kernel⟩, by decide +kernel⟩ dJ0_init_db425_32 [.ref q] rfl rfl (Nat.le_of_ble_eq_true rfl) ⟨by decide, by decide⟩ ⟨by decide, by decide⟩ hl.1 (fun r w1 H5 locs5 hp hS => ?_)
  obtain ⟨a, g, rfl, rfl, hg⟩ := hp
  refine B_putF hx hin hS (v := .ref a) (ty := .array .byte) 0 0 rfl (by decide) ⟨rfl, rfl, rfl⟩ g1311 rfl (by decide +kernel) rfl rfl (by show 0 < 4; decide) dJ0_init_db425_35 rfl (fun H6 locs6 hS => ?_)
  refine lv_goto (tgt := 97) hx.1 hx.2.1 dJ0_init_db425_38 (by decide) ?_
  exact B_retV (ws := wST cB q a n g) hx ⟨hS.1.sub [0, 3] rfl, hS.2.1.sub [0, 3] rfl rfl, hS.2.2⟩ ⟨rfl, a, g, rfl, hg⟩ ⟨by decide, by decide⟩ dJ0_init_db425_97 rfl rfl
theorem bc_strS (cB : ClassId) {q b v n m : Nat} {ml : Int32} {f : Nat → Int32} (h : n ≤ m ∧ m ≤ 300) (hf : sb_Fit f) : Bc yJ0_init_81219 cJ0_init_81219 2 none 5 1 300 FNo [.ref q, .ref b] cB ((q, .inr (0, [.null, .int 0, .int 0, .int 0])) :: wSB cB b v ml n m f) (fun r w1 => r = none ∧ ∃ (a : Nat) (g : Nat → Int32), w1 = wST cB q a n g ∧ ∀ j, j < n → g j = f j) := by
  refine Bc.of (own := RJ0) (by decide +kernel) rfl (Nat.le_of_ble_eq_true rfl) (fun p l e s mt args below meth c D ls hx hS hF hl => ?_)
  have hl : lv_has ls 2 [(0, .ref q), (1, .ref b)] := hl
  refine lv_aload_n hx.1 hx.2.1 dJ0_init_81219_0 rfl (lv_at hl 0 rfl) ?_
  refine lv_aload_n hx.1 hx.2.1 dJ0_init_81219_1 rfl (lv_at hl 1 rfl) ?_
  refine lv_null hx.1 hx.2.1 dJ0_init_81219_2 ?_
  refine B_callI (n := 2) hx (wr := []) (bc_strA cB (q := q) (b := b) (v := v) (n := n) (m := m) (ml := ml) (f := f) h hf) FNo_ok hS trivial g1276 g36 g1274 g1275 rfl ⟨⟨by decide +kernel, by decide +kernel⟩, by decide +kernel⟩ dJ0_init_81219_3 [] rfl rfl (Nat.le_of_ble_eq_true rfl) ⟨by decide, by decide⟩ ⟨by decide, by decide⟩ hl.1 (fun r w1 H1 locs1 hp hS => ?_)
  obtain ⟨rfl, hp⟩ := hp
  exact B_retV (ws := w1) hx hS ⟨rfl, hp⟩ ⟨by decide, by decide⟩ dJ0_init_81219_6 rfl rfl
theorem bc_toS (cB : ClassId) {b v n m : Nat} {ml : Int32} {f : Nat → Int32} (h : n ≤ m ∧ m ≤ 300) (hf : sb_Fit f) : Bc yJ4_toString_0e30d cJ4_toString_0e30d 1 (some (.object "java/lang/String")) 6 2 304 FNo [.ref b] cB (wSB cB b v ml n m f) (fun r w1 => ∃ (q a : Nat) (g : Nat → Int32), r = some (.ref q) ∧ w1 = wST cB q a n g ∧ ∀ j, j < n → g j = f j) := by
  refine Bc.of (own := RJ4) (by decide +kernel) rfl (Nat.le_of_ble_eq_true rfl) (fun p l e s mt args below meth c D ls hx hS hF hl => ?_)
  have hl : lv_has ls 1 [(0, .ref b)] := hl
  refine va_new (ci := 0) (fs := [.null, .int 0, .int 0, .int 0]) (C := RJ0) (T := TJ0) (N := 4) hx.1 hx.2.1 hx.2.2.2.2.1 fcS tyJ0 tyJ0_ok hx.2.2.2.1 (hx.2.2.2.2.1 _ gx1269) (hx.2.2.2.2.1 _ gx1270) (hx.2.2.2.2.1 _ g36) hx.2.2.2.2.2.2.2.1 hS.1 hS.2.1 hS.2.2 hx.2.2.2.2.2.2.2.2.1 rfl (fun j hj => by rcases (show j = 0 ∨ j = 1 ∨ j = 2 ∨ j = 3 by omega) with rfl | rfl | rfl | rfl <;> rfl) (by decide) (by decide) dJ4_toString_0e30d_0 (fun q H1 a1 a2 a3 => ?_)
  refine lv_dup hx.1 hx.2.1 dJ4_toString_0e30d_3 rfl ?_
  refine lv_aload_n hx.1 hx.2.1 dJ4_toString_0e30d_4 rfl (lv_at hl 0 rfl) ?_
  have hS : Sx D (va_A (wSB cB b v ml n m f) s.heap.size) s.heap ((q, .inr (0, [.null, .int 0, .int 0, .int 0])) :: wSB cB b v ml n m f) H1 [] := ⟨a1.sub [2, 0, 1] rfl, a2.sub [2, 0, 1] rfl rfl, a3⟩
  refine B_callI (n := 1) hx (wr := []) (bc_strS cB (q := q) (b := b) (v := v) (n := n) (m := m) (ml := ml) (f := f) h hf) FNo_ok hS trivial g1273 g36 g1271 g1272 rfl ⟨⟨by decide +kernel, by decide +kernel⟩, by decide +kernel⟩ dJ4_toString_0e30d_5 [.ref q] rfl rfl (Nat.le_of_ble_eq_true rfl) ⟨by decide, by decide⟩ ⟨by decide, by decide⟩ hl.1 (fun r w1 H2 locs2 hp hS => ?_)
  obtain ⟨rfl, a, g, rfl, hg⟩ := hp
  exact B_retA hx (ws := wST cB q a n g) hS ⟨q, a, g, rfl, rfl, hg⟩ (.object "java/lang/String") rfl (Or.inl ⟨_, rfl⟩) ⟨by decide, by decide⟩ dJ4_toString_0e30d_8 rfl
