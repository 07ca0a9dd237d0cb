/-! ===== the rules for such bodies ===== -/
section BR2
variable {p : Program} {l : Launch} {e : Env} {R : Room} {s : State} {m : MethodId} {args : Array Value} {below : List Frame} {meth : Method} {c : Code} {H : Heap} {locs : List Loc} {cells slots : Nat} {Q : State → Prop}
variable {D : va_G} {cB : ClassId} {A : Nat → Prop} {ws wr wc : va_W} {own : String} {cc : ByteArray} {nL pc : Nat} {ret : Option FieldType} {ls : Array Slot} {rest : List Value}
theorem B_callV (hx : BxC p s m args meth c own cc nL ret D cB A) {y : MethodName} {C : String} {cc2 : ByteArray} {nL2 dp2 mc2 ms2 ix n b : Nat} {ret2 : Option FieldType} {F : aF} {As : List Value} {post : Option Value → va_W → Prop} (hC : Bc y cc2 nL2 ret2 dp2 mc2 ms2 F (.ref b :: As) cB wc post) (hF : FOK F) (hS : Sx D A s.heap (wr ++ wc) H locs) (hFc : F (va_A wc H.size) s H) (hrecv : ∃ cell : Cell, H[b]? = some cell ∧ cell.vm.isStatics = false ∧ s.vm.findClass C = some cell.cls) (hsel : (Cond.selects C y y).before args s = true)
    (g1 : Cond.code y cc2 nL2 ret2 ∈ Gw) (g2 : Cond.initialized y.cls ∈ Gw) (g3 : Cond.methodLink own ix y ∈ Gw) (g4 : Cond.instanceMethod y ∈ Gw) (hd : (y.cls ≠ "java/lang/invoke/MethodHandle" ∧ y.cls ≠ "java/lang/invoke/VarHandle") ∧ (parseMethodDescriptor y.desc).map (fun d => d.parameters.length) = some n) (d : decode cc pc = .ok (.invokevirtual ix, 3)) (st : List Value) {sk : List Value} (hs : sk = As.reverse ++ .ref b :: st) (hn : As.length = n) (hst : (st.map fun v => v.category).sum ≤ 8) (hfr : dp2 + 1 ≤ R.frames ∧ 8 + (nL2 + 11) + 39 * dp2 ≤ R.locals) (hj : cells + mc2 ≤ R.cells ∧ slots + ms2 ≤ R.slots) (hls : ls.size = nL)
    (kk : ∀ (v : Option Value) (w1 : va_W) (H1 : Heap) (locs1 : List Loc), post v w1 → Sx D A s.heap (wr ++ w1) H1 locs1 → W p l e R s m args below meth c H1 locs1 (cells + mc2) (slots + ms2) Q (F0 m (pc + 3) ls (v.toList ++ st))) : W p l e R s m args below meth c H locs cells slots Q (F0 m pc ls sk) := by
  subst hs
  obtain ⟨q1, q2, q3, q4, q5, q6, q7, q8, q9, q10, q11⟩ := id hx
  exact B_run (va_runV (As := As) (rest := st) (C := C) ⟨q1, q2, q3, q4, q5⟩ (hC l D H.size) ⟨⟨rfl, rfl, hfr.1, hfr.2, B_ws q5 g1, List.mem_cons_self, q5 _ g1, q5 _ g2, hd.1, hx_par hd.2, q5 _ g3⟩, q5 _ g4, hsel⟩ ⟨BcP_blind hF, hrecv, fun U hU hW => B_at hF q8 q10 q11 q9 hS hFc (.ref b :: As) hU hW⟩ rfl hn hls rfl (by show 2 * 0 + _ ≤ 8; omega) d hj) hS q9 kk
theorem B_callS (hx : BxC p s m args meth c own cc nL ret D cB A) {y : MethodName} {cc2 : ByteArray} {nL2 dp2 mc2 ms2 ix n : Nat} {ret2 : Option FieldType} {F : aF} {As : List Value} {post : Option Value → va_W → Prop} (hC : Bc y cc2 nL2 ret2 dp2 mc2 ms2 F As cB wc post) (hF : FOK F) (hS : Sx D A s.heap (wr ++ wc) H locs) (hFc : F (va_A wc H.size) s H)
    (g1 : Cond.code y cc2 nL2 ret2 ∈ Gw) (g2 : Cond.initialized y.cls ∈ Gw) (g3 : Cond.methodLink own ix y ∈ Gw) (g4 : Cond.static y ∈ Gw) (hd : (y.cls ≠ "java/lang/invoke/MethodHandle" ∧ y.cls ≠ "java/lang/invoke/VarHandle") ∧ (parseMethodDescriptor y.desc).map (fun d => d.parameters.length) = some n) (d : decode cc pc = .ok (.invokestatic ix, 3)) (st : List Value) {sk : List Value} (hs : sk = As.reverse ++ st) (hn : As.length = n) (hst : (st.map fun v => v.category).sum ≤ 8) (hfr : dp2 + 1 ≤ R.frames ∧ 8 + (nL2 + 11) + 39 * dp2 ≤ R.locals) (hj : cells + mc2 ≤ R.cells ∧ slots + ms2 ≤ R.slots) (hls : ls.size = nL)
    (kk : ∀ (v : Option Value) (w1 : va_W) (H1 : Heap) (locs1 : List Loc), post v w1 → Sx D A s.heap (wr ++ w1) H1 locs1 → W p l e R s m args below meth c H1 locs1 (cells + mc2) (slots + ms2) Q (F0 m (pc + 3) ls (v.toList ++ st))) : W p l e R s m args below meth c H locs cells slots Q (F0 m pc ls sk) := by
  subst hs
  obtain ⟨q1, q2, q3, q4, q5, q6, q7, q8, q9, q10, q11⟩ := id hx
  exact B_run (va_runS (As := As) (rest := st) ⟨q1, q2, q3, q4, q5⟩ (hC l D H.size) ⟨⟨rfl, rfl, hfr.1, hfr.2, B_ws q5 g1, List.mem_cons_self, q5 _ g1, q5 _ g2, hd.1, hx_par hd.2, q5 _ g3⟩, q5 _ g4⟩ ⟨BcP_blind hF, fun U hU hW => B_at hF q8 q10 q11 q9 hS hFc As hU hW⟩ rfl hn hls rfl (by show 2 * 0 + _ ≤ 8; omega) d hj) hS q9 kk
theorem B_callI (hx : BxC p s m args meth c own cc nL ret D cB A) {y : MethodName} {cc2 : ByteArray} {nL2 dp2 mc2 ms2 ix n b : Nat} {F : aF} {As : List Value} {post : Option Value → va_W → Prop} (hC : Bc y cc2 nL2 none dp2 mc2 ms2 F (.ref b :: As) cB wc post) (hF : FOK F) (hS : Sx D A s.heap (wr ++ wc) H locs) (hFc : F (va_A wc H.size) s H)
    (g1 : Cond.code y cc2 nL2 none ∈ Gw) (g2 : Cond.initialized y.cls ∈ Gw) (g3 : Cond.methodLink own ix y ∈ Gw) (g4 : Cond.instanceMethod y ∈ Gw) (hy : y.name = "<init>") (hd : (y.cls ≠ "java/lang/invoke/MethodHandle" ∧ y.cls ≠ "java/lang/invoke/VarHandle") ∧ (parseMethodDescriptor y.desc).map (fun d => d.parameters.length) = some n) (d : decode cc pc = .ok (.invokespecial ix, 3)) (st : List Value) {sk : List Value} (hs : sk = As.reverse ++ .ref b :: st) (hn : As.length = n) (hst : (st.map fun v => v.category).sum ≤ 8) (hfr : dp2 + 1 ≤ R.frames ∧ 8 + (nL2 + 11) + 39 * dp2 ≤ R.locals) (hj : cells + mc2 ≤ R.cells ∧ slots + ms2 ≤ R.slots) (hls : ls.size = nL)
    (kk : ∀ (v : Option Value) (w1 : va_W) (H1 : Heap) (locs1 : List Loc), post v w1 → Sx D A s.heap (wr ++ w1) H1 locs1 → W p l e R s m args below meth c H1 locs1 (cells + mc2) (slots + ms2) Q (F0 m (pc + 3) ls (v.toList ++ st))) : W p l e R s m args below meth c H locs cells slots Q (F0 m pc ls sk) := by
  subst hs
  obtain ⟨q1, q2, q3, q4, q5, q6, q7, q8, q9, q10, q11⟩ := id hx
  exact B_run (va_runI (As := As) (rest := st) ⟨q1, q2, q3, q4, q5⟩ (hC l D H.size) ⟨⟨rfl, rfl, hfr.1, hfr.2, B_ws q5 g1, List.mem_cons_self, q5 _ g1, q5 _ g2, hd.1, hx_par hd.2, q5 _ g3⟩, hy, q5 _ g4⟩ ⟨BcP_blind hF, fun U hU hW => B_at hF q8 q10 q11 q9 hS hFc (.ref b :: As) hU hW⟩ rfl hn hls rfl (by show 2 * 0 + _ ≤ 8; omega) d hj) hS q9 kk
/-- a call up, by invokespecial -/
theorem B_callU (hx : BxC p s m args meth c own cc nL ret D cB A) {y : MethodName} {C : String} {cC : ClassId} (hat : ClassAt s C cC) {cc2 : ByteArray} {nL2 dp2 mc2 ms2 ix n b : Nat} {ret2 : Option FieldType} {F : aF} {As : List Value} {post : Option Value → va_W → Prop} (hC : Bc y cc2 nL2 ret2 dp2 mc2 ms2 F (.ref b :: As) cB wc post) (hF : FOK F) (hS : Sx D A s.heap (wr ++ wc) H locs) (hFc : F (va_A wc H.size) s H) (hrecv : ∃ cell : Cell, H[b]? = some cell ∧ cell.vm.isStatics = false ∧ s.vm.findClass C = some cell.cls)
    (g1 : Cond.code y cc2 nL2 ret2 ∈ Gw) (g2 : Cond.initialized y.cls ∈ Gw) (g3 : Cond.methodLink own ix y ∈ Gw) (g4 : Cond.instanceMethod y ∈ Gw) (g5 : Cond.sameMethod y.cls y.cls y.name y.desc ∈ Gw) (g6 : Cond.superclass own y.cls ∈ Gw) (hd : y.name ≠ "<init>" ∧ (parseMethodDescriptor y.desc).map (fun d => d.parameters.length) = some n) (d : decode cc pc = .ok (.invokespecial ix, 3)) (st : List Value) {sk : List Value} (hs : sk = As.reverse ++ .ref b :: st) (hn : As.length = n) (hst : (st.map fun v => v.category).sum ≤ 8) (hfr : dp2 + 1 ≤ R.frames ∧ 8 + (nL2 + 11) + 39 * dp2 ≤ R.locals) (hj : cells + mc2 ≤ R.cells ∧ slots + ms2 ≤ R.slots) (hls : ls.size = nL)
    (kk : ∀ (v : Option Value) (w1 : va_W) (H1 : Heap) (locs1 : List Loc), post v w1 → Sx D A s.heap (wr ++ w1) H1 locs1 → W p l e R s m args below meth c H1 locs1 (cells + mc2) (slots + ms2) Q (F0 m (pc + 3) ls (v.toList ++ st))) : W p l e R s m args below meth c H locs cells slots Q (F0 m pc ls sk) := by
  subst hs
  obtain ⟨q1, q2, q3, q4, q5, q6, q7, q8, q9, q10, q11⟩ := id hx
  exact B_run (va_runSU (As := As) (rest := st) hat ⟨q1, q2, q3, q4, q5⟩ (hC l D H.size) ⟨⟨rfl, rfl, hfr.1, hfr.2, B_ws q5 g1, List.mem_cons_self⟩, q5 _ g3, q5 _ g5, q5 _ g6, q5 _ g4, q5 _ g2, q5 _ g1, hd.1, hx_par hd.2⟩ ⟨BcP_blind hF, hrecv, fun U hU hW => B_at hF q8 q10 q11 q9 hS hFc (.ref b :: As) hU hW⟩ rfl hn hls rfl (by show 2 * 0 + _ ≤ 8; omega) d hj) hS q9 kk
theorem gi527 : Cond.arrayClass Jvm.ClassFile.FieldType.byte ∈ Gw := gw_in 527 (by decide +kernel) (by decide +kernel)
theorem fcB : (∀ w ∈ u_ws RJ4 TJ4 4, w ∈ Gw) := gw_ws [1123, 1125, 1127, 1129] (by decide +kernel) (by decide +kernel)
theorem B_recv (hx : BxC p s m args meth c own cc nL ret D cB A) {b : Nat} {fs : List Value} (hS : Sx D A s.heap ws H locs) (q0 : Nat) (he : ws[q0]? = some (b, .inr (1, fs))) : ∃ cell : Cell, H[b]? = some cell ∧ cell.vm.isStatics = false ∧ s.vm.findClass RJ4 = some cell.cls :=
  va_recv (q := (RJ4, TJ4, 4)) hx.2.2.2.2.2.2.2.1 hS.1 rfl he
theorem B_sel (hx : BxC p s m args meth c own cc nL ret D cB A) {y : MethodName} (hy : y ∈ xPri) (hn : y.name ≠ "<init>") (g : Cond.sameMethod y.cls y.cls y.name y.desc ∈ Gw) : (Cond.selects RJ4 y y).before args s = true :=
  sel_priv ⟨_, (hx.2.2.2.2.2.2.2.1.1 1 (RJ4, TJ4, 4) rfl).2.1⟩ hn (va_tabs (by rfl) rfl (hx.2.2.2.2.2.2.2.2.2.2.1 y hy)) (hx.2.2.2.2.1 _ g)
theorem B_cls (hx : BxC p s m args meth c own cc nL ret D cB A) : ClassAt s RJ4 (D.1 1) := (hx.2.2.2.2.2.2.2.1.1 1 (RJ4, TJ4, 4) rfl).2
theorem B_get (hx : BxC p s m args meth c own cc nL ret D cB A) (hS : Sx D A s.heap ws H locs) {b ix : Nat} {fs : List Value} (q0 k : Nat) (he : ws[q0]? = some (b, .inr (1, fs))) (hk : k < 4) {fn fd : String} (hT : (TJ4 k).1 = RJ5 ∧ (TJ4 k).2.1 = fn ∧ (TJ4 k).2.2.1 = fd) (g : Cond.fieldLink own ix RJ5 fn fd ∈ Gw) {v : Value} (hv : fs[k]? = some v) (d : decode cc pc = .ok (.getfield ix, 3))
    (kk : W p l e R s m args below meth c H locs cells slots Q (F0 m (pc + 3) ls (v :: rest))) : W p l e R s m args below meth c H locs cells slots Q (F0 m pc ls (.ref b :: rest)) := by
  obtain ⟨q1, q2, q3, q4, q5, q6, q7, q8, q9, q10, q11⟩ := hx
  obtain ⟨t1, t2, t3⟩ := hT
  exact va_get (D := D) (ci := 1) (v := v) (C := RJ4) (T := TJ4) (N := 4) (ref := RJ5) q1 q2 q5 fcB q4 q8 hS.1 q0 he rfl k hk (by rw [t2, t3]; exact q5 _ g) (fun _ h9 => by rw [t1] at h9; exact h9) hv d kk
theorem B_put (hx : BxC p s m args meth c own cc nL ret D cB A) (hS : Sx D A s.heap ws H locs) {b ix : Nat} {fs : List Value} (q0 k : Nat) (he : ws[q0]? = some (b, .inr (1, fs))) (hk : k < 4) {fn fd : String} (hT : (TJ4 k).1 = RJ5 ∧ (TJ4 k).2.1 = fn ∧ (TJ4 k).2.2.1 = fd) (g : Cond.fieldLink own ix RJ5 fn fd ∈ Gw) {v : Value} {ty : FieldType} (hfin : (TJ4 k).2.2.2 = false) (hd : parseFieldDescriptor (TJ4 k).2.2.1 = some ty) (hn : narrow ty v = v) (hfit : fits ty v = true) (hl : k < fs.length) (d : decode cc pc = .ok (.putfield ix, 3)) {w1 : va_W} (hw1 : ws.set q0 (b, .inr (1, fs.set k v)) = w1)
    (kk : ∀ (H1 : Heap) (locs1 : List Loc), Sx D A s.heap w1 H1 locs1 → W p l e R s m args below meth c H1 locs1 cells slots Q (F0 m (pc + 3) ls rest)) : W p l e R s m args below meth c H locs cells slots Q (F0 m pc ls (v :: .ref b :: rest)) := by
  subst hw1
  obtain ⟨q1, q2, q3, q4, q5, q6, q7, q8, q9, q10, q11⟩ := hx
  obtain ⟨t1, t2, t3⟩ := hT
  exact va_put (D := D) (ci := 1) (v := v) (ty := ty) (C := RJ4) (T := TJ4) (N := 4) (ref := RJ5) q1 q2 q5 fcB tyJ4 tyJ4_ok nmJ4 q4 q8 hS.1 hS.2.1 hS.2.2 q0 he rfl k hk (by rw [t2, t3]; exact q5 _ g) (fun _ h9 => by rw [t1] at h9; exact h9) hfin hd hn hfit hl d (fun H1 locs1 a1 a2 a3 => kk H1 locs1 ⟨a1, a2, a3⟩)
theorem B_alen (hx : BxC p s m args meth c own cc nL ret D cB A) (hS : Sx D A s.heap ws H locs) {a n : Nat} {f : Nat → Int32} (q0 : Nat) (he : ws[q0]? = some (a, .inl (cB, n, .inl f))) {v : Int32} (hv : Int32.ofNat n = v) (d : decode cc pc = .ok (.arraylength, 1))
    (kk : W p l e R s m args below meth c H locs cells slots Q (F0 m (pc + 1) ls (.int v :: rest))) : W p l e R s m args below meth c H locs cells slots Q (F0 m pc ls (.ref a :: rest)) :=
  va_alen hx.1 hx.2.1 hx.2.2.2.2.2.2.2.1 hS.1 q0 0 he rfl hv d kk
theorem B_bast (hx : BxC p s m args meth c own cc nL ret D cB A) (hS : Sx D A s.heap ws H locs) {a n : Nat} {f : Nat → Int32} (q0 : Nat) (he : ws[q0]? = some (a, .inl (cB, n, .inl f))) {i x : Int32} {k : Nat} {x' : Int32} (hi : i = Int32.ofNat k) (hk : k < n) (hn : n ≤ 65536) (hx' : vp_nar .byte x = x') (d : decode cc pc = .ok (.bastore, 1)) {w1 : va_W} (hw1 : ws.set q0 (a, .inl (cB, n, .inl (upd f k x'))) = w1)
    (kk : ∀ (H1 : Heap) (locs1 : List Loc), Sx D A s.heap w1 H1 locs1 → W p l e R s m args below meth c H1 locs1 cells slots Q (F0 m (pc + 1) ls rest)) : W p l e R s m args below meth c H locs cells slots Q (F0 m pc ls (.int x :: .int i :: .ref a :: rest)) := by
  subst hw1 hi hx'
  refine va_bast hx.1 hx.2.1 hx.2.2.2.2.2.2.2.1 hS.1 hS.2.1 hS.2.2 q0 0 he rfl (vp_in_nI hk (by omega)) d (fun H1 locs1 a1 a2 a3 => ?_)
  rw [show (Int32.ofNat k).toNatClampNeg = k from nI_clamp (by omega)] at a1 a2
  exact kk H1 locs1 ⟨a1, a2, a3⟩
theorem B_newa (hx : BxC p s m args meth c own cc nL ret D cB A) (hS : Sx D A s.heap ws H locs) {n : Int32} {N' : Nat} (hn : n = Int32.ofNat N') (hN : N' ≤ 65536) (hj : cells + 1 ≤ R.cells ∧ slots + N' ≤ R.slots) (d : decode cc pc = .ok (.newarray .byte, 2))
    (kk : ∀ (q : Nat) (H1 : Heap), Sx D A s.heap (ws ++ [(q, .inl (cB, N', .inl fun _ => 0))]) H1 locs → W p l e R s m args below meth c H1 locs (cells + 1) (slots + N') Q (F0 m (pc + 2) ls (.ref q :: rest))) : W p l e R s m args below meth c H locs cells slots Q (F0 m pc ls (.int n :: rest)) := by
  subst hn
  obtain ⟨q1, q2, q3, q4, q5, q6, q7, q8, q9, q10, q11⟩ := hx
  refine va_newa (atype := .byte) (ty := .byte) (a0 := (N', .inl fun _ => 0)) q1 q2 (q5 _ gi527) rfl q8 hS.1 hS.2.1 hS.2.2 q9 (fun _ => rfl) (nI_pos (by omega)) (nI_clamp (by omega)) (by show N' * 1 ≤ _; omega) hj.1 hj.2 d (fun q cA H1 a0 a1 a2 a3 => ?_)
  have h1 := va_nm_byte (a0.2 1 (cA, .byte) rfl).2
  have h2 := va_nm_byte (q8.2 0 (cB, .byte) rfl).2
  have e : cA = cB := Option.some.inj (h1.symm.trans h2)
  subst e
  exact kk q H1 ⟨a1, a2, a3⟩
/-- an array of the world, seen as one that stays -/
theorem B_T (hx : BxC p s m args meth c own cc nL ret D cB A) {A2 : Nat → Prop} {a n : Nat} {f : Nat → Int32} (hS : Sx D A s.heap ws H locs) (q0 : Nat) (he : ws[q0]? = some (a, .inl (cB, n, .inl f))) (hA : ¬ A2 a) : va_T .byte a n (fun j => .int (f j)) A2 s H := by
  have h1 : H[a]? = some (arrV cB n (fun j => .int (f j))) := hS.1 q0 _ he
  refine ⟨_, h1, (hx.2.2.2.2.2.2.2.1.2 0 (cB, .byte) rfl).1 n _, (fun z => by cases z), by rw [arrV_size]; exact Nat.le_refl _, by rw [arrV_size], fun j hj => arrV_read cB _ hj, hA⟩
theorem B_cmp (hx : BxC p s m args meth c own cc nL ret D cB A) (hS : Sx D A s.heap ws H locs) {ix : Nat} (g : Cond.fieldLink own ix "java/lang/String" "COMPACT_STRINGS" "Z" ∈ Gw) (d : decode cc pc = .ok (.getstatic ix, 3))
    (kk : W p l e R s m args below meth c H locs cells slots Q (F0 m (pc + 3) ls (.int 1 :: rest))) : W p l e R s m args below meth c H locs cells slots Q (F0 m pc ls rest) :=
  va_gets (ref := "java/lang/String") hx.1 hx.2.1 hx.2.2.2.2.2.2.2.2.2.1 hS.2.2 hx.2.2.2.1 (hx.2.2.2.2.1 _ g) (fun _ h => h) d kk
end BR2
