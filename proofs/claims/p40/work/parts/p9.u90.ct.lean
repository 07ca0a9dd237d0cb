/-! ===== constructors: a world that grows, the cell that is made first ===== -/
def Sx (D : va_G) (A : Nat → Prop) (H0 : Heap) (ws : va_W) (H : Heap) (locs : List Loc) : Prop := va_P D vwCl ws H ∧ va_D A ws ∧ va_S A H0 H locs
def KxC (p : Program) (s : State) (m : MethodId) (args : Array Value) (meth : Method) (c : Code) (own : String) (cc : ByteArray) (nL : Nat) (D : va_G) (aT : Nat → ClassId) (A : Nat → Prop) : Prop :=
  p.tables.exec = Jvm.exec ∧ c.code = cc ∧ c.maxLocals = nL ∧ s.vm.findClass own = some m.cls ∧ (∀ w ∈ Gw, w.before args s = true) ∧ meth.locks = false ∧ meth.name = "<init>" ∧ meth.sig.returnType = none ∧ va_K D vwCl (tysA aT) s ∧ (∀ q, s.heap.size ≤ q → A q) ∧ va_AO "WhistlePosts$Post" s
def ctR (dp mc ms : Nat) : Room := { frames := dp, cells := mc, slots := ms, locals := 39 * dp }
def CtP (D : va_G) (aT : Nat → ClassId) (h0 sz ci : Nat) (fs As : List Value) : Array Value → State → Prop := va_Pc (.ref h0 :: As) (fun U => U.heap.size = sz ∧ va_P D vwCl [(h0, .inr (ci, fs))] U.heap ∧ va_K D vwCl (tysA aT) U ∧ va_AO "WhistlePosts$Post" U)
def CtQ (D : va_G) (aT : Nat → ClassId) (h0 sz ci : Nat) (fs : List Value) (post : (Nat → ClassId) → Nat → va_W → Prop) : Array Value → State → Outcome → State → Prop := va_Qv (post aT h0) (fun w1 t => va_P D vwCl w1 t.heap ∧ va_D (va_A [(h0, .inr (ci, fs))] sz) w1) (va_A [(h0, .inr (ci, fs))] sz)
/-- a constructor's contract -/
def Ct (y : MethodName) (cc : ByteArray) (nL dp mc ms ci : Nat) (fs As : List Value) (post : (Nat → ClassId) → Nat → va_W → Prop) : Prop :=
  ∀ (l : Launch) (D : va_G) (aT : Nat → ClassId) (h0 sz : Nat), Met l y (.code y cc nL none :: Gw) (ctR dp mc ms) (CtP D aT h0 sz ci fs As) (CtQ D aT h0 sz ci fs post) mc ms (va_A [(h0, .inr (ci, fs))] sz)
theorem Ct.of {y : MethodName} {cc : ByteArray} {nL dp mc ms ci : Nat} {fs As : List Value} {post : (Nat → ClassId) → Nat → va_W → Prop} {own : String} (hy : plainName y.cls = true) (ho : y.cls = own) (hi : y.name = "<init>") (hn : ∀ h0 : Nat, (lg_sl (.ref h0 :: As)).length ≤ nL)
    (body : ∀ (p : Program) (l : Launch) (e : Env) (s : State) (m : MethodId) (args : Array Value) (below : List Frame) (meth : Method) (c : Code) (D : va_G) (aT : Nat → ClassId) (h0 : Nat) (ls : Array Slot), KxC p s m args meth c own cc nL D aT (va_A [(h0, .inr (ci, fs))] s.heap.size) → Sx D (va_A [(h0, .inr (ci, fs))] s.heap.size) s.heap [(h0, .inr (ci, fs))] s.heap [] → lv_has ls nL (lv_args 0 (.ref h0 :: As)) →
      W p l e (ctR dp mc ms) s m args below meth c s.heap [] 0 0 (MQ below (CtQ D aT h0 s.heap.size ci fs post) args s mc ms (va_A [(h0, .inr (ci, fs))] s.heap.size)) (F0 m 0 ls [])) : Ct y cc nL dp mc ms ci fs As post := by
  intro l D aT h0 sz
  refine Met.ofW (cc := cc) (maxL := nL) (ret := none) hy rfl ?_
  intro p e s m args below meth c s₁ B hml hv
  obtain ⟨rfl, hsz, hP, hK, hAO⟩ := hv
  subst hsz
  have hts := atoms_spec (ws := .code y cc nL none :: Gw) B.pre
  have hin : meth.name = y.name := (name_of_methodNamed B.named B.method).1
  have hl := lv_entry (.ref h0 :: As) (n := nL) (hn h0)
  rw [lg_entry_eq]
  have hA : ∀ q, s.heap.size ≤ q → va_A [(h0, .inr (ci, fs))] s.heap.size q := fun q h => Or.inr h
  refine body p l e s m _ below meth c D aT h0 _ ⟨B.exec, B.bytes, hml, by rw [← ho]; exact findClass_of_methodNamed B.named, fun w hw => hts w (List.mem_cons_of_mem _ hw), B.notSynchronized, hin.trans hi, B.returns, hK, hA, hAO⟩ ⟨hP, ⟨fun i j p q hi hj _ => ?_, fun k q hk => Or.inl ⟨k, q.2, hk⟩⟩, va_S.rf⟩ hl
  have h1 := (List.getElem?_eq_some_iff.mp hi).1
  have h2 := (List.getElem?_eq_some_iff.mp hj).1
  have h3 : i < 1 := h1
  have h4 : j < 1 := h2
  omega
section KR
variable {p : Program} {l : Launch} {e : Env} {R : Room} {s : State} {m : MethodId} {args : Array Value} {below : List Frame} {meth : Method} {c : Code} {H : Heap} {locs : List Loc} {cells slots : Nat} {Q : State → Prop}
variable {D : va_G} {aT : Nat → ClassId} {A : Nat → Prop} {ws Y : va_W} {own : String} {cc : ByteArray} {nL pc : Nat} {ls : Array Slot} {rest : List Value}
theorem K_obj (hx : KxC p s m args meth c own cc nL D aT A) {a idx : Nat} (g : Cond.methodLink own idx Lib.objectInit ∈ Gw) (g2 : Cond.instanceMethod Lib.objectInit ∈ Gw) (g3 : Cond.code Lib.objectInit ⟨#[0xb1]⟩ 1 none ∈ Gw) (hls : ls.size = nL) (d : decode cc pc = .ok (.invokespecial idx, 3)) (hf : 1 ≤ R.frames) (hr : (rest.map fun v => v.category).sum + 12 ≤ R.locals)
    (kk : W p l e R s m args below meth c H locs cells slots Q (F0 m (pc + 3) ls rest)) : W p l e R s m args below meth c H locs cells slots Q (F0 m pc ls (.ref a :: rest)) := by
  obtain ⟨q1, q2, q3, q4, q5, q6, q7, q8, q9, q10, q11⟩ := hx
  exact W.objInit q1 q2 q4 (q5 _ g) (q5 _ g2) (q5 _ g3) rfl (by rw [q3]; exact hls) rfl d hf (by show 2 * 0 + _ + 12 ≤ _; omega) kk
theorem K_new (hx : KxC p s m args meth c own cc nL D aT A) (hS : Sx D A s.heap ws H locs) {ci N ix : Nat} {C : String} {Tt : u_T} {fs : List Value} (ty : Nat → FieldType) (fc : fcl ci C Tt N) (hty : ∀ k, k < N → parseFieldDescriptor (Tt k).2.2.1 = some (ty k)) (hfs : ∀ j, j < N → defaultValue (ty j) = vp_V fs j) (g1 : Cond.classLink own ix C ∈ Gw) (g2 : Cond.instantiable C N ∈ Gw) (g3 : Cond.initialized C ∈ Gw) (hj : cells + 1 ≤ R.cells ∧ slots + N ≤ R.slots) (d : decode cc pc = .ok (.new ix, 3))
    (kk : ∀ (q : Nat) (H1 : Heap), Sx D A s.heap (ws ++ [(q, .inr (vi ci, fs))]) H1 locs → W p l e R s m args below meth c H1 locs (cells + 1) (slots + N) Q (F0 m (pc + 3) ls (.ref q :: rest))) : W p l e R s m args below meth c H locs cells slots Q (F0 m pc ls rest) := by
  obtain ⟨q1, q2, q3, q4, q5, q6, q7, q8, q9, q10, q11⟩ := hx
  exact va_new (ci := vi ci) (fs := fs) q1 q2 q5 fc.2.1 ty hty q4 (q5 _ g1) (q5 _ g2) (q5 _ g3) q9 hS.1 hS.2.1 hS.2.2 q10 fc.1 hfs hj.1 hj.2 d (fun q H1 a1 a2 a3 => kk q H1 ⟨a1, a2, a3⟩)
theorem K_newa (hx : KxC p s m args meth c own cc nL D aT A) (hS : Sx D A s.heap ws H locs) {atype : ArrayType} {ty : FieldType} (t0 : Nat) (hty : newarray.typeOf atype = ty) (ht : (tysA aT)[t0]? = some (aT t0, ty)) (hra : ∀ cA, va_RA s cA ty → s.vm.findClass ("[" ++ ty.toString) = some cA) {n : Int32} {N' : Nat} {a0 : vp_A} (ha : ∀ cA : ClassId, vp_cell cA a0 = arrV cA N' (fun _ => defaultValue ty)) (hn : ¬ n < 0) (hN : n.toNatClampNeg = N') (hbytes : N' * componentBytes ty ≤ 536870912) (g : Cond.arrayClass ty ∈ Gw) (hj : cells + 1 ≤ R.cells ∧ slots + N' ≤ R.slots) (d : decode cc pc = .ok (.newarray atype, 2))
    (kk : ∀ (q : Nat) (H1 : Heap), Sx D A s.heap (ws ++ [(q, .inl (aT t0, a0))]) H1 locs → W p l e R s m args below meth c H1 locs (cells + 1) (slots + N') Q (F0 m (pc + 2) ls (.ref q :: rest))) : W p l e R s m args below meth c H locs cells slots Q (F0 m pc ls (.int n :: rest)) := by
  obtain ⟨q1, q2, q3, q4, q5, q6, q7, q8, q9, q10, q11⟩ := hx
  refine va_newa (atype := atype) (ty := ty) (a0 := a0) q1 q2 (by rw [hty]; exact q5 _ g) hty q9 hS.1 hS.2.1 hS.2.2 q10 ha hn hN hbytes hj.1 hj.2 d (fun q cA H1 a0 a1 a2 a3 => ?_)
  have h1 := hra _ (a0.2 3 (cA, ty) rfl).2
  have h2 := hra _ (q9.2 t0 _ ht).2
  have e : cA = aT t0 := Option.some.inj (h1.symm.trans h2)
  subst e
  exact kk q H1 ⟨a1, a2, a3⟩
theorem K_newq (hx : KxC p s m args meth c own cc nL D aT A) (hS : Sx D A s.heap ws H locs) {n : Int32} {N' ix : Nat} (hn : ¬ n < 0) (hN : n.toNatClampNeg = N') (hbytes : N' * 4 ≤ 536870912) (g : Cond.classLink own ix "WhistlePosts$Post" ∈ Gw) (hj : cells + 1 ≤ R.cells ∧ slots + N' ≤ R.slots) (d : decode cc pc = .ok (.anewarray ix, 3))
    (kk : ∀ (q : Nat) (H1 : Heap), Sx D A s.heap (ws ++ [(q, .inl (aT 1, N', .inr (.inr (.inr (.inr fun _ => none)))))]) H1 locs → W p l e R s m args below meth c H1 locs (cells + 1) (slots + N') Q (F0 m (pc + 3) ls (.ref q :: rest))) : W p l e R s m args below meth c H locs cells slots Q (F0 m pc ls (.int n :: rest)) := by
  obtain ⟨q1, q2, q3, q4, q5, q6, q7, q8, q9, q10, q11⟩ := hx
  refine va_newq q1 q2 q4 (q5 _ g) q11 q9 hS.1 hS.2.1 hS.2.2 q10 hn hN hbytes hj.1 hj.2 d (fun q cA H1 a0 a1 a2 a3 => ?_)
  obtain ⟨kA, comp, -, -, -, h1⟩ := (a0.2 3 (cA, .object "WhistlePosts$Post") rfl).2
  obtain ⟨kB, comb, -, -, -, h2⟩ := (q9.2 1 (aT 1, .object "WhistlePosts$Post") rfl).2
  have e : cA = aT 1 := Option.some.inj (h1.symm.trans h2)
  subst e
  exact kk q H1 ⟨a1, a2, a3⟩
theorem K_put (hx : KxC p s m args meth c own cc nL D aT A) {h0 ci cj N ix k : Nat} {C fn fd : String} {Tt : u_T} {fs : List Value} (hS : Sx D A s.heap ((h0, .inr (cj, fs)) :: Y) H locs) (ty0 : Nat → FieldType) (fc : fcl ci C Tt N) (hty : ∀ k, k < N → parseFieldDescriptor (Tt k).2.2.1 = some (ty0 k)) (hk : k < N) (hT : (Tt k).1 = C ∧ (Tt k).2.1 = fn ∧ (Tt k).2.2.1 = fd) (g : Cond.fieldLink own ix C fn fd ∈ Gw) (hfin : (Tt k).2.2.2 = false ∨ (Tt k).2.2.2 = true ∧ C = own) {ty : FieldType} {v : Value} (hd : parseFieldDescriptor (Tt k).2.2.1 = some ty) (hn : narrow ty v = v) (hfit : fits ty v = true) (hl : k < fs.length) (d : decode cc pc = .ok (.putfield ix, 3))
    (kk : ∀ (H1 : Heap) (locs1 : List Loc), Sx D A s.heap ((h0, .inr (cj, fs.set k v)) :: Y) H1 locs1 → W p l e R s m args below meth c H1 locs1 cells slots Q (F0 m (pc + 3) ls rest)) (hcj : vi ci = cj := by rfl) : W p l e R s m args below meth c H locs cells slots Q (F0 m pc ls (v :: .ref h0 :: rest)) := by
  subst hcj
  obtain ⟨q1, q2, q3, q4, q5, q6, q7, q8, q9, q10, q11⟩ := hx
  obtain ⟨t1, t2, t3⟩ := hT
  rcases hfin with hfin | ⟨hfin, hC⟩
  · exact va_put (D := D) (ci := vi ci) (v := v) (ty := ty) (C := C) (T := Tt) (N := N) (ref := C) q1 q2 q5 fc.2.1 ty0 hty fc.2.2.1 q4 q9 hS.1 hS.2.1 hS.2.2 0 rfl fc.1 k hk (by rw [t2, t3]; exact q5 _ g) (fun _ h9 => by rw [t1] at h9; exact h9) hfin hd hn hfit hl d (fun H1 locs1 a1 a2 a3 => kk H1 locs1 ⟨a1, a2, a3⟩)
  · exact va_putF (D := D) (ci := vi ci) (v := v) (ty := ty) (C := C) (T := Tt) (N := N) (ref := C) q1 q2 q5 fc.2.1 ty0 hty fc.2.2.1 q4 q9 hS.1 hS.2.1 hS.2.2 0 rfl fc.1 k hk (by rw [t2, t3]; exact q5 _ g) (fun _ h9 => by rw [t1] at h9; exact h9) hfin q7 (t1.trans hC) hd hn hfit hl d (fun H1 locs1 a1 a2 a3 => kk H1 locs1 ⟨a1, a2, a3⟩)
theorem K_get (hx : KxC p s m args meth c own cc nL D aT A) {h0 ci cj N ix k : Nat} {C fn fd : String} {Tt : u_T} {fs : List Value} (hS : Sx D A s.heap ((h0, .inr (cj, fs)) :: Y) H locs) (fc : fcl ci C Tt N) (hk : k < N) (hT : (Tt k).1 = C ∧ (Tt k).2.1 = fn ∧ (Tt k).2.2.1 = fd) (g : Cond.fieldLink own ix C fn fd ∈ Gw) {v : Value} (hv : fs[k]? = some v) (d : decode cc pc = .ok (.getfield ix, 3))
    (kk : W p l e R s m args below meth c H locs cells slots Q (F0 m (pc + 3) ls (v :: rest))) (hcj : vi ci = cj := by rfl) : W p l e R s m args below meth c H locs cells slots Q (F0 m pc ls (.ref h0 :: rest)) := by
  subst hcj
  obtain ⟨q1, q2, q3, q4, q5, q6, q7, q8, q9, q10, q11⟩ := hx
  obtain ⟨t1, t2, t3⟩ := hT
  exact va_get (D := D) (ci := vi ci) (v := v) (C := C) (T := Tt) (N := N) (ref := C) q1 q2 q5 fc.2.1 q4 q9 hS.1 0 rfl fc.1 k hk (by rw [t2, t3]; exact q5 _ g) (fun _ h9 => by rw [t1] at h9; exact h9) hv d kk
theorem K_call (hx : KxC p s m args meth c own cc nL D aT A) {y : MethodName} {cc2 : ByteArray} {nL2 dp2 mc2 ms2 ci n ix q0 : Nat} {fs As st sk : List Value} {post : (Nat → ClassId) → Nat → va_W → Prop} (hC : Ct y cc2 nL2 dp2 mc2 ms2 ci fs As post) (hS : Sx D A s.heap (ws ++ [(q0, .inr (ci, fs))]) H locs)
    (g1 : Cond.code y cc2 nL2 none ∈ Gw) (g2 : Cond.initialized y.cls ∈ Gw) (g3 : Cond.methodLink own ix y ∈ Gw) (g4 : Cond.instanceMethod y ∈ Gw) (hy : y.name = "<init>") (hd : (y.cls ≠ "java/lang/invoke/MethodHandle" ∧ y.cls ≠ "java/lang/invoke/VarHandle") ∧ (parseMethodDescriptor y.desc).map (fun d => d.parameters.length) = some n) (d : decode cc pc = .ok (.invokespecial ix, 3)) (hs : sk = As.reverse ++ .ref q0 :: st) (hn : As.length = n) (hst : (st.map fun v => v.category).sum ≤ 8) (hfr : dp2 + 1 ≤ R.frames ∧ 8 + (nL2 + 11) + 39 * dp2 ≤ R.locals) (hj : cells + mc2 ≤ R.cells ∧ slots + ms2 ≤ R.slots) (hls : ls.size = nL)
    (kk : ∀ (w1 : va_W) (H1 : Heap) (locs1 : List Loc), post aT q0 w1 → Sx D A s.heap (ws ++ w1) H1 locs1 → W p l e R s m args below meth c H1 locs1 (cells + mc2) (slots + ms2) Q (F0 m (pc + 3) ls st)) : W p l e R s m args below meth c H locs cells slots Q (F0 m pc ls sk) := by
  subst hs
  obtain ⟨q1, q2, q3, q4, q5, q6, q7, q8, q9, q10, q11⟩ := id hx
  obtain ⟨hP, hD, hSS⟩ := id hS
  have hat : (ws ++ [(q0, (.inr (ci, fs) : va_E))])[ws.length]? = some (q0, .inr (ci, fs)) := by
    rw [List.getElem?_append_right (Nat.le_refl _), Nat.sub_self]; rfl
  have hl9 : ∀ k, k < ws.length → (ws ++ [(q0, (.inr (ci, fs) : va_E))])[k]? = ws[k]? := fun k h => List.getElem?_append_left h
  have hPc : va_P D vwCl [(q0, .inr (ci, fs))] H := fun k q hk => by
    have h1 : k < 1 := (List.getElem?_eq_some_iff.mp hk).1
    obtain rfl : k = 0 := by omega
    cases hk
    exact hP _ _ hat
  have hF : ∀ q, va_A [(q0, .inr (ci, fs))] H.size q → A q := by
    rintro q (⟨k, e, hk⟩ | h)
    · have h1 : k < 1 := (List.getElem?_eq_some_iff.mp hk).1
      obtain rfl : k = 0 := by omega
      cases hk
      exact hD.2 _ _ hat
    · exact q10 q (Nat.le_trans hSS.1 h)
  have far : ∀ (k : Nat) (q : Nat × va_E), ws[k]? = some q → q.1 < H.size ∧ ¬ va_A [(q0, .inr (ci, fs))] H.size q.1 := by
    intro k q hk
    have hkl := (List.getElem?_eq_some_iff.mp hk).1
    have h2 : (ws ++ [(q0, (.inr (ci, fs) : va_E))])[k]? = some q := by rw [hl9 k hkl]; exact hk
    have hlt := (hP k q h2).lt
    refine ⟨hlt, ?_⟩
    rintro (⟨j, e, hj⟩ | h)
    · have h1 : j < 1 := (List.getElem?_eq_some_iff.mp hj).1
      obtain rfl : j = 0 := by omega
      have h3 : (q0, (.inr (ci, fs) : va_E)) = (q.1, e) := Option.some.inj hj
      have h4 := hD.1 k ws.length q _ h2 hat (congrArg Prod.fst h3).symm
      omega
    · omega
  refine va_callv (va_runI (As := As) (rest := st) ⟨q1, q2, q3, q4, q5⟩ (hC l D aT q0 H.size) ⟨⟨rfl, rfl, hfr.1, hfr.2, fun v hv a' U hW => ?_, List.mem_cons_self, q5 _ g1, q5 _ g2, hd.1, hx_par hd.2, q5 _ g3⟩, hy, q5 _ g4⟩ ⟨fun a U g mk q => ?_, fun U hU hW => ⟨rfl, by rw [hU], by rw [hU]; exact hPc, va_K.moved hW.alike q9, va_AO.moved hW.alike q11⟩⟩ rfl hn hls rfl (by show 2 * 0 + _ ≤ 8; omega) d hj) hSS (fun q _ h => hF q h) hF (fun u t H1 locs1 ht hvm hw hB hz1 hk1 hS1 => ?_)
  · have h : v ∈ Gw := by
      rcases List.mem_cons.mp hv with h | h
      · rw [h]; exact g1
      · exact h
    exact word_at hW (good_of_word (gw_good v h)) (q5 v h)
  · obtain ⟨b0, b1, b2, b3, b4⟩ := q
    exact ⟨b0, b1, b2, va_K.moved (u := U) (U := U.calling g mk a) (Vm.Alike.refl U.vm) b3, va_AO.moved (u := U) (U := U.calling g mk a) (Vm.Alike.refl U.vm) b4⟩
  · obtain ⟨hP1, hD1⟩ := hB
    rw [ht] at hP1
    refine kk u H1 locs1 hw ⟨va_P.app (fun k q hk => ?_) hP1, va_D.app ⟨fun i j x y hi hj e => ?_, fun k q hk => ?_⟩ (hD1.weaken (fun k q _ h => hF q.1 h)) (fun i j x y hx hy hxy => ?_), hS1⟩
    · obtain ⟨f1, f2⟩ := far k q hk
      have hkl := (List.getElem?_eq_some_iff.mp hk).1
      exact (hP k q (by rw [hl9 k hkl]; exact hk)).kept (hk1 q.1 f1 f2)
    · have hil := (List.getElem?_eq_some_iff.mp hi).1
      have hjl := (List.getElem?_eq_some_iff.mp hj).1
      exact hD.1 i j x y (by rw [hl9 i hil]; exact hi) (by rw [hl9 j hjl]; exact hj) e
    · have hkl := (List.getElem?_eq_some_iff.mp hk).1
      exact hD.2 k q (by rw [hl9 k hkl]; exact hk)
    · exact (far i x hx).2 (by rw [hxy]; exact hD1.2 j y hy)
theorem K_ret {h0 ci mc ms sz : Nat} {fs : List Value} {post : (Nat → ClassId) → Nat → va_W → Prop} {w1 : va_W} (hx : KxC p s m args meth c own cc nL D aT (va_A [(h0, .inr (ci, fs))] s.heap.size)) (hS : Sx D (va_A [(h0, .inr (ci, fs))] s.heap.size) s.heap w1 H locs) (hw : post aT h0 w1) (hj : cells ≤ mc ∧ slots ≤ ms) (d : decode cc pc = .ok (.return_, 1)) (hz : s.heap.size = sz) :
    W p l e R s m args below meth c H locs cells slots (MQ below (CtQ D aT h0 sz ci fs post) args s mc ms (va_A [(h0, .inr (ci, fs))] sz)) (F0 m pc ls []) := by
  subst hz
  obtain ⟨q1, q2, q3, q4, q5, q6, q7, q8, q9, q10, q11⟩ := id hx
  obtain ⟨hP, hD, hSS⟩ := hS
  refine W.widen hj.1 hj.2 (W.vret q1 q2 q8 (fun t ht hW => ⟨⟨w1, rfl, hw, by rw [ht]; exact hP, hD⟩, hSS.F ht⟩) hSS.2.2 d (hlocks := q6))
end KR
