/-! ===== the same in the world of the class alone: 07.sem2 ===== -/
abbrev xA_k (x : Cx) : Nat → Prop := aA_k (xad x) (xs x).heap.size
def CxOK_k (x : Cx) (own : String) (cc : ByteArray) (nL dp mc : Nat) (ret : Option FieldType) : Prop :=
  (xp x).tables.exec = Jvm.exec ∧ (xc x).code = cc ∧ (xc x).maxLocals = nL ∧ (xs x).vm.findClass own = some (xm x).cls ∧ (∀ w ∈ Gw, w.before (xa x) (xs x) = true) ∧
  (∀ z ∈ (xc x).exceptionTable.toList, False) ∧ (xme x).locks = false ∧ (xl x).stackTraces = false ∧ va_K (xD x) vwCl (tysA (xaT x)) (xs x) ∧ AdOK_k (xad x) (xs x).heap.size ∧
  XE (xad x) (xaV x) (xA_k x) (xs x) (xs x).heap ∧ xRm x = rmd dp mc ∧ (xme x).sig.returnType = ret
section
variable {x : Cx} {own : String} {cc : ByteArray} {nL dp mc : Nat} {ret : Option FieldType}
theorem CxOK_k.ex (h : CxOK_k x own cc nL dp mc ret) : (xp x).tables.exec = Jvm.exec := h.1
theorem CxOK_k.bs (h : CxOK_k x own cc nL dp mc ret) : (xc x).code = cc := h.2.1
theorem CxOK_k.ml (h : CxOK_k x own cc nL dp mc ret) : (xc x).maxLocals = nL := h.2.2.1
theorem CxOK_k.ow (h : CxOK_k x own cc nL dp mc ret) : (xs x).vm.findClass own = some (xm x).cls := h.2.2.2.1
theorem CxOK_k.ts (h : CxOK_k x own cc nL dp mc ret) : ∀ w ∈ Gw, w.before (xa x) (xs x) = true := h.2.2.2.2.1
theorem CxOK_k.nx (h : CxOK_k x own cc nL dp mc ret) : ∀ z ∈ (xc x).exceptionTable.toList, False := h.2.2.2.2.2.1
theorem CxOK_k.lk (h : CxOK_k x own cc nL dp mc ret) : (xme x).locks = false := h.2.2.2.2.2.2.1
theorem CxOK_k.tr (h : CxOK_k x own cc nL dp mc ret) : (xl x).stackTraces = false := h.2.2.2.2.2.2.2.1
theorem CxOK_k.kk (h : CxOK_k x own cc nL dp mc ret) : va_K (xD x) vwCl (tysA (xaT x)) (xs x) := h.2.2.2.2.2.2.2.2.1
theorem CxOK_k.ad (h : CxOK_k x own cc nL dp mc ret) : AdOK_k (xad x) (xs x).heap.size := h.2.2.2.2.2.2.2.2.2.1
theorem CxOK_k.xe (h : CxOK_k x own cc nL dp mc ret) : XE (xad x) (xaV x) (xA_k x) (xs x) (xs x).heap := h.2.2.2.2.2.2.2.2.2.2.1
theorem CxOK_k.rm (h : CxOK_k x own cc nL dp mc ret) : xRm x = rmd dp mc := h.2.2.2.2.2.2.2.2.2.2.2.1
theorem CxOK_k.rt (h : CxOK_k x own cc nL dp mc ret) : (xme x).sig.returnType = ret := h.2.2.2.2.2.2.2.2.2.2.2.2
end
def QcE_k (D : va_G) (ad : Nat → Nat) (aT : Nat → ClassId) (r : aO) : Array Value → State → Outcome → State → Prop := fun _ st o u => (∃ v, r.1 = .inl v ∧ o = .returned (v.map (cvv ad))) ∧ va_P D vwCl (conc_k ad aT r.2) u.heap ∧ va_F (aA_k ad st.heap.size) st u
def XcE_k (D : va_G) (ad : Nat → Nat) (aT : Nat → ClassId) (r : aO) : String → State → State → Prop := fun E st u => r.1 = .inr E ∧ va_P D vwCl (conc_k ad aT r.2) u.heap ∧ va_F (aA_k ad st.heap.size) st u
def Qm_k (x : Cx) (mc : Nat) (r : aO) : State → Prop := vx_MQ (xb x) (QcE_k (xD x) (xad x) (xaT x) r) (XcE_k (xD x) (xad x) (xaT x) r) (xa x) (xs x) mc (6 * mc) (xA_k x)
def En_k {T : Type} (x : Cx) (cv : T → aO) (mc j pc : Nat) (L : List (Nat × Value)) (st : List Value) (w : aW) (X : Option T) : Prop :=
  ∀ t, X = some t → ∀ (H : Heap) (locs : List Loc) (ls : Array Slot), va_P (xD x) vwCl (conc_k (xad x) (xaT x) w) H → va_S (xA_k x) (xs x).heap H locs → lv_has ls (xc x).maxLocals (L.map (cvq (xad x))) →
    W (xp x) (xl x) (xe x) (xRm x) (xs x) (xm x) (xa x) (xb x) (xme x) (xc x) H locs j (6 * j) (Qm_k x mc (cv t)) (F0 (xm x) pc ls (st.map (cvv (xad x))))
def PcE_k (D : va_G) (ad : Nat → Nat) (aT : Nat → ClassId) (adV : Nat → Nat) (sz : Nat) (avs : List Value) (w : aW) : Array Value → State → Prop := fun a U => a = (avs.map (cvv ad)).toArray ∧ U.heap.size = sz ∧ va_P D vwCl (conc_k ad aT w) U.heap ∧ va_K D vwCl (tysA aT) U ∧ AdOK_k ad sz ∧ XE ad adV (aA_k ad sz) U U.heap
def Ev_k {T : Type} (y : MethodName) (cc : ByteArray) (nL : Nat) (ret : Option FieldType) (dp mc : Nat) (cv : T → aO) (avs : List Value) (w : aW) (X : Option T) : Prop :=
  ∀ t, X = some t → ∀ (l : Launch), l.stackTraces = false → ∀ (D : va_G) (ad : Nat → Nat) (aT : Nat → ClassId) (adV : Nat → Nat) (sz : Nat), vx_Met l y (.code y cc nL ret :: Gw) (rmd dp mc) (PcE_k D ad aT adV sz avs w) (QcE_k D ad aT (cv t)) (XcE_k D ad aT (cv t)) mc (6 * mc) (aA_k ad sz)
theorem Ev_k.of {T : Type} {y : MethodName} {cc : ByteArray} {nL : Nat} {ret : Option FieldType} {dp mc : Nat} {cv : T → aO} {avs : List Value} {w : aW} {X : Option T} {own : String} (hy : plainName y.cls = true) (ho : y.cls = own) (hn : (lg_sl avs).length ≤ nL)
    (body : ∀ x : Cx, CxOK_k x own cc nL dp mc ret → En_k x cv mc 0 0 (lv_args 0 avs) [] w X) : Ev_k y cc nL ret dp mc cv avs w X := by
  intro t ht l htr D ad aT adV sz
  refine vx_ofW (cc := cc) (maxL := nL) (ret := ret) hy rfl ?_
  intro p e s m args below meth c s₁ B hml hex hv
  obtain ⟨rfl, rfl, hP, hK, hA, hX⟩ := hv
  have hts := atoms_spec (ws := .code y cc nL ret :: Gw) B.pre
  have C0 : CxOK_k (p, l, e, rmd dp mc, s, m, (avs.map (cvv ad)).toArray, below, meth, c, D, ad, aT, adV) own cc nL dp mc ret :=
    ⟨B.exec, B.bytes, hml, by rw [← ho]; exact findClass_of_methodNamed B.named, fun w hw => hts w (List.mem_cons_of_mem _ hw), hex, B.notSynchronized, htr, hK, hA, hX, rfl, B.returns⟩
  have hl := lv_entry (avs.map (cvv ad)) (n := nL) (by rw [cvv_sl]; exact hn)
  rw [lg_entry_eq]
  refine body _ C0 t ht s.heap [] _ hP va_S.rf ?_
  show lv_has _ c.maxLocals _
  rw [hml]
  rw [cvq_args]
  exact hl
section Rules
variable {T : Type} {x : Cx} {cv : T → aO} {own : String} {cc : ByteArray} {nL dp mc j pc : Nat} {ret : Option FieldType} {L : List (Nat × Value)} {st : List Value} {w : aW} {X Y : Option T}
theorem En_k.lv {ls : Array Slot} {n : Nat} (h : lv_has ls n (L.map (cvq (xad x)))) (k : Nat) {i : Nat} {v : Value} (hk : L[k]? = some (i, v)) : ls[i]? = some (.val (cvv (xad x) v)) := lv_at h k (by rw [List.getElem?_map, hk]; rfl)
theorem En_k.sub (ks : List Nat) {L' : List (Nat × Value)} (h : lv_pick L ks = L') (k : En_k x cv mc j pc L' st w X) : En_k x cv mc j pc L st w X := by
  intro t ht H locs ls hP hS hl
  refine k t ht H locs ls hP hS (lv_sub hl ks ?_)
  rw [← h]
  show ks.filterMap _ = (ks.filterMap _).map _
  rw [List.map_filterMap]
  congr 1
  funext i
  rw [List.getElem?_map]
theorem E_gd_k {c : Prop} [Decidable c] (k : c → En_k x cv mc j pc L st w X) : En_k x cv mc j pc L st w (gd c X) := by
  intro t ht
  by_cases h : c
  · exact k h t (by rw [gd, if_pos h] at ht; exact ht)
  · rw [gd, if_neg h] at ht; cases ht
theorem E_none_k : En_k x cv mc j pc L st w (none : Option T) := fun _ h => nomatch h
theorem E_iload_n_k (hx : CxOK_k x own cc nL dp mc ret) {n : Fin 4} {i : Nat} {v : Int32} (k : Nat) (d : decode cc pc = .ok (.iload_n n, 1)) (hi : (n : Nat) = i) (hk : L[k]? = some (i, .int v)) (kk : En_k x cv mc j (pc + 1) L (.int v :: st) w X) : En_k x cv mc j pc L st w X :=
  fun t ht H locs ls hP hS hl => lv_iload_n hx.ex hx.bs d hi (En_k.lv hl k hk) (kk t ht H locs ls hP hS hl)
theorem E_iload_k (hx : CxOK_k x own cc nL dp mc ret) {i : Nat} {v : Int32} (k : Nat) (d : decode cc pc = .ok (.iload i, 2)) (hk : L[k]? = some (i, .int v)) (kk : En_k x cv mc j (pc + 2) L (.int v :: st) w X) : En_k x cv mc j pc L st w X :=
  fun t ht H locs ls hP hS hl => lv_iload hx.ex hx.bs d (En_k.lv hl k hk) (kk t ht H locs ls hP hS hl)
theorem E_aload_n_k (hx : CxOK_k x own cc nL dp mc ret) {n : Fin 4} {i : Nat} {v : Nat} (k : Nat) (d : decode cc pc = .ok (.aload_n n, 1)) (hi : (n : Nat) = i) (hk : L[k]? = some (i, .ref v)) (kk : En_k x cv mc j (pc + 1) L (.ref v :: st) w X) : En_k x cv mc j pc L st w X :=
  fun t ht H locs ls hP hS hl => lv_aload_n hx.ex hx.bs d hi (En_k.lv hl k hk) (kk t ht H locs ls hP hS hl)
theorem E_iconst_k (hx : CxOK_k x own cc nL dp mc ret) {n : Int} (v : Int32) (d : decode cc pc = .ok (.iconst n, 1)) (hv : Int32.ofInt n = v) (kk : En_k x cv mc j (pc + 1) L (.int v :: st) w X) : En_k x cv mc j pc L st w X :=
  fun t ht H locs ls hP hS hl => lv_iconst hx.ex hx.bs d hv (kk t ht H locs ls hP hS hl)
theorem E_bipush_k (hx : CxOK_k x own cc nL dp mc ret) {n : Int} (v : Int32) (d : decode cc pc = .ok (.bipush n, 2)) (hv : (Int8.ofInt n).toInt32 = v) (kk : En_k x cv mc j (pc + 2) L (.int v :: st) w X) : En_k x cv mc j pc L st w X :=
  fun t ht H locs ls hP hS hl => lv_bipush hx.ex hx.bs d hv (kk t ht H locs ls hP hS hl)
theorem E_sipush_k (hx : CxOK_k x own cc nL dp mc ret) {n : Int} (v : Int32) (d : decode cc pc = .ok (.sipush n, 3)) (hv : (Int16.ofInt n).toInt32 = v) (kk : En_k x cv mc j (pc + 3) L (.int v :: st) w X) : En_k x cv mc j pc L st w X :=
  fun t ht H locs ls hP hS hl => lv_sipush hx.ex hx.bs d hv (kk t ht H locs ls hP hS hl)
theorem E_istore_n_k (hx : CxOK_k x own cc nL dp mc ret) {n : Fin 4} {i : Nat} {v : Int32} {L' : List (Nat × Value)} (d : decode cc pc = .ok (.istore_n n, 1)) (hi : (n : Nat) = i) (hn : i < nL) (hL : (i, Value.int v) :: L.filter (fun q => !(q.1 == i) && !(q.1 + 1 == i && q.2.category == 2)) = L') (kk : En_k x cv mc j (pc + 1) L' st w X) : En_k x cv mc j pc L (.int v :: st) w X :=
  fun t ht H locs ls hP hS hl => lv_istore_n hx.ex hx.bs d hi hl (by rw [hx.ml]; exact hn) (lv' := L'.map (cvq (xad x))) (by rw [cvq_filter, ← hL]; rfl) (fun ls' hl' => kk t ht H locs ls' hP hS hl')
theorem E_istore_k (hx : CxOK_k x own cc nL dp mc ret) {i : Nat} {v : Int32} {L' : List (Nat × Value)} (d : decode cc pc = .ok (.istore i, 2)) (hn : i < nL) (hL : (i, Value.int v) :: L.filter (fun q => !(q.1 == i) && !(q.1 + 1 == i && q.2.category == 2)) = L') (kk : En_k x cv mc j (pc + 2) L' st w X) : En_k x cv mc j pc L (.int v :: st) w X :=
  fun t ht H locs ls hP hS hl => lv_istore hx.ex hx.bs d hl (by rw [hx.ml]; exact hn) (lv' := L'.map (cvq (xad x))) (by rw [cvq_filter, ← hL]; rfl) (fun ls' hl' => kk t ht H locs ls' hP hS hl')
theorem E_iinc_k (hx : CxOK_k x own cc nL dp mc ret) {i : Nat} {n : Int} {v u : Int32} {L' : List (Nat × Value)} (k : Nat) (d : decode cc pc = .ok (.iinc i n, 3)) (hk : L[k]? = some (i, .int v)) (hv : Int32.ofInt n = u) (hn : i < nL) (hL : (i, Value.int (v + u)) :: L.filter (fun q => !(q.1 == i) && !(q.1 + 1 == i && q.2.category == 2)) = L') (kk : En_k x cv mc j (pc + 3) L' st w X) : En_k x cv mc j pc L st w X :=
  fun t ht H locs ls hP hS hl => lv_iinc hx.ex hx.bs (k := k) (v := v + u) d hl (by rw [List.getElem?_map, hk]; rfl) (by rw [hv]) (by rw [hx.ml]; exact hn) (lv' := L'.map (cvq (xad x))) (by rw [cvq_filter, ← hL]; rfl) (fun ls' hl' => kk t ht H locs ls' hP hS hl')
theorem E_iadd_k (hx : CxOK_k x own cc nL dp mc ret) {a b : Int32} (d : decode cc pc = .ok (.iadd, 1)) (kk : En_k x cv mc j (pc + 1) L (.int (a + b) :: st) w X) : En_k x cv mc j pc L (.int b :: .int a :: st) w X :=
  fun t ht H locs ls hP hS hl => lv_iadd hx.ex hx.bs d (kk t ht H locs ls hP hS hl)
theorem E_isub_k (hx : CxOK_k x own cc nL dp mc ret) {a b : Int32} (d : decode cc pc = .ok (.isub, 1)) (kk : En_k x cv mc j (pc + 1) L (.int (a - b) :: st) w X) : En_k x cv mc j pc L (.int b :: .int a :: st) w X :=
  fun t ht H locs ls hP hS hl => lv_isub hx.ex hx.bs d (kk t ht H locs ls hP hS hl)
theorem E_imul_k (hx : CxOK_k x own cc nL dp mc ret) {a b : Int32} (d : decode cc pc = .ok (.imul, 1)) (kk : En_k x cv mc j (pc + 1) L (.int (a * b) :: st) w X) : En_k x cv mc j pc L (.int b :: .int a :: st) w X :=
  fun t ht H locs ls hP hS hl => lv_imul hx.ex hx.bs d (kk t ht H locs ls hP hS hl)
theorem E_ishl_k (hx : CxOK_k x own cc nL dp mc ret) {a b : Int32} (d : decode cc pc = .ok (.ishl, 1)) (kk : En_k x cv mc j (pc + 1) L (.int (a <<< (b &&& 31)) :: st) w X) : En_k x cv mc j pc L (.int b :: .int a :: st) w X :=
  fun t ht H locs ls hP hS hl => lv_ishl hx.ex hx.bs d (kk t ht H locs ls hP hS hl)
theorem E_ishr_k (hx : CxOK_k x own cc nL dp mc ret) {a b : Int32} (d : decode cc pc = .ok (.ishr, 1)) (kk : En_k x cv mc j (pc + 1) L (.int (a >>> (b &&& 31)) :: st) w X) : En_k x cv mc j pc L (.int b :: .int a :: st) w X :=
  fun t ht H locs ls hP hS hl => lv_ishr hx.ex hx.bs d (kk t ht H locs ls hP hS hl)
theorem E_iand_k (hx : CxOK_k x own cc nL dp mc ret) {a b : Int32} (d : decode cc pc = .ok (.iand, 1)) (kk : En_k x cv mc j (pc + 1) L (.int (a &&& b) :: st) w X) : En_k x cv mc j pc L (.int b :: .int a :: st) w X :=
  fun t ht H locs ls hP hS hl => lv_iand hx.ex hx.bs d (kk t ht H locs ls hP hS hl)
theorem E_ior_k (hx : CxOK_k x own cc nL dp mc ret) {a b : Int32} (d : decode cc pc = .ok (.ior, 1)) (kk : En_k x cv mc j (pc + 1) L (.int (a ||| b) :: st) w X) : En_k x cv mc j pc L (.int b :: .int a :: st) w X :=
  fun t ht H locs ls hP hS hl => lv_ior hx.ex hx.bs d (kk t ht H locs ls hP hS hl)
end Rules
