/-! ===== a StringBuilder's methods and a String's: contracts over small worlds ===== -/
def zCp (A : Nat → Prop) (U : State) (H : Heap) : Prop := va_Z "java/lang/String" "COMPACT_STRINGS" "Z" (.int 1) A U H
abbrev aF : Type := (Nat → Prop) → State → Heap → Prop
def FOK (F : aF) : Prop := ∀ (A : Nat → Prop) (U U' : State) (H : Heap), U.WarmedH U'.vm → F A U H → F A U' H
def FNo : aF := fun _ _ _ => True
theorem FNo_ok : FOK FNo := fun _ _ _ _ _ _ => trivial
/-- private methods -/
def xPri : List MethodName := [yJ5_ensureCapacityInternal_d00df, yJ5_newCapacity_0f7a4, yJ5_putStringAt_47b60, yJ5_inflateIfNeededFor_a7421]
def PVs (U : State) : Prop := (∀ y ∈ xPri, (Cond.privateMethod y).before #[] U = true) ∧ va_Nw (.castable "[B" "java/lang/Cloneable") U
theorem PVs.warm {s U : State} (hW : s.WarmedH U.vm) (h : PVs s) : PVs U := ⟨fun y hy => Cond.privateMethod_warm hW (h.1 y hy), va_Nw.warmC hW h.2⟩
/-- what holds all through such a body -/
def BxC (p : Program) (s : State) (m : MethodId) (args : Array Value) (meth : Method) (c : Code) (own : String) (cc : ByteArray) (nL : Nat) (ret : Option FieldType) (D : va_G) (cB : ClassId) (A : Nat → Prop) : Prop :=
  p.tables.exec = Jvm.exec ∧ c.code = cc ∧ c.maxLocals = nL ∧ s.vm.findClass own = some m.cls ∧ (∀ w ∈ Gw, w.before args s = true) ∧ meth.locks = false ∧ meth.sig.returnType = ret ∧ va_K D vwCl [(cB, .byte)] s ∧ (∀ q, s.heap.size ≤ q → A q) ∧ zCp A s s.heap ∧ PVs s
def BcP (F : aF) (D : va_G) (cB : ClassId) (ws : va_W) (As : List Value) (sz : Nat) : Array Value → State → Prop := va_Pc As (fun U => U.heap.size = sz ∧ va_P D vwCl ws U.heap ∧ va_D (fun _ => True) ws ∧ va_K D vwCl [(cB, .byte)] U ∧ zCp (va_A ws sz) U U.heap ∧ F (va_A ws sz) U U.heap ∧ PVs U)
def BcQ (D : va_G) (ws : va_W) (sz : Nat) (post : Option Value → va_W → Prop) : Array Value → State → Outcome → State → Prop := fun _ st o t => (∃ v w1, o = .returned v ∧ post v w1 ∧ va_P D vwCl w1 t.heap ∧ va_D (va_A ws sz) w1) ∧ va_F (va_A ws sz) st t
/-- a contract -/
def Bc (y : MethodName) (cc : ByteArray) (nL : Nat) (ret : Option FieldType) (dp mc ms : Nat) (F : aF) (As : List Value) (cB : ClassId) (ws : va_W) (post : Option Value → va_W → Prop) : Prop :=
  ∀ (l : Launch) (D : va_G) (sz : Nat), Met l y (.code y cc nL ret :: Gw) (ctR dp mc ms) (BcP F D cB ws As sz) (BcQ D ws sz post) mc ms (va_A ws sz)
theorem Bc.ofN {y : MethodName} {cc : ByteArray} {nL dp mc ms : Nat} {ret : Option FieldType} {F : aF} {As : List Value} {cB : ClassId} {ws : va_W} {post : Option Value → va_W → Prop} {own : String} (hy : plainName y.cls = true) (ho : y.cls = own) (hn : (lg_sl As).length ≤ nL)
    (body : ∀ (p : Program) (l : Launch) (e : Env) (s : State) (m : MethodId) (args : Array Value) (below : List Frame) (meth : Method) (c : Code) (D : va_G) (ls : Array Slot), BxC p s m args meth c own cc nL ret D cB (va_A ws s.heap.size) → Sx D (va_A ws s.heap.size) s.heap ws s.heap [] → F (va_A ws s.heap.size) s s.heap → lv_has ls nL (lv_args 0 As) → meth.name = y.name →
      W p l e (ctR dp mc ms) s m args below meth c s.heap [] 0 0 (MQ below (BcQ D ws s.heap.size post) args s mc ms (va_A ws s.heap.size)) (F0 m 0 ls [])) : Bc y cc nL ret dp mc ms F As cB ws post := by
  intro l D sz
  refine Met.ofW (cc := cc) (maxL := nL) (ret := ret) hy rfl ?_
  intro p e s m args below meth c s₁ B hml hv
  obtain ⟨rfl, hsz, hP, hD, hK, hZ, hF, hV⟩ := hv
  subst hsz
  have hts := atoms_spec (ws := .code y cc nL ret :: Gw) B.pre
  have hl := lv_entry As (n := nL) hn
  rw [lg_entry_eq]
  exact body p l e s m _ below meth c D _ ⟨B.exec, B.bytes, hml, by rw [← ho]; exact findClass_of_methodNamed B.named, fun w hw => hts w (List.mem_cons_of_mem _ hw), B.notSynchronized, B.returns, hK, fun q h => Or.inr h, hZ, hV⟩ ⟨hP, va_D.self hD, va_S.rf⟩ hF hl (name_of_methodNamed B.named B.method).1
theorem Bc.of {y : MethodName} {cc : ByteArray} {nL dp mc ms : Nat} {ret : Option FieldType} {F : aF} {As : List Value} {cB : ClassId} {ws : va_W} {post : Option Value → va_W → Prop} {own : String} (hy : plainName y.cls = true) (ho : y.cls = own) (hn : (lg_sl As).length ≤ nL)
    (body : ∀ (p : Program) (l : Launch) (e : Env) (s : State) (m : MethodId) (args : Array Value) (below : List Frame) (meth : Method) (c : Code) (D : va_G) (ls : Array Slot), BxC p s m args meth c own cc nL ret D cB (va_A ws s.heap.size) → Sx D (va_A ws s.heap.size) s.heap ws s.heap [] → F (va_A ws s.heap.size) s s.heap → lv_has ls nL (lv_args 0 As) →
      W p l e (ctR dp mc ms) s m args below meth c s.heap [] 0 0 (MQ below (BcQ D ws s.heap.size post) args s mc ms (va_A ws s.heap.size)) (F0 m 0 ls [])) : Bc y cc nL ret dp mc ms F As cB ws post := Bc.ofN hy ho hn (fun p l e s m args below meth c D ls hx hS hF hl _ => body p l e s m args below meth c D ls hx hS hF hl)
section BR
variable {p : Program} {l : Launch} {e : Env} {R : Room} {s : State} {m : MethodId} {args : Array Value} {below : List Frame} {meth : Method} {c : Code} {H : Heap} {locs : List Loc} {cells slots : Nat} {Q : State → Prop}
variable {D : va_G} {cB : ClassId} {A : Nat → Prop} {ws wr wc : va_W} {own : String} {cc : ByteArray} {nL pc : Nat} {ret : Option FieldType} {ls : Array Slot} {rest : List Value}
theorem B_retV {sz mc ms : Nat} {ws0 : va_W} {post : Option Value → va_W → Prop} (hx : BxC p s m args meth c own cc nL ret D cB (va_A ws0 s.heap.size)) (hS : Sx D (va_A ws0 s.heap.size) s.heap ws H locs) (hw : post none ws) (hj : cells ≤ mc ∧ slots ≤ ms) (d : decode cc pc = .ok (.return_, 1)) (hz : s.heap.size = sz) (hr : ret = none) :
    W p l e R s m args below meth c H locs cells slots (MQ below (BcQ D ws0 sz post) args s mc ms (va_A ws0 sz)) (F0 m pc ls []) := by
  subst hz
  obtain ⟨q1, q2, q3, q4, q5, q6, q7, q8, q9, q10, q11⟩ := id hx
  obtain ⟨hP, hD, hSS⟩ := hS
  exact W.widen hj.1 hj.2 (W.vret q1 q2 (by rw [q7]; exact hr) (fun t ht hW => ⟨⟨none, ws, rfl, hw, by rw [ht]; exact hP, hD⟩, hSS.F ht⟩) hSS.2.2 d (hlocks := q6))
theorem B_retI {sz mc ms : Nat} {ws0 : va_W} {post : Option Value → va_W → Prop} {v : Int32} (hx : BxC p s m args meth c own cc nL ret D cB (va_A ws0 s.heap.size)) (hS : Sx D (va_A ws0 s.heap.size) s.heap ws H locs) (hw : post (some (.int v)) ws) (ty : FieldType) (hr : ret = some ty) (hn : narrow ty (.int v) = .int v) (hj : cells ≤ mc ∧ slots ≤ ms) (d : decode cc pc = .ok (.ireturn, 1)) (hz : s.heap.size = sz) :
    W p l e R s m args below meth c H locs cells slots (MQ below (BcQ D ws0 sz post) args s mc ms (va_A ws0 sz)) (F0 m pc ls [.int v]) := by
  subst hz
  obtain ⟨q1, q2, q3, q4, q5, q6, q7, q8, q9, q10, q11⟩ := id hx
  obtain ⟨hP, hD, hSS⟩ := hS
  exact W.widen hj.1 hj.2 (W.zret (v := v) q1 q2 (by rw [q7]; exact hr) hn (fun t ht hW => ⟨⟨some (.int v), ws, rfl, hw, by rw [ht]; exact hP, hD⟩, hSS.F ht⟩) hSS.2.2 d (hlocks := q6))
theorem B_retA {sz mc ms : Nat} {ws0 : va_W} {post : Option Value → va_W → Prop} {v : Nat} (hx : BxC p s m args meth c own cc nL ret D cB (va_A ws0 s.heap.size)) (hS : Sx D (va_A ws0 s.heap.size) s.heap ws H locs) (hw : post (some (.ref v)) ws) (ty : FieldType) (hr : ret = some ty) (hrt : (∃ n, ty = .object n) ∨ ∃ t, ty = .array t) (hj : cells ≤ mc ∧ slots ≤ ms) (d : decode cc pc = .ok (.areturn, 1)) (hz : s.heap.size = sz) :
    W p l e R s m args below meth c H locs cells slots (MQ below (BcQ D ws0 sz post) args s mc ms (va_A ws0 sz)) (F0 m pc ls [.ref v]) := by
  subst hz
  obtain ⟨q1, q2, q3, q4, q5, q6, q7, q8, q9, q10, q11⟩ := id hx
  obtain ⟨hP, hD, hSS⟩ := hS
  exact W.widen hj.1 hj.2 (W.aret (v := .ref v) q1 q2 (by rw [q7]; exact hr) hrt (Or.inr ⟨v, rfl⟩) (fun t ht hW => ⟨⟨some (.ref v), ws, rfl, hw, by rw [ht]; exact hP, hD⟩, hSS.F ht⟩) hSS.2.2 d (hlocks := q6))
/-- behind a call: the callee's cells, the others as they were -/
theorem B_run {mc2 ms2 : Nat} {st0 : List Value} {post : Option Value → va_W → Prop} {a : Array Value}
    (hr : va_Run p l e R s m args below meth c H locs cells slots mc2 ms2 (F0 m pc ls st0) rest (BcQ D wc H.size post a) (va_A wc H.size)) (hS : Sx D A s.heap (wr ++ wc) H locs) (hA : ∀ q, s.heap.size ≤ q → A q)
    (kk : ∀ (v : Option Value) (w1 : va_W) (H1 : Heap) (locs1 : List Loc), post v w1 → Sx D A s.heap (wr ++ w1) H1 locs1 → W p l e R s m args below meth c H1 locs1 (cells + mc2) (slots + ms2) Q (F0 m (pc + 3) ls (v.toList ++ rest))) : W p l e R s m args below meth c H locs cells slots Q (F0 m pc ls st0) := by
  intro U hU X0
  obtain ⟨hP, hD, hSS⟩ := hS
  have hlc : ∀ (k : Nat) (q : Nat × va_E), wc[k]? = some q → (wr ++ wc)[wr.length + k]? = some q := fun k q h => by
    rw [List.getElem?_append_right (Nat.le_add_right _ _), Nat.add_sub_cancel_left]; exact h
  have hlr : ∀ (k : Nat) (q : Nat × va_E), wr[k]? = some q → (wr ++ wc)[k]? = some q := fun k q h => by
    rw [List.getElem?_append_left (List.getElem?_eq_some_iff.mp h).1]; exact h
  have hsub : ∀ q, va_A wc H.size q → A q := by
    rintro q (⟨k, e, hk⟩ | h)
    · exact hD.2 _ _ (hlc k _ hk)
    · exact hA q (Nat.le_trans hSS.1 h)
  have far : ∀ (k : Nat) (q : Nat × va_E), wr[k]? = some q → q.1 < H.size ∧ ¬ va_A wc H.size q.1 := by
    intro k q hk
    have hkl := (List.getElem?_eq_some_iff.mp hk).1
    have hlt := (hP k q (hlr k q hk)).lt
    refine ⟨hlt, ?_⟩
    rintro (⟨j, e, hj⟩ | h)
    · have h4 := hD.1 k (wr.length + j) q _ (hlr k q hk) (hlc j _ hj) rfl
      omega
    · omega
  obtain ⟨v, st₀, t, T', Lc, h0, X', hLc, e1, e2, ⟨⟨v2, w1, ho, hp, hP1, hD1⟩, hF⟩, sp⟩ := hr U hU X0
  cases ho
  obtain ⟨k1, k2, k3⟩ := vx_keep h0 e1 hSS (fun q _ h => hsub q h) hsub hLc hF
  rw [← e1] at hP1
  have hS1 : Sx D A s.heap (wr ++ w1) T'.heap (locs ++ Lc) := by
    refine ⟨va_P.app (fun k q hk => ?_) hP1, va_D.app ⟨fun i j x y hi hj e => hD.1 i j x y (hlr i x hi) (hlr j y hj) e, fun k q hk => hD.2 k q (hlr k q hk)⟩ (hD1.weaken (fun k q _ h => hsub q.1 h)) (fun i j x y hx hy hxy => ?_), k3⟩
    · obtain ⟨f1, f2⟩ := far k q hk
      exact (hP k q (hlr k q hk)).kept (k2 q.1 f1 f2)
    · exact (far i x hx).2 (by rw [hxy]; exact hD1.2 j y hy)
  obtain ⟨t2, a1, b1⟩ := kk v w1 T'.heap (locs ++ Lc) hp hS1 T' rfl X'
  exact ⟨t2, sp t2 a1, b1⟩
theorem BcP_blind {F : aF} (hF : FOK F) {As : List Value} {sz : Nat} : FrameBlind (BcP F D cB wc As sz) := fun a U g mk q => by
  obtain ⟨b0, b1, b2, b3, b4, b5, b6, b7⟩ := q
  exact ⟨b0, b1, b2, b3, va_K.moved (u := U) (U := U.calling g mk a) (Vm.Alike.refl U.vm) b4, va_Z.moved (u := U) (U := U.calling g mk a) (Vm.Alike.refl U.vm) b5, hF _ U (U.calling g mk a) _ (State.WarmedH.refl U) b6, PVs.warm (s := U) (U := U.calling g mk a) (State.WarmedH.refl U) b7⟩
theorem B_at {F : aF} (hF : FOK F) (hK : va_K D vwCl [(cB, .byte)] s) (hZ : zCp A s s.heap) (hV : PVs s) (hA : ∀ q, s.heap.size ≤ q → A q) (hS : Sx D A s.heap (wr ++ wc) H locs) (hFc : F (va_A wc H.size) s H) (As : List Value) {U : State} (hU : U.heap = H) (hW : s.WarmedH U.vm) : BcP F D cB wc As H.size As.toArray U := by
  obtain ⟨hP, hD, hSS⟩ := hS
  have hlc : ∀ (k : Nat) (q : Nat × va_E), wc[k]? = some q → (wr ++ wc)[wr.length + k]? = some q := fun k q h => by
    rw [List.getElem?_append_right (Nat.le_add_right _ _), Nat.add_sub_cancel_left]; exact h
  have hsub : ∀ q, va_A wc H.size q → A q := by
    rintro q (⟨k, e, hk⟩ | h)
    · exact hD.2 _ _ (hlc k _ hk)
    · exact hA q (Nat.le_trans hSS.1 h)
  refine ⟨rfl, by rw [hU], fun k q hk => by rw [hU]; exact hP _ q (hlc k q hk), ⟨fun i j x y hi hj e => ?_, fun _ _ _ => trivial⟩, va_K.moved hW.alike hK, ?_, ?_, hV.warm hW⟩
  · have h9 := hD.1 _ _ x y (hlc i x hi) (hlc j y hj) e
    omega
  · rw [hU]
    exact va_Z.moved hW.alike ((va_Z.kept hZ hSS.2.1).narrow hsub)
  · rw [hU]
    exact hF _ s U _ hW hFc
theorem B_ws {y : MethodName} {cc2 : ByteArray} {nL2 : Nat} {ret2 : Option FieldType} (hG : ∀ w ∈ Gw, w.before args s = true) (m4 : Cond.code y cc2 nL2 ret2 ∈ Gw) : ∀ w ∈ (Cond.code y cc2 nL2 ret2 :: Gw), ∀ (a' : Array Value) (U : State), s.WarmedH U.vm → w.before a' U = true := by
  intro v hv a' U hW
  have h : v ∈ Gw := by
    rcases List.mem_cons.mp hv with h | h
    · rw [h]; exact m4
    · exact h
  exact word_at hW (good_of_word (gw_good v h)) (hG v h)
/-- a private method is the one that is selected -/
theorem sel_priv {y : MethodName} {C : String} (hC : ∃ cC, s.vm.findClass C = some cC) (hy : y.name ≠ "<init>") (h1 : (Cond.privateMethod y).before args s = true) (h2 : (Cond.sameMethod y.cls y.cls y.name y.desc).before args s = true) : (Cond.selects C y y).before args s = true := by
  obtain ⟨cC, hC⟩ := hC
  simp only [Cond.before, Cond.holds, Cond.value] at h1 h2 ⊢
  cases hm : s.methodNamed? y with
  | none => simp [hm] at h1
  | some m =>
    cases hme : s.vm.method? m with
    | none => simp [hm, hme] at h1
    | some me =>
      simp [hm, hme] at h1
      have hy2 : (⟨y.cls, y.name, y.desc⟩ : MethodName) = y := by cases y; rfl
      cases hc : s.vm.findClass y.cls with
      | none => simp [hc] at h2
      | some c =>
        cases hf : s.methodFound? y.cls y.name y.desc with
        | none => simp [hc, hf] at h2
        | some r =>
          rw [hy2] at h2
          cases hk1 : s.vm.classes[c]? with
          | none => simp [hc, hf, hm, hk1] at h2
          | some k =>
          simp [hc, hf, hm, hk1] at h2
          obtain ⟨e, hk2⟩ := h2
          subst e
          have hcm : r.cls = c := by
            have h3 := hm
            unfold State.methodNamed? at h3
            cases hi : k.findMethod y.name y.desc with
            | none => simp [hc, hk1, hi] at h3
            | some i =>
            simp [hc, hk1, hi] at h3
            rw [← h3]
          have hsel : selectMethod {} s.vm cC r = .method r := by
            unfold selectMethod
            rw [hme]
            simp [h1]
          simp [hC, hf, hm, hsel, hcm, hk1, hk2]
end BR
