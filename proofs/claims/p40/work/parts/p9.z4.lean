/-! ===== the law's body: its own cells, its static methods ===== -/
section LM
variable {p : Program} {l : Launch} {e : Env} {R : Room} {s : State} {m : MethodId} {args : Array Value} {below : List Frame} {meth : Method} {c : Code} {H H0 : Heap} {locs : List Loc} {cells slots : Nat} {Q : State → Prop}
variable {D : va_G} {ad adV : Nat → Nat} {aT : Nat → ClassId} {N : Nat} {A : Nat → Prop} {z : aI} {X : va_W} {tys : List (ClassId × FieldType)} {own : String} {cc : ByteArray} {nL pc : Nat} {ls : Array Slot} {rest : List Value}
theorem xst_la {a : Nat} (hN : 241 ≤ N) (h : 300 ≤ a ∧ a < 331) : xst N a := Or.inr ⟨h.1, by omega⟩
theorem L_getI (hx : LxC p l s m args meth c own cc nL D aT tys ad adV A) {w : aW} (hL : Lx D ad aT N A s.heap w X H locs) {ci Nc ix : Nat} {C fn fd : String} {Tt : u_T} (k : Nat) {a : Nat} (fc : fcl ci C Tt Nc) (ha : shK a = 10 + ci) (he : xst N a) (hr : (rfB ci)[k]? = some false) (hT : (Tt k).1 = C ∧ (Tt k).2.1 = fn ∧ (Tt k).2.2.1 = fd) (g : Cond.fieldLink own ix C fn fd ∈ Gw) (d : decode cc pc = .ok (.getfield ix, 3))
    (kk : W p l e R s m args below meth c H locs cells slots Q (F0 m (pc + 3) ls (.int (w a k) :: rest))) : W p l e R s m args below meth c H locs cells slots Q (F0 m pc ls (.ref (ad a) :: rest)) := by
  obtain ⟨q1, q2, q3, q4, q5, q6, q7, q8, q9, q10⟩ := hx
  obtain ⟨t1, t2, t3⟩ := hT
  have hk : k < Nc := by rw [← fc.2.2.2]; exact (List.getElem?_eq_some_iff.mp hr).1
  exact va_get (D := D) (ci := vi ci) (v := .int (w a k)) (C := C) (T := Tt) (N := Nc) (ref := C) q1 q2 q5 fc.2.1 q4 q8.1 hL.1.1 (ps a) (by rw [cx_l hL.1.2.2.1 he, cve_obj ha]) fc.1 k hk (by rw [t2, t3]; exact q5 _ g) (fun _ h9 => by rw [t1] at h9; exact h9) (fvv_int hr) d kk
theorem L_putI (hx : LxC p l s m args meth c own cc nL D aT tys ad adV A) (hL : Lx D ad aT N A s.heap (cm z) X H locs) {ci Nc ix : Nat} {C fn fd : String} {Tt : u_T} (k : Nat) {a : Nat} {v : Int} (ty : FieldType) (ty0 : Nat → FieldType) (fc : fcl ci C Tt Nc) (hty : ∀ k, k < Nc → parseFieldDescriptor (Tt k).2.2.1 = some (ty0 k)) (ha : shK a = 10 + ci) (he : xst N a) (h9 : ¬ a = 999) (hr : (rfB ci)[k]? = some false) (hT : (Tt k).1 = C ∧ (Tt k).2.1 = fn ∧ (Tt k).2.2.1 = fd ∧ (Tt k).2.2.2 = false ∧ parseFieldDescriptor fd = some ty) (hn : narrow ty (.int (oI v)) = .int (oI v)) (hfit : fits ty (.int (oI v)) = true) (g : Cond.fieldLink own ix C fn fd ∈ Gw) (d : decode cc pc = .ok (.putfield ix, 3))
    (kk : ∀ (H1 : Heap) (locs1 : List Loc), Lx D ad aT N A s.heap (cm (iset z a (k : Int) v)) X H1 locs1 → W p l e R s m args below meth c H1 locs1 cells slots Q (F0 m (pc + 3) ls rest)) : W p l e R s m args below meth c H locs cells slots Q (F0 m pc ls (.int (oI v) :: .ref (ad a) :: rest)) := by
  obtain ⟨q1, q2, q3, q4, q5, q6, q7, q8, q9, q10⟩ := hx
  obtain ⟨t1, t2, t3, t4, t5⟩ := hT
  have hk : k < Nc := by rw [← fc.2.2.2]; exact (List.getElem?_eq_some_iff.mp hr).1
  refine va_put (D := D) (ci := vi ci) (v := .int (oI v)) (ty := ty) (C := C) (T := Tt) (N := Nc) (ref := C) q1 q2 q5 fc.2.1 ty0 hty fc.2.2.1 q4 q8.1 hL.1.1 hL.2.1 hL.2.2 (ps a) (by rw [cx_l hL.1.2.2.1 he, cve_obj ha]) fc.1 k hk (by rw [t2, t3]; exact q5 _ g) (fun _ h9 => by rw [t1] at h9; exact h9) t4 (by rw [t3]; exact t5) hn hfit (by rw [fvv_len, fc.2.2.2]; exact hk) d (fun H1 locs1 hP1 hD1 hS1 => kk H1 locs1 ?_)
  have e : (.inr (vi ci, (fvv ad (cm z a) (shR a) (rfB ci)).set k (.int (oI v))) : va_E) = cve ad aT (cm (iset z a (k : Int) v)) a := by rw [cm_set, cve_obj ha, fvv_set hr, aset_eq]
  have hne : ∀ b, b ≠ a → cm (iset z a (k : Int) v) b = cm z b := by rw [cm_set]; exact fun b hb => aset_ne b hb
  rw [e, conc_set hL.1.2.2.1 he hne] at hP1 hD1
  exact ⟨⟨hP1, nW_of (hne 999 (fun q => h9 q.symm)) hL.1.2.1, hL.1.2.2⟩, hD1, hS1⟩
theorem L_iald (hx : LxC p l s m args meth c own cc nL D aT tys ad adV A) {w : aW} (hL : Lx D ad aT N A s.heap w X H locs) {a i : Nat} {v : Int32} (hv : v = nI i) (he : xst N a) (ha : shK a = 0 ∨ shK a = 7) (hi : i < shL a) (hn : shL a ≤ 65536) (d : decode cc pc = .ok (.iaload, 1))
    (kk : W p l e R s m args below meth c H locs cells slots Q (F0 m (pc + 1) ls (.int (w a i) :: rest))) : W p l e R s m args below meth c H locs cells slots Q (F0 m pc ls (.int v :: .ref (ad a) :: rest)) := by
  subst hv
  refine va_iald hx.1 hx.2.1 hx.2.2.2.2.2.2.2.1.1 hL.1.1 (ps a) 0 (by rw [cx_l hL.1.2.2.1 he, cve_arr rfl ha]) rfl (vp_in_nI hi (by omega)) d ?_
  rw [nI_clamp (by omega)]
  exact kk
theorem L_iast (hx : LxC p l s m args meth c own cc nL D aT tys ad adV A) (hL : Lx D ad aT N A s.heap (cm z) X H locs) {a i : Nat} {v : Int32} {x : Int} (hv : v = nI i) (he : xst N a) (h9 : ¬ a = 999) (ha : shK a = 0 ∨ shK a = 7) (hi : i < shL a) (hn : shL a ≤ 65536) (d : decode cc pc = .ok (.iastore, 1))
    (kk : ∀ (H1 : Heap) (locs1 : List Loc), Lx D ad aT N A s.heap (cm (iset z a (i : Int) x)) X H1 locs1 → W p l e R s m args below meth c H1 locs1 cells slots Q (F0 m (pc + 1) ls rest)) : W p l e R s m args below meth c H locs cells slots Q (F0 m pc ls (.int (oI x) :: .int v :: .ref (ad a) :: rest)) := by
  subst hv
  refine va_iast hx.1 hx.2.1 hx.2.2.2.2.2.2.2.1.1 hL.1.1 hL.2.1 hL.2.2 (ps a) 0 (by rw [cx_l hL.1.2.2.1 he, cve_arr rfl ha]) rfl (vp_in_nI hi (by omega)) d (fun H1 locs1 hP1 hD1 hS1 => kk H1 locs1 ?_)
  rw [nI_clamp (by omega)] at hP1 hD1
  have e : (.inl (aT 0, shL a, .inl (upd (cm z a) i (oI x))) : va_E) = cve ad aT (cm (iset z a (i : Int) x)) a := by rw [cm_set, cve_arr rfl ha, aset_eq]
  have hne : ∀ b, b ≠ a → cm (iset z a (i : Int) x) b = cm z b := by rw [cm_set]; exact fun b hb => aset_ne b hb
  rw [e, conc_set hL.1.2.2.1 he hne] at hP1 hD1
  exact ⟨⟨hP1, nW_of (hne 999 (fun q => h9 q.symm)) hL.1.2.1, hL.1.2.2⟩, hD1, hS1⟩
theorem L_aald (hx : LxC p l s m args meth c own cc nL D aT tys ad adV A) {w : aW} (hL : Lx D ad aT N A s.heap w X H locs) {a i : Nat} {v : Int32} (hv : v = nI i) (he : xst N a) (ha : shK a = 4) (hi : i < shL a) (hn : shL a ≤ 65536) (d : decode cc pc = .ok (.aaload, 1))
    (kk : W p l e R s m args below meth c H locs cells slots Q (F0 m (pc + 1) ls (.ref (ad (shR a i)) :: rest))) : W p l e R s m args below meth c H locs cells slots Q (F0 m pc ls (.int v :: .ref (ad a) :: rest)) := by
  subst hv
  refine vl_aald (f := fun j => some (ad (shR a j))) hx.1 hx.2.1 hx.2.2.2.2.2.2.2.1.1 hL.1.1 (ps a) 2 (by rw [cx_l hL.1.2.2.1 he, cve_ref4 ha]) rfl (vp_in_nI hi (by omega)) d ?_
  rw [nI_clamp (by omega)]
  exact kk
/-- a static method of the abstract machine -/
theorem L_callS {T2 : Type} {X2 : Option T2} {cv2 : T2 → aO} (hx : LxC p l s m args meth c own cc nL D aT tys ad adV A) {w : aW} {y : MethodName} {cc2 : ByteArray} {nL2 dp2 mc2 ix n : Nat} {ret2 : Option FieldType} (As : List Value) (st : List Value) {sk : List Value}
    (hE : Ev y cc2 nL2 ret2 dp2 mc2 cv2 As w X2) (hm : SMet y cc2 nL2 ret2 n) (g : Cond.methodLink own ix y ∈ Gw) (d : decode cc pc = .ok (.invokestatic ix, 3)) (hs : sk = (As.map (cvv ad)).reverse ++ st) (hn : As.length = n) (hst : (st.map fun v => v.category).sum ≤ 8) (hfr : dp2 + 1 ≤ R.frames ∧ 8 + (nL2 + 11) + 39 * dp2 ≤ R.locals) (hj : cells + mc2 ≤ R.cells ∧ slots + 6 * mc2 ≤ R.slots)
    (hls : ls.size = nL) (hL : Lx D ad aT N A s.heap w X H locs) {r2 : T2} (h2 : X2 = some r2)
    (kk : ∀ v, (cv2 r2).1 = .inl v → ∀ (H1 : Heap) (locs1 : List Loc), Lx D ad aT N A s.heap (cv2 r2).2 X H1 locs1 → W p l e R s m args below meth c H1 locs1 (cells + mc2) (slots + 6 * mc2) Q (F0 m (pc + 3) ls ((v.map (cvv ad)).toList ++ st)))
    (kx : ∀ E, (cv2 r2).1 = .inr E → ∀ (H1 : Heap) (locs1 : List Loc) (q : Addr) (ce : Cell), Lx D ad aT N A s.heap (cv2 r2).2 X H1 locs1 → H1[q]? = some ce → ce.vm = .none → s.vm.findClass E = some ce.cls → vx_W p l e R s m args below meth c H1 locs1 (cells + mc2) (slots + 6 * mc2) Q (F0 m pc ls st) q) :
    W p l e R s m args below meth c H locs cells slots Q (F0 m pc ls sk) := by
  subst hs
  obtain ⟨q1, q2, q3, q4, q5, q6, q7, q8, q9, q10⟩ := id hx
  obtain ⟨m1, m3, m4, m5, m6, m7⟩ := hm
  have hM := hE r2 h2 l q7 D ad aT N adV H.size
  have hr := vx_runS (p := p) (e := e) (R := R) (below := below) (meth := meth) (H := H) (locs := locs) (cells := cells) (slots := slots) (As := As.map (cvv ad)) (rest := st) (own := own) (index := ix) (n := n) (g := F0 m pc ls ((As.map (cvv ad)).reverse ++ st)) (S := (⟨q1, q2, q3, q4, q5⟩ : CallFix p m c cc nL s args Gw own)) hM
    (cw := ⟨⟨rfl, rfl, hfr.1, hfr.2, L_ws hx m4, List.mem_cons_self, q5 _ m4, q5 _ m3, m5, hx_par m6, q5 _ g⟩, q5 _ m1⟩)
    ⟨PcE_blind, fun U hU hW => L_at hx hL As hU hW⟩
    rfl (by rw [List.length_map]; exact hn) hls rfl (by show 2 * 0 + _ ≤ 8; omega) d hj
  exact L_run hr hL q10 kk kx
end LM
