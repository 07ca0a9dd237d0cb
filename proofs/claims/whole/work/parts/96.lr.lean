/-! ===== rows over the abstract heap beside other cells ===== -/
section LR2
variable {p : Program} {l : Launch} {e : Env} {R : Room} {s : State} {m : MethodId} {args : Array Value} {below : List Frame} {meth : Method} {c : Code} {H H0 : Heap} {locs : List Loc} {cells slots : Nat} {Q : State → Prop}
variable {D : va_G} {ad adV : Nat → Nat} {aT : Nat → ClassId} {A : Nat → Prop} {X : va_W} {tys : List (ClassId × FieldType)} {own : String} {cc : ByteArray} {nL pc : Nat} {ls : Array Slot} {rest : List Value}
theorem cx_set {w w1 : aW} {a : Nat} (ha : a < shN) (h : ∀ b, b ≠ a → w1 b = w b) : (conc ad aT w ++ X).set a (ad a, cve ad aT w1 a) = conc ad aT w1 ++ X := by
  have e : (conc ad aT w ++ X).set a (ad a, cve ad aT w1 a) = (conc ad aT w).set a (ad a, cve ad aT w1 a) ++ X := by
    rw [List.set_append, if_pos (by rw [conc_len]; exact ha)]
  rw [e, conc_set h]
theorem L_getR {w : aW} (hx : LxC p l s m args meth c own cc nL D aT tys ad adV A) (hL : Lx D ad aT A s.heap w X H locs) {ci N ix b : Nat} {C fn fd : String} {Tt : u_T} (k : Nat) {a : Nat} (fc : fcl ci C Tt N) (ha : shK a = 10 + ci) (hb : shR a k = b) (hr : (rfB ci)[k]? = some true) (hT : (Tt k).1 = C ∧ (Tt k).2.1 = fn ∧ (Tt k).2.2.1 = fd) (g : Cond.fieldLink own ix C fn fd ∈ Gw) (d : decode cc pc = .ok (.getfield ix, 3))
    (kk : W p l e R s m args below meth c H locs cells slots Q (F0 m (pc + 3) ls (.ref (ad b) :: rest))) : W p l e R s m args below meth c H locs cells slots Q (F0 m pc ls (.ref (ad a) :: rest)) := by
  obtain ⟨q1, q2, q3, q4, q5, q6, q7, q8, q9, q10⟩ := hx
  obtain ⟨t1, t2, t3⟩ := hT
  subst hb
  have hk : k < N := by rw [← fc.2.2.2]; exact (List.getElem?_eq_some_iff.mp hr).1
  exact va_get (D := D) (ci := ci) (v := .ref (ad (shR a k))) (C := C) (T := Tt) (N := N) (ref := C) q1 q2 q5 fc.2.1 q4 q8 hL.1 a (by rw [cx_l (shK_lt ha (by omega)), cve_obj ha]) fc.1 k hk (by rw [t2, t3]; exact q5 _ g) (fun _ h9 => by rw [t1] at h9; exact h9) (fvv_ref hr) d kk
theorem L_getI {w : aI} (hx : LxC p l s m args meth c own cc nL D aT tys ad adV A) (hL : Lx D ad aT A s.heap (cm w) X H locs) {ci N ix : Nat} {C fn fd : String} {Tt : u_T} (k : Nat) (kI : Int) (hkI : (k : Int) = kI) {a : Nat} (fc : fcl ci C Tt N) (ha : shK a = 10 + ci) (hr : (rfB ci)[k]? = some false) (hT : (Tt k).1 = C ∧ (Tt k).2.1 = fn ∧ (Tt k).2.2.1 = fd) (g : Cond.fieldLink own ix C fn fd ∈ Gw) (d : decode cc pc = .ok (.getfield ix, 3))
    (kk : W p l e R s m args below meth c H locs cells slots Q (F0 m (pc + 3) ls (.int (oI (w a kI)) :: rest))) : W p l e R s m args below meth c H locs cells slots Q (F0 m pc ls (.ref (ad a) :: rest)) := by
  obtain ⟨q1, q2, q3, q4, q5, q6, q7, q8, q9, q10⟩ := hx
  obtain ⟨t1, t2, t3⟩ := hT
  subst hkI
  have hk : k < N := by rw [← fc.2.2.2]; exact (List.getElem?_eq_some_iff.mp hr).1
  exact va_get (D := D) (ci := ci) (v := .int (cm w a k)) (C := C) (T := Tt) (N := N) (ref := C) q1 q2 q5 fc.2.1 q4 q8 hL.1 a (by rw [cx_l (shK_lt ha (by omega)), cve_obj ha]) fc.1 k hk (by rw [t2, t3]; exact q5 _ g) (fun _ h9 => by rw [t1] at h9; exact h9) (fvv_int hr) d kk
theorem L_put {w : aI} (hx : LxC p l s m args meth c own cc nL D aT tys ad adV A) (hL : Lx D ad aT A s.heap (cm w) X H locs) {ci N ix : Nat} {C fn fd : String} {Tt : u_T} (k : Nat) (kI : Int) (hkI : (k : Int) = kI) {a : Nat} {v : Int} (ty : FieldType) (ty0 : Nat → FieldType) (fc : fcl ci C Tt N) (hty : ∀ k, k < N → parseFieldDescriptor (Tt k).2.2.1 = some (ty0 k)) (ha : shK a = 10 + ci) (hr : (rfB ci)[k]? = some false) (hT : (Tt k).1 = C ∧ (Tt k).2.1 = fn ∧ (Tt k).2.2.1 = fd ∧ (Tt k).2.2.2 = false ∧ parseFieldDescriptor fd = some ty) (hn : narrow ty (.int (oI v)) = .int (oI v)) (hfit : fits ty (.int (oI v)) = true) (g : Cond.fieldLink own ix C fn fd ∈ Gw) (d : decode cc pc = .ok (.putfield ix, 3))
    (kk : ∀ (H1 : Heap) (locs1 : List Loc), Lx D ad aT A s.heap (cm (iset w a kI v)) X H1 locs1 → W p l e R s m args below meth c H1 locs1 cells slots Q (F0 m (pc + 3) ls rest)) : W p l e R s m args below meth c H locs cells slots Q (F0 m pc ls (.int (oI v) :: .ref (ad a) :: rest)) := by
  obtain ⟨q1, q2, q3, q4, q5, q6, q7, q8, q9, q10⟩ := hx
  obtain ⟨t1, t2, t3, t4, t5⟩ := hT
  subst hkI
  have hk : k < N := by rw [← fc.2.2.2]; exact (List.getElem?_eq_some_iff.mp hr).1
  have hlt := shK_lt ha (by omega)
  refine va_put (D := D) (ci := ci) (v := .int (oI v)) (ty := ty) (C := C) (T := Tt) (N := N) (ref := C) q1 q2 q5 fc.2.1 ty0 hty fc.2.2.1 q4 q8 hL.1 hL.2.1 hL.2.2 a (by rw [cx_l hlt, cve_obj ha]) fc.1 k hk (by rw [t2, t3]; exact q5 _ g) (fun _ h9 => by rw [t1] at h9; exact h9) t4 (by rw [t3]; exact t5) hn hfit (by rw [fvv_len, fc.2.2.2]; exact hk) d (fun H1 locs1 hP1 hD1 hS1 => kk H1 locs1 ?_)
  have e : (.inr (ci, (fvv ad (cm w a) (shR a) (rfB ci)).set k (.int (oI v))) : va_E) = cve ad aT (aset (cm w) a k (oI v)) a := by rw [cve_obj ha, fvv_set hr, aset_eq]
  rw [e, cx_set hlt aset_ne, ← cm_set] at hP1 hD1
  exact ⟨hP1, hD1, hS1⟩
theorem L_iald {w : aI} (hx : LxC p l s m args meth c own cc nL D aT tys ad adV A) (hL : Lx D ad aT A s.heap (cm w) X H locs) {a : Nat} {i : Int} (ha : shK a = 0) (hi : inI i (shL a)) (d : decode cc pc = .ok (.iaload, 1))
    (kk : W p l e R s m args below meth c H locs cells slots Q (F0 m (pc + 1) ls (.int (oI (w a i)) :: rest))) : W p l e R s m args below meth c H locs cells slots Q (F0 m pc ls (.int (oI i) :: .ref (ad a) :: rest)) := by
  obtain ⟨q1, q2, q3, q4, q5, q6, q7, q8, q9, q10⟩ := hx
  refine va_iald q1 q2 q8 hL.1 a 0 (by rw [cx_l (shK_lt ha (by omega)), cve_arr ha (by omega)]) rfl (inI_inb hi) d ?_
  rw [cm_at w a hi.1 (inI_rg hi)]
  exact kk
theorem L_iast {w : aI} (hx : LxC p l s m args meth c own cc nL D aT tys ad adV A) (hL : Lx D ad aT A s.heap (cm w) X H locs) {a : Nat} {i v : Int} (ha : shK a = 0) (hi : inI i (shL a)) (d : decode cc pc = .ok (.iastore, 1))
    (kk : ∀ (H1 : Heap) (locs1 : List Loc), Lx D ad aT A s.heap (cm (iset w a i v)) X H1 locs1 → W p l e R s m args below meth c H1 locs1 cells slots Q (F0 m (pc + 1) ls rest)) : W p l e R s m args below meth c H locs cells slots Q (F0 m pc ls (.int (oI v) :: .int (oI i) :: .ref (ad a) :: rest)) := by
  obtain ⟨q1, q2, q3, q4, q5, q6, q7, q8, q9, q10⟩ := hx
  have hlt := shK_lt ha (by omega)
  refine va_iast q1 q2 q8 hL.1 hL.2.1 hL.2.2 a 0 (by rw [cx_l hlt, cve_arr ha (by omega)]) rfl (inI_inb hi) d (fun H1 locs1 hP1 hD1 hS1 => kk H1 locs1 ?_)
  have e : (.inl (aT 0, shL a, .inl (upd (cm w a) (oI i).toNatClampNeg (oI v))) : va_E) = cve ad aT (aset (cm w) a (oI i).toNatClampNeg (oI v)) a := by rw [cve_arr ha (by omega), aset_eq]
  rw [e, cx_set hlt aset_ne, ← cm_setI w a hi.1 (inI_rg hi)] at hP1 hD1
  exact ⟨hP1, hD1, hS1⟩
/-- an int array of the method's own -/
theorem L_newa {w : aW} (hx : LxC p l s m args meth c own cc nL D aT tys ad adV A) (hL : Lx D ad aT A s.heap w X H locs) {n : Int32} {N' : Nat} (hn : ¬ n < 0) (hN : n.toNatClampNeg = N') (hbytes : N' * componentBytes .int ≤ 536870912) (g : Cond.arrayClass .int ∈ Gw) (hj : cells + 1 ≤ R.cells ∧ slots + N' ≤ R.slots) (d : decode cc pc = .ok (.newarray .int, 2))
    (kk : ∀ (q : Nat) (H1 : Heap), Lx D ad aT A s.heap w (X ++ [(q, .inl (aT 0, N', .inl fun _ => 0))]) H1 locs → W p l e R s m args below meth c H1 locs (cells + 1) (slots + N') Q (F0 m (pc + 2) ls (.ref q :: rest))) : W p l e R s m args below meth c H locs cells slots Q (F0 m pc ls (.int n :: rest)) := by
  obtain ⟨q1, q2, q3, q4, q5, q6, q7, q8, q9, q10⟩ := hx
  have hK := q8.sub (tys' := tysA aT) [0, 1, 2, 3] rfl
  refine va_newa (atype := .int) (ty := .int) (a0 := (N', .inl fun _ => 0)) q1 q2 (q5 _ g) rfl hK hL.1 hL.2.1 hL.2.2 q10 (fun _ => rfl) hn hN hbytes hj.1 hj.2 d (fun q cA H1 a0 a1 a2 a3 => ?_)
  have h1 := int_ra (fun _ h => by cases h) (a0.2 4 (cA, .int) rfl).2
  have h2 := int_ra (fun _ h => by cases h) (hK.2 0 (aT 0, .int) rfl).2
  have e : cA = aT 0 := Option.some.inj (h1.symm.trans h2)
  subst e
  rw [List.append_assoc] at a1 a2
  exact kk q H1 ⟨a1, a2, a3⟩
theorem L_iastX {w : aW} (hx : LxC p l s m args meth c own cc nL D aT tys ad adV A) {q n : Nat} {f : Nat → Int32} (hL : Lx D ad aT A s.heap w [(q, .inl (aT 0, n, .inl f))] H locs) {i v : Int32} (hi : ¬ (i < 0 ∨ n ≤ i.toNatClampNeg)) (d : decode cc pc = .ok (.iastore, 1))
    (kk : ∀ (H1 : Heap) (locs1 : List Loc), Lx D ad aT A s.heap w [(q, .inl (aT 0, n, .inl (upd f i.toNatClampNeg v)))] H1 locs1 → W p l e R s m args below meth c H1 locs1 cells slots Q (F0 m (pc + 1) ls rest)) : W p l e R s m args below meth c H locs cells slots Q (F0 m pc ls (.int v :: .int i :: .ref q :: rest)) := by
  obtain ⟨q1, q2, q3, q4, q5, q6, q7, q8, q9, q10⟩ := hx
  refine va_iast q1 q2 q8 hL.1 hL.2.1 hL.2.2 223 0 (cx_r (k := 0)) rfl hi d (fun H1 locs1 hP1 hD1 hS1 => kk H1 locs1 ?_)
  have e : ∀ x y : Nat × va_E, (conc ad aT w ++ [x]).set 223 y = conc ad aT w ++ [y] := by
    intro x y
    rw [List.set_append, if_neg (by rw [conc_len]; omega), conc_len]
    rfl
  rw [e] at hP1 hD1
  exact ⟨hP1, hD1, hS1⟩
theorem L_ialdX {w : aW} (hx : LxC p l s m args meth c own cc nL D aT tys ad adV A) {q n : Nat} {f : Nat → Int32} (hL : Lx D ad aT A s.heap w [(q, .inl (aT 0, n, .inl f))] H locs) {i : Int32} (hi : ¬ (i < 0 ∨ n ≤ i.toNatClampNeg)) (d : decode cc pc = .ok (.iaload, 1))
    (kk : W p l e R s m args below meth c H locs cells slots Q (F0 m (pc + 1) ls (.int (f i.toNatClampNeg) :: rest))) : W p l e R s m args below meth c H locs cells slots Q (F0 m pc ls (.int i :: .ref q :: rest)) := by
  obtain ⟨q1, q2, q3, q4, q5, q6, q7, q8, q9, q10⟩ := hx
  exact va_iald q1 q2 q8 hL.1 223 0 (cx_r (k := 0)) rfl hi d kk
theorem L_strlen {w : aW} (hx : LxC p l s m args meth c own cc nL D aT tys ad adV A) (hL : Lx D ad aT A s.heap w X H locs) {i ix : Nat} (hi : i < 34) (g : Cond.methodLink own ix yJ0_length_8abf5 ∈ Gw) (d : decode cc pc = .ok (.invokevirtual ix, 3)) (hst : (rest.map fun v => v.category).sum ≤ 8) (hR : 6 ≤ R.frames ∧ 234 ≤ R.locals) (hj : cells ≤ R.cells ∧ slots ≤ R.slots) (hls : ls.size = nL) {n : Int32} (hn : Int32.ofNat (xB i).length >>> ((0 : Int32) &&& 31) = n)
    (kk : ∀ (H1 : Heap) (locs1 : List Loc), Lx D ad aT A s.heap w X H1 locs1 → W p l e R s m args below meth c H1 locs1 cells slots Q (F0 m (pc + 3) ls (.int n :: rest))) : W p l e R s m args below meth c H locs cells slots Q (F0 m pc ls (.ref (ad (sx i)) :: rest)) := by
  subst hn
  refine L_callStr hx hi [] rest (ev_slength hi w) vm_slength g d rfl rfl hst ⟨by omega, by omega⟩ hj hls hL rfl (fun v hv H1 locs1 hL1 => ?_) (fun E hE => absurd hE (by intro h; cases h))
  cases hv
  exact kk H1 locs1 hL1
theorem L_strchr {w : aW} (hx : LxC p l s m args meth c own cc nL D aT tys ad adV A) (hL : Lx D ad aT A s.heap w X H locs) {i ix k : Nat} {kk9 : Int32} (hi : i < 34) (hk9 : kk9 = oI (k : Int)) (hk : k < (xB i).length) (g : Cond.methodLink own ix yJ0_charAt_5068e ∈ Gw) (d : decode cc pc = .ok (.invokevirtual ix, 3)) (hst : (rest.map fun v => v.category).sum ≤ 8) (hR : 6 ≤ R.frames ∧ 234 ≤ R.locals) (hj : cells ≤ R.cells ∧ slots ≤ R.slots) (hls : ls.size = nL)
    (kk : ∀ (H1 : Heap) (locs1 : List Loc), Lx D ad aT A s.heap w X H1 locs1 → W p l e R s m args below meth c H1 locs1 cells slots Q (F0 m (pc + 3) ls (.int (oI ((xB i).getD k 0).toInt) :: rest))) : W p l e R s m args below meth c H locs cells slots Q (F0 m pc ls (.int kk9 :: .ref (ad (sx i)) :: rest)) := by
  subst hk9
  obtain ⟨l1, l2, l3⟩ := xB_lenz i hi
  have hrk : rg (k : Int) := by omega
  have n1 : (oI (k : Int)).toNatClampNeg = k := by rw [oI_nat hrk]; exact Int.toNat_natCast k
  have a1 : ¬ oI (k : Int) < 0 := by rw [oI_lt0 hrk]; omega
  have a2 : oI (k : Int) < Int32.ofNat (xB i).length := by rw [l2, oI_lt hrk (by omega)]; omega
  have a3 : inb (oI (k : Int)) (xB i).length := by
    rintro (z | z)
    · exact a1 z
    · rw [n1] at z; omega
  refine L_callStr hx hi [.int (oI (k : Int))] rest (ev_scharAt hi (oI (k : Int)) w) vm_scharAt g d rfl rfl hst ⟨by omega, by omega⟩ hj hls hL (r2 := (xB i).getD k 0) ?_ (fun v hv H1 locs1 hL1 => ?_) (fun E hE => absurd hE (by intro h; cases h))
  · unfold gd
    rw [if_neg a1, if_pos a2]
    show (if inb (oI (k : Int)) (xB i).length then some ((xB i).getD (oI (k : Int)).toNatClampNeg 0) else none) = _
    rw [if_pos a3, n1]
  · cases hv
    have h9 := kk H1 locs1 hL1
    rw [oI_of] at h9
    exact h9
end LR2
