/-! ===== rules for the law's cells; cells that are made ===== -/
theorem inI_inbG {i : Int} {n : Nat} (hn : n ≤ 8240) (h : inI i n) : inb (oI i) n := by
  have hr : rg i := by have := h.1; have := h.2; omega
  rw [inb, oI_lt0 hr, oI_nat hr]
  have := h.1; have := h.2
  omega
theorem shL5 {a : Nat} (ha : shK a = 5) : shL a = 30 := by
  have h1 : a < 331 := shK_lt ha (by decide)
  have h2 : ∀ a, a < 331 → shK a = 5 → shL a = 30 := by decide +kernel
  exact h2 a h1 ha
theorem shK5 {a : Nat} (ha : shK a = 5) : a = 329 ∨ a = 330 := by
  have h1 : a < 331 := shK_lt ha (by decide)
  have h2 : ∀ a, a < 331 → shK a = 5 → a = 329 ∨ a = 330 := by decide +kernel
  exact h2 a h1 ha
theorem kt4 {a i : Nat} (ha : shK a = 4) (hi : i < shL a) : shK (shR a i) = 7 := by
  have h1 : a < 331 := shK_lt ha (by decide)
  have h2 : ∀ a, a < 331 → shK a = 4 → shL a = 5 ∧ ∀ i, i < 5 → shK (shR a i) = 7 := by decide +kernel
  obtain ⟨h3, h4⟩ := h2 a h1 ha
  exact h4 i (by omega)
theorem asg_s (vm : Vm) (c : ClassId) : vm.assignable c c = true := by
  unfold Vm.assignable
  rw [Vm.assignableAux, beq_self_eq_true, Bool.true_or]
section LK
variable {p : Program} {l : Launch} {e : Env} {R : Room} {s : State} {m : MethodId} {args : Array Value} {below : List Frame} {meth : Method} {c : Code} {H : Heap} {locs : List Loc} {cells slots : Nat} {Q : State → Prop}
variable {cc : ByteArray} {pc : Nat} {ls : Array Slot} {rest : List Value} {D : va_G} {cl : List vw_C} {A : Nat → Prop} {a : Nat} {tys : List (ClassId × FieldType)} {ws : va_W} {H0 : Heap}
/-- a row of rows: one of them -/
theorem vl_aald (hexec : p.tables.exec = Jvm.exec) (hb : c.code = cc) (hK : va_K D cl tys s) (hP : va_P D cl ws H) (q0 t0 : Nat) {cA : ClassId} {ty : FieldType} {n : Nat} {f : Nat → Option Nat} (ha : ws[q0]? = some (a, .inl (cA, n, .inr (.inr (.inr (.inr f)))))) (ht : tys[t0]? = some (cA, .array ty)) {i : Int32} (hin : vp_in i n) (hdg : decode cc pc = .ok (.aaload, 1))
    (kk : W p l e R s m args below meth c H locs cells slots Q (F0 m (pc + 1) ls (va_rf (f i.toNatClampNeg) :: rest))) : W p l e R s m args below meth c H locs cells slots Q (F0 m pc ls (.int i :: .ref a :: rest)) := by
  have hlt : i.toNatClampNeg < n := Nat.not_le.mp fun q => hin (Or.inr q)
  refine W.aald (v := va_rf (f i.toNatClampNeg)) (ty := .array ty) hexec hb (hP q0 _ ha) ((hK.2 t0 _ ht).1 n (fun j => va_rf (f j))) rfl (fun q => by cases q) ?_ ?_ rfl rfl hdg kk
  · show ¬ (i < 0 ∨ (arrV _ _ _).slots.size ≤ _)
    rw [arrV_size]; exact hin
  · show (arrV _ _ _).slots[_]? = _
    rw [arrV_read _ _ hlt]
/-- a row stored in a row of rows -/
theorem vl_aast (hexec : p.tables.exec = Jvm.exec) (hb : c.code = cc) (hP : va_P D cl ws H) (hD : va_D A ws) (hS : va_S A H0 H locs) (q0 q1 : Nat) {cE cA : ClassId} {ty : FieldType} {n v n1 : Nat} {g : Nat → Int32} {f : Nat → Option Nat} {kA kE : Class} (ha : ws[q0]? = some (a, .inl (cA, n, .inr (.inr (.inr (.inr f)))))) (hv : ws[q1]? = some (v, .inl (cE, n1, .inl g))) (k1 : s.vm.classes[cA]? = some kA) (k2 : kA.kind = .array cE (.array ty)) (k3 : s.vm.classes[cE]? = some kE) (hasg : s.vm.assignable cE cE = true) {i : Int32} (hin : vp_in i n) (hdg : decode cc pc = .ok (.aastore, 1))
    (kk : ∀ (H1 : Heap) (locs1 : List Loc), va_P D cl (ws.set q0 (a, .inl (cA, n, .inr (.inr (.inr (.inr (va_up f i.toNatClampNeg (some v)))))))) H1 → va_S A H0 H1 locs1 → W p l e R s m args below meth c H1 locs1 cells slots Q (F0 m (pc + 1) ls rest)) : W p l e R s m args below meth c H locs cells slots Q (F0 m pc ls (.ref v :: .int i :: .ref a :: rest)) := by
  have hlt : i.toNatClampNeg < n := Nat.not_le.mp fun q => hin (Or.inr q)
  have h0 : ¬ i < 0 := fun q => hin (Or.inl q)
  refine W.aast hexec hb (hP q0 _ ha) (fun q h => by cases h) (fun h => by cases h) k1 k2 rfl k3 ⟨h0, ?_⟩ (hP q1 _ hv) (fun q h => by cases h) k3 hasg rfl rfl hdg fun H1 e9 z oq => ?_
  · show _ < (arrV _ _ _).slots.size
    rw [arrV_size]; exact hlt
  · refine kk H1 _ (hP.set hD ha ?_ oq) (hS.put z oq (hD.2 q0 _ ha))
    show H1[a]? = some (vp_cell _ _)
    rw [e9, vp_cell_q, vp_cell_q, arrV_store]
    congr 2
    funext q
    by_cases hq : q = i.toNatClampNeg
    · subst hq
      simp [updV, va_up, va_rf]
    · simp [updV, va_up, hq]
end LK
section LR
variable {T : Type} {x : Cx} {Qf : T → State → Prop} {own : String} {cc : ByteArray} {nL dp mc j pc : Nat} {ret : Option FieldType} {L : List (Nat × Value)} {st : List Value} {w : aI} {m : aW} {X Y : Option T}
/-- a row that was made later -/
def dy (x : Cx) (a : Nat) : Prop := 331 ≤ a ∧ a < xN x + 90
theorem dy.xq {a : Nat} (h : dy x a) : xst (xN x) a := Or.inr ⟨by have := h.1; omega, h.2⟩
theorem E_wid {j2 : Nat} (h : j ≤ j2) (k : EnQ x Qf j2 pc L st m X) : EnQ x Qf j pc L st m X := fun t ht H locs ls hP hS hl => W.widen h (Nat.mul_le_mul_left 6 h) (k t ht H locs ls hP hS hl)
theorem cP.nI {H : Heap} (h : cP x (cm w) H) (h1 : 0 ≤ w 999 0) (h2 : w 999 0 ≤ 800) : (w 999 0).toNat = xN x := by
  have h3 := h.2
  unfold nW cm at h3
  rw [show (((0 : Nat) : Int)) = 0 from rfl, oI_nat (by omega)] at h3
  exact h3
theorem E_gN (k : 241 ≤ xN x → EnQ x Qf j pc L st (cm w) X) : EnQ x Qf j pc L st (cm w) (gd (241 ≤ w 999 0 ∧ w 999 0 ≤ 800) X) := by
  intro t ht H locs ls hP hS hl
  by_cases c : 241 ≤ w 999 0 ∧ w 999 0 ≤ 800
  · rw [gd, if_pos c] at ht
    have := hP.nI (by omega) c.2
    exact k (by omega) t ht H locs ls hP hS hl
  · rw [gd, if_neg c] at ht; cases ht
theorem I_iald7 (hx : CxOK x own cc nL dp mc ret) (hN : 241 ≤ xN x) {a : Nat} {i : Int} (ha : shK a = 7) (d : decode cc pc = .ok (.iaload, 1)) (kk : EnQ x Qf j (pc + 1) L (.int (oI (w a i)) :: st) (cm w) X) : EnQ x Qf j pc L (.int (oI i) :: .ref a :: st) (cm w) (gd (inI i (shL a)) X) :=
  E_gd fun hi t ht H locs ls hP hS hl => by
    refine va_iald hx.ex hx.bs hx.kk hP.1 (ps a) 0 (by rw [hx.gt (hx.la hN ha rfl), cve_arr ha (by omega)]) rfl (inI_inb hi) d ?_
    rw [cm_at w a hi.1 (inI_rg hi)]
    exact kk t ht H locs ls hP hS hl
theorem I_iast7 (hx : CxOK x own cc nL dp mc ret) (hN : 241 ≤ xN x) {a : Nat} {i v : Int} {K : aI → Option T} (ha : shK a = 7) (d : decode cc pc = .ok (.iastore, 1)) (kk : ∀ w1 : aI, EnQ x Qf j (pc + 1) L st (cm w1) (K w1)) : EnQ x Qf j pc L (.int (oI v) :: .int (oI i) :: .ref a :: st) (cm w) (gd (inI i (shL a)) (ltM (iset w a i v) K)) :=
  E_gd fun hi t ht H locs ls hP hS hl => by
    have he := hx.la hN ha rfl
    refine va_iast hx.ex hx.bs hx.kk hP.1 (hx.dd _) hS (ps a) 0 (by rw [hx.gt he, cve_arr ha (by omega)]) rfl (inI_inb hi) d (fun H1 locs1 hP1 hD1 hS1 => kk (iset w a i v) t ht H1 locs1 ls ?_ hS1 hl)
    have e : (.inl (xaT x 0, shL a, .inl (upd (cm w a) (oI i).toNatClampNeg (oI v))) : va_E) = cve (xad x) (xaT x) (aset (cm w) a (oI i).toNatClampNeg (oI v)) a := by rw [cve_arr ha (by omega), aset_eq]
    rw [e, hx.st he aset_ne, ← cm_setI w a hi.1 (inI_rg hi)] at hP1
    exact ⟨hP1, by rw [cm_setI w a hi.1 (inI_rg hi)]; exact nW_of (aset_ne 999 (hx.n9 he)) hP.2⟩
theorem I_aald4 (hx : CxOK x own cc nL dp mc ret) (hN : 241 ≤ xN x) {a : Nat} {i : Int} (ha : shK a = 4) (d : decode cc pc = .ok (.aaload, 1)) (kk : shK (shR a i.toNat) = 7 → EnQ x Qf j (pc + 1) L (.ref (shR a i.toNat) :: st) (cm w) X) : EnQ x Qf j pc L (.int (oI i) :: .ref a :: st) (cm w) (gd (inI i (shL a)) X) :=
  E_gd fun hi t ht H locs ls hP hS hl => by
    have he := hx.la hN ha rfl
    refine vl_aald (f := fun k => some (xad x (shR a k))) hx.ex hx.bs hx.kk hP.1 (ps a) 2 (by rw [hx.gt he, cve_ref4 ha]) rfl (inI_inb hi) d ?_
    rw [oI_nat (inI_rg hi)]
    have h1 := hi.1
    have h2 := hi.2
    exact kk (kt4 ha (by omega)) t ht H locs ls hP hS hl
theorem I_aald5 (hx : CxOK x own cc nL dp mc ret) (hN : 241 ≤ xN x) {a : Nat} {i : Int} (ha : shK a = 5) (d : decode cc pc = .ok (.aaload, 1)) (kk : dy x (w a i).toNat → EnQ x Qf j (pc + 1) L (.ref (w a i).toNat :: st) (cm w) X) : EnQ x Qf j pc L (.int (oI i) :: .ref a :: st) (cm w) (gd (inI i (shL a) ∧ 331 ≤ w a i ∧ w a i < w 999 0 + 90 ∧ w 999 0 ≤ 800) X) :=
  E_gd fun hi t ht H locs ls hP hS hl => by
    have he := hx.la hN ha rfl
    obtain ⟨hi, h1, h2, h3⟩ := hi
    refine vl_aald (f := r5 (xad x) (cm w a)) hx.ex hx.bs hx.kk hP.1 (ps a) 2 (by rw [hx.gt he, cve_ref5 ha]) rfl (inI_inb hi) d ?_
    have hr : rg (w a i) := by omega
    have hl5 := shL5 ha
    have h4 := hi.2
    have h5 := hi.1
    rw [r5, cm_at w a hi.1 (inI_rg hi), if_neg (by rw [oI_eq0 hr, oI_nat (inI_rg hi)]; omega), oI_nat hr]
    have h9 := hP.nI (by omega) h3
    exact kk ⟨by omega, by omega⟩ t ht H locs ls hP hS hl
theorem dy_len {H : Heap} {a : Nat} (hP : cP x (cm w) H) (h : w a 100 ≤ 100) (h0 : 0 ≤ w a 100) : (cm w a 100).toNatClampNeg = (w a 100).toNat := by
  unfold cm
  rw [show ((100 : Nat) : Int) = 100 from rfl, oI_nat (by omega)]
theorem I_iald6 (hx : CxOK x own cc nL dp mc ret) {a : Nat} {i : Int} (ha : dy x a) (d : decode cc pc = .ok (.iaload, 1)) (kk : EnQ x Qf j (pc + 1) L (.int (oI (w a i)) :: st) (cm w) X) : EnQ x Qf j pc L (.int (oI i) :: .ref a :: st) (cm w) (gd (inI i (w a 100).toNat ∧ w a 100 ≤ 100) X) :=
  E_gd fun hi t ht H locs ls hP hS hl => by
    have he := ha.xq
    obtain ⟨hi, h1⟩ := hi
    have h2 := hi.1
    have h3 := hi.2
    refine va_iald hx.ex hx.bs hx.kk hP.1 (ps a) 0 (by rw [hx.gt he, cve_dyn ha.1, dy_len hP h1 (by omega)]) rfl (inI_inbG (by omega) hi) d ?_
    rw [cm_at w a hi.1 (by omega)]
    exact kk t ht H locs ls hP hS hl
theorem I_alen6 (hx : CxOK x own cc nL dp mc ret) {a : Nat} (ha : dy x a) (d : decode cc pc = .ok (.arraylength, 1)) (kk : rg (w a 100) → EnQ x Qf j (pc + 1) L (.int (oI (w a 100)) :: st) (cm w) X) : EnQ x Qf j pc L (.ref a :: st) (cm w) (gd (0 ≤ w a 100 ∧ w a 100 ≤ 100) X) :=
  E_gd fun hi t ht H locs ls hP hS hl => by
    have he := ha.xq
    refine va_alen (x := ((w a 100).toNat, .inl (cm w a))) hx.ex hx.bs hx.kk hP.1 (ps a) 0 (by rw [hx.gt he, cve_dyn ha.1, dy_len hP hi.2 hi.1]) rfl rfl d ?_
    have e : Int32.ofNat (w a 100).toNat = oI (w a 100) := by
      rw [oI, ← Int32.ofInt_eq_ofNat, Int.toNat_of_nonneg hi.1]
    rw [e]
    exact kk (by omega) t ht H locs ls hP hS hl
theorem I_iast6 (hx : CxOK x own cc nL dp mc ret) {a : Nat} {i v : Int} {K : aI → Option T} (ha : dy x a) (d : decode cc pc = .ok (.iastore, 1)) (kk : ∀ w1 : aI, EnQ x Qf j (pc + 1) L st (cm w1) (K w1)) : EnQ x Qf j pc L (.int (oI v) :: .int (oI i) :: .ref a :: st) (cm w) (gd (inI i (w a 100).toNat ∧ w a 100 ≤ 100) (ltM (iset w a i v) K)) :=
  E_gd fun hi t ht H locs ls hP hS hl => by
    have he := ha.xq
    obtain ⟨hi, h1⟩ := hi
    have h2 := hi.1
    have h3 := hi.2
    refine va_iast hx.ex hx.bs hx.kk hP.1 (hx.dd _) hS (ps a) 0 (by rw [hx.gt he, cve_dyn ha.1, dy_len hP h1 (by omega)]) rfl (inI_inbG (by omega) hi) d (fun H1 locs1 hP1 hD1 hS1 => kk (iset w a i v) t ht H1 locs1 ls ?_ hS1 hl)
    have e : (.inl (xaT x 0, (w a 100).toNat, .inl (upd (cm w a) (oI i).toNatClampNeg (oI v))) : va_E) = cve (xad x) (xaT x) (aset (cm w) a (oI i).toNatClampNeg (oI v)) a := by
      have e2 : upd (cm w a) (oI i).toNatClampNeg (oI v) 100 = cm w a 100 := if_neg (by rw [oI_nat (by omega)]; omega)
      rw [cve_dyn ha.1, aset_eq, e2, dy_len hP h1 (by omega)]
    rw [e, hx.st he aset_ne, ← cm_setI w a hi.1 (by omega)] at hP1
    exact ⟨hP1, by rw [cm_setI w a hi.1 (by omega)]; exact nW_of (aset_ne 999 (hx.n9 he)) hP.2⟩
theorem I_aast5 (hx : CxOK x own cc nL dp mc ret) (hN : 241 ≤ xN x) {a b : Nat} {i : Int} {K : aI → Option T} (ha : shK a = 5) (hb : dy x b) (d : decode cc pc = .ok (.aastore, 1)) (kk : ∀ w1 : aI, EnQ x Qf j (pc + 1) L st (cm w1) (K w1)) : EnQ x Qf j pc L (.ref b :: .int (oI i) :: .ref a :: st) (cm w) (gd (inI i (shL a)) (ltM (iset w a i b) K)) :=
  E_gd fun hi t ht H locs ls hP hS hl => by
    have he := hx.la hN ha rfl
    have hbr : rg (b : Int) := by have := hb.2; have := hx.n8; omega
    have hb1 := hb.1
    obtain ⟨kA, kE, k1, k2, k3⟩ := hx.ka.2
    refine vl_aast (f := r5 (xad x) (cm w a)) (v := xad x b) hx.ex hx.bs hP.1 (hx.dd _) hS (ps a) (ps b) (by rw [hx.gt he, cve_ref5 ha]) (by rw [hx.gt hb.xq, cve_dyn hb1]) k1 k2 k3 (asg_s _ _) (inI_inb hi) d (fun H1 locs1 hP1 hS1 => kk (iset w a i b) t ht H1 locs1 ls ?_ hS1 hl)
    have e : (.inl (xaT x 2, shL a, .inr (.inr (.inr (.inr (va_up (r5 (xad x) (cm w a)) (oI i).toNatClampNeg (some (xad x b))))))) : va_E) = cve (xad x) (xaT x) (aset (cm w) a (oI i).toNatClampNeg (oI b)) a := by
      rw [cve_ref5 ha, aset_eq]
      congr 7
      funext k
      unfold va_up r5 upd
      by_cases q : k = (oI i).toNatClampNeg
      · have hl5 := shL5 ha
        have h4 := hi.2
        have h5 := hi.1
        have h6 : (oI i).toNatClampNeg = i.toNat := oI_nat (inI_rg hi)
        rw [if_pos q, if_pos q, if_neg (by rw [oI_eq0 hbr]; omega), oI_nat hbr, Int.toNat_natCast]
      · rw [if_neg q, if_neg q]
    rw [e, hx.st he aset_ne, ← cm_setI w a hi.1 (inI_rg hi)] at hP1
    exact ⟨hP1, by rw [cm_setI w a hi.1 (inI_rg hi)]; exact nW_of (aset_ne 999 (hx.n9 he)) hP.2⟩
theorem I_copy6 (hx : CxOK x own cc nL dp mc ret) {a0 a : Nat} {n : Int} {ix : Nat} {K : aI → Option T} (h0 : dy x a0) (h1 : dy x a) (g : Cond.methodLink own ix arraycopyName ∈ Gw) (g1 : Cond.native arraycopyName ∈ Gw) (g2 : Cond.static arraycopyName ∈ Gw) (g3 : Cond.initialized "java/lang/System" ∈ Gw) (hd : 3 ≤ dp) (hst : (st.map fun v => v.category).sum ≤ 8) (d : decode cc pc = .ok (.invokestatic ix, 3)) (kk : ∀ w1 : aI, EnQ x Qf j (pc + 3) L st (cm w1) (K w1)) : EnQ x Qf j pc L (.int (oI n) :: .int (oI 0) :: .ref a :: .int (oI 0) :: .ref a0 :: st) (cm w) (gd (0 ≤ n ∧ n ≤ w a0 100 ∧ n ≤ w a 100 ∧ w a0 100 ≤ 100 ∧ w a 100 ≤ 100) (ltM (icpy w a0 a n) K)) :=
  E_gd fun hi t ht H locs ls hP hS hl => by
    obtain ⟨i1, i2, i3, i4, i5⟩ := hi
    have hr : rg n := by omega
    have l0 := dy_len hP i4 (by omega)
    have l1 := dy_len hP i5 (by omega)
    have nn : (oI n).toNatClampNeg = n.toNat := oI_nat hr
    have z0 : (oI 0).toNatClampNeg = 0 := rfl
    refine va_copyi hx.ex hx.bs (by rw [hl.1]) hx.ow (hx.ts _ g) (hx.ts _ g1) (hx.ts _ g2) (hx.ts _ g3) hx.kk hP.1 (hx.dd _) hS (ps a0) (ps a) 0 0 (by rw [hx.gt h0.xq, cve_dyn h0.1, l0]) (by rw [hx.gt h1.xq, cve_dyn h1.1, l1]) rfl rfl rfl (by decide) (by decide) (by rw [oI_lt0 hr]; omega) (by rw [z0, nn]; omega) (by rw [z0, nn]; omega) (fun _ _ => rfl) (by rw [hx.rm]; show 1 ≤ dp; omega) (by rw [hx.rm, cvv_cats]; show _ + (nativeFrameWords "java/lang/System" "arraycopy" 5 + 11) ≤ 39 * dp; have h9 : nativeFrameWords "java/lang/System" "arraycopy" 5 ≤ 90 := (by decide +kernel); omega) d (fun H1 locs1 hP1 hD1 hS1 => kk (icpy w a0 a n) t ht H1 locs1 ls ?_ hS1 hl)
    have e : (.inl (xaT x 0, (w a 100).toNat, .inl (va_cpy (cm w a0) (cm w a) (oI 0).toNatClampNeg (oI 0).toNatClampNeg (oI n).toNatClampNeg)) : va_E) = cve (xad x) (xaT x) (acpy (cm w) a0 a (oI n)) a := by
      have e2 : acpy (cm w) a0 a (oI n) a 100 = cm w a 100 := by
        unfold acpy va_cpy
        rw [if_pos rfl, if_neg (by rw [nn]; omega)]
      rw [cve_dyn h1.1, e2, l1, acpy, if_pos rfl]
      rfl
    rw [e, hx.st h1.xq acpy_ne, ← cm_cpy w a0 a i1 hr] at hP1
    exact ⟨hP1, by rw [cm_cpy w a0 a i1 hr]; exact nW_of (acpy_ne 999 (hx.n9 h1.xq)) hP.2⟩
end LR
