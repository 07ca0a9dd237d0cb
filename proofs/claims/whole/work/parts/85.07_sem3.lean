/-! ===== the same in the world of the class alone: 07.sem3 ===== -/
section Rules2
variable {T : Type} {x : Cx} {cv : T → aO} {own : String} {cc : ByteArray} {nL dp mc j pc : Nat} {ret : Option FieldType} {L : List (Nat × Value)} {st : List Value} {w : aW} {X Y : Option T}
theorem E_i2c_k (hx : CxOK_k x own cc nL dp mc ret) {a : Int32} (d : decode cc pc = .ok (.i2c, 1)) (kk : En_k x cv mc j (pc + 1) L (.int (i2c a) :: st) w X) : En_k x cv mc j pc L (.int a :: st) w X :=
  fun t ht H locs ls hP hS hl => lv_i2c hx.ex hx.bs d rfl (kk t ht H locs ls hP hS hl)
theorem E_dup_k (hx : CxOK_k x own cc nL dp mc ret) {v : Value} (d : decode cc pc = .ok (.dup, 1)) (hv : v.category = 1) (kk : En_k x cv mc j (pc + 1) L (v :: v :: st) w X) : En_k x cv mc j pc L (v :: st) w X :=
  fun t ht H locs ls hP hS hl => lv_dup hx.ex hx.bs d (by rw [cvv_cat]; exact hv) (kk t ht H locs ls hP hS hl)
theorem E_pop_k (hx : CxOK_k x own cc nL dp mc ret) {v : Value} (d : decode cc pc = .ok (.pop, 1)) (hv : v.category = 1) (kk : En_k x cv mc j (pc + 1) L st w X) : En_k x cv mc j pc L (v :: st) w X :=
  fun t ht H locs ls hP hS hl => lv_pop hx.ex hx.bs d (by rw [cvv_cat]; exact hv) (kk t ht H locs ls hP hS hl)
theorem E_goto_k (hx : CxOK_k x own cc nL dp mc ret) {off : Int} (tgt : Nat) (d : decode cc pc = .ok (.goto off, 3)) (h : (pc : Int) + off = (tgt : Int)) (kk : En_k x cv mc j tgt L st w X) : En_k x cv mc j pc L st w X :=
  fun t ht H locs ls hP hS hl => lv_goto hx.ex hx.bs d h (kk t ht H locs ls hP hS hl)
theorem E_if_eq_k (hx : CxOK_k x own cc nL dp mc ret) {a : Int32} {off : Int} (tgt : Nat) (d : decode cc pc = .ok (.ifCond .eq off, 3)) (h : (pc : Int) + off = (tgt : Int)) (kt : En_k x cv mc j tgt L st w X) (kf : En_k x cv mc j (pc + 3) L st w Y) : En_k x cv mc j pc L (.int a :: st) w (if a = 0 then X else Y) :=
  fun t ht H locs ls hP hS hl => lv_if_eq hx.ex hx.bs d h (fun q => kt t (by rw [if_pos q] at ht; exact ht) H locs ls hP hS hl) (fun q => kf t (by rw [if_neg q] at ht; exact ht) H locs ls hP hS hl)
theorem E_if_ne_k (hx : CxOK_k x own cc nL dp mc ret) {a : Int32} {off : Int} (tgt : Nat) (d : decode cc pc = .ok (.ifCond .ne off, 3)) (h : (pc : Int) + off = (tgt : Int)) (kt : En_k x cv mc j tgt L st w Y) (kf : En_k x cv mc j (pc + 3) L st w X) : En_k x cv mc j pc L (.int a :: st) w (if a = 0 then X else Y) :=
  fun t ht H locs ls hP hS hl => lv_if_ne hx.ex hx.bs d h (fun q => kt t (by rw [if_neg q] at ht; exact ht) H locs ls hP hS hl) (fun q => kf t (by rw [if_pos q] at ht; exact ht) H locs ls hP hS hl)
theorem E_if_lt_k (hx : CxOK_k x own cc nL dp mc ret) {a : Int32} {off : Int} (tgt : Nat) (d : decode cc pc = .ok (.ifCond .lt off, 3)) (h : (pc : Int) + off = (tgt : Int)) (kt : En_k x cv mc j tgt L st w X) (kf : En_k x cv mc j (pc + 3) L st w Y) : En_k x cv mc j pc L (.int a :: st) w (if a < 0 then X else Y) :=
  fun t ht H locs ls hP hS hl => lv_if_lt hx.ex hx.bs d h (fun q => kt t (by rw [if_pos q] at ht; exact ht) H locs ls hP hS hl) (fun q => kf t (by rw [if_neg q] at ht; exact ht) H locs ls hP hS hl)
theorem E_icmp_eq_k (hx : CxOK_k x own cc nL dp mc ret) {a b : Int32} {off : Int} (tgt : Nat) (d : decode cc pc = .ok (.if_icmp .eq off, 3)) (h : (pc : Int) + off = (tgt : Int)) (kt : En_k x cv mc j tgt L st w X) (kf : En_k x cv mc j (pc + 3) L st w Y) : En_k x cv mc j pc L (.int b :: .int a :: st) w (if a = b then X else Y) :=
  fun t ht H locs ls hP hS hl => lv_icmp_eq hx.ex hx.bs d h (fun q => kt t (by rw [if_pos q] at ht; exact ht) H locs ls hP hS hl) (fun q => kf t (by rw [if_neg q] at ht; exact ht) H locs ls hP hS hl)
theorem E_icmp_ne_k (hx : CxOK_k x own cc nL dp mc ret) {a b : Int32} {off : Int} (tgt : Nat) (d : decode cc pc = .ok (.if_icmp .ne off, 3)) (h : (pc : Int) + off = (tgt : Int)) (kt : En_k x cv mc j tgt L st w Y) (kf : En_k x cv mc j (pc + 3) L st w X) : En_k x cv mc j pc L (.int b :: .int a :: st) w (if a = b then X else Y) :=
  fun t ht H locs ls hP hS hl => lv_icmp_ne hx.ex hx.bs d h (fun q => kt t (by rw [if_neg q] at ht; exact ht) H locs ls hP hS hl) (fun q => kf t (by rw [if_pos q] at ht; exact ht) H locs ls hP hS hl)
theorem E_icmp_lt_k (hx : CxOK_k x own cc nL dp mc ret) {a b : Int32} {off : Int} (tgt : Nat) (d : decode cc pc = .ok (.if_icmp .lt off, 3)) (h : (pc : Int) + off = (tgt : Int)) (kt : En_k x cv mc j tgt L st w X) (kf : En_k x cv mc j (pc + 3) L st w Y) : En_k x cv mc j pc L (.int b :: .int a :: st) w (if a < b then X else Y) :=
  fun t ht H locs ls hP hS hl => lv_icmp_lt hx.ex hx.bs d h (fun q => kt t (by rw [if_pos q] at ht; exact ht) H locs ls hP hS hl) (fun q => kf t (by rw [if_neg q] at ht; exact ht) H locs ls hP hS hl)
theorem E_icmp_ge_k (hx : CxOK_k x own cc nL dp mc ret) {a b : Int32} {off : Int} (tgt : Nat) (d : decode cc pc = .ok (.if_icmp .ge off, 3)) (h : (pc : Int) + off = (tgt : Int)) (kt : En_k x cv mc j tgt L st w X) (kf : En_k x cv mc j (pc + 3) L st w Y) : En_k x cv mc j pc L (.int b :: .int a :: st) w (if b ≤ a then X else Y) :=
  fun t ht H locs ls hP hS hl => lv_icmp_ge hx.ex hx.bs d h (fun q => kt t (by rw [if_pos q] at ht; exact ht) H locs ls hP hS hl) (fun q => kf t (by rw [if_neg q] at ht; exact ht) H locs ls hP hS hl)
theorem E_icmp_le_k (hx : CxOK_k x own cc nL dp mc ret) {a b : Int32} {off : Int} (tgt : Nat) (d : decode cc pc = .ok (.if_icmp .le off, 3)) (h : (pc : Int) + off = (tgt : Int)) (kt : En_k x cv mc j tgt L st w X) (kf : En_k x cv mc j (pc + 3) L st w Y) : En_k x cv mc j pc L (.int b :: .int a :: st) w (if a ≤ b then X else Y) :=
  fun t ht H locs ls hP hS hl => lv_icmp_le hx.ex hx.bs d h (fun q => kt t (by rw [if_pos q] at ht; exact ht) H locs ls hP hS hl) (fun q => kf t (by rw [if_neg q] at ht; exact ht) H locs ls hP hS hl)
theorem E_icmp_gt_k (hx : CxOK_k x own cc nL dp mc ret) {a b : Int32} {off : Int} (tgt : Nat) (d : decode cc pc = .ok (.if_icmp .gt off, 3)) (h : (pc : Int) + off = (tgt : Int)) (kt : En_k x cv mc j tgt L st w X) (kf : En_k x cv mc j (pc + 3) L st w Y) : En_k x cv mc j pc L (.int b :: .int a :: st) w (if b < a then X else Y) :=
  fun t ht H locs ls hP hS hl => lv_icmp_gt hx.ex hx.bs d h (fun q => kt t (by rw [if_pos q] at ht; exact ht) H locs ls hP hS hl) (fun q => kf t (by rw [if_neg q] at ht; exact ht) H locs ls hP hS hl)
theorem E_ifB_eq_k (hx : CxOK_k x own cc nL dp mc ret) {a : Bool} {off : Int} (tgt : Nat) (d : decode cc pc = .ok (.ifCond .eq off, 3)) (h : (pc : Int) + off = (tgt : Int)) (kt : En_k x cv mc j tgt L st w Y) (kf : En_k x cv mc j (pc + 3) L st w X) : En_k x cv mc j pc L (.int (bi a) :: st) w (if a then X else Y) :=
  fun t ht H locs ls hP hS hl => lv_if_eq hx.ex hx.bs d h (fun q => kt t (by rw [bi_eq0] at q; subst q; exact ht) H locs ls hP hS hl) (fun q => kf t (by cases a; exact absurd rfl q; exact ht) H locs ls hP hS hl)
theorem E_ifB_ne_k (hx : CxOK_k x own cc nL dp mc ret) {a : Bool} {off : Int} (tgt : Nat) (d : decode cc pc = .ok (.ifCond .ne off, 3)) (h : (pc : Int) + off = (tgt : Int)) (kt : En_k x cv mc j tgt L st w X) (kf : En_k x cv mc j (pc + 3) L st w Y) : En_k x cv mc j pc L (.int (bi a) :: st) w (if a then X else Y) :=
  fun t ht H locs ls hP hS hl => lv_if_ne hx.ex hx.bs d h (fun q => kt t (by cases a; exact absurd rfl q; exact ht) H locs ls hP hS hl) (fun q => kf t (by rw [bi_eq0] at q; subst q; exact ht) H locs ls hP hS hl)
theorem E_case_k {c : Prop} [Decidable c] (kt : c → En_k x cv mc j pc L st w X) (kf : ¬ c → En_k x cv mc j pc L st w Y) : En_k x cv mc j pc L st w (if c then X else Y) :=
  fun t ht => by
    by_cases q : c
    · rw [if_pos q] at ht; exact kt q t ht
    · rw [if_neg q] at ht; exact kf q t ht
theorem E_lsw_k (hx : CxOK_k x own cc nL dp mc ret) {dflt : Int} {ps : Array (Int × Int)} {len : Nat} {a : Int32} {off : Int} (tgt : Nat) (d : decode cc pc = .ok (.lookupswitch dflt ps, len)) (hp : (ps.toList.zip (ps.toList.drop 1)).all (fun (a, next) => a.1 < next.1) = true) (ho : Op.lookupswitch.offset ps.toList dflt a.toInt = off) (h : (pc : Int) + off = (tgt : Int)) (kk : En_k x cv mc j tgt L st w X) : En_k x cv mc j pc L (.int a :: st) w X :=
  fun t ht H locs ls hP hS hl => lv_lookup hx.ex hx.bs d hp ho h (kk t ht H locs ls hP hS hl)
theorem E_getI_k (hx : CxOK_k x own cc nL dp mc ret) {ci N ix : Nat} {C fn fd : String} {Tt : u_T} (k : Nat) {a : Nat} (fc : fcl ci C Tt N) (ha : shK_k a = 10 + ci) (hr : (rfB ci)[k]? = some false) (hT : (Tt k).1 = C ∧ (Tt k).2.1 = fn ∧ (Tt k).2.2.1 = fd) (g : Cond.fieldLink own ix C fn fd ∈ Gw) (d : decode cc pc = .ok (.getfield ix, 3)) (kk : En_k x cv mc j (pc + 3) L (.int (w a k) :: st) w X) : En_k x cv mc j pc L (.ref a :: st) w X := by
  intro t ht H locs ls hP hS hl
  obtain ⟨t1, t2, t3⟩ := hT
  have hk : k < N := by rw [← fc.2.2.2]; exact (List.getElem?_eq_some_iff.mp hr).1
  exact va_get (D := xD x) (ci := ci) (v := .int (w a k)) (C := C) (T := Tt) (N := N) (ref := C) hx.ex hx.bs hx.ts fc.2.1 hx.ow hx.kk hP a (by rw [conc_get_k (shK_lt_k ha (by omega)), cve_obj_k ha]) fc.1 k hk (by rw [t2, t3]; exact hx.ts _ g) (fun _ h9 => by rw [t1] at h9; exact h9) (fvv_int hr) d (kk t ht H locs ls hP hS hl)
theorem E_getR_k (hx : CxOK_k x own cc nL dp mc ret) {ci N ix : Nat} {C fn fd : String} {Tt : u_T} (k : Nat) {a : Nat} (fc : fcl ci C Tt N) (ha : shK_k a = 10 + ci) (hr : (rfB ci)[k]? = some true) (hT : (Tt k).1 = C ∧ (Tt k).2.1 = fn ∧ (Tt k).2.2.1 = fd) (g : Cond.fieldLink own ix C fn fd ∈ Gw) (d : decode cc pc = .ok (.getfield ix, 3)) (kk : En_k x cv mc j (pc + 3) L (.ref (shR a k) :: st) w X) : En_k x cv mc j pc L (.ref a :: st) w X := by
  intro t ht H locs ls hP hS hl
  obtain ⟨t1, t2, t3⟩ := hT
  have hk : k < N := by rw [← fc.2.2.2]; exact (List.getElem?_eq_some_iff.mp hr).1
  exact va_get (D := xD x) (ci := ci) (v := .ref (xad x (shR a k))) (C := C) (T := Tt) (N := N) (ref := C) hx.ex hx.bs hx.ts fc.2.1 hx.ow hx.kk hP a (by rw [conc_get_k (shK_lt_k ha (by omega)), cve_obj_k ha]) fc.1 k hk (by rw [t2, t3]; exact hx.ts _ g) (fun _ h9 => by rw [t1] at h9; exact h9) (fvv_ref hr) d (kk t ht H locs ls hP hS hl)
theorem E_putI_k (hx : CxOK_k x own cc nL dp mc ret) {ci N ix : Nat} {C fn fd : String} {Tt : u_T} (k : Nat) {a : Nat} {v : Int32} {K : aW → Option T} (ty : FieldType) (ty0 : Nat → FieldType) (fc : fcl ci C Tt N) (hty : ∀ k, k < N → parseFieldDescriptor (Tt k).2.2.1 = some (ty0 k)) (ha : shK_k a = 10 + ci) (hr : (rfB ci)[k]? = some false) (hT : (Tt k).1 = C ∧ (Tt k).2.1 = fn ∧ (Tt k).2.2.1 = fd ∧ (Tt k).2.2.2 = false ∧ parseFieldDescriptor fd = some ty) (hn : narrow ty (.int v) = .int v) (hfit : fits ty (.int v) = true) (g : Cond.fieldLink own ix C fn fd ∈ Gw) (d : decode cc pc = .ok (.putfield ix, 3)) (kk : ∀ w1 : aW, En_k x cv mc j (pc + 3) L st w1 (K w1)) : En_k x cv mc j pc L (.int v :: .ref a :: st) w (ltw (aset w a k v) K) := by
  intro t ht H locs ls hP hS hl
  obtain ⟨t1, t2, t3, t4, t5⟩ := hT
  have hk : k < N := by rw [← fc.2.2.2]; exact (List.getElem?_eq_some_iff.mp hr).1
  have hlt := shK_lt_k ha (by omega)
  refine va_put (D := xD x) (ci := ci) (v := .int v) (ty := ty) (C := C) (T := Tt) (N := N) (ref := C) hx.ex hx.bs hx.ts fc.2.1 ty0 hty fc.2.2.1 hx.ow hx.kk hP (conc_D_k hx.ad _ _) hS a (by rw [conc_get_k hlt, cve_obj_k ha]) fc.1 k hk (by rw [t2, t3]; exact hx.ts _ g) (fun _ h9 => by rw [t1] at h9; exact h9) t4 (by rw [t3]; exact t5) hn hfit (by rw [fvv_len, fc.2.2.2]; exact hk) d (fun H1 locs1 hP1 hD1 hS1 => kk (aset w a k v) t ht H1 locs1 ls ?_ hS1 hl)
  have e : (.inr (ci, (fvv (xad x) (w a) (shR a) (rfB ci)).set k (.int v)) : va_E) = cve_k (xad x) (xaT x) (aset w a k v) a := by rw [cve_obj_k ha, fvv_set hr, aset_eq]
  rw [e, conc_set_k aset_ne] at hP1
  exact hP1
theorem E_iald_k (hx : CxOK_k x own cc nL dp mc ret) {a : Nat} {i : Int32} (ha : shK_k a = 0) (d : decode cc pc = .ok (.iaload, 1)) (kk : En_k x cv mc j (pc + 1) L (.int (w a i.toNatClampNeg) :: st) w X) : En_k x cv mc j pc L (.int i :: .ref a :: st) w (gd (inb i (shL a)) X) :=
  E_gd_k fun hi t ht H locs ls hP hS hl => va_iald hx.ex hx.bs hx.kk hP a 0 (by rw [conc_get_k (shK_lt_k ha (by omega)), cve_arr_k ha (by omega)]) rfl hi d (kk t ht H locs ls hP hS hl)
theorem E_iast_k (hx : CxOK_k x own cc nL dp mc ret) {a : Nat} {i v : Int32} {K : aW → Option T} (ha : shK_k a = 0) (d : decode cc pc = .ok (.iastore, 1)) (kk : ∀ w1 : aW, En_k x cv mc j (pc + 1) L st w1 (K w1)) : En_k x cv mc j pc L (.int v :: .int i :: .ref a :: st) w (gd (inb i (shL a)) (ltw (aset w a i.toNatClampNeg v) K)) :=
  E_gd_k fun hi t ht H locs ls hP hS hl => va_iast hx.ex hx.bs hx.kk hP (conc_D_k hx.ad _ _) hS a 0 (by rw [conc_get_k (shK_lt_k ha (by omega)), cve_arr_k ha (by omega)]) rfl hi d (fun H1 locs1 hP1 hD1 hS1 => kk (aset w a i.toNatClampNeg v) t ht H1 locs1 ls (by
    have e : (.inl (xaT x 0, shL a, .inl (upd (w a) i.toNatClampNeg v)) : va_E) = cve_k (xad x) (xaT x) (aset w a i.toNatClampNeg v) a := by rw [cve_arr_k ha (by omega), aset_eq]
    rw [e, conc_set_k aset_ne] at hP1
    exact hP1) hS1 hl)
theorem E_alenI_k (hx : CxOK_k x own cc nL dp mc ret) {a : Nat} (ha : shK_k a = 0) (d : decode cc pc = .ok (.arraylength, 1)) (kk : En_k x cv mc j (pc + 1) L (.int (Int32.ofNat (shL a)) :: st) w X) : En_k x cv mc j pc L (.ref a :: st) w X :=
  fun t ht H locs ls hP hS hl => va_alen (x := (shL a, .inl (w a))) hx.ex hx.bs hx.kk hP a 0 (by rw [conc_get_k (shK_lt_k ha (by omega)), cve_arr_k ha (by omega)]) rfl rfl d (kk t ht H locs ls hP hS hl)
theorem Qm_ret_k {mc j : Nat} {r : aO} {H : Heap} {locs : List Loc} {g : JFrame} {v : Option Value} (hx : CxOK_k x own cc nL dp mc ret) (hv : r.1 = .inl v) (hP : va_P (xD x) vwCl (conc_k (xad x) (xaT x) r.2) H) (hS : va_S (xA_k x) (xs x).heap H locs) (hj : j ≤ mc)
    (k : (∀ t : State, t.heap = H → (xs x).WarmedH t.vm → QcE_k (xD x) (xad x) (xaT x) r (xa x) (xs x) (.returned (v.map (cvv (xad x)))) t) → (∀ q ∈ locs, (xA_k x) q.base) → W (xp x) (xl x) (xe x) (xRm x) (xs x) (xm x) (xa x) (xb x) (xme x) (xc x) H locs mc (6 * mc) (MQ (xb x) (QcE_k (xD x) (xad x) (xaT x) r) (xa x) (xs x) mc (6 * mc) (xA_k x)) g) :
    W (xp x) (xl x) (xe x) (xRm x) (xs x) (xm x) (xa x) (xb x) (xme x) (xc x) H locs j (6 * j) (Qm_k x mc r) g :=
  vx_ret (W.widen hj (Nat.mul_le_mul_left 6 hj) (k (fun t ht _ => ⟨⟨v, hv, rfl⟩, by rw [ht]; exact hP, hS.F ht⟩) hS.2.2))
theorem E_iret_k (hx : CxOK_k x own cc nL dp mc ret) {v : Int32} {r : T} (d : decode cc pc = .ok (.ireturn, 1)) (hr : ret = some .int) (hc : cv r = (.inl (some (.int v)), w)) (hj : j ≤ mc) : En_k x cv mc j pc L [.int v] w (some r) := by
  intro t ht H locs ls hP hS hl
  cases ht
  refine Qm_ret_k (v := some (.int v)) hx (by rw [hc]) (by rw [hc]; exact hP) hS hj (fun h1 h2 => W.iret (v := v) hx.ex hx.bs (by rw [hx.rt]; exact hr) h1 h2 d (hlocks := hx.lk))
theorem E_zret_k (hx : CxOK_k x own cc nL dp mc ret) {v : Int32} {r : T} (d : decode cc pc = .ok (.ireturn, 1)) (hr : ret = some .boolean) (hn : narrow .boolean (.int v) = .int v) (hc : cv r = (.inl (some (.int v)), w)) (hj : j ≤ mc) : En_k x cv mc j pc L [.int v] w (some r) := by
  intro t ht H locs ls hP hS hl
  cases ht
  refine Qm_ret_k (v := some (.int v)) hx (by rw [hc]) (by rw [hc]; exact hP) hS hj (fun h1 h2 => W.zret (v := v) hx.ex hx.bs (by rw [hx.rt]; exact hr) hn h1 h2 d (hlocks := hx.lk))
theorem E_vret_k (hx : CxOK_k x own cc nL dp mc ret) {r : T} (d : decode cc pc = .ok (.return_, 1)) (hr : ret = none) (hc : cv r = (.inl none, w)) (hj : j ≤ mc) : En_k x cv mc j pc L [] w (some r) := by
  intro t ht H locs ls hP hS hl
  cases ht
  refine Qm_ret_k (v := none) hx (by rw [hc]) (by rw [hc]; exact hP) hS hj (fun h1 h2 => W.vret hx.ex hx.bs (by rw [hx.rt]; exact hr) h1 h2 d (hlocks := hx.lk))
end Rules2
