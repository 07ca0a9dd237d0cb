section Rules2
variable {T : Type} {x : Cx} {cv : T → aO} {Qf : T → State → Prop} {own : String} {cc : ByteArray} {nL dp mc j pc : Nat} {ret : Option FieldType} {L : List (Nat × Value)} {st : List Value} {w : aW} {X Y : Option T}
def ius (a b : Int32) : Int32 := (a.toUInt32 >>> (b.toUInt32 &&& Int32.toUInt32 31)).toInt32
def i2c (a : Int32) : Int32 := (a.toUInt32 % 65536).toInt32
def i2b (a : Int32) : Int32 := a.toInt8.toInt32
theorem E_iushr (hx : CxOK x own cc nL dp mc ret) {a b : Int32} (d : decode cc pc = .ok (.iushr, 1)) (kk : EnQ x Qf j (pc + 1) L (.int (ius a b) :: st) w X) : EnQ x Qf j pc L (.int b :: .int a :: st) w X :=
  fun t ht H locs ls hP hS hl => lv_iushr hx.ex hx.bs d rfl (kk t ht H locs ls hP hS hl)
theorem E_i2b (hx : CxOK x own cc nL dp mc ret) {a : Int32} (d : decode cc pc = .ok (.i2b, 1)) (kk : EnQ x Qf j (pc + 1) L (.int (i2b a) :: st) w X) : EnQ x Qf j pc L (.int a :: st) w X :=
  fun t ht H locs ls hP hS hl => lv_i2b hx.ex hx.bs d rfl (kk t ht H locs ls hP hS hl)
theorem E_i2c (hx : CxOK x own cc nL dp mc ret) {a : Int32} (d : decode cc pc = .ok (.i2c, 1)) (kk : EnQ x Qf j (pc + 1) L (.int (i2c a) :: st) w X) : EnQ x Qf j pc L (.int a :: st) w X :=
  fun t ht H locs ls hP hS hl => lv_i2c hx.ex hx.bs d rfl (kk t ht H locs ls hP hS hl)
theorem E_i2l (hx : CxOK x own cc nL dp mc ret) {a : Int32} (d : decode cc pc = .ok (.i2l, 1)) (kk : EnQ x Qf j (pc + 1) L (.long a.toInt64 :: st) w X) : EnQ x Qf j pc L (.int a :: st) w X :=
  fun t ht H locs ls hP hS hl => lv_i2l hx.ex hx.bs d rfl (kk t ht H locs ls hP hS hl)
theorem E_lconst (hx : CxOK x own cc nL dp mc ret) {n : Fin 2} (v : Int64) (d : decode cc pc = .ok (.lconst n, 1)) (hv : Int64.ofNat (n : Nat) = v) (kk : EnQ x Qf j (pc + 1) L (.long v :: st) w X) : EnQ x Qf j pc L st w X :=
  fun t ht H locs ls hP hS hl => lv_lconst hx.ex hx.bs d hv (kk t ht H locs ls hP hS hl)
theorem E_ldc2 (hx : CxOK x own cc nL dp mc ret) {ix : Nat} (v : Int64) (g : Cond.constantLong own ix v ∈ Gw) (d : decode cc pc = .ok (.ldc2_w ix, 3)) (kk : EnQ x Qf j (pc + 3) L (.long v :: st) w X) : EnQ x Qf j pc L st w X :=
  fun t ht H locs ls hP hS hl => lv_ldc2 hx.ex hx.bs hx.ow (hx.ts _ g) d (kk t ht H locs ls hP hS hl)
theorem E_ladd (hx : CxOK x own cc nL dp mc ret) {a b : Int64} (d : decode cc pc = .ok (.ladd, 1)) (kk : EnQ x Qf j (pc + 1) L (.long (a + b) :: st) w X) : EnQ x Qf j pc L (.long b :: .long a :: st) w X :=
  fun t ht H locs ls hP hS hl => lv_ladd hx.ex hx.bs d (kk t ht H locs ls hP hS hl)
theorem E_lcmp (hx : CxOK x own cc nL dp mc ret) {a b : Int64} (d : decode cc pc = .ok (.lcmp, 1)) (kk : EnQ x Qf j (pc + 1) L (.int (lg_cmp a b) :: st) w X) : EnQ x Qf j pc L (.long b :: .long a :: st) w X :=
  fun t ht H locs ls hP hS hl => W.lcmp hx.ex hx.bs d (kk t ht H locs ls hP hS hl)
theorem E_dup (hx : CxOK x own cc nL dp mc ret) {v : Value} (d : decode cc pc = .ok (.dup, 1)) (hv : v.category = 1) (kk : EnQ x Qf j (pc + 1) L (v :: v :: st) w X) : EnQ x Qf j pc L (v :: st) w X :=
  fun t ht H locs ls hP hS hl => lv_dup hx.ex hx.bs d (by rw [cvv_cat]; exact hv) (kk t ht H locs ls hP hS hl)
theorem E_dup2 (hx : CxOK x own cc nL dp mc ret) {v u : Value} (d : decode cc pc = .ok (.dup2, 1)) (hv : v.category = 1) (hu : u.category = 1) (kk : EnQ x Qf j (pc + 1) L (v :: u :: v :: u :: st) w X) : EnQ x Qf j pc L (v :: u :: st) w X :=
  fun t ht H locs ls hP hS hl => lv_dup2_11 hx.ex hx.bs d (by rw [cvv_cat]; exact hv) (by rw [cvv_cat]; exact hu) (kk t ht H locs ls hP hS hl)
theorem E_pop (hx : CxOK x own cc nL dp mc ret) {v : Value} (d : decode cc pc = .ok (.pop, 1)) (hv : v.category = 1) (kk : EnQ x Qf j (pc + 1) L st w X) : EnQ x Qf j pc L (v :: st) w X :=
  fun t ht H locs ls hP hS hl => lv_pop hx.ex hx.bs d (by rw [cvv_cat]; exact hv) (kk t ht H locs ls hP hS hl)
theorem E_goto (hx : CxOK x own cc nL dp mc ret) {off : Int} (tgt : Nat) (d : decode cc pc = .ok (.goto off, 3)) (h : (pc : Int) + off = (tgt : Int)) (kk : EnQ x Qf j tgt L st w X) : EnQ x Qf j pc L st w X :=
  fun t ht H locs ls hP hS hl => lv_goto hx.ex hx.bs d h (kk t ht H locs ls hP hS hl)
theorem E_if_eq (hx : CxOK x own cc nL dp mc ret) {a : Int32} {off : Int} (tgt : Nat) (d : decode cc pc = .ok (.ifCond .eq off, 3)) (h : (pc : Int) + off = (tgt : Int)) (kt : EnQ x Qf j tgt L st w X) (kf : EnQ x Qf j (pc + 3) L st w Y) : EnQ x Qf j pc L (.int a :: st) w (if a = 0 then X else Y) :=
  fun t ht H locs ls hP hS hl => lv_if_eq hx.ex hx.bs d h (fun q => kt t (by rw [if_pos q] at ht; exact ht) H locs ls hP hS hl) (fun q => kf t (by rw [if_neg q] at ht; exact ht) H locs ls hP hS hl)
theorem E_if_ne (hx : CxOK x own cc nL dp mc ret) {a : Int32} {off : Int} (tgt : Nat) (d : decode cc pc = .ok (.ifCond .ne off, 3)) (h : (pc : Int) + off = (tgt : Int)) (kt : EnQ x Qf j tgt L st w Y) (kf : EnQ x Qf j (pc + 3) L st w X) : EnQ x Qf j pc L (.int a :: st) w (if a = 0 then X else Y) :=
  fun t ht H locs ls hP hS hl => lv_if_ne hx.ex hx.bs d h (fun q => kt t (by rw [if_neg q] at ht; exact ht) H locs ls hP hS hl) (fun q => kf t (by rw [if_pos q] at ht; exact ht) H locs ls hP hS hl)
theorem E_if_lt (hx : CxOK x own cc nL dp mc ret) {a : Int32} {off : Int} (tgt : Nat) (d : decode cc pc = .ok (.ifCond .lt off, 3)) (h : (pc : Int) + off = (tgt : Int)) (kt : EnQ x Qf j tgt L st w X) (kf : EnQ x Qf j (pc + 3) L st w Y) : EnQ x Qf j pc L (.int a :: st) w (if a < 0 then X else Y) :=
  fun t ht H locs ls hP hS hl => lv_if_lt hx.ex hx.bs d h (fun q => kt t (by rw [if_pos q] at ht; exact ht) H locs ls hP hS hl) (fun q => kf t (by rw [if_neg q] at ht; exact ht) H locs ls hP hS hl)
theorem E_if_ge (hx : CxOK x own cc nL dp mc ret) {a : Int32} {off : Int} (tgt : Nat) (d : decode cc pc = .ok (.ifCond .ge off, 3)) (h : (pc : Int) + off = (tgt : Int)) (kt : EnQ x Qf j tgt L st w X) (kf : EnQ x Qf j (pc + 3) L st w Y) : EnQ x Qf j pc L (.int a :: st) w (if 0 ≤ a then X else Y) :=
  fun t ht H locs ls hP hS hl => lv_if_ge hx.ex hx.bs d h (fun q => kt t (by rw [if_pos q] at ht; exact ht) H locs ls hP hS hl) (fun q => kf t (by rw [if_neg q] at ht; exact ht) H locs ls hP hS hl)
theorem E_if_le (hx : CxOK x own cc nL dp mc ret) {a : Int32} {off : Int} (tgt : Nat) (d : decode cc pc = .ok (.ifCond .le off, 3)) (h : (pc : Int) + off = (tgt : Int)) (kt : EnQ x Qf j tgt L st w X) (kf : EnQ x Qf j (pc + 3) L st w Y) : EnQ x Qf j pc L (.int a :: st) w (if a ≤ 0 then X else Y) :=
  fun t ht H locs ls hP hS hl => lv_if_le hx.ex hx.bs d h (fun q => kt t (by rw [if_pos q] at ht; exact ht) H locs ls hP hS hl) (fun q => kf t (by rw [if_neg q] at ht; exact ht) H locs ls hP hS hl)
theorem E_if_gt (hx : CxOK x own cc nL dp mc ret) {a : Int32} {off : Int} (tgt : Nat) (d : decode cc pc = .ok (.ifCond .gt off, 3)) (h : (pc : Int) + off = (tgt : Int)) (kt : EnQ x Qf j tgt L st w X) (kf : EnQ x Qf j (pc + 3) L st w Y) : EnQ x Qf j pc L (.int a :: st) w (if 0 < a then X else Y) :=
  fun t ht H locs ls hP hS hl => lv_if_gt hx.ex hx.bs d h (fun q => kt t (by rw [if_pos q] at ht; exact ht) H locs ls hP hS hl) (fun q => kf t (by rw [if_neg q] at ht; exact ht) H locs ls hP hS hl)
theorem E_icmp_eq (hx : CxOK x own cc nL dp mc ret) {a b : Int32} {off : Int} (tgt : Nat) (d : decode cc pc = .ok (.if_icmp .eq off, 3)) (h : (pc : Int) + off = (tgt : Int)) (kt : EnQ x Qf j tgt L st w X) (kf : EnQ x Qf j (pc + 3) L st w Y) : EnQ x Qf j pc L (.int b :: .int a :: st) w (if a = b then X else Y) :=
  fun t ht H locs ls hP hS hl => lv_icmp_eq hx.ex hx.bs d h (fun q => kt t (by rw [if_pos q] at ht; exact ht) H locs ls hP hS hl) (fun q => kf t (by rw [if_neg q] at ht; exact ht) H locs ls hP hS hl)
theorem E_icmp_ne (hx : CxOK x own cc nL dp mc ret) {a b : Int32} {off : Int} (tgt : Nat) (d : decode cc pc = .ok (.if_icmp .ne off, 3)) (h : (pc : Int) + off = (tgt : Int)) (kt : EnQ x Qf j tgt L st w Y) (kf : EnQ x Qf j (pc + 3) L st w X) : EnQ x Qf j pc L (.int b :: .int a :: st) w (if a = b then X else Y) :=
  fun t ht H locs ls hP hS hl => lv_icmp_ne hx.ex hx.bs d h (fun q => kt t (by rw [if_neg q] at ht; exact ht) H locs ls hP hS hl) (fun q => kf t (by rw [if_pos q] at ht; exact ht) H locs ls hP hS hl)
theorem E_icmp_lt (hx : CxOK x own cc nL dp mc ret) {a b : Int32} {off : Int} (tgt : Nat) (d : decode cc pc = .ok (.if_icmp .lt off, 3)) (h : (pc : Int) + off = (tgt : Int)) (kt : EnQ x Qf j tgt L st w X) (kf : EnQ x Qf j (pc + 3) L st w Y) : EnQ x Qf j pc L (.int b :: .int a :: st) w (if a < b then X else Y) :=
  fun t ht H locs ls hP hS hl => lv_icmp_lt hx.ex hx.bs d h (fun q => kt t (by rw [if_pos q] at ht; exact ht) H locs ls hP hS hl) (fun q => kf t (by rw [if_neg q] at ht; exact ht) H locs ls hP hS hl)
theorem E_icmp_ge (hx : CxOK x own cc nL dp mc ret) {a b : Int32} {off : Int} (tgt : Nat) (d : decode cc pc = .ok (.if_icmp .ge off, 3)) (h : (pc : Int) + off = (tgt : Int)) (kt : EnQ x Qf j tgt L st w X) (kf : EnQ x Qf j (pc + 3) L st w Y) : EnQ x Qf j pc L (.int b :: .int a :: st) w (if b ≤ a then X else Y) :=
  fun t ht H locs ls hP hS hl => lv_icmp_ge hx.ex hx.bs d h (fun q => kt t (by rw [if_pos q] at ht; exact ht) H locs ls hP hS hl) (fun q => kf t (by rw [if_neg q] at ht; exact ht) H locs ls hP hS hl)
theorem E_icmp_le (hx : CxOK x own cc nL dp mc ret) {a b : Int32} {off : Int} (tgt : Nat) (d : decode cc pc = .ok (.if_icmp .le off, 3)) (h : (pc : Int) + off = (tgt : Int)) (kt : EnQ x Qf j tgt L st w X) (kf : EnQ x Qf j (pc + 3) L st w Y) : EnQ x Qf j pc L (.int b :: .int a :: st) w (if a ≤ b then X else Y) :=
  fun t ht H locs ls hP hS hl => lv_icmp_le hx.ex hx.bs d h (fun q => kt t (by rw [if_pos q] at ht; exact ht) H locs ls hP hS hl) (fun q => kf t (by rw [if_neg q] at ht; exact ht) H locs ls hP hS hl)
theorem E_icmp_gt (hx : CxOK x own cc nL dp mc ret) {a b : Int32} {off : Int} (tgt : Nat) (d : decode cc pc = .ok (.if_icmp .gt off, 3)) (h : (pc : Int) + off = (tgt : Int)) (kt : EnQ x Qf j tgt L st w X) (kf : EnQ x Qf j (pc + 3) L st w Y) : EnQ x Qf j pc L (.int b :: .int a :: st) w (if b < a then X else Y) :=
  fun t ht H locs ls hP hS hl => lv_icmp_gt hx.ex hx.bs d h (fun q => kt t (by rw [if_pos q] at ht; exact ht) H locs ls hP hS hl) (fun q => kf t (by rw [if_neg q] at ht; exact ht) H locs ls hP hS hl)
theorem bi_eq0 {b : Bool} : bi b = 0 ↔ b = false := by cases b <;> decide
/-- a condition that is a boolean's -/
theorem E_ifB_eq (hx : CxOK x own cc nL dp mc ret) {a : Bool} {off : Int} (tgt : Nat) (d : decode cc pc = .ok (.ifCond .eq off, 3)) (h : (pc : Int) + off = (tgt : Int)) (kt : EnQ x Qf j tgt L st w Y) (kf : EnQ x Qf j (pc + 3) L st w X) : EnQ x Qf j pc L (.int (bi a) :: st) w (if a then X else Y) :=
  fun t ht H locs ls hP hS hl => lv_if_eq hx.ex hx.bs d h (fun q => kt t (by rw [bi_eq0] at q; subst q; exact ht) H locs ls hP hS hl) (fun q => kf t (by cases a; exact absurd rfl q; exact ht) H locs ls hP hS hl)
theorem E_ifB_ne (hx : CxOK x own cc nL dp mc ret) {a : Bool} {off : Int} (tgt : Nat) (d : decode cc pc = .ok (.ifCond .ne off, 3)) (h : (pc : Int) + off = (tgt : Int)) (kt : EnQ x Qf j tgt L st w X) (kf : EnQ x Qf j (pc + 3) L st w Y) : EnQ x Qf j pc L (.int (bi a) :: st) w (if a then X else Y) :=
  fun t ht H locs ls hP hS hl => lv_if_ne hx.ex hx.bs d h (fun q => kt t (by cases a; exact absurd rfl q; exact ht) H locs ls hP hS hl) (fun q => kf t (by rw [bi_eq0] at q; subst q; exact ht) H locs ls hP hS hl)
/-- cases on a value -/
theorem E_case {c : Prop} [Decidable c] (kt : c → EnQ x Qf j pc L st w X) (kf : ¬ c → EnQ x Qf j pc L st w Y) : EnQ x Qf j pc L st w (if c then X else Y) :=
  fun t ht => by
    by_cases q : c
    · rw [if_pos q] at ht; exact kt q t ht
    · rw [if_neg q] at ht; exact kf q t ht
theorem E_tIn (hx : CxOK x own cc nL dp mc ret) {dflt lo hi : Int} {offs : Array Int} {len : Nat} {a : Int32} {off : Int} (tgt : Nat) (d : decode cc pc = .ok (.tableswitch dflt lo hi offs, len)) (h1 : ¬ a.toInt < lo) (h2 : ¬ hi < a.toInt) (ho : offs[(a.toInt - lo).toNat]? = some off) (h : (pc : Int) + off = (tgt : Int)) (kk : EnQ x Qf j tgt L st w X) : EnQ x Qf j pc L (.int a :: st) w X :=
  fun t ht H locs ls hP hS hl => lv_tableIn hx.ex hx.bs d h1 h2 ho h (kk t ht H locs ls hP hS hl)
theorem E_tOut (hx : CxOK x own cc nL dp mc ret) {dflt lo hi : Int} {offs : Array Int} {len : Nat} {a : Int32} (tgt : Nat) (d : decode cc pc = .ok (.tableswitch dflt lo hi offs, len)) (h1 : a.toInt < lo ∨ hi < a.toInt) (h : (pc : Int) + dflt = (tgt : Int)) (kk : EnQ x Qf j tgt L st w X) : EnQ x Qf j pc L (.int a :: st) w X :=
  fun t ht H locs ls hP hS hl => lv_tableOut hx.ex hx.bs d h1 h (kk t ht H locs ls hP hS hl)
theorem E_lsw (hx : CxOK x own cc nL dp mc ret) {dflt : Int} {ps : Array (Int × Int)} {len : Nat} {a : Int32} {off : Int} (tgt : Nat) (d : decode cc pc = .ok (.lookupswitch dflt ps, len)) (hp : (ps.toList.zip (ps.toList.drop 1)).all (fun (a, next) => a.1 < next.1) = true) (ho : Op.lookupswitch.offset ps.toList dflt a.toInt = off) (h : (pc : Int) + off = (tgt : Int)) (kk : EnQ x Qf j tgt L st w X) : EnQ x Qf j pc L (.int a :: st) w X :=
  fun t ht H locs ls hP hS hl => lv_lookup hx.ex hx.bs d hp ho h (kk t ht H locs ls hP hS hl)
/-- a class of the world, by its number: its table's words -/
def fcl (ci : Nat) (C : String) (Tt : u_T) (N : Nat) : Prop := vwCl[vi ci]? = some (C, Tt, N) ∧ (∀ w ∈ u_ws C Tt N, w ∈ Gw) ∧ (∀ a, a < N → ∀ b, b < N → a ≠ b → (Tt a).2.1 ≠ (Tt b).2.1) ∧ (rfB ci).length = N
theorem E_getI (hx : CxOK x own cc nL dp mc ret) {ci N ix : Nat} {C fn fd : String} {Tt : u_T} (k : Nat) {a : Nat} (fc : fcl ci C Tt N) (ha : shK a = 10 + ci) (he : xst (xN x) a) (hr : (rfB ci)[k]? = some false) (hT : (Tt k).1 = C ∧ (Tt k).2.1 = fn ∧ (Tt k).2.2.1 = fd) (g : Cond.fieldLink own ix C fn fd ∈ Gw) (d : decode cc pc = .ok (.getfield ix, 3)) (kk : EnQ x Qf j (pc + 3) L (.int (w a k) :: st) w X) : EnQ x Qf j pc L (.ref a :: st) w X := by
  intro t ht H locs ls hP hS hl
  obtain ⟨t1, t2, t3⟩ := hT
  have hk : k < N := by rw [← fc.2.2.2]; exact (List.getElem?_eq_some_iff.mp hr).1
  exact va_get (D := xD x) (ci := vi ci) (v := .int (w a k)) (C := C) (T := Tt) (N := N) (ref := C) hx.ex hx.bs hx.ts fc.2.1 hx.ow hx.kk hP.1 (ps a) (by rw [hx.gt he, cve_obj ha]) fc.1 k hk (by rw [t2, t3]; exact hx.ts _ g) (fun _ h9 => by rw [t1] at h9; exact h9) (fvv_int hr) d (kk t ht H locs ls hP hS hl)
theorem E_getR (hx : CxOK x own cc nL dp mc ret) {ci N ix : Nat} {C fn fd : String} {Tt : u_T} (k : Nat) {a : Nat} (fc : fcl ci C Tt N) (ha : shK a = 10 + ci) (he : xst (xN x) a) (hr : (rfB ci)[k]? = some true) (hT : (Tt k).1 = C ∧ (Tt k).2.1 = fn ∧ (Tt k).2.2.1 = fd) (g : Cond.fieldLink own ix C fn fd ∈ Gw) (d : decode cc pc = .ok (.getfield ix, 3)) (kk : EnQ x Qf j (pc + 3) L (.ref (shR a k) :: st) w X) : EnQ x Qf j pc L (.ref a :: st) w X := by
  intro t ht H locs ls hP hS hl
  obtain ⟨t1, t2, t3⟩ := hT
  have hk : k < N := by rw [← fc.2.2.2]; exact (List.getElem?_eq_some_iff.mp hr).1
  exact va_get (D := xD x) (ci := vi ci) (v := .ref (xad x (shR a k))) (C := C) (T := Tt) (N := N) (ref := C) hx.ex hx.bs hx.ts fc.2.1 hx.ow hx.kk hP.1 (ps a) (by rw [hx.gt he, cve_obj ha]) fc.1 k hk (by rw [t2, t3]; exact hx.ts _ g) (fun _ h9 => by rw [t1] at h9; exact h9) (fvv_ref hr) d (kk t ht H locs ls hP hS hl)
theorem E_putI (hx : CxOK x own cc nL dp mc ret) {ci N ix : Nat} {C fn fd : String} {Tt : u_T} (k : Nat) {a : Nat} {v : Int32} {K : aW → Option T} (ty : FieldType) (ty0 : Nat → FieldType) (fc : fcl ci C Tt N) (hty : ∀ k, k < N → parseFieldDescriptor (Tt k).2.2.1 = some (ty0 k)) (ha : shK a = 10 + ci) (he : xst (xN x) a) (hr : (rfB ci)[k]? = some false) (hT : (Tt k).1 = C ∧ (Tt k).2.1 = fn ∧ (Tt k).2.2.1 = fd ∧ (Tt k).2.2.2 = false ∧ parseFieldDescriptor fd = some ty) (hn : narrow ty (.int v) = .int v) (hfit : fits ty (.int v) = true) (g : Cond.fieldLink own ix C fn fd ∈ Gw) (d : decode cc pc = .ok (.putfield ix, 3)) (kk : ∀ w1 : aW, EnQ x Qf j (pc + 3) L st w1 (K w1)) : EnQ x Qf j pc L (.int v :: .ref a :: st) w (ltw (aset w a k v) K) := by
  intro t ht H locs ls hP hS hl
  obtain ⟨t1, t2, t3, t4, t5⟩ := hT
  have hk : k < N := by rw [← fc.2.2.2]; exact (List.getElem?_eq_some_iff.mp hr).1
  refine va_put (D := xD x) (ci := vi ci) (v := .int v) (ty := ty) (C := C) (T := Tt) (N := N) (ref := C) hx.ex hx.bs hx.ts fc.2.1 ty0 hty fc.2.2.1 hx.ow hx.kk hP.1 (hx.dd _) hS (ps a) (by rw [hx.gt he, cve_obj ha]) fc.1 k hk (by rw [t2, t3]; exact hx.ts _ g) (fun _ h9 => by rw [t1] at h9; exact h9) t4 (by rw [t3]; exact t5) hn hfit (by rw [fvv_len, fc.2.2.2]; exact hk) d (fun H1 locs1 hP1 hD1 hS1 => kk (aset w a k v) t ht H1 locs1 ls ?_ hS1 hl)
  have e : (.inr (vi ci, (fvv (xad x) (w a) (shR a) (rfB ci)).set k (.int v)) : va_E) = cve (xad x) (xaT x) (aset w a k v) a := by rw [cve_obj ha, fvv_set hr, aset_eq]
  rw [e, hx.st he aset_ne] at hP1
  exact ⟨hP1, nW_of (aset_ne 999 (hx.n9 he)) hP.2⟩
theorem E_iald (hx : CxOK x own cc nL dp mc ret) {a : Nat} {i : Int32} (ha : shK a = 0) (d : decode cc pc = .ok (.iaload, 1)) (kk : EnQ x Qf j (pc + 1) L (.int (w a i.toNatClampNeg) :: st) w X) : EnQ x Qf j pc L (.int i :: .ref a :: st) w (gd (inb i (shL a)) X) :=
  E_gd fun hi t ht H locs ls hP hS hl => va_iald hx.ex hx.bs hx.kk hP.1 (ps a) 0 (by rw [hx.gt (hx.cl ha rfl), cve_arr ha (by omega)]) rfl hi d (kk t ht H locs ls hP hS hl)
theorem E_aald (hx : CxOK x own cc nL dp mc ret) {a : Nat} {i : Int32} (ha : shK a = 3) (d : decode cc pc = .ok (.aaload, 1)) (kk : EnQ x Qf j (pc + 1) L (.ref (shR a i.toNatClampNeg) :: st) w X) : EnQ x Qf j pc L (.int i :: .ref a :: st) w (gd (inb i (shL a)) X) :=
  E_gd fun hi t ht H locs ls hP hS hl => va_aldq (f := fun k => some (xad x (shR a k))) hx.ex hx.bs hx.kk hP.1 (ps a) 1 (by rw [hx.gt (hx.cl ha rfl), cve_ref ha]) rfl hi d (kk t ht H locs ls hP hS hl)
theorem E_iast (hx : CxOK x own cc nL dp mc ret) {a : Nat} {i v : Int32} {K : aW → Option T} (ha : shK a = 0) (d : decode cc pc = .ok (.iastore, 1)) (kk : ∀ w1 : aW, EnQ x Qf j (pc + 1) L st w1 (K w1)) : EnQ x Qf j pc L (.int v :: .int i :: .ref a :: st) w (gd (inb i (shL a)) (ltw (aset w a i.toNatClampNeg v) K)) :=
  E_gd fun hi t ht H locs ls hP hS hl => va_iast hx.ex hx.bs hx.kk hP.1 (hx.dd _) hS (ps a) 0 (by rw [hx.gt (hx.cl ha rfl), cve_arr ha (by omega)]) rfl hi d (fun H1 locs1 hP1 hD1 hS1 => kk (aset w a i.toNatClampNeg v) t ht H1 locs1 ls (by
    have e : (.inl (xaT x 0, shL a, .inl (upd (w a) i.toNatClampNeg v)) : va_E) = cve (xad x) (xaT x) (aset w a i.toNatClampNeg v) a := by rw [cve_arr ha (by omega), aset_eq]
    rw [e, hx.st (hx.cl ha rfl) aset_ne] at hP1
    exact ⟨hP1, nW_of (aset_ne 999 (hx.n9 (hx.cl ha rfl))) hP.2⟩) hS1 hl)
theorem E_alenI (hx : CxOK x own cc nL dp mc ret) {a : Nat} (ha : shK a = 0) (d : decode cc pc = .ok (.arraylength, 1)) (kk : EnQ x Qf j (pc + 1) L (.int (Int32.ofNat (shL a)) :: st) w X) : EnQ x Qf j pc L (.ref a :: st) w X :=
  fun t ht H locs ls hP hS hl => va_alen (x := (shL a, .inl (w a))) hx.ex hx.bs hx.kk hP.1 (ps a) 0 (by rw [hx.gt (hx.cl ha rfl), cve_arr ha (by omega)]) rfl rfl d (kk t ht H locs ls hP hS hl)
theorem E_alenA (hx : CxOK x own cc nL dp mc ret) {a : Nat} (ha : shK a = 3) (d : decode cc pc = .ok (.arraylength, 1)) (kk : EnQ x Qf j (pc + 1) L (.int (Int32.ofNat (shL a)) :: st) w X) : EnQ x Qf j pc L (.ref a :: st) w X :=
  fun t ht H locs ls hP hS hl => va_alen (x := (shL a, .inr (.inr (.inr (.inr fun k => some (xad x (shR a k))))))) hx.ex hx.bs hx.kk hP.1 (ps a) 1 (by rw [hx.gt (hx.cl ha rfl), cve_ref ha]) rfl rfl d (kk t ht H locs ls hP hS hl)
theorem Qm_ret {mc j : Nat} {r : aO} {H : Heap} {locs : List Loc} {g : JFrame} {v : Option Value} (hx : CxOK x own cc nL dp mc ret) (hv : r.1 = .inl v) (hP : cP x r.2 H) (hS : va_S (xA x) (xs x).heap H locs) (hj : j ≤ mc)
    (k : (∀ t : State, t.heap = H → (xs x).WarmedH t.vm → QcE (xD x) (xad x) (xaT x) (xN x) (xA x) (xX x) r (xa x) (xs x) (.returned (v.map (cvv (xad x)))) t) → (∀ q ∈ locs, (xA x) q.base) → W (xp x) (xl x) (xe x) (xRm x) (xs x) (xm x) (xa x) (xb x) (xme x) (xc x) H locs mc (6 * mc) (MQ (xb x) (QcE (xD x) (xad x) (xaT x) (xN x) (xA x) (xX x) r) (xa x) (xs x) mc (6 * mc) (xA x)) g) :
    W (xp x) (xl x) (xe x) (xRm x) (xs x) (xm x) (xa x) (xb x) (xme x) (xc x) H locs j (6 * j) (Qm x mc r) g :=
  vx_ret (W.widen hj (Nat.mul_le_mul_left 6 hj) (k (fun t ht _ => ⟨⟨v, hv, rfl⟩, by rw [ht]; exact hP, hS.F ht⟩) hS.2.2))
theorem E_iret (hx : CxOK x own cc nL dp mc ret) {v : Int32} {r : T} (d : decode cc pc = .ok (.ireturn, 1)) (hr : ret = some .int) (hc : cv r = (.inl (some (.int v)), w)) (hj : j ≤ mc) : En x cv mc j pc L [.int v] w (some r) := by
  intro t ht H locs ls hP hS hl
  cases ht
  refine Qm_ret (v := some (.int v)) hx (by rw [hc]) (by rw [hc]; exact hP) hS hj (fun h1 h2 => W.iret (v := v) hx.ex hx.bs (by rw [hx.rt]; exact hr) h1 h2 d (hlocks := hx.lk))
theorem E_zret (hx : CxOK x own cc nL dp mc ret) {v : Int32} {r : T} (d : decode cc pc = .ok (.ireturn, 1)) (hr : ret = some .boolean) (hn : narrow .boolean (.int v) = .int v) (hc : cv r = (.inl (some (.int v)), w)) (hj : j ≤ mc) : En x cv mc j pc L [.int v] w (some r) := by
  intro t ht H locs ls hP hS hl
  cases ht
  refine Qm_ret (v := some (.int v)) hx (by rw [hc]) (by rw [hc]; exact hP) hS hj (fun h1 h2 => W.zret (v := v) hx.ex hx.bs (by rw [hx.rt]; exact hr) hn h1 h2 d (hlocks := hx.lk))
theorem bi_nar (b : Bool) : narrow .boolean (.int (bi b)) = .int (bi b) := by cases b <;> rfl
theorem E_vret (hx : CxOK x own cc nL dp mc ret) {r : T} (d : decode cc pc = .ok (.return_, 1)) (hr : ret = none) (hc : cv r = (.inl none, w)) (hj : j ≤ mc) : En x cv mc j pc L [] w (some r) := by
  intro t ht H locs ls hP hS hl
  cases ht
  refine Qm_ret (v := none) hx (by rw [hc]) (by rw [hc]; exact hP) hS hj (fun h1 h2 => W.vret hx.ex hx.bs (by rw [hx.rt]; exact hr) h1 h2 d (hlocks := hx.lk))
theorem E_aret (hx : CxOK x own cc nL dp mc ret) {v : Value} {r : T} {rt : FieldType} (d : decode cc pc = .ok (.areturn, 1)) (hr : ret = some rt) (hrt : (∃ n, rt = .object n) ∨ ∃ t, rt = .array t) (hv : v = .null ∨ ∃ a, v = .ref a) (hc : cv r = (.inl (some v), w)) (hj : j ≤ mc) : En x cv mc j pc L [v] w (some r) := by
  intro t ht H locs ls hP hS hl
  cases ht
  refine Qm_ret (v := some v) hx (by rw [hc]) (by rw [hc]; exact hP) hS hj (fun h1 h2 => W.aret (v := cvv (xad x) v) hx.ex hx.bs (by rw [hx.rt]; exact hr) hrt ?_ h1 h2 d (hlocks := hx.lk))
  rcases hv with rfl | ⟨a, rfl⟩
  · exact Or.inl rfl
  · exact Or.inr ⟨_, rfl⟩
end Rules2
