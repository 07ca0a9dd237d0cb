/-! ===== calls by the kind of what is answered ===== -/
def cvI (w : aW) (v : Int32) : aO := (.inl (some (.int v)), w)
def cvB (w : aW) (b : Bool) : aO := (.inl (some (.int (bi b))), w)
def cvIW (r : Int32 × aW) : aO := (.inl (some (.int r.1)), r.2)
def cvBW (r : Bool × aW) : aO := (.inl (some (.int (bi r.1))), r.2)
def cvV (w : aW) : aO := (.inl none, w)
def rfo : Option Nat → Value
  | some q => .ref q
  | none => .null
def cvP (w : aW) (o : Option Nat) : aO := (.inl (some (rfo o)), w)
/-- none: it returns; some E: it throws E; nothing is written -/
def cvN (w : aW) (o : Option String) : aO := (match o with | none => .inl none | some E => .inr E, w)
/-- an int, or a throw -/
def cvT (r : (Int32 ⊕ String) × aW) : aO := (match r.1 with | .inl v => .inl (some (.int v)) | .inr E => .inr E, r.2)
def bIW {T : Type} (o : Option (Int32 × aW)) (K : Int32 → aW → Option T) : Option T := o.bind fun r => K r.1 r.2
def bBW {T : Type} (o : Option (Bool × aW)) (K : Bool → aW → Option T) : Option T := o.bind fun r => K r.1 r.2
def bnN (o : Option (Option String)) (w : aW) (X : Option ((Int32 ⊕ String) × aW)) : Option ((Int32 ⊕ String) × aW) := o.bind fun e => match e with | none => X | some E => some (.inr E, w)
section Rules5
variable {T : Type} {x : Cx} {cv : T → aO} {Qf : T → State → Prop} {own : String} {cc : ByteArray} {nL dp mc j pc : Nat} {ret : Option FieldType} {L : List (Nat × Value)} {st : List Value} {w : aW} {X Y : Option T}
/-- a reference or null: cases -/
def oc (o : Option Nat) (X : Option T) (K : Nat → Option T) : Option T := match o with | none => X | some q => K q
theorem E_oc {o : Option Nat} {K : Nat → Option T} (k0 : EnQ x Qf j pc L (.null :: st) w X) (k1 : ∀ q, EnQ x Qf j pc L (.ref q :: st) w (K q)) : EnQ x Qf j pc L (rfo o :: st) w (oc o X K) := by
  cases o with
  | none => exact k0
  | some q => exact k1 q
theorem E_ifnull (hx : CxOK x own cc nL dp mc ret) {q : Nat} {off : Int} (d : decode cc pc = .ok (.ifnull off, 3)) (kk : EnQ x Qf j (pc + 3) L st w X) : EnQ x Qf j pc L (.ref q :: st) w X :=
  fun t ht H locs ls hP hS hl => lv_ifnull hx.ex hx.bs d (kk t ht H locs ls hP hS hl)
def imax (a b : Int32) : Int32 := if a < b then b else a
def imin (a b : Int32) : Int32 := if b < a then b else a
theorem E_mmax (hx : CxOK x own cc nL dp mc ret) {a b : Int32} {ix : Nat} (g : Cond.methodLink own ix Lib.Math.max.name ∈ Gw) (g2 : Cond.static Lib.Math.max.name ∈ Gw) (g3 : Cond.initialized "java/lang/Math" ∈ Gw) (g4 : Cond.code Lib.Math.max.name Lib.Math.max.code 2 (some .int) ∈ Gw) (hd : 1 ≤ dp) (hst : (st.map fun v => v.category).sum ≤ 26) (hj : j ≤ mc) (d : decode cc pc = .ok (.invokestatic ix, 3)) (kk : EnQ x Qf j (pc + 3) L (.int (imax a b) :: st) w X) : EnQ x Qf j pc L (.int b :: .int a :: st) w X :=
  fun t ht H locs ls hP hS hl => va_mmax hx.ex hx.bs (by rw [hl.1]) hx.ow (hx.ts _ g) (hx.ts _ g2) (hx.ts _ g3) (hx.ts _ g4) (by rw [hx.rm]; exact hd) (by rw [hx.rm, cvv_cats]; show _ + 13 ≤ 39 * dp; omega) (by rw [hx.rm]; exact hj) (by rw [hx.rm]; exact Nat.mul_le_mul_left 6 hj) d (kk t ht H locs ls hP hS hl)
theorem E_mmin (hx : CxOK x own cc nL dp mc ret) {a b : Int32} {ix : Nat} (g : Cond.methodLink own ix Lib.Math.min.name ∈ Gw) (g2 : Cond.static Lib.Math.min.name ∈ Gw) (g3 : Cond.initialized "java/lang/Math" ∈ Gw) (g4 : Cond.code Lib.Math.min.name Lib.Math.min.code 2 (some .int) ∈ Gw) (hd : 1 ≤ dp) (hst : (st.map fun v => v.category).sum ≤ 26) (hj : j ≤ mc) (d : decode cc pc = .ok (.invokestatic ix, 3)) (kk : EnQ x Qf j (pc + 3) L (.int (imin a b) :: st) w X) : EnQ x Qf j pc L (.int b :: .int a :: st) w X :=
  fun t ht H locs ls hP hS hl => va_mmin hx.ex hx.bs (by rw [hl.1]) hx.ow (hx.ts _ g) (hx.ts _ g2) (hx.ts _ g3) (hx.ts _ g4) (by rw [hx.rm]; exact hd) (by rw [hx.rm, cvv_cats]; show _ + 13 ≤ 39 * dp; omega) (by rw [hx.rm]; exact hj) (by rw [hx.rm]; exact Nat.mul_le_mul_left 6 hj) d (kk t ht H locs ls hP hS hl)
/-- arraycopy of ints, both from their beginnings -/
def acpy (w : aW) (a0 a : Nat) (n : Int32) : aW := fun b => if b = a then va_cpy (w a0) (w a) 0 0 n.toNatClampNeg else w b
theorem acpy_ne {w : aW} {a0 a : Nat} {n : Int32} : ∀ b, b ≠ a → acpy w a0 a n b = w b := fun b h => if_neg h
theorem E_copy (hx : CxOK x own cc nL dp mc ret) {a0 a : Nat} {n : Int32} {ix : Nat} {K : aW → Option T} (h0 : shK a0 = 0) (h1 : shK a = 0) (g : Cond.methodLink own ix arraycopyName ∈ Gw) (g1 : Cond.native arraycopyName ∈ Gw) (g2 : Cond.static arraycopyName ∈ Gw) (g3 : Cond.initialized "java/lang/System" ∈ Gw) (hd : 3 ≤ dp) (hst : (st.map fun v => v.category).sum ≤ 8) (d : decode cc pc = .ok (.invokestatic ix, 3)) (kk : ∀ w1 : aW, EnQ x Qf j (pc + 3) L st w1 (K w1)) : EnQ x Qf j pc L (.int n :: .int 0 :: .ref a :: .int 0 :: .ref a0 :: st) w (gd (¬ n < 0 ∧ n.toNatClampNeg ≤ shL a0 ∧ n.toNatClampNeg ≤ shL a) (ltw (acpy w a0 a n) K)) :=
  E_gd fun hi t ht H locs ls hP hS hl => va_copyi hx.ex hx.bs (by rw [hl.1]) hx.ow (hx.ts _ g) (hx.ts _ g1) (hx.ts _ g2) (hx.ts _ g3) hx.kk hP.1 (hx.dd _) hS (ps a0) (ps a) 0 0 (by rw [hx.gt (hx.cl h0 rfl), cve_arr h0 (by omega)]) (by rw [hx.gt (hx.cl h1 rfl), cve_arr h1 (by omega)]) rfl rfl rfl (by decide) (by decide) hi.1 (by have := hi.2.1; show (0 : Int32).toNatClampNeg + _ ≤ _; rw [show (0 : Int32).toNatClampNeg = 0 from rfl]; omega) (by have := hi.2.2; show (0 : Int32).toNatClampNeg + _ ≤ _; rw [show (0 : Int32).toNatClampNeg = 0 from rfl]; omega) (fun _ _ => rfl) (by rw [hx.rm]; show 1 ≤ dp; omega) (by rw [hx.rm, cvv_cats]; show _ + (nativeFrameWords "java/lang/System" "arraycopy" 5 + 11) ≤ 39 * dp; have h9 : nativeFrameWords "java/lang/System" "arraycopy" 5 ≤ 90 := (by decide +kernel); omega) d (fun H1 locs1 hP1 hD1 hS1 => kk (acpy w a0 a n) t ht H1 locs1 ls (by
    have e : (.inl (xaT x 0, shL a, .inl (va_cpy (w a0) (w a) (0 : Int32).toNatClampNeg (0 : Int32).toNatClampNeg n.toNatClampNeg)) : va_E) = cve (xad x) (xaT x) (acpy w a0 a n) a := by rw [cve_arr h1 (by omega), acpy, if_pos rfl]; rfl
    rw [e, hx.st (hx.cl h1 rfl) acpy_ne] at hP1
    exact ⟨hP1, nW_of (acpy_ne 999 (hx.n9 (hx.cl h1 rfl))) hP.2⟩) hS1 hl)
/-- Strings -/
theorem E_ldcS (hx : CxOK x own cc nL dp mc ret) {ix : Nat} {tx : String} (i : Nat) (h : (own, ix, tx, i) ∈ xStr) (d : decode cc pc = .ok (.ldc ix, 2)) (kk : EnQ x Qf j (pc + 2) L (.ref (sx i) :: st) w X) : EnQ x Qf j pc L st w X :=
  fun t ht H locs ls hP hS hl => va_ldcS hx.ex hx.bs hx.ow (hx.xe.2.1 _ h) d (kk t ht H locs ls hP hS hl)
theorem E_ldcwS (hx : CxOK x own cc nL dp mc ret) {ix : Nat} {tx : String} (i : Nat) (h : (own, ix, tx, i) ∈ xStr) (d : decode cc pc = .ok (.ldc_w ix, 3)) (kk : EnQ x Qf j (pc + 3) L (.ref (sx i) :: st) w X) : EnQ x Qf j pc L st w X :=
  fun t ht H locs ls hP hS hl => by
    intro U hU X9
    obtain ⟨t9, a1, b1⟩ := kk t ht H locs ls hP hS hl U hU X9
    exact ⟨t9, X9.ldcStringW hx.ex hx.ow (text := tx) (a := xad x (sx i)) (hx.xe.2.1 _ h).1 (hx.xe.2.1 _ h).2 (g := F0 (xm x) pc ls (st.map (cvv (xad x)))) rfl (by rw [hx.bs]; exact d) t9 a1, b1⟩
end Rules5
