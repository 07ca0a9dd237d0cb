/-! ===== the rules once more, with the ints as whole numbers: a compare, a quotient, an index stand behind a guard ===== -/
abbrev aI : Type := Nat → Int → Int
def oI (v : Int) : Int32 := Int32.ofInt v
def oL (v : Int) : Int64 := Int64.ofInt v
def cm (w : aI) : aW := fun a k => oI (w a (k : Int))
def iset (w : aI) (a : Nat) (i v : Int) : aI := fun b j => if b = a ∧ j = i then v else w b j
def icpy (w : aI) (a0 a : Nat) (n : Int) : aI := fun b j => if b = a ∧ 0 ≤ j ∧ j < n then w a0 j else w b j
abbrev rg (v : Int) : Prop := -2147483648 ≤ v ∧ v ≤ 2147483647
abbrev rgL (v : Int) : Prop := -9223372036854775808 ≤ v ∧ v ≤ 9223372036854775807
abbrev inI (i : Int) (n : Nat) : Prop := 0 ≤ i ∧ i < (n : Int)
def ltI {T : Type} (v : Int) (k : Int → Option T) : Option T := k v
def ltM {T : Type} (w : aI) (k : aI → Option T) : Option T := k w
def shl (a b : Int) : Int := a * 2 ^ b.toNat
def shr (a b : Int) : Int := a / 2 ^ b.toNat
def andI (a b : Int) : Int := (oI a &&& oI b).toInt
def orI (a b : Int) : Int := (oI a ||| oI b).toInt
def xorI (a b : Int) : Int := (oI a ^^^ oI b).toInt
def iusI (a b : Int) : Int := (ius (oI a) (oI b)).toInt
def i2bI (a : Int) : Int := (a + 128) % 256 - 128
def i2cI (a : Int) : Int := (i2c (oI a)).toInt
def lcmpI (a b : Int) : Int := if b < a then 1 else if a = b then 0 else -1
theorem rg_b {a : Int} (h : rg a) : Int32.minValue.toInt ≤ a ∧ a ≤ Int32.maxValue.toInt := h
theorem rgL_b {a : Int} (h : rgL a) : Int64.minValue.toInt ≤ a ∧ a ≤ Int64.maxValue.toInt := h
theorem oI_toInt {a : Int} (h : rg a) : (oI a).toInt = a := Int32.toInt_ofInt_of_le (by omega) (by omega)
theorem oL_toInt {a : Int} (h : rgL a) : (oL a).toInt = a := Int64.toInt_ofInt_of_le (by omega) (by omega)
theorem oI_of (v : Int32) : oI v.toInt = v := Int32.ofInt_toInt v
theorem rg_toInt (v : Int32) : rg v.toInt := ⟨v.le_toInt, Int.le_of_lt_add_one v.toInt_lt⟩
theorem oI_add (a b : Int) : oI a + oI b = oI (a + b) := (Int32.ofInt_add a b).symm
theorem oI_sub (a b : Int) : oI a - oI b = oI (a - b) := (Int32.ofInt_sub a b).symm
theorem oI_mul (a b : Int) : oI a * oI b = oI (a * b) := (Int32.ofInt_mul a b).symm
theorem oI_neg (a : Int) : -oI a = oI (-a) := (Int32.ofInt_neg a).symm
theorem oL_add (a b : Int) : oL a + oL b = oL (a + b) := (Int64.ofInt_add a b).symm
theorem oI_div {a b : Int} (ha : rg a) (hb : rg b) : oI a / oI b = oI (a.tdiv b) := (Int32.ofInt_tdiv (rg_b ha).1 (rg_b ha).2 (rg_b hb).1 (rg_b hb).2).symm
theorem oI_eq {a b : Int} (ha : rg a) (hb : rg b) : oI a = oI b ↔ a = b := ⟨fun h => by rw [← oI_toInt ha, ← oI_toInt hb, h], fun h => by rw [h]⟩
theorem oI_lt {a b : Int} (ha : rg a) (hb : rg b) : oI a < oI b ↔ a < b := by rw [Int32.lt_iff_toInt_lt, oI_toInt ha, oI_toInt hb]
theorem oI_le {a b : Int} (ha : rg a) (hb : rg b) : oI a ≤ oI b ↔ a ≤ b := by rw [Int32.le_iff_toInt_le, oI_toInt ha, oI_toInt hb]
theorem oI_0 : (0 : Int32) = oI 0 := rfl
theorem rg_0 : rg 0 := ⟨by decide, by decide⟩
theorem oI_eq0 {a : Int} (ha : rg a) : oI a = 0 ↔ a = 0 := oI_eq ha rg_0
theorem oI_lt0 {a : Int} (ha : rg a) : oI a < 0 ↔ a < 0 := oI_lt ha rg_0
theorem oI_ge0 {a : Int} (ha : rg a) : 0 ≤ oI a ↔ 0 ≤ a := oI_le rg_0 ha
theorem oI_le0 {a : Int} (ha : rg a) : oI a ≤ 0 ↔ a ≤ 0 := oI_le ha rg_0
theorem oI_gt0 {a : Int} (ha : rg a) : 0 < oI a ↔ 0 < a := oI_lt rg_0 ha
theorem oI_nat {i : Int} (h : rg i) : (oI i).toNatClampNeg = i.toNat := Int32.toNatClampNeg_ofInt_of_le (by omega) (by omega)
theorem irm_eq {a b : Int} (ha : rg a) (hb : rg b) : irm (oI a) (oI b) = oI (a.tmod b) := by
  rw [irm, oI_div ha hb, oI_mul, oI_sub]
  congr 1
  rw [Int.mul_comm, Int.tmod_def]
theorem ite_iff {c d : Prop} [Decidable c] [Decidable d] (h : c ↔ d) {T : Type} {X Y : T} : (if c then X else Y) = (if d then X else Y) := by
  by_cases q : c
  · rw [if_pos q, if_pos (h.mp q)]
  · rw [if_neg q, if_neg (fun z => q (h.mpr z))]
theorem shl_amt : ∀ k : Fin 32, (Int32.ofInt ((k : Nat) : Int) &&& 31).toBitVec.smod 32 = BitVec.ofNat 32 (k : Nat) := by decide
theorem shl_pow : ∀ k : Fin 32, BitVec.ofInt 32 (2 ^ (k : Nat)) = BitVec.twoPow 32 (k : Nat) := by decide
theorem shl_amt' {b : Int} (hb : 0 ≤ b ∧ b < 32) : (oI b &&& 31).toBitVec.smod 32 = BitVec.ofNat 32 b.toNat := by
  have h := shl_amt ⟨b.toNat, by omega⟩
  have e : ((b.toNat : Nat) : Int) = b := by omega
  rw [← e]
  exact h
theorem oI_shl {a b : Int} (hb : 0 ≤ b ∧ b < 32) : oI a <<< (oI b &&& 31) = oI (shl a b) := by
  apply Int32.toBitVec_inj.mp
  show (oI a).toBitVec <<< ((oI b &&& 31).toBitVec.smod 32) = (oI (shl a b)).toBitVec
  rw [shl_amt' hb]
  show BitVec.ofInt 32 a <<< (BitVec.ofNat 32 b.toNat) = BitVec.ofInt 32 (shl a b)
  rw [BitVec.shiftLeft_eq', BitVec.toNat_ofNat, Nat.mod_eq_of_lt (by omega), BitVec.shiftLeft_eq_mul_twoPow, shl, BitVec.ofInt_mul, ← shl_pow ⟨b.toNat, by omega⟩]
theorem oI_shr {a b : Int} (ha : rg a) (hb : 0 ≤ b ∧ b < 32) : oI a >>> (oI b &&& 31) = oI (shr a b) := by
  apply Int32.toInt_inj.mp
  have h9 : rg (shr a b) := by
    have h1 : (0 : Int) < 2 ^ b.toNat := Int.pow_pos (by decide)
    unfold shr
    constructor
    · apply (Int.le_ediv_iff_mul_le h1).mpr
      generalize (2 : Int) ^ b.toNat = P at h1 ⊢
      omega
    · apply Int.le_of_lt_add_one
      apply (Int.ediv_lt_iff_lt_mul h1).mpr
      generalize (2 : Int) ^ b.toNat = P at h1 ⊢
      omega
  rw [oI_toInt h9]
  show (BitVec.sshiftRight' (oI a).toBitVec ((oI b &&& 31).toBitVec.smod 32)).toInt = shr a b
  rw [shl_amt' hb, BitVec.toInt_sshiftRight', BitVec.toNat_ofNat, Nat.mod_eq_of_lt (by omega)]
  show (oI a).toInt >>> b.toNat = shr a b
  rw [oI_toInt ha, Int.shiftRight_eq_div_pow, shr]
  norm_cast
theorem oI_i2b (a : Int) : i2b (oI a) = oI (i2bI a) := by
  show (Int32.ofInt a).toInt8.toInt32 = _
  rw [Int32.toInt8_ofInt, ← Int32.ofInt_int8ToInt, Int8.toInt_ofInt]
  show Int32.ofInt (a.bmod 256) = Int32.ofInt (i2bI a)
  congr 1
  unfold i2bI
  rw [Int.bmod_def]
  split <;> omega
theorem oI_lcmp {a b : Int} (ha : rgL a) (hb : rgL b) : lg_cmp (oL a) (oL b) = oI (lcmpI a b) := by
  have h1 : oL b < oL a ↔ b < a := by rw [Int64.lt_iff_toInt_lt, oL_toInt ha, oL_toInt hb]
  have h2 : oL a = oL b ↔ a = b := ⟨fun h => by rw [← oL_toInt ha, ← oL_toInt hb, h], fun h => by rw [h]⟩
  unfold lg_cmp lcmpI
  show (if oL b < oL a then (1 : Int32) else if oL a = oL b then 0 else -1) = _
  rw [ite_iff h1, ite_iff h2]
  split
  · rfl
  · split <;> rfl
theorem oI_l {a : Int} (ha : rg a) : (oI a).toInt64 = oL a := Int32.toInt64_ofInt (rg_b ha).1 (rg_b ha).2
theorem oI_max {a b : Int} (ha : rg a) (hb : rg b) : imax (oI a) (oI b) = oI (max a b) := by
  rw [imax, ite_iff (oI_lt ha hb)]
  split
  · congr 1; omega
  · congr 1; omega
theorem oI_min {a b : Int} (ha : rg a) (hb : rg b) : imin (oI a) (oI b) = oI (min a b) := by
  rw [imin, ite_iff (oI_lt hb ha)]
  split
  · congr 1; omega
  · congr 1; omega
theorem shL_le' : ∀ a, a < 331 → shL a ≤ 8240 := by decide +kernel
theorem shL_le (a : Nat) : shL a ≤ 8240 := by
  rcases Nat.lt_or_ge a 331 with q | q
  · exact shL_le' a q
  · rw [shL, List.getD_eq_getElem?_getD, List.getElem?_eq_none (by rw [shT_len]; exact q)]
    exact Nat.zero_le _
theorem inI_rg {i : Int} {a : Nat} (h : inI i (shL a)) : rg i := by have := shL_le a; omega
theorem inI_inb {i : Int} {a : Nat} (h : inI i (shL a)) : inb (oI i) (shL a) := by
  have hr := inI_rg h
  rw [inb, oI_lt0 hr, oI_nat hr]
  omega
theorem cm_at (w : aI) (a : Nat) {i : Int} (h : 0 ≤ i) (hr : rg i) : cm w a (oI i).toNatClampNeg = oI (w a i) := by
  rw [oI_nat hr, cm, Int.toNat_of_nonneg h]
theorem cm_set (w : aI) (a k : Nat) (v : Int) : cm (iset w a (k : Int) v) = aset (cm w) a k (oI v) := by
  funext b j
  unfold aset cm iset upd
  by_cases q : b = a
  · subst q
    by_cases r : j = k
    · subst r; simp
    · have : ¬ (j : Int) = (k : Int) := by omega
      simp [r, this]
  · simp [q]
theorem cm_setI (w : aI) (a : Nat) {i v : Int} (h : 0 ≤ i) (hr : rg i) : cm (iset w a i v) = aset (cm w) a (oI i).toNatClampNeg (oI v) := by
  rw [oI_nat hr, ← cm_set, Int.toNat_of_nonneg h]
theorem cm_cpy (w : aI) (a0 a : Nat) {n : Int} (h : 0 ≤ n) (hr : rg n) : cm (icpy w a0 a n) = acpy (cm w) a0 a (oI n) := by
  funext b j
  unfold acpy cm icpy va_cpy
  rw [oI_nat hr]
  by_cases q : b = a
  · subst q
    by_cases r : j < n.toNat
    · rw [if_pos rfl, if_pos (by omega), if_pos (by omega)]
      rw [Nat.zero_add, Nat.sub_zero]
    · rw [if_pos rfl, if_neg (by omega), if_neg (by omega)]
  · rw [if_neg q, if_neg (by omega)]
def bI (b : Bool) : Int := if b then 1 else 0
theorem oI_bI (b : Bool) : oI (bI b) = bi b := by cases b <;> rfl
theorem bI_nar (b : Bool) : narrow .boolean (.int (oI (bI b))) = .int (oI (bI b)) := by cases b <;> rfl
theorem bI_fit (b : Bool) : fits .boolean (.int (oI (bI b))) = true := by cases b <;> rfl
theorem zI_nar {v : Int} (h : v = 0 ∨ v = 1) : narrow .boolean (.int (oI v)) = .int (oI v) := by rcases h with rfl | rfl <;> rfl
theorem zI_bi {v : Int} (h : v = 0 ∨ v = 1) : bI (decide (v = 1)) = v := by rcases h with rfl | rfl <;> rfl
theorem bI_rg (b : Bool) : rg (bI b) := by cases b <;> decide
theorem shL_rg (a : Nat) : rg ((shL a : Nat) : Int) := by have := shL_le a; omega
theorem lcmp_rg (a b : Int) : rg (lcmpI a b) := by unfold lcmpI; split; decide; split <;> decide
noncomputable def kfix {T : Type} (w0 : aW) (X : Option T) : aW → Option T := fun w1 => @ite _ (w1 = w0) (Classical.propDecidable _) X none
theorem kfix_eq {T : Type} (w0 : aW) (X : Option T) : kfix w0 X w0 = X := if_pos rfl
theorem kfix_kk {T : Type} {x : Cx} {Qf : T → State → Prop} {j pc : Nat} {L : List (Nat × Value)} {st : List Value} {w0 : aW} {X : Option T} (h : EnQ x Qf j pc L st w0 X) (w1 : aW) : EnQ x Qf j pc L st w1 (kfix w0 X w1) := by
  by_cases q : w1 = w0
  · subst q; rw [kfix_eq]; exact h
  · rw [kfix, if_neg q]; exact E_none
section IRules
variable {T : Type} {x : Cx} {cv : T → aO} {Qf : T → State → Prop} {own : String} {cc : ByteArray} {nL dp mc j pc : Nat} {ret : Option FieldType} {L : List (Nat × Value)} {st : List Value} {w : aI} {m : aW} {X Y : Option T}
theorem I_ltv {v : Int} {K : Int → Option T} (k : ∀ u, EnQ x Qf j pc L (.int (oI u) :: st) m (K u)) : EnQ x Qf j pc L (.int (oI v) :: st) m (ltI v K) := k v
theorem I_iconst (hx : CxOK x own cc nL dp mc ret) (n : Int) (d : decode cc pc = .ok (.iconst n, 1)) (kk : EnQ x Qf j (pc + 1) L (.int (oI n) :: st) m X) : EnQ x Qf j pc L st m X := E_iconst hx (oI n) d rfl kk
theorem I_bipush (hx : CxOK x own cc nL dp mc ret) (n : Int) (d : decode cc pc = .ok (.bipush n, 2)) (hv : (Int8.ofInt n).toInt32 = oI n) (kk : EnQ x Qf j (pc + 2) L (.int (oI n) :: st) m X) : EnQ x Qf j pc L st m X := E_bipush hx (oI n) d hv kk
theorem I_sipush (hx : CxOK x own cc nL dp mc ret) (n : Int) (d : decode cc pc = .ok (.sipush n, 3)) (hv : (Int16.ofInt n).toInt32 = oI n) (kk : EnQ x Qf j (pc + 3) L (.int (oI n) :: st) m X) : EnQ x Qf j pc L st m X := E_sipush hx (oI n) d hv kk
theorem I_ldc (hx : CxOK x own cc nL dp mc ret) {ix : Nat} (n : Int) {v : Int32} (g : Cond.constant own ix v ∈ Gw) (hv : v = oI n) (d : decode cc pc = .ok (.ldc ix, 2)) (kk : EnQ x Qf j (pc + 2) L (.int (oI n) :: st) m X) : EnQ x Qf j pc L st m X := by subst hv; exact E_ldc hx _ g d kk
theorem I_lconst (hx : CxOK x own cc nL dp mc ret) {k : Fin 2} (n : Int) (d : decode cc pc = .ok (.lconst k, 1)) (hv : Int64.ofNat (k : Nat) = oL n) (kk : EnQ x Qf j (pc + 1) L (.long (oL n) :: st) m X) : EnQ x Qf j pc L st m X := E_lconst hx _ d hv kk
theorem I_ldc2 (hx : CxOK x own cc nL dp mc ret) {ix : Nat} (n : Int) {v : Int64} (g : Cond.constantLong own ix v ∈ Gw) (hv : v = oL n) (d : decode cc pc = .ok (.ldc2_w ix, 3)) (kk : EnQ x Qf j (pc + 3) L (.long (oL n) :: st) m X) : EnQ x Qf j pc L st m X := by subst hv; exact E_ldc2 hx _ g d kk
theorem I_iinc (hx : CxOK x own cc nL dp mc ret) {i : Nat} (n : Int) {v : Int} {L' : List (Nat × Value)} (k : Nat) (d : decode cc pc = .ok (.iinc i n, 3)) (hk : L[k]? = some (i, .int (oI v))) (hn : i < nL) (hL : (i, Value.int (oI (v + n))) :: L.filter (fun q => !(q.1 == i) && !(q.1 + 1 == i && q.2.category == 2)) = L') (kk : EnQ x Qf j (pc + 3) L' st m X) : EnQ x Qf j pc L st m X :=
  E_iinc hx (u := oI n) k d hk rfl hn (by rw [oI_add]; exact hL) kk
theorem I_iadd (hx : CxOK x own cc nL dp mc ret) {a b : Int} (d : decode cc pc = .ok (.iadd, 1)) (kk : EnQ x Qf j (pc + 1) L (.int (oI (a + b)) :: st) m X) : EnQ x Qf j pc L (.int (oI b) :: .int (oI a) :: st) m X := E_iadd hx d (by rw [oI_add]; exact kk)
theorem I_isub (hx : CxOK x own cc nL dp mc ret) {a b : Int} (d : decode cc pc = .ok (.isub, 1)) (kk : EnQ x Qf j (pc + 1) L (.int (oI (a - b)) :: st) m X) : EnQ x Qf j pc L (.int (oI b) :: .int (oI a) :: st) m X := E_isub hx d (by rw [oI_sub]; exact kk)
theorem I_imul (hx : CxOK x own cc nL dp mc ret) {a b : Int} (d : decode cc pc = .ok (.imul, 1)) (kk : EnQ x Qf j (pc + 1) L (.int (oI (a * b)) :: st) m X) : EnQ x Qf j pc L (.int (oI b) :: .int (oI a) :: st) m X := E_imul hx d (by rw [oI_mul]; exact kk)
theorem I_ineg (hx : CxOK x own cc nL dp mc ret) {a : Int} (d : decode cc pc = .ok (.ineg, 1)) (kk : EnQ x Qf j (pc + 1) L (.int (oI (-a)) :: st) m X) : EnQ x Qf j pc L (.int (oI a) :: st) m X := E_ineg hx d (by rw [oI_neg]; exact kk)
theorem I_idiv (hx : CxOK x own cc nL dp mc ret) {a b : Int} (d : decode cc pc = .ok (.idiv, 1)) (h : rg a ∧ rg b ∧ ¬ b = 0) (kk : EnQ x Qf j (pc + 1) L (.int (oI (a.tdiv b)) :: st) m X) : EnQ x Qf j pc L (.int (oI b) :: .int (oI a) :: st) m X := E_idiv hx d (fun e => h.2.2 ((oI_eq0 h.2.1).mp e)) (by rw [oI_div h.1 h.2.1]; exact kk)
theorem I_irem (hx : CxOK x own cc nL dp mc ret) {a b : Int} (d : decode cc pc = .ok (.irem, 1)) (h : rg a ∧ rg b ∧ ¬ b = 0) (kk : EnQ x Qf j (pc + 1) L (.int (oI (a.tmod b)) :: st) m X) : EnQ x Qf j pc L (.int (oI b) :: .int (oI a) :: st) m X := E_irem hx d (fun e => h.2.2 ((oI_eq0 h.2.1).mp e)) (by rw [irm_eq h.1 h.2.1]; exact kk)
theorem I_ishl (hx : CxOK x own cc nL dp mc ret) {a b : Int} (d : decode cc pc = .ok (.ishl, 1)) (h : 0 ≤ b ∧ b < 32) (kk : EnQ x Qf j (pc + 1) L (.int (oI (shl a b)) :: st) m X) : EnQ x Qf j pc L (.int (oI b) :: .int (oI a) :: st) m X := E_ishl hx d (by rw [oI_shl h]; exact kk)
theorem I_ishr (hx : CxOK x own cc nL dp mc ret) {a b : Int} (d : decode cc pc = .ok (.ishr, 1)) (h : rg a ∧ 0 ≤ b ∧ b < 32) (kk : EnQ x Qf j (pc + 1) L (.int (oI (shr a b)) :: st) m X) : EnQ x Qf j pc L (.int (oI b) :: .int (oI a) :: st) m X := E_ishr hx d (by rw [oI_shr h.1 h.2]; exact kk)
theorem I_iushr (hx : CxOK x own cc nL dp mc ret) {a b : Int} (d : decode cc pc = .ok (.iushr, 1)) (kk : EnQ x Qf j (pc + 1) L (.int (oI (iusI a b)) :: st) m X) : EnQ x Qf j pc L (.int (oI b) :: .int (oI a) :: st) m X := E_iushr hx d (by rw [iusI, oI_of] at kk; exact kk)
theorem I_iand (hx : CxOK x own cc nL dp mc ret) {a b : Int} (d : decode cc pc = .ok (.iand, 1)) (kk : EnQ x Qf j (pc + 1) L (.int (oI (andI a b)) :: st) m X) : EnQ x Qf j pc L (.int (oI b) :: .int (oI a) :: st) m X := E_iand hx d (by rw [andI, oI_of] at kk; exact kk)
theorem I_ior (hx : CxOK x own cc nL dp mc ret) {a b : Int} (d : decode cc pc = .ok (.ior, 1)) (kk : EnQ x Qf j (pc + 1) L (.int (oI (orI a b)) :: st) m X) : EnQ x Qf j pc L (.int (oI b) :: .int (oI a) :: st) m X := E_ior hx d (by rw [orI, oI_of] at kk; exact kk)
theorem I_ixor (hx : CxOK x own cc nL dp mc ret) {a b : Int} (d : decode cc pc = .ok (.ixor, 1)) (kk : EnQ x Qf j (pc + 1) L (.int (oI (xorI a b)) :: st) m X) : EnQ x Qf j pc L (.int (oI b) :: .int (oI a) :: st) m X := E_ixor hx d (by rw [xorI, oI_of] at kk; exact kk)
theorem I_i2b (hx : CxOK x own cc nL dp mc ret) {a : Int} (d : decode cc pc = .ok (.i2b, 1)) (kk : EnQ x Qf j (pc + 1) L (.int (oI (i2bI a)) :: st) m X) : EnQ x Qf j pc L (.int (oI a) :: st) m X := E_i2b hx d (by rw [oI_i2b]; exact kk)
theorem I_i2c (hx : CxOK x own cc nL dp mc ret) {a : Int} (d : decode cc pc = .ok (.i2c, 1)) (kk : EnQ x Qf j (pc + 1) L (.int (oI (i2cI a)) :: st) m X) : EnQ x Qf j pc L (.int (oI a) :: st) m X := E_i2c hx d (by rw [i2cI, oI_of] at kk; exact kk)
theorem I_i2l (hx : CxOK x own cc nL dp mc ret) {a : Int} (d : decode cc pc = .ok (.i2l, 1)) (h : rg a) (kk : EnQ x Qf j (pc + 1) L (.long (oL a) :: st) m X) : EnQ x Qf j pc L (.int (oI a) :: st) m X := E_i2l hx d (by rw [oI_l h]; exact kk)
theorem I_ladd (hx : CxOK x own cc nL dp mc ret) {a b : Int} (d : decode cc pc = .ok (.ladd, 1)) (kk : EnQ x Qf j (pc + 1) L (.long (oL (a + b)) :: st) m X) : EnQ x Qf j pc L (.long (oL b) :: .long (oL a) :: st) m X := E_ladd hx d (by rw [oL_add]; exact kk)
theorem I_lcmp (hx : CxOK x own cc nL dp mc ret) {a b : Int} (d : decode cc pc = .ok (.lcmp, 1)) (h : rgL a ∧ rgL b) (kk : EnQ x Qf j (pc + 1) L (.int (oI (lcmpI a b)) :: st) m X) : EnQ x Qf j pc L (.long (oL b) :: .long (oL a) :: st) m X := E_lcmp hx d (by rw [oI_lcmp h.1 h.2]; exact kk)
theorem I_if_eq (hx : CxOK x own cc nL dp mc ret) {a : Int} {off : Int} (tgt : Nat) (d : decode cc pc = .ok (.ifCond .eq off, 3)) (h : (pc : Int) + off = (tgt : Int)) (hr : rg a) (kt : EnQ x Qf j tgt L st m X) (kf : EnQ x Qf j (pc + 3) L st m Y) : EnQ x Qf j pc L (.int (oI a) :: st) m (if a = 0 then X else Y) := by rw [← ite_iff (oI_eq0 hr)]; exact E_if_eq hx tgt d h kt kf
theorem I_if_ne (hx : CxOK x own cc nL dp mc ret) {a : Int} {off : Int} (tgt : Nat) (d : decode cc pc = .ok (.ifCond .ne off, 3)) (h : (pc : Int) + off = (tgt : Int)) (hr : rg a) (kt : EnQ x Qf j tgt L st m Y) (kf : EnQ x Qf j (pc + 3) L st m X) : EnQ x Qf j pc L (.int (oI a) :: st) m (if a = 0 then X else Y) := by rw [← ite_iff (oI_eq0 hr)]; exact E_if_ne hx tgt d h kt kf
theorem I_if_lt (hx : CxOK x own cc nL dp mc ret) {a : Int} {off : Int} (tgt : Nat) (d : decode cc pc = .ok (.ifCond .lt off, 3)) (h : (pc : Int) + off = (tgt : Int)) (hr : rg a) (kt : EnQ x Qf j tgt L st m X) (kf : EnQ x Qf j (pc + 3) L st m Y) : EnQ x Qf j pc L (.int (oI a) :: st) m (if a < 0 then X else Y) := by rw [← ite_iff (oI_lt0 hr)]; exact E_if_lt hx tgt d h kt kf
theorem I_if_ge (hx : CxOK x own cc nL dp mc ret) {a : Int} {off : Int} (tgt : Nat) (d : decode cc pc = .ok (.ifCond .ge off, 3)) (h : (pc : Int) + off = (tgt : Int)) (hr : rg a) (kt : EnQ x Qf j tgt L st m X) (kf : EnQ x Qf j (pc + 3) L st m Y) : EnQ x Qf j pc L (.int (oI a) :: st) m (if 0 ≤ a then X else Y) := by rw [← ite_iff (oI_ge0 hr)]; exact E_if_ge hx tgt d h kt kf
theorem I_if_le (hx : CxOK x own cc nL dp mc ret) {a : Int} {off : Int} (tgt : Nat) (d : decode cc pc = .ok (.ifCond .le off, 3)) (h : (pc : Int) + off = (tgt : Int)) (hr : rg a) (kt : EnQ x Qf j tgt L st m X) (kf : EnQ x Qf j (pc + 3) L st m Y) : EnQ x Qf j pc L (.int (oI a) :: st) m (if a ≤ 0 then X else Y) := by rw [← ite_iff (oI_le0 hr)]; exact E_if_le hx tgt d h kt kf
theorem I_if_gt (hx : CxOK x own cc nL dp mc ret) {a : Int} {off : Int} (tgt : Nat) (d : decode cc pc = .ok (.ifCond .gt off, 3)) (h : (pc : Int) + off = (tgt : Int)) (hr : rg a) (kt : EnQ x Qf j tgt L st m X) (kf : EnQ x Qf j (pc + 3) L st m Y) : EnQ x Qf j pc L (.int (oI a) :: st) m (if 0 < a then X else Y) := by rw [← ite_iff (oI_gt0 hr)]; exact E_if_gt hx tgt d h kt kf
theorem I_icmp_eq (hx : CxOK x own cc nL dp mc ret) {a b : Int} {off : Int} (tgt : Nat) (d : decode cc pc = .ok (.if_icmp .eq off, 3)) (h : (pc : Int) + off = (tgt : Int)) (hr : rg a ∧ rg b) (kt : EnQ x Qf j tgt L st m X) (kf : EnQ x Qf j (pc + 3) L st m Y) : EnQ x Qf j pc L (.int (oI b) :: .int (oI a) :: st) m (if a = b then X else Y) := by rw [← ite_iff (oI_eq hr.1 hr.2)]; exact E_icmp_eq hx tgt d h kt kf
theorem I_icmp_ne (hx : CxOK x own cc nL dp mc ret) {a b : Int} {off : Int} (tgt : Nat) (d : decode cc pc = .ok (.if_icmp .ne off, 3)) (h : (pc : Int) + off = (tgt : Int)) (hr : rg a ∧ rg b) (kt : EnQ x Qf j tgt L st m Y) (kf : EnQ x Qf j (pc + 3) L st m X) : EnQ x Qf j pc L (.int (oI b) :: .int (oI a) :: st) m (if a = b then X else Y) := by rw [← ite_iff (oI_eq hr.1 hr.2)]; exact E_icmp_ne hx tgt d h kt kf
theorem I_icmp_lt (hx : CxOK x own cc nL dp mc ret) {a b : Int} {off : Int} (tgt : Nat) (d : decode cc pc = .ok (.if_icmp .lt off, 3)) (h : (pc : Int) + off = (tgt : Int)) (hr : rg a ∧ rg b) (kt : EnQ x Qf j tgt L st m X) (kf : EnQ x Qf j (pc + 3) L st m Y) : EnQ x Qf j pc L (.int (oI b) :: .int (oI a) :: st) m (if a < b then X else Y) := by rw [← ite_iff (oI_lt hr.1 hr.2)]; exact E_icmp_lt hx tgt d h kt kf
theorem I_icmp_ge (hx : CxOK x own cc nL dp mc ret) {a b : Int} {off : Int} (tgt : Nat) (d : decode cc pc = .ok (.if_icmp .ge off, 3)) (h : (pc : Int) + off = (tgt : Int)) (hr : rg a ∧ rg b) (kt : EnQ x Qf j tgt L st m X) (kf : EnQ x Qf j (pc + 3) L st m Y) : EnQ x Qf j pc L (.int (oI b) :: .int (oI a) :: st) m (if b ≤ a then X else Y) := by rw [← ite_iff (oI_le hr.2 hr.1)]; exact E_icmp_ge hx tgt d h kt kf
theorem I_icmp_le (hx : CxOK x own cc nL dp mc ret) {a b : Int} {off : Int} (tgt : Nat) (d : decode cc pc = .ok (.if_icmp .le off, 3)) (h : (pc : Int) + off = (tgt : Int)) (hr : rg a ∧ rg b) (kt : EnQ x Qf j tgt L st m X) (kf : EnQ x Qf j (pc + 3) L st m Y) : EnQ x Qf j pc L (.int (oI b) :: .int (oI a) :: st) m (if a ≤ b then X else Y) := by rw [← ite_iff (oI_le hr.1 hr.2)]; exact E_icmp_le hx tgt d h kt kf
theorem I_icmp_gt (hx : CxOK x own cc nL dp mc ret) {a b : Int} {off : Int} (tgt : Nat) (d : decode cc pc = .ok (.if_icmp .gt off, 3)) (h : (pc : Int) + off = (tgt : Int)) (hr : rg a ∧ rg b) (kt : EnQ x Qf j tgt L st m X) (kf : EnQ x Qf j (pc + 3) L st m Y) : EnQ x Qf j pc L (.int (oI b) :: .int (oI a) :: st) m (if b < a then X else Y) := by rw [← ite_iff (oI_lt hr.2 hr.1)]; exact E_icmp_gt hx tgt d h kt kf
theorem I_getI (hx : CxOK x own cc nL dp mc ret) {ci N ix : Nat} {C fn fd : String} {Tt : u_T} (k : Nat) (kI : Int) {a : Nat} (hk : (k : Int) = kI) (fc : fcl ci C Tt N) (ha : shK a = 10 + ci) (he : xst (xN x) a) (hr : (rfB ci)[k]? = some false) (hT : (Tt k).1 = C ∧ (Tt k).2.1 = fn ∧ (Tt k).2.2.1 = fd) (g : Cond.fieldLink own ix C fn fd ∈ Gw) (d : decode cc pc = .ok (.getfield ix, 3)) (kk : EnQ x Qf j (pc + 3) L (.int (oI (w a kI)) :: st) (cm w) X) : EnQ x Qf j pc L (.ref a :: st) (cm w) X := by
  subst hk
  exact E_getI hx k fc ha he hr hT g d kk
theorem I_put (hx : CxOK x own cc nL dp mc ret) {ci N ix : Nat} {C fn fd : String} {Tt : u_T} (k : Nat) (kI : Int) {a : Nat} {v : Int} {K : aI → Option T} (hk : (k : Int) = kI) (ty : FieldType) (ty0 : Nat → FieldType) (fc : fcl ci C Tt N) (hty : ∀ k, k < N → parseFieldDescriptor (Tt k).2.2.1 = some (ty0 k)) (ha : shK a = 10 + ci) (he : xst (xN x) a) (hr : (rfB ci)[k]? = some false) (hT : (Tt k).1 = C ∧ (Tt k).2.1 = fn ∧ (Tt k).2.2.1 = fd ∧ (Tt k).2.2.2 = false ∧ parseFieldDescriptor fd = some ty) (hn : narrow ty (.int (oI v)) = .int (oI v)) (hfit : fits ty (.int (oI v)) = true) (g : Cond.fieldLink own ix C fn fd ∈ Gw) (d : decode cc pc = .ok (.putfield ix, 3)) (kk : ∀ w1 : aI, EnQ x Qf j (pc + 3) L st (cm w1) (K w1)) : EnQ x Qf j pc L (.int (oI v) :: .ref a :: st) (cm w) (ltM (iset w a kI v) K) := by
  subst hk
  have h := E_putI (w := cm w) (K := kfix (cm (iset w a (k : Int) v)) (K (iset w a (k : Int) v))) hx k ty ty0 fc hty ha he hr hT hn hfit g d (kfix_kk (kk _))
  rw [ltw, ← cm_set, kfix_eq] at h
  exact h
theorem I_iald (hx : CxOK x own cc nL dp mc ret) {a : Nat} {i : Int} (ha : shK a = 0) (d : decode cc pc = .ok (.iaload, 1)) (kk : EnQ x Qf j (pc + 1) L (.int (oI (w a i)) :: st) (cm w) X) : EnQ x Qf j pc L (.int (oI i) :: .ref a :: st) (cm w) (gd (inI i (shL a)) X) :=
  E_gd fun hi => by
    have h := E_iald (w := cm w) (X := X) hx ha d (i := oI i) (by rw [cm_at w a hi.1 (inI_rg hi)]; exact kk)
    rw [gd, if_pos (inI_inb hi)] at h
    exact h
theorem I_aald (hx : CxOK x own cc nL dp mc ret) {a : Nat} {i : Int} (ha : shK a = 3) (d : decode cc pc = .ok (.aaload, 1)) (kk : EnQ x Qf j (pc + 1) L (.ref (shR a i.toNat) :: st) (cm w) X) : EnQ x Qf j pc L (.int (oI i) :: .ref a :: st) (cm w) (gd (inI i (shL a)) X) :=
  E_gd fun hi => by
    have h := E_aald (w := cm w) (X := X) hx ha d (i := oI i) (by rw [oI_nat (inI_rg hi)]; exact kk)
    rw [gd, if_pos (inI_inb hi)] at h
    exact h
theorem I_iast (hx : CxOK x own cc nL dp mc ret) {a : Nat} {i v : Int} {K : aI → Option T} (ha : shK a = 0) (d : decode cc pc = .ok (.iastore, 1)) (kk : ∀ w1 : aI, EnQ x Qf j (pc + 1) L st (cm w1) (K w1)) : EnQ x Qf j pc L (.int (oI v) :: .int (oI i) :: .ref a :: st) (cm w) (gd (inI i (shL a)) (ltM (iset w a i v) K)) :=
  E_gd fun hi => by
    have h := E_iast (w := cm w) (K := kfix (cm (iset w a i v)) (K (iset w a i v))) hx ha d (i := oI i) (v := oI v) (kfix_kk (kk _))
    rw [gd, if_pos (inI_inb hi), ltw, ← cm_setI w a hi.1 (inI_rg hi), kfix_eq] at h
    exact h
theorem vp_b : ∀ v : Int, -128 ≤ v ∧ v ≤ 127 → vp_nar .byte (oI v) = oI v := by
  intro v h
  have e : oI v = oI (i2bI v) := by congr 1; unfold i2bI; omega
  have e2 : vp_nar .byte (oI v) = i2b (oI v) := rfl
  rw [e2, oI_i2b, ← e]
theorem vp_z {v : Int} (h : v = 0 ∨ v = 1) : vp_nar .boolean (oI v) = oI v := by rcases h with rfl | rfl <;> rfl
theorem I_alenI (hx : CxOK x own cc nL dp mc ret) {a : Nat} (ha : shK a = 0) (d : decode cc pc = .ok (.arraylength, 1)) (kk : EnQ x Qf j (pc + 1) L (.int (oI (shL a : Int)) :: st) m X) : EnQ x Qf j pc L (.ref a :: st) m X := E_alenI hx ha d (by rw [oI, Int32.ofInt_eq_ofNat] at kk; exact kk)
theorem I_alenA (hx : CxOK x own cc nL dp mc ret) {a : Nat} (ha : shK a = 3) (d : decode cc pc = .ok (.arraylength, 1)) (kk : EnQ x Qf j (pc + 1) L (.int (oI (shL a : Int)) :: st) m X) : EnQ x Qf j pc L (.ref a :: st) m X := E_alenA hx ha d (by rw [oI, Int32.ofInt_eq_ofNat] at kk; exact kk)
theorem I_ifB_eq (hx : CxOK x own cc nL dp mc ret) {a : Bool} {off : Int} (tgt : Nat) (d : decode cc pc = .ok (.ifCond .eq off, 3)) (h : (pc : Int) + off = (tgt : Int)) (kt : EnQ x Qf j tgt L st m Y) (kf : EnQ x Qf j (pc + 3) L st m X) : EnQ x Qf j pc L (.int (oI (bI a)) :: st) m (if a then X else Y) := by rw [oI_bI]; exact E_ifB_eq hx tgt d h kt kf
theorem I_ifB_ne (hx : CxOK x own cc nL dp mc ret) {a : Bool} {off : Int} (tgt : Nat) (d : decode cc pc = .ok (.ifCond .ne off, 3)) (h : (pc : Int) + off = (tgt : Int)) (kt : EnQ x Qf j tgt L st m X) (kf : EnQ x Qf j (pc + 3) L st m Y) : EnQ x Qf j pc L (.int (oI (bI a)) :: st) m (if a then X else Y) := by rw [oI_bI]; exact E_ifB_ne hx tgt d h kt kf
theorem swI_out {u : Int} (hr : rg u) {lo hi : Int} (h : u < lo ∨ hi < u) : (oI u).toInt < lo ∨ hi < (oI u).toInt := by rw [oI_toInt hr]; exact h
theorem I_mmax (hx : CxOK x own cc nL dp mc ret) {a b : Int} {ix : Nat} (hr : rg a ∧ rg b) (g : Cond.methodLink own ix Lib.Math.max.name ∈ Gw) (g2 : Cond.static Lib.Math.max.name ∈ Gw) (g3 : Cond.initialized "java/lang/Math" ∈ Gw) (g4 : Cond.code Lib.Math.max.name Lib.Math.max.code 2 (some .int) ∈ Gw) (hd : 1 ≤ dp) (hst : (st.map fun v => v.category).sum ≤ 26) (hj : j ≤ mc) (d : decode cc pc = .ok (.invokestatic ix, 3)) (kk : EnQ x Qf j (pc + 3) L (.int (oI (max a b)) :: st) m X) : EnQ x Qf j pc L (.int (oI b) :: .int (oI a) :: st) m X := E_mmax hx g g2 g3 g4 hd hst hj d (by rw [oI_max hr.1 hr.2]; exact kk)
theorem I_mmin (hx : CxOK x own cc nL dp mc ret) {a b : Int} {ix : Nat} (hr : rg a ∧ rg b) (g : Cond.methodLink own ix Lib.Math.min.name ∈ Gw) (g2 : Cond.static Lib.Math.min.name ∈ Gw) (g3 : Cond.initialized "java/lang/Math" ∈ Gw) (g4 : Cond.code Lib.Math.min.name Lib.Math.min.code 2 (some .int) ∈ Gw) (hd : 1 ≤ dp) (hst : (st.map fun v => v.category).sum ≤ 26) (hj : j ≤ mc) (d : decode cc pc = .ok (.invokestatic ix, 3)) (kk : EnQ x Qf j (pc + 3) L (.int (oI (min a b)) :: st) m X) : EnQ x Qf j pc L (.int (oI b) :: .int (oI a) :: st) m X := E_mmin hx g g2 g3 g4 hd hst hj d (by rw [oI_min hr.1 hr.2]; exact kk)
theorem I_copy (hx : CxOK x own cc nL dp mc ret) {a0 a : Nat} {n : Int} {ix : Nat} {K : aI → Option T} (h0 : shK a0 = 0) (h1 : shK a = 0) (g : Cond.methodLink own ix arraycopyName ∈ Gw) (g1 : Cond.native arraycopyName ∈ Gw) (g2 : Cond.static arraycopyName ∈ Gw) (g3 : Cond.initialized "java/lang/System" ∈ Gw) (hd : 3 ≤ dp) (hst : (st.map fun v => v.category).sum ≤ 8) (d : decode cc pc = .ok (.invokestatic ix, 3)) (kk : ∀ w1 : aI, EnQ x Qf j (pc + 3) L st (cm w1) (K w1)) : EnQ x Qf j pc L (.int (oI n) :: .int (oI 0) :: .ref a :: .int (oI 0) :: .ref a0 :: st) (cm w) (gd (0 ≤ n ∧ n ≤ (shL a0 : Int) ∧ n ≤ (shL a : Int)) (ltM (icpy w a0 a n) K)) :=
  E_gd fun hi => by
    have h9 := shL_le a
    have hr : rg n := by omega
    have h := E_copy (w := cm w) (K := kfix (cm (icpy w a0 a n)) (K (icpy w a0 a n))) hx h0 h1 g g1 g2 g3 hd hst d (n := oI n) (kfix_kk (kk _))
    rw [gd, if_pos (by rw [oI_lt0 hr, oI_nat hr]; omega), ltw, ← cm_cpy w a0 a hi.1 hr, kfix_eq] at h
    exact h
end IRules
