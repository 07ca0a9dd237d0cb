/-! ===== the context of a method's body, and what is owed at a place of it ===== -/
abbrev Cx : Type := Program × Launch × Env × Room × State × MethodId × Array Value × List Frame × Method × Code × va_G × (Nat → Nat) × (Nat → ClassId) × (Nat → Nat) × Nat × (Nat → Prop) × va_W
abbrev xp (x : Cx) : Program := x.1
abbrev xl (x : Cx) : Launch := x.2.1
abbrev xe (x : Cx) : Env := x.2.2.1
abbrev xRm (x : Cx) : Room := x.2.2.2.1
abbrev xs (x : Cx) : State := x.2.2.2.2.1
abbrev xm (x : Cx) : MethodId := x.2.2.2.2.2.1
abbrev xa (x : Cx) : Array Value := x.2.2.2.2.2.2.1
abbrev xb (x : Cx) : List Frame := x.2.2.2.2.2.2.2.1
abbrev xme (x : Cx) : Method := x.2.2.2.2.2.2.2.2.1
abbrev xc (x : Cx) : Code := x.2.2.2.2.2.2.2.2.2.1
abbrev xD (x : Cx) : va_G := x.2.2.2.2.2.2.2.2.2.2.1
abbrev xad (x : Cx) : Nat → Nat := x.2.2.2.2.2.2.2.2.2.2.2.1
abbrev xaT (x : Cx) : Nat → ClassId := x.2.2.2.2.2.2.2.2.2.2.2.2.1
abbrev xaV (x : Cx) : Nat → Nat := x.2.2.2.2.2.2.2.2.2.2.2.2.2.1
abbrev xN (x : Cx) : Nat := x.2.2.2.2.2.2.2.2.2.2.2.2.2.2.1
abbrev xA (x : Cx) : Nat → Prop := x.2.2.2.2.2.2.2.2.2.2.2.2.2.2.2.1
abbrev xX (x : Cx) : va_W := x.2.2.2.2.2.2.2.2.2.2.2.2.2.2.2.2
/-- the world's cells -/
abbrev xc9 (x : Cx) (w : aW) : va_W := conc (xad x) (xaT x) (xN x) w ++ xX x
/-- a room of d frames, mc throws -/
def rmd (d mc : Nat) : Room := { frames := d, cells := mc, slots := 6 * mc, locals := 39 * d }
/-- what holds all through a body -/
def CxOK (x : Cx) (own : String) (cc : ByteArray) (nL dp mc : Nat) (ret : Option FieldType) : Prop :=
  (xp x).tables.exec = Jvm.exec ∧ (xc x).code = cc ∧ (xc x).maxLocals = nL ∧ (xs x).vm.findClass own = some (xm x).cls ∧ (∀ w ∈ Gw, w.before (xa x) (xs x) = true) ∧
  (∀ z ∈ (xc x).exceptionTable.toList, False) ∧ (xme x).locks = false ∧ (xl x).stackTraces = false ∧ KA (xD x) (xaT x) (xs x) ∧ ((210 ≤ xN x ∧ xN x ≤ 800) ∧ (∀ w, va_D (xA x) (xc9 x w)) ∧ ∀ q, (xs x).heap.size ≤ q → xA x q) ∧
  XE (xad x) (xaV x) (xA x) (xs x) (xs x).heap ∧ xRm x = rmd dp mc ∧ (xme x).sig.returnType = ret
section
variable {x : Cx} {own : String} {cc : ByteArray} {nL dp mc : Nat} {ret : Option FieldType}
theorem CxOK.ex (h : CxOK x own cc nL dp mc ret) : (xp x).tables.exec = Jvm.exec := h.1
theorem CxOK.bs (h : CxOK x own cc nL dp mc ret) : (xc x).code = cc := h.2.1
theorem CxOK.ml (h : CxOK x own cc nL dp mc ret) : (xc x).maxLocals = nL := h.2.2.1
theorem CxOK.ow (h : CxOK x own cc nL dp mc ret) : (xs x).vm.findClass own = some (xm x).cls := h.2.2.2.1
theorem CxOK.ts (h : CxOK x own cc nL dp mc ret) : ∀ w ∈ Gw, w.before (xa x) (xs x) = true := h.2.2.2.2.1
theorem CxOK.nx (h : CxOK x own cc nL dp mc ret) : ∀ z ∈ (xc x).exceptionTable.toList, False := h.2.2.2.2.2.1
theorem CxOK.lk (h : CxOK x own cc nL dp mc ret) : (xme x).locks = false := h.2.2.2.2.2.2.1
theorem CxOK.tr (h : CxOK x own cc nL dp mc ret) : (xl x).stackTraces = false := h.2.2.2.2.2.2.2.1
theorem CxOK.ka (h : CxOK x own cc nL dp mc ret) : KA (xD x) (xaT x) (xs x) := h.2.2.2.2.2.2.2.2.1
theorem CxOK.kk (h : CxOK x own cc nL dp mc ret) : va_K (xD x) vwCl (tysA (xaT x)) (xs x) := h.ka.1
theorem CxOK.nn (h : CxOK x own cc nL dp mc ret) : 210 ≤ xN x := h.2.2.2.2.2.2.2.2.2.1.1.1
theorem CxOK.n8 (h : CxOK x own cc nL dp mc ret) : xN x ≤ 800 := h.2.2.2.2.2.2.2.2.2.1.1.2
theorem CxOK.dd (h : CxOK x own cc nL dp mc ret) : ∀ w, va_D (xA x) (xc9 x w) := h.2.2.2.2.2.2.2.2.2.1.2.1
theorem CxOK.fr (h : CxOK x own cc nL dp mc ret) : ∀ q, (xs x).heap.size ≤ q → xA x q := h.2.2.2.2.2.2.2.2.2.1.2.2
theorem CxOK.cl {a k : Nat} (h : CxOK x own cc nL dp mc ret) (ha : shK a = k) (hk : isCl k = true) : xst (xN x) a := Or.inl (shK_cl ha hk)
theorem CxOK.ci {a ci : Nat} (h : CxOK x own cc nL dp mc ret) (ha : shK a = 10 + ci) (hc : ci ≤ 8) : xst (xN x) a := Or.inl (shK_ci ha hc)
theorem CxOK.la {a k : Nat} (_ : CxOK x own cc nL dp mc ret) (hN : 241 ≤ xN x) (ha : shK a = k) (hk : isLa k = true) : xst (xN x) a := by
  have := shK_la ha hk
  exact Or.inr ⟨this.1, by omega⟩
theorem CxOK.gt {a : Nat} {w : aW} (h : CxOK x own cc nL dp mc ret) (he : xst (xN x) a) : (xc9 x w)[ps a]? = some (xad x a, cve (xad x) (xaT x) w a) := by
  rw [List.getElem?_append_left (by rw [conc_len]; exact ps_lt h.nn he)]
  exact conc_get h.nn he
theorem CxOK.st {a : Nat} {w w1 : aW} (h : CxOK x own cc nL dp mc ret) (he : xst (xN x) a) (hw : ∀ b, b ≠ a → w1 b = w b) : (xc9 x w).set (ps a) (xad x a, cve (xad x) (xaT x) w1 a) = xc9 x w1 := conc_set h.nn he hw
theorem CxOK.n9 {a : Nat} (h : CxOK x own cc nL dp mc ret) (he : xst (xN x) a) : (999 : Nat) ≠ a := by
  have := h.n8
  unfold xst at he
  omega
theorem CxOK.ada (h : CxOK x own cc nL dp mc ret) : (∀ a b, xst (xN x) a → xst (xN x) b → xad x a = xad x b → a = b) ∧ ∀ a, xst (xN x) a → xA x (xad x a) := by
  refine ⟨fun a b ha hb e => ?_, fun a ha => ?_⟩
  · have := (h.dd (fun _ _ => 0)).1 (ps a) (ps b) _ _ (h.gt ha) (h.gt hb) e
    exact ps_inj ha hb this
  · exact (h.dd (fun _ _ => 0)).2 _ _ (h.gt ha)
theorem CxOK.xe (h : CxOK x own cc nL dp mc ret) : XE (xad x) (xaV x) (xA x) (xs x) (xs x).heap := h.2.2.2.2.2.2.2.2.2.2.1
theorem CxOK.rm (h : CxOK x own cc nL dp mc ret) : xRm x = rmd dp mc := h.2.2.2.2.2.2.2.2.2.2.2.1
theorem CxOK.rt (h : CxOK x own cc nL dp mc ret) : (xme x).sig.returnType = ret := h.2.2.2.2.2.2.2.2.2.2.2.2
end
/-- an outcome: a value or none, or the name of what is thrown; and the ints behind it -/
abbrev aO : Type := ((Option Value) ⊕ String) × aW
def QcE (D : va_G) (ad : Nat → Nat) (aT : Nat → ClassId) (N : Nat) (A : Nat → Prop) (X : va_W) (r : aO) : Array Value → State → Outcome → State → Prop := fun _ st o u => (∃ v, r.1 = .inl v ∧ o = .returned (v.map (cvv ad))) ∧ (va_P D vwCl (conc ad aT N r.2 ++ X) u.heap ∧ nW r.2 = N) ∧ va_F A st u
def XcE (D : va_G) (ad : Nat → Nat) (aT : Nat → ClassId) (N : Nat) (A : Nat → Prop) (X : va_W) (r : aO) : String → State → State → Prop := fun E st u => r.1 = .inr E ∧ (va_P D vwCl (conc ad aT N r.2 ++ X) u.heap ∧ nW r.2 = N) ∧ va_F A st u
def Qm (x : Cx) (mc : Nat) (r : aO) : State → Prop := vx_MQ (xb x) (QcE (xD x) (xad x) (xaT x) (xN x) (xA x) (xX x) r) (XcE (xD x) (xad x) (xaT x) (xN x) (xA x) (xX x) r) (xa x) (xs x) mc (6 * mc) (xA x)
/-- the world in the heap -/
def cP (x : Cx) (w : aW) (H : Heap) : Prop := va_P (xD x) vwCl (xc9 x w) H ∧ nW w = xN x
/-- at pc, with j cells made: if X is some t, what is owed holds for t -/
def EnQ {T : Type} (x : Cx) (Qf : T → State → Prop) (j pc : Nat) (L : List (Nat × Value)) (st : List Value) (w : aW) (X : Option T) : Prop :=
  ∀ t, X = some t → ∀ (H : Heap) (locs : List Loc) (ls : Array Slot), cP x w H → va_S (xA x) (xs x).heap H locs → lv_has ls (xc x).maxLocals (L.map (cvq (xad x))) →
    W (xp x) (xl x) (xe x) (xRm x) (xs x) (xm x) (xa x) (xb x) (xme x) (xc x) H locs j (6 * j) (Qf t) (F0 (xm x) pc ls (st.map (cvv (xad x))))
/-- at pc, with j throwing calls behind: if X is some t, the method ends as cv t says -/
abbrev En {T : Type} (x : Cx) (cv : T → aO) (mc j pc : Nat) (L : List (Nat × Value)) (st : List Value) (w : aW) (X : Option T) : Prop := EnQ x (fun t => Qm x mc (cv t)) j pc L st w X
def PcE (D : va_G) (ad : Nat → Nat) (aT : Nat → ClassId) (N : Nat) (adV : Nat → Nat) (sz : Nat) (avs : List Value) (w : aW) : Array Value → State → Prop := fun a U => a = (avs.map (cvv ad)).toArray ∧ U.heap.size = sz ∧ (va_P D vwCl (conc ad aT N w) U.heap ∧ nW w = N) ∧ KA D aT U ∧ ((210 ≤ N ∧ N ≤ 800) ∧ AdOK ad N sz) ∧ XE ad adV (aA ad N sz) U U.heap
/-- a method's contract: if X is some t, it ends as cv t says -/
def Ev {T : Type} (y : MethodName) (cc : ByteArray) (nL : Nat) (ret : Option FieldType) (dp mc : Nat) (cv : T → aO) (avs : List Value) (w : aW) (X : Option T) : Prop :=
  ∀ t, X = some t → ∀ (l : Launch), l.stackTraces = false → ∀ (D : va_G) (ad : Nat → Nat) (aT : Nat → ClassId) (N : Nat) (adV : Nat → Nat) (sz : Nat), vx_Met l y (.code y cc nL ret :: Gw) (rmd dp mc) (PcE D ad aT N adV sz avs w) (QcE D ad aT N (aA ad N sz) [] (cv t)) (XcE D ad aT N (aA ad N sz) [] (cv t)) mc (6 * mc) (aA ad N sz)
theorem cvq_args (ad : Nat → Nat) (avs : List Value) : ∀ i, (lv_args i avs).map (cvq ad) = lv_args i (avs.map (cvv ad)) := by
  induction avs with
  | nil => intro i; rfl
  | cons v vs ih =>
    intro i
    show (i, cvv ad v) :: _ = (i, cvv ad v) :: lv_args (if (cvv ad v).category = 2 then i + 2 else i + 1) _
    rw [cvv_cat, ← ih]
theorem cvv_sl (ad : Nat → Nat) (avs : List Value) : (lg_sl (avs.map (cvv ad))).length = (lg_sl avs).length := by
  induction avs with
  | nil => rfl
  | cons v vs ih =>
    show ((if (cvv ad v).category = 2 then [Slot.val (cvv ad v), .second] else [.val (cvv ad v)]) ++ lg_sl (vs.map (cvv ad))).length = ((if v.category = 2 then [Slot.val v, .second] else [.val v]) ++ lg_sl vs).length
    rw [cvv_cat, List.length_append, List.length_append, ih]
    split <;> rfl
/-- a contract out of its body -/
theorem Ev.of {T : Type} {y : MethodName} {cc : ByteArray} {nL : Nat} {ret : Option FieldType} {dp mc : Nat} {cv : T → aO} {avs : List Value} {w : aW} {X : Option T} {own : String} (hy : plainName y.cls = true) (ho : y.cls = own) (hn : (lg_sl avs).length ≤ nL)
    (body : ∀ x : Cx, CxOK x own cc nL dp mc ret → En x cv mc 0 0 (lv_args 0 avs) [] w X) : Ev y cc nL ret dp mc cv avs w X := by
  intro t ht l htr D ad aT N adV sz
  refine vx_ofW (cc := cc) (maxL := nL) (ret := ret) hy rfl ?_
  intro p e s m args below meth c s₁ B hml hex hv
  obtain ⟨rfl, rfl, ⟨hP, hW9⟩, hK, ⟨hN, hA⟩, hX⟩ := hv
  have hts := atoms_spec (ws := .code y cc nL ret :: Gw) B.pre
  have C0 : CxOK (p, l, e, rmd dp mc, s, m, (avs.map (cvv ad)).toArray, below, meth, c, D, ad, aT, adV, N, aA ad N s.heap.size, []) own cc nL dp mc ret :=
    ⟨B.exec, B.bytes, hml, by rw [← ho]; exact findClass_of_methodNamed B.named, fun w hw => hts w (List.mem_cons_of_mem _ hw), hex, B.notSynchronized, htr, hK, ⟨hN, fun w => by show va_D _ (conc ad aT N w ++ []); rw [List.append_nil]; exact conc_D hN.1 hA aT w, fun q hq => Or.inr hq⟩, hX, rfl, B.returns⟩
  have hl := lv_entry (avs.map (cvv ad)) (n := nL) (by rw [cvv_sl]; exact hn)
  rw [lg_entry_eq]
  refine body _ C0 t ht s.heap [] _ ⟨by show va_P D vwCl (conc ad aT N w ++ []) s.heap; rw [List.append_nil]; exact hP, hW9⟩ va_S.rf ?_
  show lv_has _ c.maxLocals _
  rw [hml]
  rw [cvq_args]
  exact hl
section Rules
variable {T : Type} {x : Cx} {cv : T → aO} {Qf : T → State → Prop} {own : String} {cc : ByteArray} {nL dp mc j pc : Nat} {ret : Option FieldType} {L : List (Nat × Value)} {st : List Value} {w : aW} {X Y : Option T}
theorem En.lv {ls : Array Slot} {n : Nat} (h : lv_has ls n (L.map (cvq (xad x)))) (k : Nat) {i : Nat} {v : Value} (hk : L[k]? = some (i, v)) : ls[i]? = some (.val (cvv (xad x) v)) := lv_at h k (by rw [List.getElem?_map, hk]; rfl)
theorem cvq_filter (ad : Nat → Nat) (i : Nat) : ∀ L : List (Nat × Value), (L.map (cvq ad)).filter (fun q => !(q.1 == i) && !(q.1 + 1 == i && q.2.category == 2)) = (L.filter (fun q => !(q.1 == i) && !(q.1 + 1 == i && q.2.category == 2))).map (cvq ad) := by
  intro L
  rw [List.filter_map]
  congr 1
  apply List.filter_congr
  intro q _
  show (!(q.1 == i) && !(q.1 + 1 == i && (cvv ad q.2).category == 2)) = _
  rw [cvv_cat]
theorem En.sub (ks : List Nat) {L' : List (Nat × Value)} (h : lv_pick L ks = L') (k : EnQ x Qf j pc L' st w X) : EnQ x Qf j pc L st w X := by
  intro t ht H locs ls hP hS hl
  refine k t ht H locs ls hP hS (lv_sub hl ks ?_)
  rw [← h]
  show ks.filterMap _ = (ks.filterMap _).map _
  rw [List.map_filterMap]
  congr 1
  funext i
  rw [List.getElem?_map]
theorem E_gd {c : Prop} [Decidable c] (k : c → EnQ x Qf j pc L st w X) : EnQ x Qf j pc L st w (gd c X) := by
  intro t ht
  by_cases h : c
  · exact k h t (by rw [gd, if_pos h] at ht; exact ht)
  · rw [gd, if_neg h] at ht; cases ht
theorem E_ltw {w1 : aW} {K : aW → Option T} (k : ∀ w2, EnQ x Qf j pc L st w2 (K w2)) : EnQ x Qf j pc L st w1 (ltw w1 K) := k w1
theorem E_ltv {v : Int32} {K : Int32 → Option T} (k : ∀ u, EnQ x Qf j pc L (.int u :: st) w (K u)) : EnQ x Qf j pc L (.int v :: st) w (ltv v K) := k v
theorem E_none : EnQ x Qf j pc L st w (none : Option T) := fun _ h => nomatch h
theorem E_iload_n (hx : CxOK x own cc nL dp mc ret) {n : Fin 4} {i : Nat} {v : Int32} (k : Nat) (d : decode cc pc = .ok (.iload_n n, 1)) (hi : (n : Nat) = i) (hk : L[k]? = some (i, .int v)) (kk : EnQ x Qf j (pc + 1) L (.int v :: st) w X) : EnQ x Qf j pc L st w X :=
  fun t ht H locs ls hP hS hl => lv_iload_n hx.ex hx.bs d hi (En.lv hl k hk) (kk t ht H locs ls hP hS hl)
theorem E_iload (hx : CxOK x own cc nL dp mc ret) {i : Nat} {v : Int32} (k : Nat) (d : decode cc pc = .ok (.iload i, 2)) (hk : L[k]? = some (i, .int v)) (kk : EnQ x Qf j (pc + 2) L (.int v :: st) w X) : EnQ x Qf j pc L st w X :=
  fun t ht H locs ls hP hS hl => lv_iload hx.ex hx.bs d (En.lv hl k hk) (kk t ht H locs ls hP hS hl)
theorem E_aload_n (hx : CxOK x own cc nL dp mc ret) {n : Fin 4} {i : Nat} {v : Nat} (k : Nat) (d : decode cc pc = .ok (.aload_n n, 1)) (hi : (n : Nat) = i) (hk : L[k]? = some (i, .ref v)) (kk : EnQ x Qf j (pc + 1) L (.ref v :: st) w X) : EnQ x Qf j pc L st w X :=
  fun t ht H locs ls hP hS hl => lv_aload_n hx.ex hx.bs d hi (En.lv hl k hk) (kk t ht H locs ls hP hS hl)
theorem E_aload (hx : CxOK x own cc nL dp mc ret) {i : Nat} {v : Nat} (k : Nat) (d : decode cc pc = .ok (.aload i, 2)) (hk : L[k]? = some (i, .ref v)) (kk : EnQ x Qf j (pc + 2) L (.ref v :: st) w X) : EnQ x Qf j pc L st w X :=
  fun t ht H locs ls hP hS hl => lv_aload hx.ex hx.bs d (En.lv hl k hk) (kk t ht H locs ls hP hS hl)
theorem E_lload_n (hx : CxOK x own cc nL dp mc ret) {n : Fin 4} {i : Nat} {v : Int64} (k : Nat) (d : decode cc pc = .ok (.lload_n n, 1)) (hi : (n : Nat) = i) (hk : L[k]? = some (i, .long v)) (kk : EnQ x Qf j (pc + 1) L (.long v :: st) w X) : EnQ x Qf j pc L st w X :=
  fun t ht H locs ls hP hS hl => lv_lload_n hx.ex hx.bs d hi (En.lv hl k hk) (kk t ht H locs ls hP hS hl)
theorem E_lload (hx : CxOK x own cc nL dp mc ret) {i : Nat} {v : Int64} (k : Nat) (d : decode cc pc = .ok (.lload i, 2)) (hk : L[k]? = some (i, .long v)) (kk : EnQ x Qf j (pc + 2) L (.long v :: st) w X) : EnQ x Qf j pc L st w X :=
  fun t ht H locs ls hP hS hl => lv_lload hx.ex hx.bs d (En.lv hl k hk) (kk t ht H locs ls hP hS hl)
theorem E_iconst (hx : CxOK x own cc nL dp mc ret) {n : Int} (v : Int32) (d : decode cc pc = .ok (.iconst n, 1)) (hv : Int32.ofInt n = v) (kk : EnQ x Qf j (pc + 1) L (.int v :: st) w X) : EnQ x Qf j pc L st w X :=
  fun t ht H locs ls hP hS hl => lv_iconst hx.ex hx.bs d hv (kk t ht H locs ls hP hS hl)
theorem E_bipush (hx : CxOK x own cc nL dp mc ret) {n : Int} (v : Int32) (d : decode cc pc = .ok (.bipush n, 2)) (hv : (Int8.ofInt n).toInt32 = v) (kk : EnQ x Qf j (pc + 2) L (.int v :: st) w X) : EnQ x Qf j pc L st w X :=
  fun t ht H locs ls hP hS hl => lv_bipush hx.ex hx.bs d hv (kk t ht H locs ls hP hS hl)
theorem E_sipush (hx : CxOK x own cc nL dp mc ret) {n : Int} (v : Int32) (d : decode cc pc = .ok (.sipush n, 3)) (hv : (Int16.ofInt n).toInt32 = v) (kk : EnQ x Qf j (pc + 3) L (.int v :: st) w X) : EnQ x Qf j pc L st w X :=
  fun t ht H locs ls hP hS hl => lv_sipush hx.ex hx.bs d hv (kk t ht H locs ls hP hS hl)
theorem E_ldc (hx : CxOK x own cc nL dp mc ret) {ix : Nat} (v : Int32) (g : Cond.constant own ix v ∈ Gw) (d : decode cc pc = .ok (.ldc ix, 2)) (kk : EnQ x Qf j (pc + 2) L (.int v :: st) w X) : EnQ x Qf j pc L st w X :=
  fun t ht H locs ls hP hS hl => lv_ldc hx.ex hx.bs hx.ow (hx.ts _ g) d (kk t ht H locs ls hP hS hl)
theorem E_istore_n (hx : CxOK x own cc nL dp mc ret) {n : Fin 4} {i : Nat} {v : Int32} {L' : List (Nat × Value)} (d : decode cc pc = .ok (.istore_n n, 1)) (hi : (n : Nat) = i) (hn : i < nL) (hL : (i, Value.int v) :: L.filter (fun q => !(q.1 == i) && !(q.1 + 1 == i && q.2.category == 2)) = L') (kk : EnQ x Qf j (pc + 1) L' st w X) : EnQ x Qf j pc L (.int v :: st) w X :=
  fun t ht H locs ls hP hS hl => lv_istore_n hx.ex hx.bs d hi hl (by rw [hx.ml]; exact hn) (lv' := L'.map (cvq (xad x))) (by rw [cvq_filter, ← hL]; rfl) (fun ls' hl' => kk t ht H locs ls' hP hS hl')
theorem E_istore (hx : CxOK x own cc nL dp mc ret) {i : Nat} {v : Int32} {L' : List (Nat × Value)} (d : decode cc pc = .ok (.istore i, 2)) (hn : i < nL) (hL : (i, Value.int v) :: L.filter (fun q => !(q.1 == i) && !(q.1 + 1 == i && q.2.category == 2)) = L') (kk : EnQ x Qf j (pc + 2) L' st w X) : EnQ x Qf j pc L (.int v :: st) w X :=
  fun t ht H locs ls hP hS hl => lv_istore hx.ex hx.bs d hl (by rw [hx.ml]; exact hn) (lv' := L'.map (cvq (xad x))) (by rw [cvq_filter, ← hL]; rfl) (fun ls' hl' => kk t ht H locs ls' hP hS hl')
theorem E_astore_n (hx : CxOK x own cc nL dp mc ret) {n : Fin 4} {i : Nat} {v : Nat} {L' : List (Nat × Value)} (d : decode cc pc = .ok (.astore_n n, 1)) (hi : (n : Nat) = i) (hn : i < nL) (hL : (i, Value.ref v) :: L.filter (fun q => !(q.1 == i) && !(q.1 + 1 == i && q.2.category == 2)) = L') (kk : EnQ x Qf j (pc + 1) L' st w X) : EnQ x Qf j pc L (.ref v :: st) w X :=
  fun t ht H locs ls hP hS hl => lv_astore_n hx.ex hx.bs d hi hl (by rw [hx.ml]; exact hn) (lv' := L'.map (cvq (xad x))) (by rw [cvq_filter, ← hL]; rfl) (fun ls' hl' => kk t ht H locs ls' hP hS hl')
theorem E_astore (hx : CxOK x own cc nL dp mc ret) {i : Nat} {v : Nat} {L' : List (Nat × Value)} (d : decode cc pc = .ok (.astore i, 2)) (hn : i < nL) (hL : (i, Value.ref v) :: L.filter (fun q => !(q.1 == i) && !(q.1 + 1 == i && q.2.category == 2)) = L') (kk : EnQ x Qf j (pc + 2) L' st w X) : EnQ x Qf j pc L (.ref v :: st) w X :=
  fun t ht H locs ls hP hS hl => lv_astore hx.ex hx.bs d hl (by rw [hx.ml]; exact hn) (lv' := L'.map (cvq (xad x))) (by rw [cvq_filter, ← hL]; rfl) (fun ls' hl' => kk t ht H locs ls' hP hS hl')
theorem E_iinc (hx : CxOK x own cc nL dp mc ret) {i : Nat} {n : Int} {v u : Int32} {L' : List (Nat × Value)} (k : Nat) (d : decode cc pc = .ok (.iinc i n, 3)) (hk : L[k]? = some (i, .int v)) (hv : Int32.ofInt n = u) (hn : i < nL) (hL : (i, Value.int (v + u)) :: L.filter (fun q => !(q.1 == i) && !(q.1 + 1 == i && q.2.category == 2)) = L') (kk : EnQ x Qf j (pc + 3) L' st w X) : EnQ x Qf j pc L st w X :=
  fun t ht H locs ls hP hS hl => lv_iinc hx.ex hx.bs (k := k) (v := v + u) d hl (by rw [List.getElem?_map, hk]; rfl) (by rw [hv]) (by rw [hx.ml]; exact hn) (lv' := L'.map (cvq (xad x))) (by rw [cvq_filter, ← hL]; rfl) (fun ls' hl' => kk t ht H locs ls' hP hS hl')
theorem E_iadd (hx : CxOK x own cc nL dp mc ret) {a b : Int32} (d : decode cc pc = .ok (.iadd, 1)) (kk : EnQ x Qf j (pc + 1) L (.int (a + b) :: st) w X) : EnQ x Qf j pc L (.int b :: .int a :: st) w X :=
  fun t ht H locs ls hP hS hl => lv_iadd hx.ex hx.bs d (kk t ht H locs ls hP hS hl)
theorem E_isub (hx : CxOK x own cc nL dp mc ret) {a b : Int32} (d : decode cc pc = .ok (.isub, 1)) (kk : EnQ x Qf j (pc + 1) L (.int (a - b) :: st) w X) : EnQ x Qf j pc L (.int b :: .int a :: st) w X :=
  fun t ht H locs ls hP hS hl => lv_isub hx.ex hx.bs d (kk t ht H locs ls hP hS hl)
theorem E_imul (hx : CxOK x own cc nL dp mc ret) {a b : Int32} (d : decode cc pc = .ok (.imul, 1)) (kk : EnQ x Qf j (pc + 1) L (.int (a * b) :: st) w X) : EnQ x Qf j pc L (.int b :: .int a :: st) w X :=
  fun t ht H locs ls hP hS hl => lv_imul hx.ex hx.bs d (kk t ht H locs ls hP hS hl)
theorem E_idiv (hx : CxOK x own cc nL dp mc ret) {a b : Int32} (d : decode cc pc = .ok (.idiv, 1)) (hb : ¬ b = 0) (kk : EnQ x Qf j (pc + 1) L (.int (a / b) :: st) w X) : EnQ x Qf j pc L (.int b :: .int a :: st) w X :=
  fun t ht H locs ls hP hS hl => lv_idiv hx.ex hx.bs d hb (kk t ht H locs ls hP hS hl)
theorem E_irem (hx : CxOK x own cc nL dp mc ret) {a b : Int32} (d : decode cc pc = .ok (.irem, 1)) (hb : ¬ b = 0) (kk : EnQ x Qf j (pc + 1) L (.int (irm a b) :: st) w X) : EnQ x Qf j pc L (.int b :: .int a :: st) w X :=
  fun t ht H locs ls hP hS hl => lv_irem hx.ex hx.bs d hb (kk t ht H locs ls hP hS hl)
theorem E_ineg (hx : CxOK x own cc nL dp mc ret) {a : Int32} (d : decode cc pc = .ok (.ineg, 1)) (kk : EnQ x Qf j (pc + 1) L (.int (-a) :: st) w X) : EnQ x Qf j pc L (.int a :: st) w X :=
  fun t ht H locs ls hP hS hl => lv_ineg hx.ex hx.bs d (kk t ht H locs ls hP hS hl)
theorem E_ishl (hx : CxOK x own cc nL dp mc ret) {a b : Int32} (d : decode cc pc = .ok (.ishl, 1)) (kk : EnQ x Qf j (pc + 1) L (.int (a <<< (b &&& 31)) :: st) w X) : EnQ x Qf j pc L (.int b :: .int a :: st) w X :=
  fun t ht H locs ls hP hS hl => lv_ishl hx.ex hx.bs d (kk t ht H locs ls hP hS hl)
theorem E_ishr (hx : CxOK x own cc nL dp mc ret) {a b : Int32} (d : decode cc pc = .ok (.ishr, 1)) (kk : EnQ x Qf j (pc + 1) L (.int (a >>> (b &&& 31)) :: st) w X) : EnQ x Qf j pc L (.int b :: .int a :: st) w X :=
  fun t ht H locs ls hP hS hl => lv_ishr hx.ex hx.bs d (kk t ht H locs ls hP hS hl)
theorem E_iand (hx : CxOK x own cc nL dp mc ret) {a b : Int32} (d : decode cc pc = .ok (.iand, 1)) (kk : EnQ x Qf j (pc + 1) L (.int (a &&& b) :: st) w X) : EnQ x Qf j pc L (.int b :: .int a :: st) w X :=
  fun t ht H locs ls hP hS hl => lv_iand hx.ex hx.bs d (kk t ht H locs ls hP hS hl)
theorem E_ior (hx : CxOK x own cc nL dp mc ret) {a b : Int32} (d : decode cc pc = .ok (.ior, 1)) (kk : EnQ x Qf j (pc + 1) L (.int (a ||| b) :: st) w X) : EnQ x Qf j pc L (.int b :: .int a :: st) w X :=
  fun t ht H locs ls hP hS hl => lv_ior hx.ex hx.bs d (kk t ht H locs ls hP hS hl)
theorem E_ixor (hx : CxOK x own cc nL dp mc ret) {a b : Int32} (d : decode cc pc = .ok (.ixor, 1)) (kk : EnQ x Qf j (pc + 1) L (.int (a ^^^ b) :: st) w X) : EnQ x Qf j pc L (.int b :: .int a :: st) w X :=
  fun t ht H locs ls hP hS hl => lv_ixor hx.ex hx.bs d (kk t ht H locs ls hP hS hl)
end Rules
