/-! ===== methods that make cells ===== -/
theorem va_P_mem {D : va_G} {cl : List vw_C} {ws : va_W} {H : Heap} : va_P D cl ws H ↔ ∀ q ∈ ws, va_at D cl q H := by
  refine ⟨fun h q hq => ?_, fun h k q hk => h q (List.mem_of_getElem? hk)⟩
  obtain ⟨i, hi⟩ := List.getElem?_of_mem hq
  exact h i q hi
theorem va_D_nd {A : Nat → Prop} {ws : va_W} (h : va_D A ws) : (ws.map fun q => q.1).Nodup := by
  unfold List.Nodup
  rw [List.pairwise_iff_getElem]
  intro i j hi hj hij e
  rw [List.length_map] at hi hj
  rw [List.getElem_map, List.getElem_map] at e
  have := h.1 i j _ _ (List.getElem?_eq_getElem hi) (List.getElem?_eq_getElem hj) e
  omega
theorem va_D_of {A : Nat → Prop} {ws : va_W} (h : (ws.map fun q => q.1).Nodup) (k : ∀ q ∈ ws, A q.1) : va_D A ws := by
  have key : ∀ (i j : Nat) (p q : Nat × va_E), ws[i]? = some p → ws[j]? = some q → i < j → ¬ p.1 = q.1 := by
    intro i j p q hi hj hij e
    unfold List.Nodup at h
    rw [List.pairwise_iff_getElem] at h
    obtain ⟨hi1, hi2⟩ := List.getElem?_eq_some_iff.mp hi
    obtain ⟨hj1, hj2⟩ := List.getElem?_eq_some_iff.mp hj
    refine h i j (by rw [List.length_map]; exact hi1) (by rw [List.length_map]; exact hj1) hij ?_
    rw [List.getElem_map, List.getElem_map, hi2, hj2]
    exact e
  refine ⟨fun i j p q hi hj e => ?_, fun i q hi => k q (List.mem_of_getElem? hi)⟩
  rcases Nat.lt_trichotomy i j with c | c | c
  · exact absurd e (key i j p q hi hj c)
  · exact c
  · exact absurd e.symm (key j i q p hj hi c)
theorem arrV_cg {cI : ClassId} {N : Nat} {f g : Nat → Value} (h : ∀ j, j < N → f j = g j) : arrV cI N f = arrV cI N g := by
  unfold arrV
  have : (fun j : Fin N => f j.val) = fun j => g j.val := funext fun j => h j.val j.isLt
  rw [this]
/-- the same context with more cells -/
def updN (x : Cx) (ad : Nat → Nat) (N : Nat) : Cx := (xp x, xl x, xe x, xRm x, xs x, xm x, xa x, xb x, xme x, xc x, xD x, ad, xaT x, xaV x, N, xA x, xX x)
/-- which old cells stand where they stood -/
def Agr (ad ad2 : Nat → Nat) (N N2 : Nat) : Prop := (N ≤ N2 ∧ N2 ≤ 800) ∧ (∀ a, xst N a → ad2 a = ad a) ∧ ∀ a, 1000 ≤ a → ad2 a = ad a
theorem xst.mono {N N2 a : Nat} (h : xst N a) (hN : N ≤ N2) : xst N2 a := h.imp id (fun q => ⟨q.1, by omega⟩)
theorem Agr.rf {ad : Nat → Nat} {N : Nat} (h : N ≤ 800) : Agr ad ad N N := ⟨⟨Nat.le_refl _, h⟩, fun _ _ => rfl, fun _ _ => rfl⟩
theorem Agr.trans {ad ad2 ad3 : Nat → Nat} {N N2 N3 : Nat} (h : Agr ad ad2 N N2) (k : Agr ad2 ad3 N2 N3) : Agr ad ad3 N N3 :=
  ⟨⟨Nat.le_trans h.1.1 k.1.1, k.1.2⟩, fun a ha => (k.2.1 a (ha.mono h.1.1)).trans (h.2.1 a ha), fun a ha => (k.2.2 a ha).trans (h.2.2 a ha)⟩
def Gr (x0 x : Cx) : Prop := ∃ ad N, x = updN x0 ad N ∧ Agr (xad x0) ad (xN x0) N
theorem Gr.rf {x : Cx} (h : xN x ≤ 800) : Gr x x := ⟨xad x, xN x, rfl, Agr.rf h⟩
theorem Gr.step {x0 x : Cx} {ad : Nat → Nat} {N : Nat} (h : Gr x0 x) (k : Agr (xad x) ad (xN x) N) : Gr x0 (updN x ad N) := by
  obtain ⟨ad1, N1, rfl, h1⟩ := h
  exact ⟨ad, N, rfl, h1.trans k⟩
/-- values of old cells -/
def okv (N : Nat) : Value → Prop
  | .ref a => xst N a ∨ 1000 ≤ a
  | _ => True
def okL (N : Nat) : List (Nat × Value) → Prop
  | [] => True
  | q :: r => okv N q.2 ∧ okL N r
def okS (N : Nat) : List Value → Prop
  | [] => True
  | v :: r => okv N v ∧ okS N r
theorem okv.cv {ad ad2 : Nat → Nat} {N N2 : Nat} (h : Agr ad ad2 N N2) {v : Value} (hv : okv N v) : cvv ad2 v = cvv ad v := by
  cases v <;> first | rfl | skip
  rename_i a
  show Value.ref (ad2 a) = Value.ref (ad a)
  rcases hv with q | q
  · rw [h.2.1 a q]
  · rw [h.2.2 a q]
theorem okL.cv {ad ad2 : Nat → Nat} {N N2 : Nat} (h : Agr ad ad2 N N2) : ∀ {L : List (Nat × Value)}, okL N L → L.map (cvq ad2) = L.map (cvq ad) := by
  intro L
  induction L with
  | nil => intro _; rfl
  | cons q r ih =>
    intro hL
    show cvq ad2 q :: _ = cvq ad q :: _
    rw [ih hL.2, cvq, cvq, hL.1.cv h]
theorem okS.cv {ad ad2 : Nat → Nat} {N N2 : Nat} (h : Agr ad ad2 N N2) : ∀ {L : List Value}, okS N L → L.map (cvv ad2) = L.map (cvv ad) := by
  intro L
  induction L with
  | nil => intro _; rfl
  | cons q r ih =>
    intro hL
    show cvv ad2 q :: _ = cvv ad q :: _
    rw [ih hL.2, hL.1.cv h]
theorem XE.agr {ad ad2 adV : Nat → Nat} {N N2 : Nat} {A : Nat → Prop} {U : State} {H : Heap} (h : Agr ad ad2 N N2) (k : XE ad adV A U H) : XE ad2 adV A U H := by
  obtain ⟨h1, h2, h3⟩ := k
  refine ⟨fun i hi => ?_, fun q hq => ?_, h3⟩
  · rw [h.2.2 (sx i) (show 1000 ≤ 2000 + i by omega), h.2.2 (sv i) (show 1000 ≤ 3000 + i by omega)]
    exact h1 i hi
  · rw [h.2.2 (sx q.2.2.2) (show 1000 ≤ 2000 + q.2.2.2 by omega)]
    exact h2 q hq
section
variable {own : String} {cc : ByteArray} {nL dp mc : Nat} {ret : Option FieldType} {x x0 : Cx}
theorem CxOK.up {ad : Nat → Nat} {N : Nat} (hx : CxOK x own cc nL dp mc ret) (h : Agr (xad x) ad (xN x) N) (hD : ∀ w, va_D (xA x) (conc ad (xaT x) N w ++ xX x)) : CxOK (updN x ad N) own cc nL dp mc ret := by
  obtain ⟨q1, q2, q3, q4, q5, q6, q7, q8, q9, ⟨⟨r1, r2⟩, r3, r4⟩, q10, q11, q12⟩ := hx
  exact ⟨q1, q2, q3, q4, q5, q6, q7, q8, q9, ⟨⟨Nat.le_trans r1 h.1.1, h.1.2⟩, hD, r4⟩, q10.agr h, q11, q12⟩
theorem dy.up {ad : Nat → Nat} {N a : Nat} (h : Agr (xad x) ad (xN x) N) (k : dy x a) : dy (updN x ad N) a := ⟨k.1, by have := k.2; have := h.1.1; show a < N + 90; omega⟩
end
/-- what a method owes that makes cells -/
def QgE (D : va_G) (ad : Nat → Nat) (aT : Nat → ClassId) (N : Nat) (A : Nat → Prop) (X : va_W) (r : aO) : Array Value → State → Outcome → State → Prop := fun _ st o u => ∃ ad2 N2, Agr ad ad2 N N2 ∧ (∀ w, va_D A (conc ad2 aT N2 w ++ X)) ∧ (∃ v, r.1 = .inl v ∧ o = .returned (v.map (cvv ad2))) ∧ (va_P D vwCl (conc ad2 aT N2 r.2 ++ X) u.heap ∧ nW r.2 = N2) ∧ va_F A st u
def Xno : String → State → State → Prop := fun _ _ _ => False
def Qg (x : Cx) (mc : Nat) (r : aO) : State → Prop := vx_MQ (xb x) (QgE (xD x) (xad x) (xaT x) (xN x) (xA x) (xX x) r) Xno (xa x) (xs x) mc (6 * mc) (xA x)
abbrev EnG {T : Type} (x0 x : Cx) (cv : T → aO) (mc j pc : Nat) (L : List (Nat × Value)) (st : List Value) (w : aW) (X : Option T) : Prop := EnQ x (fun t => Qg x0 mc (cv t)) j pc L st w X
def EvG {T : Type} (y : MethodName) (cc : ByteArray) (nL : Nat) (ret : Option FieldType) (dp mc : Nat) (cv : T → aO) (avs : List Value) (w : aW) (X : Option T) : Prop :=
  ∀ t, X = some t → ∀ (l : Launch), l.stackTraces = false → ∀ (D : va_G) (ad : Nat → Nat) (aT : Nat → ClassId) (N : Nat) (adV : Nat → Nat) (sz : Nat), vx_Met l y (.code y cc nL ret :: Gw) (rmd dp mc) (PcE D ad aT N adV sz avs w) (QgE D ad aT N (aA ad N sz) [] (cv t)) Xno mc (6 * mc) (aA ad N sz)
theorem EvG.of {T : Type} {y : MethodName} {cc : ByteArray} {nL : Nat} {ret : Option FieldType} {dp mc : Nat} {cv : T → aO} {avs : List Value} {w : aW} {X : Option T} {own : String} (hy : plainName y.cls = true) (ho : y.cls = own) (hn : (lg_sl avs).length ≤ nL)
    (body : ∀ x : Cx, CxOK x own cc nL dp mc ret → Gr x x → EnG x x cv mc 0 0 (lv_args 0 avs) [] w X) : EvG y cc nL ret dp mc cv avs w X := by
  intro t ht l htr D ad aT N adV sz
  refine vx_ofW (cc := cc) (maxL := nL) (ret := ret) hy rfl ?_
  intro p e s m args below meth c s₁ B hml hex hv
  obtain ⟨rfl, rfl, ⟨hP, hW9⟩, hK, ⟨hN, hA⟩, hX⟩ := hv
  have hts := atoms_spec (ws := .code y cc nL ret :: Gw) B.pre
  have C0 : CxOK (p, l, e, rmd dp mc, s, m, (avs.map (cvv ad)).toArray, below, meth, c, D, ad, aT, adV, N, aA ad N s.heap.size, []) own cc nL dp mc ret :=
    ⟨B.exec, B.bytes, hml, by rw [← ho]; exact findClass_of_methodNamed B.named, fun w hw => hts w (List.mem_cons_of_mem _ hw), hex, B.notSynchronized, htr, hK, ⟨hN, fun w => by show va_D _ (conc ad aT N w ++ []); rw [List.append_nil]; exact conc_D hN.1 hA aT w, fun q hq => Or.inr hq⟩, hX, rfl, B.returns⟩
  have hl := lv_entry (avs.map (cvv ad)) (n := nL) (by rw [cvv_sl]; exact hn)
  rw [lg_entry_eq]
  refine body _ C0 (Gr.rf hN.2) t ht s.heap [] _ ⟨by show va_P D vwCl (conc ad aT N w ++ []) s.heap; rw [List.append_nil]; exact hP, hW9⟩ va_S.rf ?_
  show lv_has _ c.maxLocals _
  rw [hml]
  rw [cvq_args]
  exact hl
section GR
variable {T : Type} {x x0 : Cx} {cv : T → aO} {Qf : T → State → Prop} {own : String} {cc : ByteArray} {nL dp mc j pc : Nat} {ret : Option FieldType} {L : List (Nat × Value)} {st : List Value} {w : aI} {m : aW} {X Y : Option T}
theorem Qg_ret {mc j : Nat} {r : aO} {H : Heap} {locs : List Loc} {g : JFrame} {v : Option Value} (hx : CxOK x own cc nL dp mc ret) (hG : Gr x0 x) (hv : r.1 = .inl v) (hP : cP x r.2 H) (hS : va_S (xA x) (xs x).heap H locs) (hj : j ≤ mc)
    (k : (∀ t : State, t.heap = H → (xs x).WarmedH t.vm → QgE (xD x0) (xad x0) (xaT x0) (xN x0) (xA x0) (xX x0) r (xa x) (xs x) (.returned (v.map (cvv (xad x)))) t) → (∀ q ∈ locs, (xA x) q.base) → W (xp x) (xl x) (xe x) (xRm x) (xs x) (xm x) (xa x) (xb x) (xme x) (xc x) H locs mc (6 * mc) (MQ (xb x) (QgE (xD x0) (xad x0) (xaT x0) (xN x0) (xA x0) (xX x0) r) (xa x) (xs x) mc (6 * mc) (xA x)) g) :
    W (xp x) (xl x) (xe x) (xRm x) (xs x) (xm x) (xa x) (xb x) (xme x) (xc x) H locs j (6 * j) (Qg x0 mc r) g := by
  obtain ⟨ad, N, rfl, hA⟩ := hG
  exact vx_ret (W.widen hj (Nat.mul_le_mul_left 6 hj) (k (fun t ht _ => ⟨ad, N, hA, hx.dd, ⟨v, hv, rfl⟩, by rw [ht]; exact hP, hS.F ht⟩) hS.2.2))
theorem G_vret (hx : CxOK x own cc nL dp mc ret) (hG : Gr x0 x) {r : T} (d : decode cc pc = .ok (.return_, 1)) (hr : ret = none) (hc : cv r = (.inl none, m)) (hj : j ≤ mc) : EnG x0 x cv mc j pc L [] m (some r) := by
  intro t ht H locs ls hP hS hl
  cases ht
  refine Qg_ret (v := none) hx hG (by rw [hc]) (by rw [hc]; exact hP) hS hj (fun h1 h2 => W.vret hx.ex hx.bs (by rw [hx.rt]; exact hr) h1 h2 d (hlocks := hx.lk))
theorem G_zret (hx : CxOK x own cc nL dp mc ret) (hG : Gr x0 x) {v : Int32} {r : T} (d : decode cc pc = .ok (.ireturn, 1)) (hr : ret = some .boolean) (hn : narrow .boolean (.int v) = .int v) (hc : cv r = (.inl (some (.int v)), m)) (hj : j ≤ mc) : EnG x0 x cv mc j pc L [.int v] m (some r) := by
  intro t ht H locs ls hP hS hl
  cases ht
  refine Qg_ret (v := some (.int v)) hx hG (by rw [hc]) (by rw [hc]; exact hP) hS hj (fun h1 h2 => W.zret (v := v) hx.ex hx.bs (by rw [hx.rt]; exact hr) hn h1 h2 d (hlocks := hx.lk))
/-- an int array is made: its length stands at 100, the count of cells at 999 -/
def newW (w : aI) (n : Int) : aI := fun b k => if b = (w 999 0 + 90).toNat then (if k = 100 then n else 0) else if b = 999 ∧ k = 0 then w 999 0 + 1 else w b k
theorem cn_last {N : Nat} (h : 210 ≤ N) : cn N = N + 90 := by unfold cn; rw [if_neg (by omega)]
theorem shR_lo (b k : Nat) : shR b k < 331 := by
  have h8 : ∀ a, a < 331 → ∀ z ∈ (shT.getD a (9, 0, [])).2.2, z < 331 := by decide +kernel
  unfold shR
  rcases Nat.lt_or_ge b 331 with c | c
  · rcases getD_orz (shT.getD b (9, 0, [])).2.2 k 0 with z | z
    · rw [z]; decide
    · exact h8 b c _ z
  · rw [List.getD_eq_getElem?_getD (l := shT), List.getElem?_eq_none (by rw [shT_len]; exact c)]
    show ([] : List Nat).getD k 0 < 331
    rw [List.getD_nil]; decide
/-- the rows of rows hold old rows alone -/
abbrev olds (w : aI) : Prop := ∀ k : Nat, k < 30 → (0 ≤ w 329 k ∧ w 329 k < w 999 0 + 90) ∧ 0 ≤ w 330 k ∧ w 330 k < w 999 0 + 90
theorem cve_agr {ad ad2 : Nat → Nat} {aT : Nat → ClassId} {w : aW} {b c : Nat} (hc : 331 ≤ c) (h : ∀ a, ¬ a = c → ad2 a = ad a) (h5 : shK b = 5 → ∀ k, k < 30 → ¬ (w b k).toNatClampNeg = c) : cve ad2 aT w b = cve ad aT w b := by
  have hR : ∀ k, ad2 (shR b k) = ad (shR b k) := fun k => h _ (by have := shR_lo b k; omega)
  unfold cve
  by_cases c1 : 331 ≤ b
  · rw [if_pos c1, if_pos c1]
  · rw [if_neg c1, if_neg c1]
    by_cases c2 : shK b = 0 ∨ shK b = 7
    · rw [if_pos c2, if_pos c2]
    · rw [if_neg c2, if_neg c2]
      unfold fvv
      simp only [hR]
      by_cases c5 : shK b = 5
      · have e : r5 ad2 (w b) = r5 ad (w b) := by
          funext k
          unfold r5
          by_cases c6 : w b k = 0 ∨ 30 ≤ k
          · rw [if_pos c6, if_pos c6]
          · rw [if_neg c6, if_neg c6, h _ (h5 c5 k (by omega))]
        rw [e]
      · simp only [if_neg c5]
theorem I_new6 (hx : CxOK x own cc nL dp mc ret) {n : Int} {K : aI → Option T} (g : Cond.arrayClass .int ∈ Gw) (d : decode cc pc = .ok (.newarray .int, 2)) (hj : j + 2 ≤ mc) (hL : okL (xN x) L) (hs : okS (xN x) st)
    (kk : ∀ (ad : Nat → Nat) (N : Nat), Agr (xad x) ad (xN x) N → CxOK (updN x ad N) own cc nL dp mc ret → dy (updN x ad N) (w 999 0 + 90).toNat → ∀ w1 : aI, EnQ (updN x ad N) Qf (j + 2) (pc + 2) L (.ref (w 999 0 + 90).toNat :: st) (cm w1) (K w1)) :
    EnQ x Qf j pc L (.int (oI n) :: st) (cm w) (gd ((0 ≤ n ∧ n ≤ 8) ∧ (241 ≤ w 999 0 ∧ w 999 0 < 800) ∧ olds w) (ltM (newW w n) K)) :=
  E_gd fun hi t ht H locs ls hP hS hl => by
    obtain ⟨⟨n0, n8⟩, ⟨i1, i2⟩, hold⟩ := hi
    have hNn := hP.nI (by omega) (by omega)
    have hq : (w 999 0 + 90).toNat = xN x + 90 := by omega
    have nn : (oI n).toNatClampNeg = n.toNat := oI_nat (by omega)
    have hc := hx.rm
    have hn9 := hx.nn
    refine va_newa (atype := .int) (ty := .int) (a0 := (n.toNat, .inl fun _ => 0)) hx.ex hx.bs (hx.ts _ g) rfl hx.kk hP.1 (hx.dd _) hS hx.fr (fun _ => rfl) (by rw [oI_lt0 (by omega)]; omega) nn (by show n.toNat * 4 ≤ 536870912; omega) (by rw [hc]; show j + 1 ≤ mc; omega) (by rw [hc]; show 6 * j + n.toNat ≤ 6 * mc; omega) d (fun q cA H1 a0 a1 a2 a3 => ?_)
    have h1 : (xs x).vm.findClass "[I" = some cA := (a0.2 3 (cA, .int) rfl).2
    have h2 : (xs x).vm.findClass "[I" = some (xaT x 0) := (hx.kk.2 0 (xaT x 0, .int) rfl).2
    have e : cA = xaT x 0 := Option.some.inj (h1.symm.trans h2)
    subst e
    obtain ⟨ad, had⟩ : ∃ ad : Nat → Nat, ad = fun b => if b = xN x + 90 then q else xad x b := ⟨_, rfl⟩
    have adN : ad (xN x + 90) = q := by rw [had]; exact if_pos rfl
    have adO : ∀ b, ¬ b = xN x + 90 → ad b = xad x b := fun b hb => by rw [had]; exact if_neg hb
    have hA : Agr (xad x) ad (xN x) (xN x + 1) := ⟨⟨by omega, by omega⟩, fun a ha => adO a (by rintro rfl; unfold xst at ha; omega), fun a ha => adO a (by omega)⟩
    -- the list in the new words
    have hlist : ∀ w9 : aW, (∀ b, xst (xN x) b → cve ad (xaT x) w9 b = cve (xad x) (xaT x) (cm w) b) → conc ad (xaT x) (xN x + 1) w9 = conc (xad x) (xaT x) (xN x) (cm w) ++ [(q, cve ad (xaT x) w9 (xN x + 90))] := by
      intro w9 h9
      unfold conc
      rw [List.range_succ, List.map_append]
      congr 1
      · refine List.map_congr_left fun i hi => ?_
        have hi2 := List.mem_range.mp hi
        rw [h9 _ (cn_ex hi2), hA.2.1 _ (cn_ex hi2)]
      · show [(ad (cn (xN x)), cve ad (xaT x) w9 (cn (xN x)))] = _
        rw [cn_last hn9, adN]
    have hw1 : ∀ b, xst (xN x) b → cve ad (xaT x) (cm (newW w n)) b = cve (xad x) (xaT x) (cm w) b := by
      intro b hb
      have eb : cm (newW w n) b = cm w b := by
        funext k
        unfold cm newW
        rw [hq, if_neg (by rintro rfl; unfold xst at hb; omega), if_neg (by rintro ⟨rfl, -⟩; unfold xst at hb; omega)]
      rw [cve_ne eb]
      refine cve_agr (c := xN x + 90) (by omega) adO (fun h5 k hk => ?_)
      have ho := hold k hk
      show ¬ (oI (w b k)).toNatClampNeg = _
      rcases shK5 h5 with rfl | rfl
      · rw [oI_nat (by omega)]; omega
      · rw [oI_nat (by omega)]; omega
    have hnew : cve ad (xaT x) (cm (newW w n)) (xN x + 90) = .inl (xaT x 0, n.toNat, .inl (cm (newW w n) (xN x + 90))) := by
      rw [cve_dyn (by omega)]
      congr 3
      show (oI (newW w n (xN x + 90) ((100 : Nat) : Int))).toNatClampNeg = n.toNat
      unfold newW
      rw [hq, if_pos rfl, if_pos (show ((100 : Nat) : Int) = 100 from rfl)]
      exact nn
    have hfst : ∀ w9 : aW, (conc ad (xaT x) (xN x + 1) w9 ++ xX x).map (fun q => q.1) = ((conc (xad x) (xaT x) (xN x) (cm w)).map (fun q => q.1) ++ [q]) ++ (xX x).map (fun q => q.1) := by
      intro w9
      rw [List.map_append]
      congr 1
      have e1 : conc ad (xaT x) (xN x + 1) w9 = (List.range (xN x)).map (fun i => (ad (cn i), cve ad (xaT x) w9 (cn i))) ++ [(q, cve ad (xaT x) w9 (xN x + 90))] := by
        unfold conc
        rw [List.range_succ, List.map_append]
        congr 1
        show [(ad (cn (xN x)), cve ad (xaT x) w9 (cn (xN x)))] = _
        rw [cn_last hn9, adN]
      rw [e1, List.map_append, List.map_map]
      unfold conc
      rw [List.map_map]
      congr 1
      exact List.map_congr_left fun i hi => hA.2.1 _ (cn_ex (List.mem_range.mp hi))
    have hperm : (((conc (xad x) (xaT x) (xN x) (cm w)).map (fun q => q.1) ++ [q]) ++ (xX x).map (fun q => q.1)).Perm ((xc9 x (cm w) ++ [(q, (.inl (xaT x 0, (n.toNat, .inl fun _ => 0)) : va_E))]).map (fun q => q.1)) := by
      rw [List.map_append, List.map_append]
      show List.Perm _ (_ ++ [q])
      rw [List.append_assoc, List.append_assoc]
      exact List.Perm.append_left _ List.perm_append_comm
    have hD : ∀ w9, va_D (xA x) (conc ad (xaT x) (xN x + 1) w9 ++ xX x) := by
      intro w9
      refine va_D_of ?_ ?_
      · rw [hfst w9]
        exact hperm.nodup_iff.mpr (va_D_nd a2)
      · intro q9 hq9
        have m1 : q9.1 ∈ (conc ad (xaT x) (xN x + 1) w9 ++ xX x).map (fun q => q.1) := List.mem_map_of_mem hq9
        rw [hfst w9] at m1
        obtain ⟨q8, m2, m3⟩ := List.mem_map.mp (hperm.mem_iff.mp m1)
        obtain ⟨k8, hk8⟩ := List.getElem?_of_mem m2
        rw [← m3]
        exact a2.2 k8 q8 hk8
    have hPn : va_P (xD x) vwCl (conc ad (xaT x) (xN x + 1) (cm (newW w n)) ++ xX x) H1 := by
      rw [hlist _ hw1, hnew]
      have b1 := va_P_mem.mp a1
      refine va_P_mem.mpr fun q9 hq9 => ?_
      rcases List.mem_append.mp hq9 with m1 | m1
      · rcases List.mem_append.mp m1 with m2 | m2
        · exact b1 q9 (List.mem_append_left _ (List.mem_append_left _ m2))
        · obtain rfl := List.mem_singleton.mp m2
          have b2 : H1[q]? = some (vp_cell (xaT x 0) (n.toNat, .inl fun _ => 0)) := b1 _ (List.mem_append_right _ (List.mem_singleton.mpr rfl))
          show H1[q]? = some (vp_cell (xaT x 0) (n.toNat, .inl (cm (newW w n) (xN x + 90))))
          rw [b2, vp_cell_i, vp_cell_i]
          congr 1
          refine arrV_cg fun k hk => ?_
          have : cm (newW w n) (xN x + 90) k = 0 := by
            show oI (newW w n (xN x + 90) (k : Int)) = 0
            unfold newW
            rw [hq, if_pos rfl, if_neg (by omega)]
            rfl
          rw [this]
      · exact b1 q9 (List.mem_append_left _ (List.mem_append_right _ m1))
    have hnW : nW (cm (newW w n)) = xN x + 1 := by
      show (oI (newW w n 999 ((0 : Nat) : Int))).toNatClampNeg = xN x + 1
      unfold newW
      rw [if_neg (by omega), if_pos ⟨rfl, rfl⟩, oI_nat (by omega)]
      omega
    have h9 := kk ad (xN x + 1) hA (hx.up hA hD) ⟨by omega, by show (w 999 0 + 90).toNat < xN x + 1 + 90; omega⟩ (newW w n) t ht H1 locs ls ⟨hPn, hnW⟩ a3 (by rw [show (xad (updN x ad (xN x + 1))) = ad from rfl, hL.cv hA]; exact hl)
    have e9 : (Value.ref (w 999 0 + 90).toNat :: st).map (cvv (xad (updN x ad (xN x + 1)))) = .ref q :: st.map (cvv (xad x)) := by
      show Value.ref (ad (w 999 0 + 90).toNat) :: st.map (cvv ad) = _
      rw [hq, adN, hs.cv hA]
    rw [e9] at h9
    exact W.widen (by omega) (by omega) h9
/-- a call of a method that makes cells, on an object -/
theorem G_callV {T2 : Type} {X2 : Option T2} {cv2 : T2 → aO} {K : T2 → Option T} (hx : CxOK x own cc nL dp mc ret) {w : aW} {y : MethodName} {C : String} {cc2 : ByteArray} {nL2 dp2 mc2 ix n : Nat} {ret2 : Option FieldType} {ci N : Nat} {Tt : u_T} {b : Nat} (As : List Value) (st : List Value) {sk : List Value}
    (hE : EvG y cc2 nL2 ret2 dp2 mc2 cv2 (.ref b :: As) w X2) (hm : VMet y C cc2 nL2 ret2 n) (fc : fcl ci C Tt N) (hb : shK b = 10 + ci) (he : xst (xN x) b) (g : Cond.methodLink own ix y ∈ Gw) (d : decode cc pc = .ok (.invokevirtual ix, 3)) (hs : sk = As.reverse ++ .ref b :: st) (hn : As.length = n) (hst : (st.map fun v => v.category).sum ≤ 8) (hdp : dp2 + 1 ≤ dp) (hj : j + mc2 ≤ mc) (hL : okL (xN x) L) (hk : okS (xN x) st)
    (kk : ∀ r2, X2 = some r2 → ∀ v, (cv2 r2).1 = .inl v → ∀ (ad : Nat → Nat) (N : Nat), Agr (xad x) ad (xN x) N → CxOK (updN x ad N) own cc nL dp mc ret → EnQ (updN x ad N) Qf (j + mc2) (pc + 3) L (v.toList ++ st) (cv2 r2).2 (K r2)) : EnQ x Qf j pc L sk w (X2.bind K) := by
  intro t ht H locs ls hP hS hl
  subst hs
  obtain ⟨r2, h2, h3⟩ := Option.bind_eq_some_iff.mp ht
  obtain ⟨m1, m2, m3, m4, m5, m6, m7⟩ := hm
  have hM := hE r2 h2 (xl x) hx.tr (xD x) (xad x) (xaT x) (xN x) (xaV x) H.size
  have hsk : ((As.reverse ++ .ref b :: st).map (cvv (xad x))) = (As.map (cvv (xad x))).reverse ++ .ref (xad x b) :: st.map (cvv (xad x)) := by
    rw [List.map_append, List.map_reverse]; rfl
  have hr := vx_runV (p := xp x) (e := xe x) (R := xRm x) (below := xb x) (meth := xme x) (H := H) (locs := locs) (cells := j) (slots := 6 * j) (b := xad x b) (As := As.map (cvv (xad x))) (rest := st.map (cvv (xad x))) (C := C) (own := own) (index := ix) (n := n) (g := F0 (xm x) pc ls ((As.reverse ++ .ref b :: st).map (cvv (xad x)))) (S := (⟨hx.ex, hx.bs, hx.ml, hx.ow, hx.ts⟩ : CallFix (xp x) (xm x) (xc x) cc nL (xs x) (xa x) Gw own)) hM
    (cw := ⟨⟨rfl, rfl, (rmd_room hx hdp m7).1, (rmd_room hx (mc2 := mc2) hdp m7).2, Gw_ws hx m4, List.mem_cons_self, hx.ts _ m4, hx.ts _ m3, m5, hx_par m6, hx.ts _ g⟩, hx.ts _ m1, hx.ts _ m2⟩)
    ⟨PcE_blind, va_recv hx.kk hP.1 fc.1 (q0 := ps b) (ci := vi ci) (a := xad x b) (by rw [hx.gt he, cve_obj hb]), fun U hU hW => PcE_at hx hP hS (.ref b :: As) hU hW⟩
    rfl (by rw [List.length_map]; exact hn) (by show ls.size = nL; rw [← hx.ml]; exact hl.1) hsk (by rw [cvv_cats]; exact (show 2 * 0 + _ ≤ 8 by omega)) d (rmd_cells hx hj)
  intro U hU X0
  have hsub := hx.sb hS
  have hA : ∀ q, q < H.size → aA (xad x) (xN x) H.size q → xA x q := fun q _ h => hsub q h
  rcases hr U hU X0 with ⟨v, st₀, t9, T', Lc, h0, X', hLc, e1, e2, ⟨ad, N9, hAg, hD9, ⟨v2, hv2, ho⟩, ⟨hP9, hn9⟩, hF⟩, sp⟩ | ⟨q, st₀, t9, T', Lc, E, ce, h0, X', hLc, e1, e2, hE9, hce, hcv, hcl, sp⟩
  · cases ho
    obtain ⟨k1, k2, k3⟩ := vx_keep h0 e1 hS hA hsub hLc hF
    have hkeep : ∀ q, q < H.size → ¬ aA (xad x) (xN x) H.size q → t9.heap[q]? = H[q]? := fun q h1 h2 => by have h9 := hF.2 q (by rw [h0]; exact h1) h2; rw [h0] at h9; exact h9
    -- what stands beside
    have hXm : ∀ q ∈ xX x, q.1 < H.size ∧ (¬ aA (xad x) (xN x) H.size q.1) ∧ xA x q.1 := by
      intro q hq
      obtain ⟨k, hk9⟩ := List.getElem?_of_mem hq
      have hk2 : (xc9 x w)[xN x + k]? = some q := by
        rw [List.getElem?_append_right (by rw [conc_len]; omega), conc_len, Nat.add_sub_cancel_left]
        exact hk9
      refine ⟨(hP.1 _ q hk2).lt, ?_, (hx.dd w).2 _ q hk2⟩
      rintro (⟨a, ha, e⟩ | e)
      · have h8 := (hx.dd w).1 _ (ps a) _ _ hk2 (hx.gt ha) e
        have := ps_lt hx.nn ha
        omega
      · have := (hP.1 _ q hk2).lt
        omega
    have hDn : ∀ w9, va_D (xA x) (conc ad (xaT x) N9 w9 ++ xX x) := by
      intro w9
      have d1 := hD9 w9
      rw [List.append_nil] at d1
      have d2 := va_D_nd (hx.dd w)
      rw [List.map_append] at d2
      refine va_D_of ?_ ?_
      · rw [List.map_append]
        refine List.nodup_append.mpr ⟨va_D_nd d1, (List.nodup_append.mp d2).2.1, ?_⟩
        intro a ha b hb e
        subst e
        obtain ⟨q1, m1, e1⟩ := List.mem_map.mp ha
        obtain ⟨q2, m2, e2⟩ := List.mem_map.mp hb
        obtain ⟨i1, i2⟩ := List.getElem?_of_mem m1
        have := d1.2 i1 q1 i2
        rw [e1, ← e2] at this
        exact (hXm q2 m2).2.1 this
      · intro q hq
        rcases List.mem_append.mp hq with m1 | m1
        · obtain ⟨i1, i2⟩ := List.getElem?_of_mem m1
          exact hsub _ (d1.2 i1 q i2)
        · exact (hXm q m1).2.2
    have hcP : cP (updN x ad N9) (cv2 r2).2 T'.heap := by
      refine ⟨?_, hn9⟩
      rw [List.append_nil] at hP9
      have b1 := va_P_mem.mp hP9
      have b2 := va_P_mem.mp hP.1
      refine va_P_mem.mpr fun q hq => ?_
      rw [e1]
      rcases List.mem_append.mp hq with m1 | m1
      · exact b1 q m1
      · have m2 := b2 q (List.mem_append_right _ m1)
        have m3 := hXm q m1
        refine va_P_mem.mp (va_P.kept (ws := [q]) (H := H) (va_P_mem.mpr fun q9 h9 => ?_) (fun k9 q9 h9 => ?_)) q (List.mem_singleton.mpr rfl)
        · obtain rfl := List.mem_singleton.mp h9
          exact m2
        · obtain rfl := List.mem_singleton.mp (List.mem_of_getElem? h9)
          exact hkeep _ m3.1 m3.2.1
    have h9 := kk r2 h2 v2 hv2 ad N9 hAg (hx.up hAg hDn) t h3 T'.heap (locs ++ Lc) ls hcP k3 (by rw [show (xad (updN x ad N9)) = ad from rfl, hL.cv hAg]; exact hl)
    have e9 : (v2.toList ++ st).map (cvv (xad (updN x ad N9))) = (v2.map (cvv ad)).toList ++ st.map (cvv (xad x)) := by
      rw [List.map_append, show (xad (updN x ad N9)) = ad from rfl, hk.cv hAg]
      cases v2 <;> rfl
    rw [e9] at h9
    obtain ⟨t2, a1, b1⟩ := h9 T' rfl (by rw [Nat.mul_add]; exact X')
    exact ⟨t2, sp t2 a1, b1⟩
  · exact hE9.elim
theorem G_cVV (hx : CxOK x own cc nL dp mc ret) {y : MethodName} {C : String} {cc2 : ByteArray} {nL2 dp2 mc2 ix n : Nat} {ret2 : Option FieldType} {ci N : Nat} {Tt : u_T} {b : Nat} {X2 : Option aI} {K : aI → Option T} (As st : List Value) {sk : List Value} (hE : EvG y cc2 nL2 ret2 dp2 mc2 jvV (.ref b :: As) (cm w) X2) (hm : VMet y C cc2 nL2 ret2 n) (fc : fcl ci C Tt N) (hb : shK b = 10 + ci) (he : xst (xN x) b) (g : Cond.methodLink own ix y ∈ Gw) (d : decode cc pc = .ok (.invokevirtual ix, 3)) (hs : sk = As.reverse ++ .ref b :: st) (hn : As.length = n) (hst : (st.map fun v => v.category).sum ≤ 8) (hdp : dp2 + 1 ≤ dp) (hj : j + mc2 ≤ mc) (hL : okL (xN x) L) (hk : okS (xN x) st)
    (kk : ∀ (ad : Nat → Nat) (N : Nat), Agr (xad x) ad (xN x) N → CxOK (updN x ad N) own cc nL dp mc ret → ∀ w1 : aI, EnQ (updN x ad N) Qf (j + mc2) (pc + 3) L st (cm w1) (K w1)) : EnQ x Qf j pc L sk (cm w) (X2.bind K) :=
  G_callV hx As st hE hm fc hb he g d hs hn hst hdp hj hL hk (fun r2 _ v hv ad N hA hx' => by cases hv; exact kk ad N hA hx' r2)
end GR
