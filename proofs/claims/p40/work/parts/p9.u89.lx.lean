/-! ===== the abstract heap beside other cells: calls from the law, its helpers, the constructors ===== -/
/-- what holds all through a body of the law, its helpers, a constructor -/
def LxC (p : Program) (l : Launch) (s : State) (m : MethodId) (args : Array Value) (meth : Method) (c : Code) (own : String) (cc : ByteArray) (nL : Nat) (D : va_G) (aT : Nat → ClassId) (tys : List (ClassId × FieldType)) (ad adV : Nat → Nat) (A : Nat → Prop) : Prop :=
  p.tables.exec = Jvm.exec ∧ c.code = cc ∧ c.maxLocals = nL ∧ s.vm.findClass own = some m.cls ∧ (∀ w ∈ Gw, w.before args s = true) ∧ meth.locks = false ∧ l.stackTraces = false ∧ (va_K D vwCl (tysA aT ++ tys) s ∧ RA2 aT s) ∧ XE ad adV A s s.heap ∧ ∀ q, s.heap.size ≤ q → A q
def Lx (D : va_G) (ad : Nat → Nat) (aT : Nat → ClassId) (N : Nat) (A : Nat → Prop) (H0 : Heap) (w : aW) (X : va_W) (H : Heap) (locs : List Loc) : Prop := (va_P D vwCl (conc ad aT N w ++ X) H ∧ nW w = N ∧ 210 ≤ N ∧ N ≤ 800) ∧ va_D A (conc ad aT N w ++ X) ∧ va_S A H0 H locs
theorem cx_l {ad : Nat → Nat} {aT : Nat → ClassId} {N : Nat} {w : aW} {X : va_W} {a : Nat} (hN : 210 ≤ N) (h : xst N a) : (conc ad aT N w ++ X)[ps a]? = some (ad a, cve ad aT w a) := by
  rw [List.getElem?_append_left (by rw [conc_len]; exact ps_lt hN h)]
  exact conc_get hN h
theorem cx_r {ad : Nat → Nat} {aT : Nat → ClassId} {N : Nat} {w : aW} {X : va_W} {k : Nat} : (conc ad aT N w ++ X)[N + k]? = X[k]? := by
  rw [List.getElem?_append_right (by rw [conc_len]; omega), conc_len, Nat.add_sub_cancel_left]
theorem cx_fst {ad : Nat → Nat} {aT : Nat → ClassId} {N : Nat} {w w2 : aW} {X : va_W} : (conc ad aT N w2 ++ X).map (fun q => q.1) = (conc ad aT N w ++ X).map (fun q => q.1) := by
  rw [List.map_append, List.map_append, conc, conc, List.map_map, List.map_map]
  rfl
section LR
variable {p : Program} {l : Launch} {e : Env} {R : Room} {s : State} {m : MethodId} {args : Array Value} {below : List Frame} {meth : Method} {c : Code} {H H0 : Heap} {locs : List Loc} {cells slots : Nat} {Q : State → Prop}
variable {D : va_G} {ad adV : Nat → Nat} {aT : Nat → ClassId} {N : Nat} {A : Nat → Prop} {w : aW} {X : va_W} {tys : List (ClassId × FieldType)} {own : String} {cc : ByteArray} {nL pc : Nat} {ls : Array Slot}
theorem Lx.adk (h : Lx D ad aT N A H0 w X H locs) : AdOK ad N H.size := by
  obtain ⟨⟨hP, hw, hN, h8⟩, hD, hS⟩ := h
  refine ⟨fun a b ha hb e => ?_, fun a ha => (hP _ _ (cx_l hN ha)).lt⟩
  have h9 := hD.1 _ _ _ _ (cx_l hN ha) (cx_l hN hb) e
  rw [← cn_ps ha, ← cn_ps hb, h9]
theorem Lx.sub (h : Lx D ad aT N A H0 w X H locs) (hA : ∀ q, H0.size ≤ q → A q) : ∀ q, aA ad N H.size q → A q := by
  rintro q (⟨a, ha, rfl⟩ | hq)
  · exact h.2.1.2 _ _ (cx_l h.1.2.2.1 ha)
  · exact hA q (Nat.le_trans h.2.2.1 hq)
theorem Lx.cn (h : Lx D ad aT N A H0 w X H locs) : va_P D vwCl (conc ad aT N w) H := fun k q hk => by
  have h1 : k < N := by have := (List.getElem?_eq_some_iff.mp hk).1; rw [conc_len] at this; exact this
  exact h.1.1 k q (by rw [List.getElem?_append_left (by rw [conc_len]; exact h1)]; exact hk)
theorem L_at (hx : LxC p l s m args meth c own cc nL D aT tys ad adV A) (hL : Lx D ad aT N A s.heap w X H locs) (avs : List Value) {U : State} (hU : U.heap = H) (hW : s.WarmedH U.vm) : PcE D ad aT N adV H.size avs w ((avs.map (cvv ad)).toArray) U := by
  obtain ⟨q1, q2, q3, q4, q5, q6, q7, q8, q9, q10⟩ := hx
  refine ⟨rfl, by rw [hU], ⟨by rw [hU]; exact hL.cn, hL.1.2.1⟩, KA.moved hW.alike ⟨q8.1.sub (tys' := tysA aT) [0, 1, 2] rfl, q8.2⟩, ⟨⟨hL.1.2.2.1, hL.1.2.2.2⟩, hL.adk⟩, ?_⟩
  rw [hU]
  exact ((q9.kept hL.2.2.2.1).narrow (hL.sub q10)).warm hW
theorem L_run {r2 : aO} {mc2 ms2 : Nat} {st0 rest : List Value} {As : Array Value}
    (hr : vx_Run p l e R s m args below meth c H locs cells slots mc2 ms2 (F0 m pc ls st0) rest (QcE D ad aT N (aA ad N H.size) [] r2 As) (XcE D ad aT N (aA ad N H.size) [] r2) (aA ad N H.size)) (hL : Lx D ad aT N A s.heap w X H locs) (hA : ∀ q, s.heap.size ≤ q → A q)
    (kk : ∀ v, r2.1 = .inl v → ∀ (H1 : Heap) (locs1 : List Loc), Lx D ad aT N A s.heap r2.2 X H1 locs1 → W p l e R s m args below meth c H1 locs1 (cells + mc2) (slots + ms2) Q (F0 m (pc + 3) ls ((v.map (cvv ad)).toList ++ rest)))
    (kx : ∀ E, r2.1 = .inr E → ∀ (H1 : Heap) (locs1 : List Loc) (q : Addr) (ce : Cell), Lx D ad aT N A s.heap r2.2 X H1 locs1 → H1[q]? = some ce → ce.vm = .none → s.vm.findClass E = some ce.cls → vx_W p l e R s m args below meth c H1 locs1 (cells + mc2) (slots + ms2) Q (F0 m pc ls rest) q) :
    W p l e R s m args below meth c H locs cells slots Q (F0 m pc ls st0) := by
  intro U hU X0
  obtain ⟨⟨hP, hw, hN, h8⟩, hD, hS⟩ := id hL
  have hsub := hL.sub hA
  have hA1 : ∀ q, q < H.size → aA ad N H.size q → A q := fun q _ h => hsub q h
  have far : ∀ (k : Nat) (q : Nat × va_E), X[k]? = some q → q.1 < H.size ∧ ¬ aA ad N H.size q.1 := by
    intro k q hk
    have hk2 : (conc ad aT N w ++ X)[N + k]? = some q := by rw [cx_r]; exact hk
    have hlt := (hP _ q hk2).lt
    refine ⟨hlt, ?_⟩
    rintro (⟨a, ha, e⟩ | h)
    · have h9 := hD.1 (N + k) (ps a) q _ hk2 (cx_l hN ha) e
      have h7 := ps_lt hN ha
      omega
    · omega
  have mk : ∀ (T' : State) (Lc : List Loc), (∀ q : Nat, q < H.size → ¬ aA ad N H.size q → T'.heap[q]? = H[q]?) → (va_P D vwCl (conc ad aT N r2.2 ++ []) T'.heap ∧ nW r2.2 = N) → va_S A s.heap T'.heap Lc → Lx D ad aT N A s.heap r2.2 X T'.heap Lc := by
    intro T' Lc k2 hP2 k3
    refine ⟨⟨fun k q hk => ?_, hP2.2, hN, h8⟩, va_D_fst hD cx_fst, k3⟩
    rcases Nat.lt_or_ge k N with h | h
    · rw [List.getElem?_append_left (by rw [conc_len]; exact h)] at hk
      exact hP2.1 k _ (by rw [List.append_nil]; exact hk)
    · obtain ⟨j, rfl⟩ : ∃ j, k = N + j := ⟨k - N, by omega⟩
      rw [cx_r] at hk
      obtain ⟨f1, f2⟩ := far j q hk
      exact (hP (N + j) q (by rw [cx_r]; exact hk)).kept (k2 q.1 f1 f2)
  rcases hr U hU X0 with ⟨v, st₀, t, T', Lc, h0, X', hLc, e1, e2, ⟨⟨v2, hv2, ho⟩, hP2, hF⟩, sp⟩ | ⟨q, st₀, t, T', Lc, E, ce, h0, X', hLc, e1, e2, ⟨hE, hP2, hF⟩, hce, hcv, hcl, sp⟩
  · cases ho
    obtain ⟨k1, k2, k3⟩ := vx_keep h0 e1 hS hA1 hsub hLc hF
    obtain ⟨t2, a1, b1⟩ := kk v2 hv2 T'.heap (locs ++ Lc) (mk T' _ k2 (by rw [e1]; exact hP2) k3) T' rfl X'
    exact ⟨t2, sp t2 a1, b1⟩
  · obtain ⟨k1, k2, k3⟩ := vx_keep h0 e1 hS hA1 hsub hLc hF
    obtain ⟨t2, a1, b1⟩ := kx E hE T'.heap (locs ++ Lc) q ce (mk T' _ k2 (by rw [e1]; exact hP2) k3) (by rw [e1]; exact hce) hcv hcl T' rfl X'
    exact ⟨t2, sp.trans a1, b1⟩
theorem L_ws (hx : LxC p l s m args meth c own cc nL D aT tys ad adV A) {y : MethodName} {cc2 : ByteArray} {nL2 : Nat} {ret2 : Option FieldType} (m4 : Cond.code y cc2 nL2 ret2 ∈ Gw) : ∀ w ∈ (Cond.code y cc2 nL2 ret2 :: Gw), ∀ (a' : Array Value) (U : State), s.WarmedH U.vm → w.before a' U = true := by
  intro v hv a' U hW
  have h : v ∈ Gw := by
    rcases List.mem_cons.mp hv with h | h
    · rw [h]; exact m4
    · exact h
  exact word_at hW (good_of_word (gw_good v h)) (hx.2.2.2.2.1 v h)
theorem L_callB {T2 : Type} {X2 : Option T2} {cv2 : T2 → aO} (hx : LxC p l s m args meth c own cc nL D aT tys ad adV A) {y : MethodName} {C : String} {cc2 : ByteArray} {nL2 dp2 mc2 ix n : Nat} {ret2 : Option FieldType} {b : Nat} (As : List Value) (st : List Value) {sk : List Value}
    (hO : ∃ cell : Cell, H[ad b]? = some cell ∧ cell.vm.isStatics = false ∧ s.vm.findClass C = some cell.cls)
    (hE : Ev y cc2 nL2 ret2 dp2 mc2 cv2 (.ref b :: As) w X2) (hm : VMet y C cc2 nL2 ret2 n) (g : Cond.methodLink own ix y ∈ Gw) (d : decode cc pc = .ok (.invokevirtual ix, 3)) (hs : sk = (As.map (cvv ad)).reverse ++ .ref (ad b) :: st) (hn : As.length = n) (hst : (st.map fun v => v.category).sum ≤ 8) (hfr : dp2 + 1 ≤ R.frames ∧ 8 + (nL2 + 11) + 39 * dp2 ≤ R.locals) (hj : cells + mc2 ≤ R.cells ∧ slots + 6 * mc2 ≤ R.slots)
    (hls : ls.size = nL) (hL : Lx D ad aT N A s.heap w X H locs) {r2 : T2} (h2 : X2 = some r2)
    (kk : ∀ v, (cv2 r2).1 = .inl v → ∀ (H1 : Heap) (locs1 : List Loc), Lx D ad aT N A s.heap (cv2 r2).2 X H1 locs1 → W p l e R s m args below meth c H1 locs1 (cells + mc2) (slots + 6 * mc2) Q (F0 m (pc + 3) ls ((v.map (cvv ad)).toList ++ st)))
    (kx : ∀ E, (cv2 r2).1 = .inr E → ∀ (H1 : Heap) (locs1 : List Loc) (q : Addr) (ce : Cell), Lx D ad aT N A s.heap (cv2 r2).2 X H1 locs1 → H1[q]? = some ce → ce.vm = .none → s.vm.findClass E = some ce.cls → vx_W p l e R s m args below meth c H1 locs1 (cells + mc2) (slots + 6 * mc2) Q (F0 m pc ls st) q) :
    W p l e R s m args below meth c H locs cells slots Q (F0 m pc ls sk) := by
  subst hs
  obtain ⟨q1, q2, q3, q4, q5, q6, q7, q8, q9, q10⟩ := id hx
  obtain ⟨m1, m2, m3, m4, m5, m6, m7⟩ := hm
  have hM := hE r2 h2 l q7 D ad aT N adV H.size
  have hr := vx_runV (p := p) (e := e) (R := R) (below := below) (meth := meth) (H := H) (locs := locs) (cells := cells) (slots := slots) (b := ad b) (As := As.map (cvv ad)) (rest := st) (C := C) (own := own) (index := ix) (n := n) (g := F0 m pc ls ((As.map (cvv ad)).reverse ++ .ref (ad b) :: st)) (S := (⟨q1, q2, q3, q4, q5⟩ : CallFix p m c cc nL s args Gw own)) hM
    (cw := ⟨⟨rfl, rfl, hfr.1, hfr.2, L_ws hx m4, List.mem_cons_self, q5 _ m4, q5 _ m3, m5, hx_par m6, q5 _ g⟩, q5 _ m1, q5 _ m2⟩)
    ⟨PcE_blind, hO, fun U hU hW => L_at hx hL (.ref b :: As) hU hW⟩
    rfl (by rw [List.length_map]; exact hn) hls rfl (by show 2 * 0 + _ ≤ 8; omega) d hj
  exact L_run hr hL q10 kk kx
theorem L_callV {T2 : Type} {X2 : Option T2} {cv2 : T2 → aO} (hx : LxC p l s m args meth c own cc nL D aT tys ad adV A) {y : MethodName} {C : String} {cc2 : ByteArray} {nL2 dp2 mc2 ix n : Nat} {ret2 : Option FieldType} {ci Nc : Nat} {Tt : u_T} {b : Nat} (As : List Value) (st : List Value) {sk : List Value}
    (hE : Ev y cc2 nL2 ret2 dp2 mc2 cv2 (.ref b :: As) w X2) (hm : VMet y C cc2 nL2 ret2 n) (fc : fcl ci C Tt Nc) (hb : shK b = 10 + ci) (he : xst N b) (g : Cond.methodLink own ix y ∈ Gw) (d : decode cc pc = .ok (.invokevirtual ix, 3)) (hs : sk = (As.map (cvv ad)).reverse ++ .ref (ad b) :: st) (hn : As.length = n) (hst : (st.map fun v => v.category).sum ≤ 8) (hfr : dp2 + 1 ≤ R.frames ∧ 8 + (nL2 + 11) + 39 * dp2 ≤ R.locals) (hj : cells + mc2 ≤ R.cells ∧ slots + 6 * mc2 ≤ R.slots)
    (hls : ls.size = nL) (hL : Lx D ad aT N A s.heap w X H locs) {r2 : T2} (h2 : X2 = some r2)
    (kk : ∀ v, (cv2 r2).1 = .inl v → ∀ (H1 : Heap) (locs1 : List Loc), Lx D ad aT N A s.heap (cv2 r2).2 X H1 locs1 → W p l e R s m args below meth c H1 locs1 (cells + mc2) (slots + 6 * mc2) Q (F0 m (pc + 3) ls ((v.map (cvv ad)).toList ++ st)))
    (kx : ∀ E, (cv2 r2).1 = .inr E → ∀ (H1 : Heap) (locs1 : List Loc) (q : Addr) (ce : Cell), Lx D ad aT N A s.heap (cv2 r2).2 X H1 locs1 → H1[q]? = some ce → ce.vm = .none → s.vm.findClass E = some ce.cls → vx_W p l e R s m args below meth c H1 locs1 (cells + mc2) (slots + 6 * mc2) Q (F0 m pc ls st) q) :
    W p l e R s m args below meth c H locs cells slots Q (F0 m pc ls sk) := by
  have hK := hx.2.2.2.2.2.2.2.1.1.sub (tys' := tysA aT) [0, 1, 2] rfl
  exact L_callB hx As st (va_recv hK hL.cn fc.1 (q0 := ps b) (ci := vi ci) (a := ad b) (by rw [conc_get hL.1.2.2.1 he, cve_obj hb])) hE hm g d hs hn hst hfr hj hls hL h2 kk kx
theorem L_callStr {T2 : Type} {X2 : Option T2} {cv2 : T2 → aO} (hx : LxC p l s m args meth c own cc nL D aT tys ad adV A) {y : MethodName} {cc2 : ByteArray} {nL2 dp2 mc2 ix n : Nat} {ret2 : Option FieldType} {i : Nat} (hi : hasS i = true) (As : List Value) (st : List Value) {sk : List Value}
    (hE : Ev y cc2 nL2 ret2 dp2 mc2 cv2 (.ref (sx i) :: As) w X2) (hm : VMet y "java/lang/String" cc2 nL2 ret2 n) (g : Cond.methodLink own ix y ∈ Gw) (d : decode cc pc = .ok (.invokevirtual ix, 3)) (hs : sk = (As.map (cvv ad)).reverse ++ .ref (ad (sx i)) :: st) (hn : As.length = n) (hst : (st.map fun v => v.category).sum ≤ 8) (hfr : dp2 + 1 ≤ R.frames ∧ 8 + (nL2 + 11) + 39 * dp2 ≤ R.locals) (hj : cells + mc2 ≤ R.cells ∧ slots + 6 * mc2 ≤ R.slots)
    (hls : ls.size = nL) (hL : Lx D ad aT N A s.heap w X H locs) {r2 : T2} (h2 : X2 = some r2)
    (kk : ∀ v, (cv2 r2).1 = .inl v → ∀ (H1 : Heap) (locs1 : List Loc), Lx D ad aT N A s.heap (cv2 r2).2 X H1 locs1 → W p l e R s m args below meth c H1 locs1 (cells + mc2) (slots + 6 * mc2) Q (F0 m (pc + 3) ls ((v.map (cvv ad)).toList ++ st)))
    (kx : ∀ E, (cv2 r2).1 = .inr E → ∀ (H1 : Heap) (locs1 : List Loc) (q : Addr) (ce : Cell), Lx D ad aT N A s.heap (cv2 r2).2 X H1 locs1 → H1[q]? = some ce → ce.vm = .none → s.vm.findClass E = some ce.cls → vx_W p l e R s m args below meth c H1 locs1 (cells + mc2) (slots + 6 * mc2) Q (F0 m pc ls st) q) :
    W p l e R s m args below meth c H locs cells slots Q (F0 m pc ls sk) := by
  have hO : ∃ cell : Cell, H[ad (sx i)]? = some cell ∧ cell.vm.isStatics = false ∧ s.vm.findClass "java/lang/String" = some cell.cls := by
    obtain ⟨cell, c1, c2, c3, -⟩ := va_O.kept (hx.2.2.2.2.2.2.2.2.1.1 i hi).1 hL.2.2.2.1
    exact ⟨cell, c1, c2, c3⟩
  exact L_callB hx As st hO hE hm g d hs hn hst hfr hj hls hL h2 kk kx
end LR
