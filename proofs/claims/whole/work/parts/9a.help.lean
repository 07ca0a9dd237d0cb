/-! ===== the law's helpers ===== -/
def hres (lst : List String) (res : Int ⊕ String) : Int32 := match res with
  | .inl _ => 0
  | .inr E => oI (cdl lst E)
def XNc (U : State) : Prop := va_Nc eIA eIO U ∧ va_Nc eIS eIO U ∧ va_Nc eIS eIA U
theorem XNc.moved {u U : State} (hvm : u.vm.Alike U.vm) (h : XNc u) : XNc U := ⟨va_Nc.moved hvm h.1, va_Nc.moved hvm h.2.1, va_Nc.moved hvm h.2.2⟩
def oW (aL : ClassId) (ao : Nat) (f : Nat → Int64) : va_W := [(ao, .inl (aL, 1, .inr (.inl f)))]
def HcP (D : va_G) (ad : Nat → Nat) (aT : Nat → ClassId) (adV : Nat → Nat) (aL : ClassId) (sz ao : Nat) (w : aW) (f0 : Nat → Int64) (avs : List Value) : Array Value → State → Prop := fun a U => a = avs.toArray ∧ U.heap.size = sz ∧ va_P D vwCl (conc ad aT w ++ oW aL ao f0) U.heap ∧ va_D (fun _ => True) (conc ad aT w ++ oW aL ao f0) ∧ va_K D vwCl (tysA aT ++ [(aL, .long)]) U ∧ XE ad adV (va_A (conc ad aT w ++ oW aL ao f0) sz) U U.heap ∧ XNc U
def HcQ (D : va_G) (ad : Nat → Nat) (aT : Nat → ClassId) (aL : ClassId) (ao : Nat) (A : Nat → Prop) (lst : List String) (res : Int ⊕ String) (w1 : aI) : Array Value → State → Outcome → State → Prop := fun _ st o t => (∃ f1 : Nat → Int64, o = .returned (some (.int (hres lst res))) ∧ (∀ v, res = .inl v → f1 0 = (oI v).toInt64) ∧ va_P D vwCl (conc ad aT (cm w1) ++ oW aL ao f1) t.heap) ∧ va_F A st t
/-- a helper's contract -/
def Hc (y : MethodName) (cc : ByteArray) (nL : Nat) (hh : List (Nat × Nat × Nat × Nat)) (lst : List String) (avs : (Nat → Nat) → Nat → List Value) (w : aI) (res : Int ⊕ String) (w1 : aI) : Prop :=
  ∀ (l : Launch), l.stackTraces = false → ∀ (D : va_G) (ad : Nat → Nat) (aT : Nat → ClassId) (adV : Nat → Nat) (aL : ClassId) (sz ao : Nat) (f0 : Nat → Int64), vx_Met l y (.codeWith y cc nL (some .int) hh :: Gw) (rmd 8 4) (HcP D ad aT adV aL sz ao (cm w) f0 (avs ad ao)) (HcQ D ad aT aL ao (va_A (conc ad aT (cm w) ++ oW aL ao f0) sz) lst res w1) (fun _ _ _ => False) 4 24 (va_A (conc ad aT (cm w) ++ oW aL ao f0) sz)
theorem Hc.of {y : MethodName} {cc : ByteArray} {nL : Nat} {hh : List (Nat × Nat × Nat × Nat)} {lst : List String} {avs : (Nat → Nat) → Nat → List Value} {w w1 : aI} {res : Int ⊕ String} (hy : plainName y.cls = true) (ho : y.cls = RL) (hn : ∀ ad ao, (lg_sl (avs ad ao)).length ≤ nL)
    (body : ∀ (p : Program) (l : Launch) (e : Env) (s : State) (m : MethodId) (args : Array Value) (below : List Frame) (meth : Method) (c : Code) (D : va_G) (ad : Nat → Nat) (aT : Nat → ClassId) (adV : Nat → Nat) (aL : ClassId) (ao : Nat) (f0 : Nat → Int64) (A : Nat → Prop) (ls : Array Slot), LxC p l s m args meth c RL cc nL D aT [(aL, .long)] ad adV A → c.exceptionTable.toList = tableOf hh → meth.sig.returnType = some .int → XNc s → XN s → Lx D ad aT A s.heap (cm w) (oW aL ao f0) s.heap [] → lv_has ls nL (lv_args 0 (avs ad ao)) →
      W p l e (rmd 8 4) s m args below meth c s.heap [] 0 0 (vx_MQ below (HcQ D ad aT aL ao A lst res w1) (fun _ _ _ => False) args s 4 24 A) (F0 m 0 ls [])) : Hc y cc nL hh lst avs w res w1 := by
  intro l htr D ad aT adV aL sz ao f0
  refine vx_ofWH (hh := hh) (cc := cc) (maxL := nL) (ret := some .int) hy rfl ?_
  intro p e s m args below meth c s₁ B hml hv
  obtain ⟨rfl, hsz, hP, hD, hK, hX, hN⟩ := hv
  subst hsz
  have hts := atoms_spec (ws := .codeWith y cc nL (some .int) hh :: Gw) B.pre
  have htb := vx_table (x := y) B (hts _ List.mem_cons_self)
  have hl := lv_entry (avs ad ao) (n := nL) (hn ad ao)
  rw [lg_entry_eq]
  refine body p l e s m _ below meth c D ad aT adV aL ao f0 _ _ ⟨B.exec, B.bytes, hml, by rw [← ho]; exact findClass_of_methodNamed B.named, fun w hw => hts w (List.mem_cons_of_mem _ hw), B.notSynchronized, htr, hK, hX, fun q h => Or.inr h⟩ htb B.returns hN hX.2.2.1 ⟨hP, hD.self, va_S.rf⟩ hl
section HR
variable {p : Program} {l : Launch} {e : Env} {R : Room} {s : State} {m : MethodId} {args : Array Value} {below : List Frame} {meth : Method} {c : Code} {H : Heap} {locs : List Loc} {cells slots : Nat} {Q : State → Prop}
variable {D : va_G} {ad adV : Nat → Nat} {aT : Nat → ClassId} {A : Nat → Prop} {own : String} {cc : ByteArray} {nL pc ao : Nat} {aL : ClassId} {ls : Array Slot} {rest : List Value}
theorem L_last {w : aW} (hx : LxC p l s m args meth c own cc nL D aT [(aL, .long)] ad adV A) {f : Nat → Int64} (hL : Lx D ad aT A s.heap w (oW aL ao f) H locs) {x : Int64} (d : decode cc pc = .ok (.lastore, 1))
    (kk : ∀ (f1 : Nat → Int64) (H1 : Heap) (locs1 : List Loc), f1 0 = x → Lx D ad aT A s.heap w (oW aL ao f1) H1 locs1 → W p l e R s m args below meth c H1 locs1 cells slots Q (F0 m (pc + 1) ls rest)) : W p l e R s m args below meth c H locs cells slots Q (F0 m pc ls (.long x :: .int 0 :: .ref ao :: rest)) := by
  obtain ⟨q1, q2, q3, q4, q5, q6, q7, q8, q9, q10⟩ := hx
  refine va_last q1 q2 q8 hL.1 hL.2.1 hL.2.2 223 4 (cx_r (k := 0)) rfl (show ¬ ((0 : Int32) < 0 ∨ 1 ≤ (0 : Int32).toNatClampNeg) by decide) d (fun H1 locs1 hP1 hD1 hS1 => kk (vp_updL f (0 : Int32).toNatClampNeg x) H1 locs1 (if_pos rfl) ?_)
  have e : ∀ x y : Nat × va_E, (conc ad aT w ++ [x]).set 223 y = conc ad aT w ++ [y] := by
    intro x y
    rw [List.set_append, if_neg (by rw [conc_len]; omega), conc_len]
    rfl
  unfold oW at hP1 hD1
  rw [e] at hP1 hD1
  exact ⟨hP1, hD1, hS1⟩
theorem L_lald {w : aW} (hx : LxC p l s m args meth c own cc nL D aT [(aL, .long)] ad adV A) {f : Nat → Int64} (hL : Lx D ad aT A s.heap w (oW aL ao f) H locs) (d : decode cc pc = .ok (.laload, 1))
    (kk : W p l e R s m args below meth c H locs cells slots Q (F0 m (pc + 1) ls (.long (f 0) :: rest))) : W p l e R s m args below meth c H locs cells slots Q (F0 m pc ls (.int 0 :: .ref ao :: rest)) := by
  obtain ⟨q1, q2, q3, q4, q5, q6, q7, q8, q9, q10⟩ := hx
  exact va_lald q1 q2 q8 hL.1 223 4 (cx_r (k := 0)) rfl (show ¬ ((0 : Int32) < 0 ∨ 1 ≤ (0 : Int32).toNatClampNeg) by decide) d kk
theorem H_ret {lst : List String} {res : Int ⊕ String} {w1 : aI} (hx : LxC p l s m args meth c own cc nL D aT [(aL, .long)] ad adV A) (hr : meth.sig.returnType = some .int) {f1 : Nat → Int64} (hL : Lx D ad aT A s.heap (cm w1) (oW aL ao f1) H locs) {v : Int32} (hv : v = hres lst res) (hf : ∀ v, res = .inl v → f1 0 = (oI v).toInt64) (hj : cells ≤ 4 ∧ slots ≤ 24) (d : decode cc pc = .ok (.ireturn, 1)) :
    W p l e (rmd 8 4) s m args below meth c H locs cells slots (vx_MQ below (HcQ D ad aT aL ao A lst res w1) (fun _ _ _ => False) args s 4 24 A) (F0 m pc ls [.int v]) := by
  subst hv
  exact vx_ret (W.widen hj.1 hj.2 (W.iret hx.1 hx.2.1 hr (fun t ht hW => ⟨⟨f1, rfl, hf, by rw [ht]; exact hL.1⟩, hL.2.2.F ht⟩) hL.2.2.2.2 d (hlocks := hx.2.2.2.2.2.1)))
theorem L_callH {w w1 : aI} {f0 : Nat → Int64} (hx : LxC p l s m args meth c own cc nL D aT [(aL, .long)] ad adV A) (hN : XNc s) {y : MethodName} {cc2 : ByteArray} {nL2 ix n : Nat} {hh : List (Nat × Nat × Nat × Nat)} {lst : List String} {avs : (Nat → Nat) → Nat → List Value} {res : Int ⊕ String} {st sk : List Value} (hM : Hc y cc2 nL2 hh lst avs w res w1) (hL : Lx D ad aT A s.heap (cm w) (oW aL ao f0) H locs)
    (g1 : Cond.codeWith y cc2 nL2 (some .int) hh ∈ Gw) (g2 : Cond.initialized y.cls ∈ Gw) (g3 : Cond.methodLink own ix y ∈ Gw) (g4 : Cond.static y ∈ Gw) (hd : (y.cls ≠ "java/lang/invoke/MethodHandle" ∧ y.cls ≠ "java/lang/invoke/VarHandle") ∧ (parseMethodDescriptor y.desc).map (fun d => d.parameters.length) = some n) (d : decode cc pc = .ok (.invokestatic ix, 3)) (hs : sk = (avs ad ao).reverse ++ st) (hn : (avs ad ao).length = n) (hst : (st.map fun v => v.category).sum ≤ 8) (hfr : 9 ≤ R.frames ∧ 8 + (nL2 + 11) + 312 ≤ R.locals) (hj : cells + 4 ≤ R.cells ∧ slots + 24 ≤ R.slots) (hls : ls.size = nL)
    (kk : ∀ (f1 : Nat → Int64) (H1 : Heap) (locs1 : List Loc), (∀ v, res = .inl v → f1 0 = (oI v).toInt64) → Lx D ad aT A s.heap (cm w1) (oW aL ao f1) H1 locs1 → W p l e R s m args below meth c H1 locs1 (cells + 4) (slots + 24) Q (F0 m (pc + 3) ls (.int (hres lst res) :: st))) : W p l e R s m args below meth c H locs cells slots Q (F0 m pc ls sk) := by
  subst hs
  obtain ⟨q1, q2, q3, q4, q5, q6, q7, q8, q9, q10⟩ := id hx
  obtain ⟨hP, hD, hS⟩ := id hL
  have hsub : ∀ q, va_A (conc ad aT (cm w) ++ oW aL ao f0) H.size q → A q := by
    rintro q (⟨k, e, hk⟩ | h)
    · exact hD.2 k _ hk
    · exact q10 q (Nat.le_trans hS.1 h)
  have hr := vx_runSX (p := p) (e := e) (R := R) (below := below) (meth := meth) (H := H) (locs := locs) (cells := cells) (slots := slots) (hh := hh) (As := avs ad ao) (rest := st) (own := own) (index := ix) (n := n) (g := F0 m pc ls ((avs ad ao).reverse ++ st)) (S := (⟨q1, q2, q3, q4, q5⟩ : CallFix p m c cc nL s args Gw own)) (hM l q7 D ad aT adV aL H.size ao f0)
    (cw := ⟨⟨rfl, rfl, hfr.1, hfr.2, fun v hv a' U hW => by
        have h : v ∈ Gw := by
          rcases List.mem_cons.mp hv with h | h
          · rw [h]; exact g1
          · exact h
        exact word_at hW (good_of_word (gw_good v h)) (q5 v h), List.mem_cons_self⟩, q5 _ g1, q5 _ g2, hd.1, hx_par hd.2, q5 _ g3, q5 _ g4⟩)
    ⟨fun a U g mk q => by
        obtain ⟨b0, b1, b2, b3, b4, b5, b6⟩ := q
        exact ⟨b0, b1, b2, b3, va_K.moved (u := U) (U := U.calling g mk a) (Vm.Alike.refl U.vm) b4, XE.warm (s := U) (U := U.calling g mk a) (State.WarmedH.refl U) b5, XNc.moved (u := U) (U := U.calling g mk a) (Vm.Alike.refl U.vm) b6⟩,
      fun U hU hW => ⟨rfl, by rw [hU], by rw [hU]; exact hP, hD.weaken (fun _ _ _ _ => trivial), va_K.moved hW.alike q8, by
        rw [hU]
        exact ((q9.kept hS.2.1).narrow hsub).warm hW, XNc.moved hW.alike hN⟩⟩
    rfl hn hls rfl (by show 2 * 0 + _ ≤ 8; omega) d hj
  intro U hU X0
  rcases hr U hU X0 with ⟨v, st₀, t, T', Lc, h0, X', hLc, e1, e2, ⟨⟨f1, ho, hf, hP2⟩, hF⟩, sp⟩ | ⟨q, st₀, t, T', Lc, E, ce, h0, X', hLc, e1, e2, hE, hce, hcv, hcl, sp⟩
  · cases ho
    obtain ⟨k1, k2, k3⟩ := vx_keep h0 e1 hS (fun q _ h => hsub q h) hsub hLc hF
    have hL1 : Lx D ad aT A s.heap (cm w1) (oW aL ao f1) T'.heap (locs ++ Lc) := by
      refine ⟨by rw [e1]; exact hP2, va_D_fst hD ?_, k3⟩
      rw [List.map_append, List.map_append, conc, conc, List.map_map, List.map_map]
      rfl
    obtain ⟨t2, a1, b1⟩ := kk f1 T'.heap (locs ++ Lc) hf hL1 T' rfl X'
    exact ⟨t2, sp t2 a1, b1⟩
  · exact hE.elim
end HR
set_option maxHeartbeats 4000000 in
set_option maxRecDepth 100000 in
theorem hm_count (p1 : Int) {w w1 : aI} {res : Int ⊕ String} (hf : f_X10_count 20000 0 p1 w = some (res, w1)) (hE : ∀ E, res = .inr E → E ∈ [eIA]) : Hc yL_count cL_count 4 [(0, 9, 12, 13)] [eIA] (fun ad ao => [.ref (ad 0), .int (oI p1), .ref ao]) w res w1 := by
  refine Hc.of (by decide +kernel) rfl (fun _ _ => Nat.le_of_ble_eq_true rfl) ?_
  intro p l e s m args below meth c D ad aT adV aL ao f0 A ls hx htb hrt hN hNw hL hl
  have hl : lv_has ls 4 [(0, .ref (ad 0)), (1, .int (oI p1)), (2, .ref ao)] := hl
  refine lv_aload_n hx.1 hx.2.1 dL_count_0 rfl (lv_at hl 2 rfl) ?_
  refine lv_iconst (v := 0) hx.1 hx.2.1 dL_count_1 (by decide) ?_
  refine lv_aload_n hx.1 hx.2.1 dL_count_2 rfl (lv_at hl 0 rfl) ?_
  refine lv_iload_n hx.1 hx.2.1 dL_count_3 rfl (lv_at hl 1 rfl) ?_
  refine L_callV hx (b := 0) [.int (oI p1)] [.int 0, .ref ao] (ev_X10_count 20000 0 (by decide +kernel) p1 w) vm_X10_count fc8 (by decide +kernel) g928 dL_count_4 rfl rfl (Nat.le_of_ble_eq_true rfl) ⟨by decide, by decide⟩ ⟨by decide, by decide⟩ hl.1 hL hf (fun v hv H locs hL => ?_) (fun E hE1 H locs q ce hL hc hcv hcl => ?_)
  · cases res with
    | inr E => cases hv
    | inl u =>
      cases hv
      refine lv_i2l hx.1 hx.2.1 dL_count_7 rfl ?_
      refine L_last hx hL dL_count_8 (fun f1 H locs hf1 hL => ?_)
      refine lv_goto (tgt := 15) hx.1 hx.2.1 dL_count_9 (by decide) ?_
      refine lv_iconst (v := 0) hx.1 hx.2.1 dL_count_15 (by decide) ?_
      exact H_ret hx hrt hL rfl (fun v h => by cases h; exact hf1) ⟨by decide, by decide⟩ dL_count_16
  · cases res with
    | inl u => cases hE1
    | inr E0 =>
      cases hE1
      have hm := hE _ rfl
      simp only [List.mem_cons, List.not_mem_nil, or_false] at hm
      rcases hm with rfl
      · refine vx_catch (name := eIA) hx.2.2.2.1 [] ⟨0, 9, 12, 13⟩ [] htb (fun z hz => absurd hz List.not_mem_nil) rfl (by decide) (hx.2.2.2.2.1 _ g927) (va_Nw.use rfl (hNw.2.2.2 eIA (by decide +kernel))) hc hcv hcl ?_
        refine lv_astore_n (lv' := [(3, .ref q), (0, .ref (ad 0)), (1, .int (oI p1)), (2, .ref ao)]) hx.1 hx.2.1 dL_count_12 rfl hl (by decide) rfl (fun ls hl => ?_)
        refine lv_iconst (v := 1) hx.1 hx.2.1 dL_count_13 (by decide) ?_
        exact H_ret hx hrt hL (by decide) (fun v h => by cases h) ⟨by decide, by decide⟩ dL_count_14
set_option maxHeartbeats 4000000 in
set_option maxRecDepth 100000 in
theorem hm_account (p1 : Int) {w w1 : aI} {res : Int ⊕ String} (hf : f_X10_account 20000 0 p1 w = some (res, w1)) (hE : ∀ E, res = .inr E → E ∈ [eIA]) : Hc yL_account cL_account 4 [(0, 9, 12, 13)] [eIA] (fun ad ao => [.ref (ad 0), .int (oI p1), .ref ao]) w res w1 := by
  refine Hc.of (by decide +kernel) rfl (fun _ _ => Nat.le_of_ble_eq_true rfl) ?_
  intro p l e s m args below meth c D ad aT adV aL ao f0 A ls hx htb hrt hN hNw hL hl
  have hl : lv_has ls 4 [(0, .ref (ad 0)), (1, .int (oI p1)), (2, .ref ao)] := hl
  refine lv_aload_n hx.1 hx.2.1 dL_account_0 rfl (lv_at hl 2 rfl) ?_
  refine lv_iconst (v := 0) hx.1 hx.2.1 dL_account_1 (by decide) ?_
  refine lv_aload_n hx.1 hx.2.1 dL_account_2 rfl (lv_at hl 0 rfl) ?_
  refine lv_iload_n hx.1 hx.2.1 dL_account_3 rfl (lv_at hl 1 rfl) ?_
  refine L_callV hx (b := 0) [.int (oI p1)] [.int 0, .ref ao] (ev_X10_account 20000 0 (by decide +kernel) p1 w) vm_X10_account fc8 (by decide +kernel) g1023 dL_account_4 rfl rfl (Nat.le_of_ble_eq_true rfl) ⟨by decide, by decide⟩ ⟨by decide, by decide⟩ hl.1 hL hf (fun v hv H locs hL => ?_) (fun E hE1 H locs q ce hL hc hcv hcl => ?_)
  · cases res with
    | inr E => cases hv
    | inl u =>
      cases hv
      refine lv_i2l hx.1 hx.2.1 dL_account_7 rfl ?_
      refine L_last hx hL dL_account_8 (fun f1 H locs hf1 hL => ?_)
      refine lv_goto (tgt := 15) hx.1 hx.2.1 dL_account_9 (by decide) ?_
      refine lv_iconst (v := 0) hx.1 hx.2.1 dL_account_15 (by decide) ?_
      exact H_ret hx hrt hL rfl (fun v h => by cases h; exact hf1) ⟨by decide, by decide⟩ dL_account_16
  · cases res with
    | inl u => cases hE1
    | inr E0 =>
      cases hE1
      have hm := hE _ rfl
      simp only [List.mem_cons, List.not_mem_nil, or_false] at hm
      rcases hm with rfl
      · refine vx_catch (name := eIA) hx.2.2.2.1 [] ⟨0, 9, 12, 13⟩ [] htb (fun z hz => absurd hz List.not_mem_nil) rfl (by decide) (hx.2.2.2.2.1 _ g927) (va_Nw.use rfl (hNw.2.2.2 eIA (by decide +kernel))) hc hcv hcl ?_
        refine lv_astore_n (lv' := [(3, .ref q), (0, .ref (ad 0)), (1, .int (oI p1)), (2, .ref ao)]) hx.1 hx.2.1 dL_account_12 rfl hl (by decide) rfl (fun ls hl => ?_)
        refine lv_iconst (v := 1) hx.1 hx.2.1 dL_account_13 (by decide) ?_
        exact H_ret hx hrt hL (by decide) (fun v h => by cases h) ⟨by decide, by decide⟩ dL_account_14
set_option maxHeartbeats 4000000 in
set_option maxRecDepth 100000 in
theorem hm_nameByte (p1 : Int) (p2 : Int) {w w1 : aI} {res : Int ⊕ String} (hf : f_X10_nameByte 20000 0 p1 p2 w = some (res, w1)) (hE : ∀ E, res = .inr E → E ∈ [eIO]) : Hc yL_nameByte cL_nameByte 5 [(0, 10, 13, 22)] [eIO] (fun ad ao => [.ref (ad 0), .int (oI p1), .int (oI p2), .ref ao]) w res w1 := by
  refine Hc.of (by decide +kernel) rfl (fun _ _ => Nat.le_of_ble_eq_true rfl) ?_
  intro p l e s m args below meth c D ad aT adV aL ao f0 A ls hx htb hrt hN hNw hL hl
  have hl : lv_has ls 5 [(0, .ref (ad 0)), (1, .int (oI p1)), (2, .int (oI p2)), (3, .ref ao)] := hl
  refine lv_aload_n hx.1 hx.2.1 dL_nameByte_0 rfl (lv_at hl 3 rfl) ?_
  refine lv_iconst (v := 0) hx.1 hx.2.1 dL_nameByte_1 (by decide) ?_
  refine lv_aload_n hx.1 hx.2.1 dL_nameByte_2 rfl (lv_at hl 0 rfl) ?_
  refine lv_iload_n hx.1 hx.2.1 dL_nameByte_3 rfl (lv_at hl 1 rfl) ?_
  refine lv_iload_n hx.1 hx.2.1 dL_nameByte_4 rfl (lv_at hl 2 rfl) ?_
  refine L_callV hx (b := 0) [.int (oI p1), .int (oI p2)] [.int 0, .ref ao] (ev_X10_nameByte 20000 0 (by decide +kernel) p1 p2 w) vm_X10_nameByte fc8 (by decide +kernel) g1031 dL_nameByte_5 rfl rfl (Nat.le_of_ble_eq_true rfl) ⟨by decide, by decide⟩ ⟨by decide, by decide⟩ hl.1 hL hf (fun v hv H locs hL => ?_) (fun E hE1 H locs q ce hL hc hcv hcl => ?_)
  · cases res with
    | inr E => cases hv
    | inl u =>
      cases hv
      refine lv_i2l hx.1 hx.2.1 dL_nameByte_8 rfl ?_
      refine L_last hx hL dL_nameByte_9 (fun f1 H locs hf1 hL => ?_)
      refine lv_goto (tgt := 17) hx.1 hx.2.1 dL_nameByte_10 (by decide) ?_
      refine lv_iconst (v := 0) hx.1 hx.2.1 dL_nameByte_17 (by decide) ?_
      exact H_ret hx hrt hL rfl (fun v h => by cases h; exact hf1) ⟨by decide, by decide⟩ dL_nameByte_18
  · cases res with
    | inl u => cases hE1
    | inr E0 =>
      cases hE1
      have hm := hE _ rfl
      simp only [List.mem_cons, List.not_mem_nil, or_false] at hm
      rcases hm with rfl
      · refine vx_catch (name := eIO) hx.2.2.2.1 [] ⟨0, 10, 13, 22⟩ [] htb (fun z hz => absurd hz List.not_mem_nil) rfl (by decide) (hx.2.2.2.2.1 _ g1030) (va_Nw.use rfl (hNw.2.2.2 eIO (by decide +kernel))) hc hcv hcl ?_
        refine lv_astore (lv' := [(4, .ref q), (0, .ref (ad 0)), (1, .int (oI p1)), (2, .int (oI p2)), (3, .ref ao)]) hx.1 hx.2.1 dL_nameByte_13 hl (by decide) rfl (fun ls hl => ?_)
        refine lv_iconst (v := 1) hx.1 hx.2.1 dL_nameByte_15 (by decide) ?_
        exact H_ret hx hrt hL (by decide) (fun v h => by cases h) ⟨by decide, by decide⟩ dL_nameByte_16
set_option maxHeartbeats 4000000 in
set_option maxRecDepth 100000 in
theorem hm_roof (p1 : Int) (p2 : Int) {w w1 : aI} {res : Int ⊕ String} (hf : f_X10_roof 20000 0 p1 p2 w = some (res, w1)) (hE : ∀ E, res = .inr E → E ∈ [eIO, eIA]) : Hc yL_roof cL_roof 5 [(0, 10, 13, 22), (0, 10, 17, 13)] [eIO, eIA] (fun ad ao => [.ref (ad 0), .int (oI p1), .int (oI p2), .ref ao]) w res w1 := by
  refine Hc.of (by decide +kernel) rfl (fun _ _ => Nat.le_of_ble_eq_true rfl) ?_
  intro p l e s m args below meth c D ad aT adV aL ao f0 A ls hx htb hrt hN hNw hL hl
  have hl : lv_has ls 5 [(0, .ref (ad 0)), (1, .int (oI p1)), (2, .int (oI p2)), (3, .ref ao)] := hl
  refine lv_aload_n hx.1 hx.2.1 dL_roof_0 rfl (lv_at hl 3 rfl) ?_
  refine lv_iconst (v := 0) hx.1 hx.2.1 dL_roof_1 (by decide) ?_
  refine lv_aload_n hx.1 hx.2.1 dL_roof_2 rfl (lv_at hl 0 rfl) ?_
  refine lv_iload_n hx.1 hx.2.1 dL_roof_3 rfl (lv_at hl 1 rfl) ?_
  refine lv_iload_n hx.1 hx.2.1 dL_roof_4 rfl (lv_at hl 2 rfl) ?_
  refine L_callV hx (b := 0) [.int (oI p1), .int (oI p2)] [.int 0, .ref ao] (ev_X10_roof 20000 0 (by decide +kernel) p1 p2 w) vm_X10_roof fc8 (by decide +kernel) g1058 dL_roof_5 rfl rfl (Nat.le_of_ble_eq_true rfl) ⟨by decide, by decide⟩ ⟨by decide, by decide⟩ hl.1 hL hf (fun v hv H locs hL => ?_) (fun E hE1 H locs q ce hL hc hcv hcl => ?_)
  · cases res with
    | inr E => cases hv
    | inl u =>
      cases hv
      refine lv_i2l hx.1 hx.2.1 dL_roof_8 rfl ?_
      refine L_last hx hL dL_roof_9 (fun f1 H locs hf1 hL => ?_)
      refine lv_goto (tgt := 21) hx.1 hx.2.1 dL_roof_10 (by decide) ?_
      refine lv_iconst (v := 0) hx.1 hx.2.1 dL_roof_21 (by decide) ?_
      exact H_ret hx hrt hL rfl (fun v h => by cases h; exact hf1) ⟨by decide, by decide⟩ dL_roof_22
  · cases res with
    | inl u => cases hE1
    | inr E0 =>
      cases hE1
      have hm := hE _ rfl
      simp only [List.mem_cons, List.not_mem_nil, or_false] at hm
      rcases hm with rfl | rfl
      · refine vx_catch (name := eIO) hx.2.2.2.1 [] ⟨0, 10, 13, 22⟩ [⟨0, 10, 17, 13⟩] htb (fun z hz => absurd hz List.not_mem_nil) rfl (by decide) (hx.2.2.2.2.1 _ g1030) (va_Nw.use rfl (hNw.2.2.2 eIO (by decide +kernel))) hc hcv hcl ?_
        refine lv_astore (lv' := [(4, .ref q), (0, .ref (ad 0)), (1, .int (oI p1)), (2, .int (oI p2)), (3, .ref ao)]) hx.1 hx.2.1 dL_roof_13 hl (by decide) rfl (fun ls hl => ?_)
        refine lv_iconst (v := 1) hx.1 hx.2.1 dL_roof_15 (by decide) ?_
        exact H_ret hx hrt hL (by decide) (fun v h => by cases h) ⟨by decide, by decide⟩ dL_roof_16
      · refine vx_catch (name := eIA) hx.2.2.2.1 [⟨0, 10, 13, 22⟩] ⟨0, 10, 17, 13⟩ [] htb (fun z hz => by
              simp only [List.mem_cons, List.not_mem_nil, or_false] at hz
              rcases hz with rfl
              · exact Or.inr ⟨by decide, _, hx.2.2.2.2.1 _ g1030, hN.1⟩
              ) rfl (by decide) (hx.2.2.2.2.1 _ g927) (va_Nw.use rfl (hNw.2.2.2 eIA (by decide +kernel))) hc hcv hcl ?_
        refine lv_astore (lv' := [(4, .ref q), (0, .ref (ad 0)), (1, .int (oI p1)), (2, .int (oI p2)), (3, .ref ao)]) hx.1 hx.2.1 dL_roof_17 hl (by decide) rfl (fun ls hl => ?_)
        refine lv_iconst (v := 2) hx.1 hx.2.1 dL_roof_19 (by decide) ?_
        exact H_ret hx hrt hL (by decide) (fun v h => by cases h) ⟨by decide, by decide⟩ dL_roof_20
set_option maxHeartbeats 4000000 in
set_option maxRecDepth 100000 in
theorem hm_way (p1 : Int) (p2 : Int) {w w1 : aI} {res : Int ⊕ String} (hf : f_X10_way 20000 0 p1 p2 w = some (res, w1)) (hE : ∀ E, res = .inr E → E ∈ [eIO, eIA]) : Hc yL_way cL_way 5 [(0, 10, 13, 22), (0, 10, 17, 13)] [eIO, eIA] (fun ad ao => [.ref (ad 0), .int (oI p1), .int (oI p2), .ref ao]) w res w1 := by
  refine Hc.of (by decide +kernel) rfl (fun _ _ => Nat.le_of_ble_eq_true rfl) ?_
  intro p l e s m args below meth c D ad aT adV aL ao f0 A ls hx htb hrt hN hNw hL hl
  have hl : lv_has ls 5 [(0, .ref (ad 0)), (1, .int (oI p1)), (2, .int (oI p2)), (3, .ref ao)] := hl
  refine lv_aload_n hx.1 hx.2.1 dL_way_0 rfl (lv_at hl 3 rfl) ?_
  refine lv_iconst (v := 0) hx.1 hx.2.1 dL_way_1 (by decide) ?_
  refine lv_aload_n hx.1 hx.2.1 dL_way_2 rfl (lv_at hl 0 rfl) ?_
  refine lv_iload_n hx.1 hx.2.1 dL_way_3 rfl (lv_at hl 1 rfl) ?_
  refine lv_iload_n hx.1 hx.2.1 dL_way_4 rfl (lv_at hl 2 rfl) ?_
  refine L_callV hx (b := 0) [.int (oI p1), .int (oI p2)] [.int 0, .ref ao] (ev_X10_way 20000 0 (by decide +kernel) p1 p2 w) vm_X10_way fc8 (by decide +kernel) g1074 dL_way_5 rfl rfl (Nat.le_of_ble_eq_true rfl) ⟨by decide, by decide⟩ ⟨by decide, by decide⟩ hl.1 hL hf (fun v hv H locs hL => ?_) (fun E hE1 H locs q ce hL hc hcv hcl => ?_)
  · cases res with
    | inr E => cases hv
    | inl u =>
      cases hv
      refine lv_i2l hx.1 hx.2.1 dL_way_8 rfl ?_
      refine L_last hx hL dL_way_9 (fun f1 H locs hf1 hL => ?_)
      refine lv_goto (tgt := 21) hx.1 hx.2.1 dL_way_10 (by decide) ?_
      refine lv_iconst (v := 0) hx.1 hx.2.1 dL_way_21 (by decide) ?_
      exact H_ret hx hrt hL rfl (fun v h => by cases h; exact hf1) ⟨by decide, by decide⟩ dL_way_22
  · cases res with
    | inl u => cases hE1
    | inr E0 =>
      cases hE1
      have hm := hE _ rfl
      simp only [List.mem_cons, List.not_mem_nil, or_false] at hm
      rcases hm with rfl | rfl
      · refine vx_catch (name := eIO) hx.2.2.2.1 [] ⟨0, 10, 13, 22⟩ [⟨0, 10, 17, 13⟩] htb (fun z hz => absurd hz List.not_mem_nil) rfl (by decide) (hx.2.2.2.2.1 _ g1030) (va_Nw.use rfl (hNw.2.2.2 eIO (by decide +kernel))) hc hcv hcl ?_
        refine lv_astore (lv' := [(4, .ref q), (0, .ref (ad 0)), (1, .int (oI p1)), (2, .int (oI p2)), (3, .ref ao)]) hx.1 hx.2.1 dL_way_13 hl (by decide) rfl (fun ls hl => ?_)
        refine lv_iconst (v := 1) hx.1 hx.2.1 dL_way_15 (by decide) ?_
        exact H_ret hx hrt hL (by decide) (fun v h => by cases h) ⟨by decide, by decide⟩ dL_way_16
      · refine vx_catch (name := eIA) hx.2.2.2.1 [⟨0, 10, 13, 22⟩] ⟨0, 10, 17, 13⟩ [] htb (fun z hz => by
              simp only [List.mem_cons, List.not_mem_nil, or_false] at hz
              rcases hz with rfl
              · exact Or.inr ⟨by decide, _, hx.2.2.2.2.1 _ g1030, hN.1⟩
              ) rfl (by decide) (hx.2.2.2.2.1 _ g927) (va_Nw.use rfl (hNw.2.2.2 eIA (by decide +kernel))) hc hcv hcl ?_
        refine lv_astore (lv' := [(4, .ref q), (0, .ref (ad 0)), (1, .int (oI p1)), (2, .int (oI p2)), (3, .ref ao)]) hx.1 hx.2.1 dL_way_17 hl (by decide) rfl (fun ls hl => ?_)
        refine lv_iconst (v := 2) hx.1 hx.2.1 dL_way_19 (by decide) ?_
        exact H_ret hx hrt hL (by decide) (fun v h => by cases h) ⟨by decide, by decide⟩ dL_way_20
set_option maxHeartbeats 4000000 in
set_option maxRecDepth 100000 in
theorem hm_route (p1 : Int) (p2 : Int) {w w1 : aI} {res : Int ⊕ String} (hf : f_X10_route 20000 0 p1 p2 w = some (res, w1)) (hE : ∀ E, res = .inr E → E ∈ [eIO]) : Hc yL_route cL_route 5 [(0, 10, 13, 22)] [eIO] (fun ad ao => [.ref (ad 0), .int (oI p1), .int (oI p2), .ref ao]) w res w1 := by
  refine Hc.of (by decide +kernel) rfl (fun _ _ => Nat.le_of_ble_eq_true rfl) ?_
  intro p l e s m args below meth c D ad aT adV aL ao f0 A ls hx htb hrt hN hNw hL hl
  have hl : lv_has ls 5 [(0, .ref (ad 0)), (1, .int (oI p1)), (2, .int (oI p2)), (3, .ref ao)] := hl
  refine lv_aload_n hx.1 hx.2.1 dL_route_0 rfl (lv_at hl 3 rfl) ?_
  refine lv_iconst (v := 0) hx.1 hx.2.1 dL_route_1 (by decide) ?_
  refine lv_aload_n hx.1 hx.2.1 dL_route_2 rfl (lv_at hl 0 rfl) ?_
  refine lv_iload_n hx.1 hx.2.1 dL_route_3 rfl (lv_at hl 1 rfl) ?_
  refine lv_iload_n hx.1 hx.2.1 dL_route_4 rfl (lv_at hl 2 rfl) ?_
  refine L_callV hx (b := 0) [.int (oI p1), .int (oI p2)] [.int 0, .ref ao] (ev_X10_route 20000 0 (by decide +kernel) p1 p2 w) vm_X10_route fc8 (by decide +kernel) g1082 dL_route_5 rfl rfl (Nat.le_of_ble_eq_true rfl) ⟨by decide, by decide⟩ ⟨by decide, by decide⟩ hl.1 hL hf (fun v hv H locs hL => ?_) (fun E hE1 H locs q ce hL hc hcv hcl => ?_)
  · cases res with
    | inr E => cases hv
    | inl u =>
      cases hv
      refine lv_i2l hx.1 hx.2.1 dL_route_8 rfl ?_
      refine L_last hx hL dL_route_9 (fun f1 H locs hf1 hL => ?_)
      refine lv_goto (tgt := 17) hx.1 hx.2.1 dL_route_10 (by decide) ?_
      refine lv_iconst (v := 0) hx.1 hx.2.1 dL_route_17 (by decide) ?_
      exact H_ret hx hrt hL rfl (fun v h => by cases h; exact hf1) ⟨by decide, by decide⟩ dL_route_18
  · cases res with
    | inl u => cases hE1
    | inr E0 =>
      cases hE1
      have hm := hE _ rfl
      simp only [List.mem_cons, List.not_mem_nil, or_false] at hm
      rcases hm with rfl
      · refine vx_catch (name := eIO) hx.2.2.2.1 [] ⟨0, 10, 13, 22⟩ [] htb (fun z hz => absurd hz List.not_mem_nil) rfl (by decide) (hx.2.2.2.2.1 _ g1030) (va_Nw.use rfl (hNw.2.2.2 eIO (by decide +kernel))) hc hcv hcl ?_
        refine lv_astore (lv' := [(4, .ref q), (0, .ref (ad 0)), (1, .int (oI p1)), (2, .int (oI p2)), (3, .ref ao)]) hx.1 hx.2.1 dL_route_13 hl (by decide) rfl (fun ls hl => ?_)
        refine lv_iconst (v := 1) hx.1 hx.2.1 dL_route_15 (by decide) ?_
        exact H_ret hx hrt hL (by decide) (fun v h => by cases h) ⟨by decide, by decide⟩ dL_route_16
set_option maxHeartbeats 4000000 in
set_option maxRecDepth 100000 in
theorem hm_next (p1 : Int) (p2 : Int) {w w1 : aI} {res : Int ⊕ String} (hf : f_X10_next 20000 0 p1 p2 w = some (res, w1)) (hE : ∀ E, res = .inr E → E ∈ [eIO]) : Hc yL_next cL_next 5 [(0, 10, 13, 22)] [eIO] (fun ad ao => [.ref (ad 0), .int (oI p1), .int (oI p2), .ref ao]) w res w1 := by
  refine Hc.of (by decide +kernel) rfl (fun _ _ => Nat.le_of_ble_eq_true rfl) ?_
  intro p l e s m args below meth c D ad aT adV aL ao f0 A ls hx htb hrt hN hNw hL hl
  have hl : lv_has ls 5 [(0, .ref (ad 0)), (1, .int (oI p1)), (2, .int (oI p2)), (3, .ref ao)] := hl
  refine lv_aload_n hx.1 hx.2.1 dL_next_0 rfl (lv_at hl 3 rfl) ?_
  refine lv_iconst (v := 0) hx.1 hx.2.1 dL_next_1 (by decide) ?_
  refine lv_aload_n hx.1 hx.2.1 dL_next_2 rfl (lv_at hl 0 rfl) ?_
  refine lv_iload_n hx.1 hx.2.1 dL_next_3 rfl (lv_at hl 1 rfl) ?_
  refine lv_iload_n hx.1 hx.2.1 dL_next_4 rfl (lv_at hl 2 rfl) ?_
  refine L_callV hx (b := 0) [.int (oI p1), .int (oI p2)] [.int 0, .ref ao] (ev_X10_next 20000 0 (by decide +kernel) p1 p2 w) vm_X10_next fc8 (by decide +kernel) g1089 dL_next_5 rfl rfl (Nat.le_of_ble_eq_true rfl) ⟨by decide, by decide⟩ ⟨by decide, by decide⟩ hl.1 hL hf (fun v hv H locs hL => ?_) (fun E hE1 H locs q ce hL hc hcv hcl => ?_)
  · cases res with
    | inr E => cases hv
    | inl u =>
      cases hv
      refine lv_i2l hx.1 hx.2.1 dL_next_8 rfl ?_
      refine L_last hx hL dL_next_9 (fun f1 H locs hf1 hL => ?_)
      refine lv_goto (tgt := 17) hx.1 hx.2.1 dL_next_10 (by decide) ?_
      refine lv_iconst (v := 0) hx.1 hx.2.1 dL_next_17 (by decide) ?_
      exact H_ret hx hrt hL rfl (fun v h => by cases h; exact hf1) ⟨by decide, by decide⟩ dL_next_18
  · cases res with
    | inl u => cases hE1
    | inr E0 =>
      cases hE1
      have hm := hE _ rfl
      simp only [List.mem_cons, List.not_mem_nil, or_false] at hm
      rcases hm with rfl
      · refine vx_catch (name := eIO) hx.2.2.2.1 [] ⟨0, 10, 13, 22⟩ [] htb (fun z hz => absurd hz List.not_mem_nil) rfl (by decide) (hx.2.2.2.2.1 _ g1030) (va_Nw.use rfl (hNw.2.2.2 eIO (by decide +kernel))) hc hcv hcl ?_
        refine lv_astore (lv' := [(4, .ref q), (0, .ref (ad 0)), (1, .int (oI p1)), (2, .int (oI p2)), (3, .ref ao)]) hx.1 hx.2.1 dL_next_13 hl (by decide) rfl (fun ls hl => ?_)
        refine lv_iconst (v := 1) hx.1 hx.2.1 dL_next_15 (by decide) ?_
        exact H_ret hx hrt hL (by decide) (fun v h => by cases h) ⟨by decide, by decide⟩ dL_next_16
set_option maxHeartbeats 4000000 in
set_option maxRecDepth 100000 in
theorem hm_tune (p1 : Int) (p2 : Int) {w w1 : aI} {res : Int ⊕ String} (hf : f_X10_tune 20000 0 p1 p2 w = some (res, w1)) (hE : ∀ E, res = .inr E → E ∈ [eIO, eIA]) : Hc yL_tune cL_tune 5 [(0, 10, 13, 22), (0, 10, 17, 13)] [eIO, eIA] (fun ad ao => [.ref (ad 0), .int (oI p1), .int (oI p2), .ref ao]) w res w1 := by
  refine Hc.of (by decide +kernel) rfl (fun _ _ => Nat.le_of_ble_eq_true rfl) ?_
  intro p l e s m args below meth c D ad aT adV aL ao f0 A ls hx htb hrt hN hNw hL hl
  have hl : lv_has ls 5 [(0, .ref (ad 0)), (1, .int (oI p1)), (2, .int (oI p2)), (3, .ref ao)] := hl
  refine lv_aload_n hx.1 hx.2.1 dL_tune_0 rfl (lv_at hl 3 rfl) ?_
  refine lv_iconst (v := 0) hx.1 hx.2.1 dL_tune_1 (by decide) ?_
  refine lv_aload_n hx.1 hx.2.1 dL_tune_2 rfl (lv_at hl 0 rfl) ?_
  refine lv_iload_n hx.1 hx.2.1 dL_tune_3 rfl (lv_at hl 1 rfl) ?_
  refine lv_iload_n hx.1 hx.2.1 dL_tune_4 rfl (lv_at hl 2 rfl) ?_
  refine L_callV hx (b := 0) [.int (oI p1), .int (oI p2)] [.int 0, .ref ao] (ev_X10_tune 20000 0 (by decide +kernel) p1 p2 w) vm_X10_tune fc8 (by decide +kernel) g1096 dL_tune_5 rfl rfl (Nat.le_of_ble_eq_true rfl) ⟨by decide, by decide⟩ ⟨by decide, by decide⟩ hl.1 hL hf (fun v hv H locs hL => ?_) (fun E hE1 H locs q ce hL hc hcv hcl => ?_)
  · cases res with
    | inr E => cases hv
    | inl u =>
      cases hv
      refine lv_i2l hx.1 hx.2.1 dL_tune_8 rfl ?_
      refine L_last hx hL dL_tune_9 (fun f1 H locs hf1 hL => ?_)
      refine lv_goto (tgt := 21) hx.1 hx.2.1 dL_tune_10 (by decide) ?_
      refine lv_iconst (v := 0) hx.1 hx.2.1 dL_tune_21 (by decide) ?_
      exact H_ret hx hrt hL rfl (fun v h => by cases h; exact hf1) ⟨by decide, by decide⟩ dL_tune_22
  · cases res with
    | inl u => cases hE1
    | inr E0 =>
      cases hE1
      have hm := hE _ rfl
      simp only [List.mem_cons, List.not_mem_nil, or_false] at hm
      rcases hm with rfl | rfl
      · refine vx_catch (name := eIO) hx.2.2.2.1 [] ⟨0, 10, 13, 22⟩ [⟨0, 10, 17, 13⟩] htb (fun z hz => absurd hz List.not_mem_nil) rfl (by decide) (hx.2.2.2.2.1 _ g1030) (va_Nw.use rfl (hNw.2.2.2 eIO (by decide +kernel))) hc hcv hcl ?_
        refine lv_astore (lv' := [(4, .ref q), (0, .ref (ad 0)), (1, .int (oI p1)), (2, .int (oI p2)), (3, .ref ao)]) hx.1 hx.2.1 dL_tune_13 hl (by decide) rfl (fun ls hl => ?_)
        refine lv_iconst (v := 1) hx.1 hx.2.1 dL_tune_15 (by decide) ?_
        exact H_ret hx hrt hL (by decide) (fun v h => by cases h) ⟨by decide, by decide⟩ dL_tune_16
      · refine vx_catch (name := eIA) hx.2.2.2.1 [⟨0, 10, 13, 22⟩] ⟨0, 10, 17, 13⟩ [] htb (fun z hz => by
              simp only [List.mem_cons, List.not_mem_nil, or_false] at hz
              rcases hz with rfl
              · exact Or.inr ⟨by decide, _, hx.2.2.2.2.1 _ g1030, hN.1⟩
              ) rfl (by decide) (hx.2.2.2.2.1 _ g927) (va_Nw.use rfl (hNw.2.2.2 eIA (by decide +kernel))) hc hcv hcl ?_
        refine lv_astore (lv' := [(4, .ref q), (0, .ref (ad 0)), (1, .int (oI p1)), (2, .int (oI p2)), (3, .ref ao)]) hx.1 hx.2.1 dL_tune_17 hl (by decide) rfl (fun ls hl => ?_)
        refine lv_iconst (v := 2) hx.1 hx.2.1 dL_tune_19 (by decide) ?_
        exact H_ret hx hrt hL (by decide) (fun v h => by cases h) ⟨by decide, by decide⟩ dL_tune_20
set_option maxHeartbeats 4000000 in
set_option maxRecDepth 100000 in
theorem hm_note (p1 : Int) (p2 : Int) (p3 : Int) {w w1 : aI} {res : Int ⊕ String} (hf : f_X10_note 20000 0 p1 p2 p3 w = some (res, w1)) (hE : ∀ E, res = .inr E → E ∈ [eIO]) : Hc yL_note cL_note 6 [(0, 12, 15, 22)] [eIO] (fun ad ao => [.ref (ad 0), .int (oI p1), .int (oI p2), .int (oI p3), .ref ao]) w res w1 := by
  refine Hc.of (by decide +kernel) rfl (fun _ _ => Nat.le_of_ble_eq_true rfl) ?_
  intro p l e s m args below meth c D ad aT adV aL ao f0 A ls hx htb hrt hN hNw hL hl
  have hl : lv_has ls 6 [(0, .ref (ad 0)), (1, .int (oI p1)), (2, .int (oI p2)), (3, .int (oI p3)), (4, .ref ao)] := hl
  refine lv_aload hx.1 hx.2.1 dL_note_0 (lv_at hl 4 rfl) ?_
  refine lv_iconst (v := 0) hx.1 hx.2.1 dL_note_2 (by decide) ?_
  refine lv_aload_n hx.1 hx.2.1 dL_note_3 rfl (lv_at hl 0 rfl) ?_
  refine lv_iload_n hx.1 hx.2.1 dL_note_4 rfl (lv_at hl 1 rfl) ?_
  refine lv_iload_n hx.1 hx.2.1 dL_note_5 rfl (lv_at hl 2 rfl) ?_
  refine lv_iload_n hx.1 hx.2.1 dL_note_6 rfl (lv_at hl 3 rfl) ?_
  refine L_callV hx (b := 0) [.int (oI p1), .int (oI p2), .int (oI p3)] [.int 0, .ref ao] (ev_X10_note 20000 0 (by decide +kernel) p1 p2 p3 w) vm_X10_note fc8 (by decide +kernel) g1117 dL_note_7 rfl rfl (Nat.le_of_ble_eq_true rfl) ⟨by decide, by decide⟩ ⟨by decide, by decide⟩ hl.1 hL hf (fun v hv H locs hL => ?_) (fun E hE1 H locs q ce hL hc hcv hcl => ?_)
  · cases res with
    | inr E => cases hv
    | inl u =>
      cases hv
      refine lv_i2l hx.1 hx.2.1 dL_note_10 rfl ?_
      refine L_last hx hL dL_note_11 (fun f1 H locs hf1 hL => ?_)
      refine lv_goto (tgt := 19) hx.1 hx.2.1 dL_note_12 (by decide) ?_
      refine lv_iconst (v := 0) hx.1 hx.2.1 dL_note_19 (by decide) ?_
      exact H_ret hx hrt hL rfl (fun v h => by cases h; exact hf1) ⟨by decide, by decide⟩ dL_note_20
  · cases res with
    | inl u => cases hE1
    | inr E0 =>
      cases hE1
      have hm := hE _ rfl
      simp only [List.mem_cons, List.not_mem_nil, or_false] at hm
      rcases hm with rfl
      · refine vx_catch (name := eIO) hx.2.2.2.1 [] ⟨0, 12, 15, 22⟩ [] htb (fun z hz => absurd hz List.not_mem_nil) rfl (by decide) (hx.2.2.2.2.1 _ g1030) (va_Nw.use rfl (hNw.2.2.2 eIO (by decide +kernel))) hc hcv hcl ?_
        refine lv_astore (lv' := [(5, .ref q), (0, .ref (ad 0)), (1, .int (oI p1)), (2, .int (oI p2)), (3, .int (oI p3)), (4, .ref ao)]) hx.1 hx.2.1 dL_note_15 hl (by decide) rfl (fun ls hl => ?_)
        refine lv_iconst (v := 1) hx.1 hx.2.1 dL_note_17 (by decide) ?_
        exact H_ret hx hrt hL (by decide) (fun v h => by cases h) ⟨by decide, by decide⟩ dL_note_18
set_option maxHeartbeats 4000000 in
set_option maxRecDepth 100000 in
theorem hm_waiting (p1 : Int) (p2 : Int) {w w1 : aI} {res : Int ⊕ String} (hf : f_X10_waiting 20000 0 p1 p2 w = some (res, w1)) (hE : ∀ E, res = .inr E → E ∈ [eIO]) : Hc yL_waiting cL_waiting 5 [(0, 10, 13, 22)] [eIO] (fun ad ao => [.ref (ad 0), .int (oI p1), .int (oI p2), .ref ao]) w res w1 := by
  refine Hc.of (by decide +kernel) rfl (fun _ _ => Nat.le_of_ble_eq_true rfl) ?_
  intro p l e s m args below meth c D ad aT adV aL ao f0 A ls hx htb hrt hN hNw hL hl
  have hl : lv_has ls 5 [(0, .ref (ad 0)), (1, .int (oI p1)), (2, .int (oI p2)), (3, .ref ao)] := hl
  refine lv_aload_n hx.1 hx.2.1 dL_waiting_0 rfl (lv_at hl 3 rfl) ?_
  refine lv_iconst (v := 0) hx.1 hx.2.1 dL_waiting_1 (by decide) ?_
  refine lv_aload_n hx.1 hx.2.1 dL_waiting_2 rfl (lv_at hl 0 rfl) ?_
  refine lv_iload_n hx.1 hx.2.1 dL_waiting_3 rfl (lv_at hl 1 rfl) ?_
  refine lv_iload_n hx.1 hx.2.1 dL_waiting_4 rfl (lv_at hl 2 rfl) ?_
  refine L_callV hx (b := 0) [.int (oI p1), .int (oI p2)] [.int 0, .ref ao] (ev_X10_waiting 20000 0 (by decide +kernel) p1 p2 w) vm_X10_waiting fc8 (by decide +kernel) g1125 dL_waiting_5 rfl rfl (Nat.le_of_ble_eq_true rfl) ⟨by decide, by decide⟩ ⟨by decide, by decide⟩ hl.1 hL hf (fun v hv H locs hL => ?_) (fun E hE1 H locs q ce hL hc hcv hcl => ?_)
  · cases res with
    | inr E => cases hv
    | inl u =>
      cases hv
      refine lv_i2l hx.1 hx.2.1 dL_waiting_8 rfl ?_
      refine L_last hx hL dL_waiting_9 (fun f1 H locs hf1 hL => ?_)
      refine lv_goto (tgt := 17) hx.1 hx.2.1 dL_waiting_10 (by decide) ?_
      refine lv_iconst (v := 0) hx.1 hx.2.1 dL_waiting_17 (by decide) ?_
      exact H_ret hx hrt hL rfl (fun v h => by cases h; exact hf1) ⟨by decide, by decide⟩ dL_waiting_18
  · cases res with
    | inl u => cases hE1
    | inr E0 =>
      cases hE1
      have hm := hE _ rfl
      simp only [List.mem_cons, List.not_mem_nil, or_false] at hm
      rcases hm with rfl
      · refine vx_catch (name := eIO) hx.2.2.2.1 [] ⟨0, 10, 13, 22⟩ [] htb (fun z hz => absurd hz List.not_mem_nil) rfl (by decide) (hx.2.2.2.2.1 _ g1030) (va_Nw.use rfl (hNw.2.2.2 eIO (by decide +kernel))) hc hcv hcl ?_
        refine lv_astore (lv' := [(4, .ref q), (0, .ref (ad 0)), (1, .int (oI p1)), (2, .int (oI p2)), (3, .ref ao)]) hx.1 hx.2.1 dL_waiting_13 hl (by decide) rfl (fun ls hl => ?_)
        refine lv_iconst (v := 1) hx.1 hx.2.1 dL_waiting_15 (by decide) ?_
        exact H_ret hx hrt hL (by decide) (fun v h => by cases h) ⟨by decide, by decide⟩ dL_waiting_16
set_option maxHeartbeats 4000000 in
set_option maxRecDepth 100000 in
theorem hm_why (p1 : Int) (p2 : Int) {w w1 : aI} {res : Int ⊕ String} (hf : f_X10_why 20000 0 p1 p2 w = some (res, w1)) (hE : ∀ E, res = .inr E → E ∈ [eIO, eIA]) : Hc yL_why cL_why 5 [(0, 10, 13, 22), (0, 10, 17, 13)] [eIO, eIA] (fun ad ao => [.ref (ad 0), .int (oI p1), .int (oI p2), .ref ao]) w res w1 := by
  refine Hc.of (by decide +kernel) rfl (fun _ _ => Nat.le_of_ble_eq_true rfl) ?_
  intro p l e s m args below meth c D ad aT adV aL ao f0 A ls hx htb hrt hN hNw hL hl
  have hl : lv_has ls 5 [(0, .ref (ad 0)), (1, .int (oI p1)), (2, .int (oI p2)), (3, .ref ao)] := hl
  refine lv_aload_n hx.1 hx.2.1 dL_why_0 rfl (lv_at hl 3 rfl) ?_
  refine lv_iconst (v := 0) hx.1 hx.2.1 dL_why_1 (by decide) ?_
  refine lv_aload_n hx.1 hx.2.1 dL_why_2 rfl (lv_at hl 0 rfl) ?_
  refine lv_iload_n hx.1 hx.2.1 dL_why_3 rfl (lv_at hl 1 rfl) ?_
  refine lv_iload_n hx.1 hx.2.1 dL_why_4 rfl (lv_at hl 2 rfl) ?_
  refine L_callV hx (b := 0) [.int (oI p1), .int (oI p2)] [.int 0, .ref ao] (ev_X10_why 20000 0 (by decide +kernel) p1 p2 w) vm_X10_why fc8 (by decide +kernel) g1136 dL_why_5 rfl rfl (Nat.le_of_ble_eq_true rfl) ⟨by decide, by decide⟩ ⟨by decide, by decide⟩ hl.1 hL hf (fun v hv H locs hL => ?_) (fun E hE1 H locs q ce hL hc hcv hcl => ?_)
  · cases res with
    | inr E => cases hv
    | inl u =>
      cases hv
      refine lv_i2l hx.1 hx.2.1 dL_why_8 rfl ?_
      refine L_last hx hL dL_why_9 (fun f1 H locs hf1 hL => ?_)
      refine lv_goto (tgt := 21) hx.1 hx.2.1 dL_why_10 (by decide) ?_
      refine lv_iconst (v := 0) hx.1 hx.2.1 dL_why_21 (by decide) ?_
      exact H_ret hx hrt hL rfl (fun v h => by cases h; exact hf1) ⟨by decide, by decide⟩ dL_why_22
  · cases res with
    | inl u => cases hE1
    | inr E0 =>
      cases hE1
      have hm := hE _ rfl
      simp only [List.mem_cons, List.not_mem_nil, or_false] at hm
      rcases hm with rfl | rfl
      · refine vx_catch (name := eIO) hx.2.2.2.1 [] ⟨0, 10, 13, 22⟩ [⟨0, 10, 17, 13⟩] htb (fun z hz => absurd hz List.not_mem_nil) rfl (by decide) (hx.2.2.2.2.1 _ g1030) (va_Nw.use rfl (hNw.2.2.2 eIO (by decide +kernel))) hc hcv hcl ?_
        refine lv_astore (lv' := [(4, .ref q), (0, .ref (ad 0)), (1, .int (oI p1)), (2, .int (oI p2)), (3, .ref ao)]) hx.1 hx.2.1 dL_why_13 hl (by decide) rfl (fun ls hl => ?_)
        refine lv_iconst (v := 1) hx.1 hx.2.1 dL_why_15 (by decide) ?_
        exact H_ret hx hrt hL (by decide) (fun v h => by cases h) ⟨by decide, by decide⟩ dL_why_16
      · refine vx_catch (name := eIA) hx.2.2.2.1 [⟨0, 10, 13, 22⟩] ⟨0, 10, 17, 13⟩ [] htb (fun z hz => by
              simp only [List.mem_cons, List.not_mem_nil, or_false] at hz
              rcases hz with rfl
              · exact Or.inr ⟨by decide, _, hx.2.2.2.2.1 _ g1030, hN.1⟩
              ) rfl (by decide) (hx.2.2.2.2.1 _ g927) (va_Nw.use rfl (hNw.2.2.2 eIA (by decide +kernel))) hc hcv hcl ?_
        refine lv_astore (lv' := [(4, .ref q), (0, .ref (ad 0)), (1, .int (oI p1)), (2, .int (oI p2)), (3, .ref ao)]) hx.1 hx.2.1 dL_why_17 hl (by decide) rfl (fun ls hl => ?_)
        refine lv_iconst (v := 2) hx.1 hx.2.1 dL_why_19 (by decide) ?_
        exact H_ret hx hrt hL (by decide) (fun v h => by cases h) ⟨by decide, by decide⟩ dL_why_20
set_option maxHeartbeats 4000000 in
set_option maxRecDepth 100000 in
theorem hm_costOf (p1 : Int) (p2 : Int) (p3 : Int) {w w1 : aI} {res : Int ⊕ String} (hf : f_X10_costOf 20000 0 p1 p2 p3 w = some (res, w1)) (hE : ∀ E, res = .inr E → E ∈ [eIO, eIA]) : Hc yL_costOf cL_costOf 6 [(0, 12, 15, 22), (0, 12, 19, 13)] [eIO, eIA] (fun ad ao => [.ref (ad 0), .int (oI p1), .int (oI p2), .int (oI p3), .ref ao]) w res w1 := by
  refine Hc.of (by decide +kernel) rfl (fun _ _ => Nat.le_of_ble_eq_true rfl) ?_
  intro p l e s m args below meth c D ad aT adV aL ao f0 A ls hx htb hrt hN hNw hL hl
  have hl : lv_has ls 6 [(0, .ref (ad 0)), (1, .int (oI p1)), (2, .int (oI p2)), (3, .int (oI p3)), (4, .ref ao)] := hl
  refine lv_aload hx.1 hx.2.1 dL_costOf_0 (lv_at hl 4 rfl) ?_
  refine lv_iconst (v := 0) hx.1 hx.2.1 dL_costOf_2 (by decide) ?_
  refine lv_aload_n hx.1 hx.2.1 dL_costOf_3 rfl (lv_at hl 0 rfl) ?_
  refine lv_iload_n hx.1 hx.2.1 dL_costOf_4 rfl (lv_at hl 1 rfl) ?_
  refine lv_iload_n hx.1 hx.2.1 dL_costOf_5 rfl (lv_at hl 2 rfl) ?_
  refine lv_iload_n hx.1 hx.2.1 dL_costOf_6 rfl (lv_at hl 3 rfl) ?_
  refine L_callV hx (b := 0) [.int (oI p1), .int (oI p2), .int (oI p3)] [.int 0, .ref ao] (ev_X10_costOf 20000 0 (by decide +kernel) p1 p2 p3 w) vm_X10_costOf fc8 (by decide +kernel) g1151 dL_costOf_7 rfl rfl (Nat.le_of_ble_eq_true rfl) ⟨by decide, by decide⟩ ⟨by decide, by decide⟩ hl.1 hL hf (fun v hv H locs hL => ?_) (fun E hE1 H locs q ce hL hc hcv hcl => ?_)
  · cases res with
    | inr E => cases hv
    | inl u =>
      cases hv
      refine lv_i2l hx.1 hx.2.1 dL_costOf_10 rfl ?_
      refine L_last hx hL dL_costOf_11 (fun f1 H locs hf1 hL => ?_)
      refine lv_goto (tgt := 23) hx.1 hx.2.1 dL_costOf_12 (by decide) ?_
      refine lv_iconst (v := 0) hx.1 hx.2.1 dL_costOf_23 (by decide) ?_
      exact H_ret hx hrt hL rfl (fun v h => by cases h; exact hf1) ⟨by decide, by decide⟩ dL_costOf_24
  · cases res with
    | inl u => cases hE1
    | inr E0 =>
      cases hE1
      have hm := hE _ rfl
      simp only [List.mem_cons, List.not_mem_nil, or_false] at hm
      rcases hm with rfl | rfl
      · refine vx_catch (name := eIO) hx.2.2.2.1 [] ⟨0, 12, 15, 22⟩ [⟨0, 12, 19, 13⟩] htb (fun z hz => absurd hz List.not_mem_nil) rfl (by decide) (hx.2.2.2.2.1 _ g1030) (va_Nw.use rfl (hNw.2.2.2 eIO (by decide +kernel))) hc hcv hcl ?_
        refine lv_astore (lv' := [(5, .ref q), (0, .ref (ad 0)), (1, .int (oI p1)), (2, .int (oI p2)), (3, .int (oI p3)), (4, .ref ao)]) hx.1 hx.2.1 dL_costOf_15 hl (by decide) rfl (fun ls hl => ?_)
        refine lv_iconst (v := 1) hx.1 hx.2.1 dL_costOf_17 (by decide) ?_
        exact H_ret hx hrt hL (by decide) (fun v h => by cases h) ⟨by decide, by decide⟩ dL_costOf_18
      · refine vx_catch (name := eIA) hx.2.2.2.1 [⟨0, 12, 15, 22⟩] ⟨0, 12, 19, 13⟩ [] htb (fun z hz => by
              simp only [List.mem_cons, List.not_mem_nil, or_false] at hz
              rcases hz with rfl
              · exact Or.inr ⟨by decide, _, hx.2.2.2.2.1 _ g1030, hN.1⟩
              ) rfl (by decide) (hx.2.2.2.2.1 _ g927) (va_Nw.use rfl (hNw.2.2.2 eIA (by decide +kernel))) hc hcv hcl ?_
        refine lv_astore (lv' := [(5, .ref q), (0, .ref (ad 0)), (1, .int (oI p1)), (2, .int (oI p2)), (3, .int (oI p3)), (4, .ref ao)]) hx.1 hx.2.1 dL_costOf_19 hl (by decide) rfl (fun ls hl => ?_)
        refine lv_iconst (v := 2) hx.1 hx.2.1 dL_costOf_21 (by decide) ?_
        exact H_ret hx hrt hL (by decide) (fun v h => by cases h) ⟨by decide, by decide⟩ dL_costOf_22
set_option maxHeartbeats 4000000 in
set_option maxRecDepth 100000 in
theorem hm_wrongOn (p1 : Int) (p2 : Int) (p3 : Int) {w w1 : aI} {res : Int ⊕ String} (hf : f_X10_wrongOn 20000 0 p1 p2 p3 w = some (res, w1)) (hE : ∀ E, res = .inr E → E ∈ [eIO, eIA]) : Hc yL_wrongOn cL_wrongOn 6 [(0, 12, 15, 22), (0, 12, 19, 13)] [eIO, eIA] (fun ad ao => [.ref (ad 0), .int (oI p1), .int (oI p2), .int (oI p3), .ref ao]) w res w1 := by
  refine Hc.of (by decide +kernel) rfl (fun _ _ => Nat.le_of_ble_eq_true rfl) ?_
  intro p l e s m args below meth c D ad aT adV aL ao f0 A ls hx htb hrt hN hNw hL hl
  have hl : lv_has ls 6 [(0, .ref (ad 0)), (1, .int (oI p1)), (2, .int (oI p2)), (3, .int (oI p3)), (4, .ref ao)] := hl
  refine lv_aload hx.1 hx.2.1 dL_wrongOn_0 (lv_at hl 4 rfl) ?_
  refine lv_iconst (v := 0) hx.1 hx.2.1 dL_wrongOn_2 (by decide) ?_
  refine lv_aload_n hx.1 hx.2.1 dL_wrongOn_3 rfl (lv_at hl 0 rfl) ?_
  refine lv_iload_n hx.1 hx.2.1 dL_wrongOn_4 rfl (lv_at hl 1 rfl) ?_
  refine lv_iload_n hx.1 hx.2.1 dL_wrongOn_5 rfl (lv_at hl 2 rfl) ?_
  refine lv_iload_n hx.1 hx.2.1 dL_wrongOn_6 rfl (lv_at hl 3 rfl) ?_
  refine L_callV hx (b := 0) [.int (oI p1), .int (oI p2), .int (oI p3)] [.int 0, .ref ao] (ev_X10_wrongOn 20000 0 (by decide +kernel) p1 p2 p3 w) vm_X10_wrongOn fc8 (by decide +kernel) g1162 dL_wrongOn_7 rfl rfl (Nat.le_of_ble_eq_true rfl) ⟨by decide, by decide⟩ ⟨by decide, by decide⟩ hl.1 hL hf (fun v hv H locs hL => ?_) (fun E hE1 H locs q ce hL hc hcv hcl => ?_)
  · cases res with
    | inr E => cases hv
    | inl u =>
      cases hv
      refine lv_i2l hx.1 hx.2.1 dL_wrongOn_10 rfl ?_
      refine L_last hx hL dL_wrongOn_11 (fun f1 H locs hf1 hL => ?_)
      refine lv_goto (tgt := 23) hx.1 hx.2.1 dL_wrongOn_12 (by decide) ?_
      refine lv_iconst (v := 0) hx.1 hx.2.1 dL_wrongOn_23 (by decide) ?_
      exact H_ret hx hrt hL rfl (fun v h => by cases h; exact hf1) ⟨by decide, by decide⟩ dL_wrongOn_24
  · cases res with
    | inl u => cases hE1
    | inr E0 =>
      cases hE1
      have hm := hE _ rfl
      simp only [List.mem_cons, List.not_mem_nil, or_false] at hm
      rcases hm with rfl | rfl
      · refine vx_catch (name := eIO) hx.2.2.2.1 [] ⟨0, 12, 15, 22⟩ [⟨0, 12, 19, 13⟩] htb (fun z hz => absurd hz List.not_mem_nil) rfl (by decide) (hx.2.2.2.2.1 _ g1030) (va_Nw.use rfl (hNw.2.2.2 eIO (by decide +kernel))) hc hcv hcl ?_
        refine lv_astore (lv' := [(5, .ref q), (0, .ref (ad 0)), (1, .int (oI p1)), (2, .int (oI p2)), (3, .int (oI p3)), (4, .ref ao)]) hx.1 hx.2.1 dL_wrongOn_15 hl (by decide) rfl (fun ls hl => ?_)
        refine lv_iconst (v := 1) hx.1 hx.2.1 dL_wrongOn_17 (by decide) ?_
        exact H_ret hx hrt hL (by decide) (fun v h => by cases h) ⟨by decide, by decide⟩ dL_wrongOn_18
      · refine vx_catch (name := eIA) hx.2.2.2.1 [⟨0, 12, 15, 22⟩] ⟨0, 12, 19, 13⟩ [] htb (fun z hz => by
              simp only [List.mem_cons, List.not_mem_nil, or_false] at hz
              rcases hz with rfl
              · exact Or.inr ⟨by decide, _, hx.2.2.2.2.1 _ g1030, hN.1⟩
              ) rfl (by decide) (hx.2.2.2.2.1 _ g927) (va_Nw.use rfl (hNw.2.2.2 eIA (by decide +kernel))) hc hcv hcl ?_
        refine lv_astore (lv' := [(5, .ref q), (0, .ref (ad 0)), (1, .int (oI p1)), (2, .int (oI p2)), (3, .int (oI p3)), (4, .ref ao)]) hx.1 hx.2.1 dL_wrongOn_19 hl (by decide) rfl (fun ls hl => ?_)
        refine lv_iconst (v := 2) hx.1 hx.2.1 dL_wrongOn_21 (by decide) ?_
        exact H_ret hx hrt hL (by decide) (fun v h => by cases h) ⟨by decide, by decide⟩ dL_wrongOn_22
set_option maxHeartbeats 4000000 in
set_option maxRecDepth 100000 in
theorem hm_calmest (p1 : Int) (p2 : Int) {w w1 : aI} {res : Int ⊕ String} (hf : f_X10_calmest 20000 0 p1 p2 w = some (res, w1)) (hE : ∀ E, res = .inr E → E ∈ [eIO]) : Hc yL_calmest cL_calmest 5 [(0, 10, 13, 22)] [eIO] (fun ad ao => [.ref (ad 0), .int (oI p1), .int (oI p2), .ref ao]) w res w1 := by
  refine Hc.of (by decide +kernel) rfl (fun _ _ => Nat.le_of_ble_eq_true rfl) ?_
  intro p l e s m args below meth c D ad aT adV aL ao f0 A ls hx htb hrt hN hNw hL hl
  have hl : lv_has ls 5 [(0, .ref (ad 0)), (1, .int (oI p1)), (2, .int (oI p2)), (3, .ref ao)] := hl
  refine lv_aload_n hx.1 hx.2.1 dL_calmest_0 rfl (lv_at hl 3 rfl) ?_
  refine lv_iconst (v := 0) hx.1 hx.2.1 dL_calmest_1 (by decide) ?_
  refine lv_aload_n hx.1 hx.2.1 dL_calmest_2 rfl (lv_at hl 0 rfl) ?_
  refine lv_iload_n hx.1 hx.2.1 dL_calmest_3 rfl (lv_at hl 1 rfl) ?_
  refine lv_iload_n hx.1 hx.2.1 dL_calmest_4 rfl (lv_at hl 2 rfl) ?_
  refine L_callV hx (b := 0) [.int (oI p1), .int (oI p2)] [.int 0, .ref ao] (ev_X10_calmest 20000 0 (by decide +kernel) p1 p2 w) vm_X10_calmest fc8 (by decide +kernel) g1174 dL_calmest_5 rfl rfl (Nat.le_of_ble_eq_true rfl) ⟨by decide, by decide⟩ ⟨by decide, by decide⟩ hl.1 hL hf (fun v hv H locs hL => ?_) (fun E hE1 H locs q ce hL hc hcv hcl => ?_)
  · cases res with
    | inr E => cases hv
    | inl u =>
      cases hv
      refine lv_i2l hx.1 hx.2.1 dL_calmest_8 rfl ?_
      refine L_last hx hL dL_calmest_9 (fun f1 H locs hf1 hL => ?_)
      refine lv_goto (tgt := 17) hx.1 hx.2.1 dL_calmest_10 (by decide) ?_
      refine lv_iconst (v := 0) hx.1 hx.2.1 dL_calmest_17 (by decide) ?_
      exact H_ret hx hrt hL rfl (fun v h => by cases h; exact hf1) ⟨by decide, by decide⟩ dL_calmest_18
  · cases res with
    | inl u => cases hE1
    | inr E0 =>
      cases hE1
      have hm := hE _ rfl
      simp only [List.mem_cons, List.not_mem_nil, or_false] at hm
      rcases hm with rfl
      · refine vx_catch (name := eIO) hx.2.2.2.1 [] ⟨0, 10, 13, 22⟩ [] htb (fun z hz => absurd hz List.not_mem_nil) rfl (by decide) (hx.2.2.2.2.1 _ g1030) (va_Nw.use rfl (hNw.2.2.2 eIO (by decide +kernel))) hc hcv hcl ?_
        refine lv_astore (lv' := [(4, .ref q), (0, .ref (ad 0)), (1, .int (oI p1)), (2, .int (oI p2)), (3, .ref ao)]) hx.1 hx.2.1 dL_calmest_13 hl (by decide) rfl (fun ls hl => ?_)
        refine lv_iconst (v := 1) hx.1 hx.2.1 dL_calmest_15 (by decide) ?_
        exact H_ret hx hrt hL (by decide) (fun v h => by cases h) ⟨by decide, by decide⟩ dL_calmest_16
set_option maxHeartbeats 4000000 in
set_option maxRecDepth 100000 in
theorem hm_arrivesIn (p1 : Int) {w w1 : aI} {res : Int ⊕ String} (hf : f_X10_arrivesIn 20000 0 p1 w = some (res, w1)) (hE : ∀ E, res = .inr E → E ∈ [eIO]) : Hc yL_arrivesIn cL_arrivesIn 4 [(0, 9, 12, 22)] [eIO] (fun ad ao => [.ref (ad 0), .int (oI p1), .ref ao]) w res w1 := by
  refine Hc.of (by decide +kernel) rfl (fun _ _ => Nat.le_of_ble_eq_true rfl) ?_
  intro p l e s m args below meth c D ad aT adV aL ao f0 A ls hx htb hrt hN hNw hL hl
  have hl : lv_has ls 4 [(0, .ref (ad 0)), (1, .int (oI p1)), (2, .ref ao)] := hl
  refine lv_aload_n hx.1 hx.2.1 dL_arrivesIn_0 rfl (lv_at hl 2 rfl) ?_
  refine lv_iconst (v := 0) hx.1 hx.2.1 dL_arrivesIn_1 (by decide) ?_
  refine lv_aload_n hx.1 hx.2.1 dL_arrivesIn_2 rfl (lv_at hl 0 rfl) ?_
  refine lv_iload_n hx.1 hx.2.1 dL_arrivesIn_3 rfl (lv_at hl 1 rfl) ?_
  refine L_callV hx (b := 0) [.int (oI p1)] [.int 0, .ref ao] (ev_X10_arrivesIn 20000 0 (by decide +kernel) p1 w) vm_X10_arrivesIn fc8 (by decide +kernel) g1181 dL_arrivesIn_4 rfl rfl (Nat.le_of_ble_eq_true rfl) ⟨by decide, by decide⟩ ⟨by decide, by decide⟩ hl.1 hL hf (fun v hv H locs hL => ?_) (fun E hE1 H locs q ce hL hc hcv hcl => ?_)
  · cases res with
    | inr E => cases hv
    | inl u =>
      cases hv
      refine lv_i2l hx.1 hx.2.1 dL_arrivesIn_7 rfl ?_
      refine L_last hx hL dL_arrivesIn_8 (fun f1 H locs hf1 hL => ?_)
      refine lv_goto (tgt := 15) hx.1 hx.2.1 dL_arrivesIn_9 (by decide) ?_
      refine lv_iconst (v := 0) hx.1 hx.2.1 dL_arrivesIn_15 (by decide) ?_
      exact H_ret hx hrt hL rfl (fun v h => by cases h; exact hf1) ⟨by decide, by decide⟩ dL_arrivesIn_16
  · cases res with
    | inl u => cases hE1
    | inr E0 =>
      cases hE1
      have hm := hE _ rfl
      simp only [List.mem_cons, List.not_mem_nil, or_false] at hm
      rcases hm with rfl
      · refine vx_catch (name := eIO) hx.2.2.2.1 [] ⟨0, 9, 12, 22⟩ [] htb (fun z hz => absurd hz List.not_mem_nil) rfl (by decide) (hx.2.2.2.2.1 _ g1030) (va_Nw.use rfl (hNw.2.2.2 eIO (by decide +kernel))) hc hcv hcl ?_
        refine lv_astore_n (lv' := [(3, .ref q), (0, .ref (ad 0)), (1, .int (oI p1)), (2, .ref ao)]) hx.1 hx.2.1 dL_arrivesIn_12 rfl hl (by decide) rfl (fun ls hl => ?_)
        refine lv_iconst (v := 1) hx.1 hx.2.1 dL_arrivesIn_13 (by decide) ?_
        exact H_ret hx hrt hL (by decide) (fun v h => by cases h) ⟨by decide, by decide⟩ dL_arrivesIn_14
set_option maxHeartbeats 4000000 in
set_option maxRecDepth 100000 in
theorem hm_growsBy (p1 : Int) (p2 : Int) {w w1 : aI} {res : Int ⊕ String} (hf : f_X10_growsBy 20000 0 p1 p2 w = some (res, w1)) (hE : ∀ E, res = .inr E → E ∈ [eIA]) : Hc yL_growsBy cL_growsBy 5 [(0, 10, 13, 13)] [eIA] (fun ad ao => [.ref (ad 0), .int (oI p1), .int (oI p2), .ref ao]) w res w1 := by
  refine Hc.of (by decide +kernel) rfl (fun _ _ => Nat.le_of_ble_eq_true rfl) ?_
  intro p l e s m args below meth c D ad aT adV aL ao f0 A ls hx htb hrt hN hNw hL hl
  have hl : lv_has ls 5 [(0, .ref (ad 0)), (1, .int (oI p1)), (2, .int (oI p2)), (3, .ref ao)] := hl
  refine lv_aload_n hx.1 hx.2.1 dL_growsBy_0 rfl (lv_at hl 3 rfl) ?_
  refine lv_iconst (v := 0) hx.1 hx.2.1 dL_growsBy_1 (by decide) ?_
  refine lv_aload_n hx.1 hx.2.1 dL_growsBy_2 rfl (lv_at hl 0 rfl) ?_
  refine lv_iload_n hx.1 hx.2.1 dL_growsBy_3 rfl (lv_at hl 1 rfl) ?_
  refine lv_iload_n hx.1 hx.2.1 dL_growsBy_4 rfl (lv_at hl 2 rfl) ?_
  refine L_callV hx (b := 0) [.int (oI p1), .int (oI p2)] [.int 0, .ref ao] (ev_X10_growsBy 20000 0 (by decide +kernel) p1 p2 w) vm_X10_growsBy fc8 (by decide +kernel) g1188 dL_growsBy_5 rfl rfl (Nat.le_of_ble_eq_true rfl) ⟨by decide, by decide⟩ ⟨by decide, by decide⟩ hl.1 hL hf (fun v hv H locs hL => ?_) (fun E hE1 H locs q ce hL hc hcv hcl => ?_)
  · cases res with
    | inr E => cases hv
    | inl u =>
      cases hv
      refine lv_i2l hx.1 hx.2.1 dL_growsBy_8 rfl ?_
      refine L_last hx hL dL_growsBy_9 (fun f1 H locs hf1 hL => ?_)
      refine lv_goto (tgt := 17) hx.1 hx.2.1 dL_growsBy_10 (by decide) ?_
      refine lv_iconst (v := 0) hx.1 hx.2.1 dL_growsBy_17 (by decide) ?_
      exact H_ret hx hrt hL rfl (fun v h => by cases h; exact hf1) ⟨by decide, by decide⟩ dL_growsBy_18
  · cases res with
    | inl u => cases hE1
    | inr E0 =>
      cases hE1
      have hm := hE _ rfl
      simp only [List.mem_cons, List.not_mem_nil, or_false] at hm
      rcases hm with rfl
      · refine vx_catch (name := eIA) hx.2.2.2.1 [] ⟨0, 10, 13, 13⟩ [] htb (fun z hz => absurd hz List.not_mem_nil) rfl (by decide) (hx.2.2.2.2.1 _ g927) (va_Nw.use rfl (hNw.2.2.2 eIA (by decide +kernel))) hc hcv hcl ?_
        refine lv_astore (lv' := [(4, .ref q), (0, .ref (ad 0)), (1, .int (oI p1)), (2, .int (oI p2)), (3, .ref ao)]) hx.1 hx.2.1 dL_growsBy_13 hl (by decide) rfl (fun ls hl => ?_)
        refine lv_iconst (v := 1) hx.1 hx.2.1 dL_growsBy_15 (by decide) ?_
        exact H_ret hx hrt hL (by decide) (fun v h => by cases h) ⟨by decide, by decide⟩ dL_growsBy_16
set_option maxHeartbeats 4000000 in
set_option maxRecDepth 100000 in
theorem hm_send (p1 : Int) (p2 : Int) (p3 : Int) (p4 : Int) {w w1 : aI} {res : Int ⊕ String} (hf : f_X10_send 20000 0 p1 p2 p3 p4 w = some (res, w1)) (hE : ∀ E, res = .inr E → E ∈ [eIO, eIA, eIS]) : Hc yL_send cL_send 7 [(0, 14, 17, 22), (0, 14, 21, 13), (0, 14, 25, 69)] [eIO, eIA, eIS] (fun ad ao => [.ref (ad 0), .int (oI p1), .int (oI p2), .int (oI p3), .int (oI p4), .ref ao]) w res w1 := by
  refine Hc.of (by decide +kernel) rfl (fun _ _ => Nat.le_of_ble_eq_true rfl) ?_
  intro p l e s m args below meth c D ad aT adV aL ao f0 A ls hx htb hrt hN hNw hL hl
  have hl : lv_has ls 7 [(0, .ref (ad 0)), (1, .int (oI p1)), (2, .int (oI p2)), (3, .int (oI p3)), (4, .int (oI p4)), (5, .ref ao)] := hl
  refine lv_aload hx.1 hx.2.1 dL_send_0 (lv_at hl 5 rfl) ?_
  refine lv_iconst (v := 0) hx.1 hx.2.1 dL_send_2 (by decide) ?_
  refine lv_aload_n hx.1 hx.2.1 dL_send_3 rfl (lv_at hl 0 rfl) ?_
  refine lv_iload_n hx.1 hx.2.1 dL_send_4 rfl (lv_at hl 1 rfl) ?_
  refine lv_iload_n hx.1 hx.2.1 dL_send_5 rfl (lv_at hl 2 rfl) ?_
  refine lv_iload_n hx.1 hx.2.1 dL_send_6 rfl (lv_at hl 3 rfl) ?_
  refine lv_iload hx.1 hx.2.1 dL_send_7 (lv_at hl 4 rfl) ?_
  refine L_callV hx (b := 0) [.int (oI p1), .int (oI p2), .int (oI p3), .int (oI p4)] [.int 0, .ref ao] (ev_X10_send 20000 0 (by decide +kernel) p1 p2 p3 p4 w) vm_X10_send fc8 (by decide +kernel) g1196 dL_send_9 rfl rfl (Nat.le_of_ble_eq_true rfl) ⟨by decide, by decide⟩ ⟨by decide, by decide⟩ hl.1 hL hf (fun v hv H locs hL => ?_) (fun E hE1 H locs q ce hL hc hcv hcl => ?_)
  · cases res with
    | inr E => cases hv
    | inl u =>
      cases hv
      refine lv_i2l hx.1 hx.2.1 dL_send_12 rfl ?_
      refine L_last hx hL dL_send_13 (fun f1 H locs hf1 hL => ?_)
      refine lv_goto (tgt := 29) hx.1 hx.2.1 dL_send_14 (by decide) ?_
      refine lv_iconst (v := 0) hx.1 hx.2.1 dL_send_29 (by decide) ?_
      exact H_ret hx hrt hL rfl (fun v h => by cases h; exact hf1) ⟨by decide, by decide⟩ dL_send_30
  · cases res with
    | inl u => cases hE1
    | inr E0 =>
      cases hE1
      have hm := hE _ rfl
      simp only [List.mem_cons, List.not_mem_nil, or_false] at hm
      rcases hm with rfl | rfl | rfl
      · refine vx_catch (name := eIO) hx.2.2.2.1 [] ⟨0, 14, 17, 22⟩ [⟨0, 14, 21, 13⟩, ⟨0, 14, 25, 69⟩] htb (fun z hz => absurd hz List.not_mem_nil) rfl (by decide) (hx.2.2.2.2.1 _ g1030) (va_Nw.use rfl (hNw.2.2.2 eIO (by decide +kernel))) hc hcv hcl ?_
        refine lv_astore (lv' := [(6, .ref q), (0, .ref (ad 0)), (1, .int (oI p1)), (2, .int (oI p2)), (3, .int (oI p3)), (4, .int (oI p4)), (5, .ref ao)]) hx.1 hx.2.1 dL_send_17 hl (by decide) rfl (fun ls hl => ?_)
        refine lv_iconst (v := 1) hx.1 hx.2.1 dL_send_19 (by decide) ?_
        exact H_ret hx hrt hL (by decide) (fun v h => by cases h) ⟨by decide, by decide⟩ dL_send_20
      · refine vx_catch (name := eIA) hx.2.2.2.1 [⟨0, 14, 17, 22⟩] ⟨0, 14, 21, 13⟩ [⟨0, 14, 25, 69⟩] htb (fun z hz => by
              simp only [List.mem_cons, List.not_mem_nil, or_false] at hz
              rcases hz with rfl
              · exact Or.inr ⟨by decide, _, hx.2.2.2.2.1 _ g1030, hN.1⟩
              ) rfl (by decide) (hx.2.2.2.2.1 _ g927) (va_Nw.use rfl (hNw.2.2.2 eIA (by decide +kernel))) hc hcv hcl ?_
        refine lv_astore (lv' := [(6, .ref q), (0, .ref (ad 0)), (1, .int (oI p1)), (2, .int (oI p2)), (3, .int (oI p3)), (4, .int (oI p4)), (5, .ref ao)]) hx.1 hx.2.1 dL_send_21 hl (by decide) rfl (fun ls hl => ?_)
        refine lv_iconst (v := 2) hx.1 hx.2.1 dL_send_23 (by decide) ?_
        exact H_ret hx hrt hL (by decide) (fun v h => by cases h) ⟨by decide, by decide⟩ dL_send_24
      · refine vx_catch (name := eIS) hx.2.2.2.1 [⟨0, 14, 17, 22⟩, ⟨0, 14, 21, 13⟩] ⟨0, 14, 25, 69⟩ [] htb (fun z hz => by
              simp only [List.mem_cons, List.not_mem_nil, or_false] at hz
              rcases hz with rfl | rfl
              · exact Or.inr ⟨by decide, _, hx.2.2.2.2.1 _ g1030, hN.2.1⟩
              · exact Or.inr ⟨by decide, _, hx.2.2.2.2.1 _ g927, hN.2.2⟩
              ) rfl (by decide) (hx.2.2.2.2.1 _ g1195) (va_Nw.use rfl (hNw.2.2.2 eIS (by decide +kernel))) hc hcv hcl ?_
        refine lv_astore (lv' := [(6, .ref q), (0, .ref (ad 0)), (1, .int (oI p1)), (2, .int (oI p2)), (3, .int (oI p3)), (4, .int (oI p4)), (5, .ref ao)]) hx.1 hx.2.1 dL_send_25 hl (by decide) rfl (fun ls hl => ?_)
        refine lv_iconst (v := 3) hx.1 hx.2.1 dL_send_27 (by decide) ?_
        exact H_ret hx hrt hL (by decide) (fun v h => by cases h) ⟨by decide, by decide⟩ dL_send_28
set_option maxHeartbeats 4000000 in
set_option maxRecDepth 100000 in
theorem hm_tick (p1 : Int) {w w1 : aI} {res : Int ⊕ String} (hf : f_X10_tick 20000 0 p1 w = some (res, w1)) (hE : ∀ E, res = .inr E → E ∈ [eIA, eIS]) : Hc yL_tick cL_tick 4 [(0, 9, 12, 13), (0, 9, 15, 69)] [eIA, eIS] (fun ad ao => [.ref (ad 0), .int (oI p1), .ref ao]) w res w1 := by
  refine Hc.of (by decide +kernel) rfl (fun _ _ => Nat.le_of_ble_eq_true rfl) ?_
  intro p l e s m args below meth c D ad aT adV aL ao f0 A ls hx htb hrt hN hNw hL hl
  have hl : lv_has ls 4 [(0, .ref (ad 0)), (1, .int (oI p1)), (2, .ref ao)] := hl
  refine lv_aload_n hx.1 hx.2.1 dL_tick_0 rfl (lv_at hl 2 rfl) ?_
  refine lv_iconst (v := 0) hx.1 hx.2.1 dL_tick_1 (by decide) ?_
  refine lv_aload_n hx.1 hx.2.1 dL_tick_2 rfl (lv_at hl 0 rfl) ?_
  refine lv_iload_n hx.1 hx.2.1 dL_tick_3 rfl (lv_at hl 1 rfl) ?_
  refine L_callV hx (b := 0) [.int (oI p1)] [.int 0, .ref ao] (ev_X10_tick 20000 0 (by decide +kernel) p1 w) vm_X10_tick fc8 (by decide +kernel) g1231 dL_tick_4 rfl rfl (Nat.le_of_ble_eq_true rfl) ⟨by decide, by decide⟩ ⟨by decide, by decide⟩ hl.1 hL hf (fun v hv H locs hL => ?_) (fun E hE1 H locs q ce hL hc hcv hcl => ?_)
  · cases res with
    | inr E => cases hv
    | inl u =>
      cases hv
      refine lv_i2l hx.1 hx.2.1 dL_tick_7 rfl ?_
      refine L_last hx hL dL_tick_8 (fun f1 H locs hf1 hL => ?_)
      refine lv_goto (tgt := 18) hx.1 hx.2.1 dL_tick_9 (by decide) ?_
      refine lv_iconst (v := 0) hx.1 hx.2.1 dL_tick_18 (by decide) ?_
      exact H_ret hx hrt hL rfl (fun v h => by cases h; exact hf1) ⟨by decide, by decide⟩ dL_tick_19
  · cases res with
    | inl u => cases hE1
    | inr E0 =>
      cases hE1
      have hm := hE _ rfl
      simp only [List.mem_cons, List.not_mem_nil, or_false] at hm
      rcases hm with rfl | rfl
      · refine vx_catch (name := eIA) hx.2.2.2.1 [] ⟨0, 9, 12, 13⟩ [⟨0, 9, 15, 69⟩] htb (fun z hz => absurd hz List.not_mem_nil) rfl (by decide) (hx.2.2.2.2.1 _ g927) (va_Nw.use rfl (hNw.2.2.2 eIA (by decide +kernel))) hc hcv hcl ?_
        refine lv_astore_n (lv' := [(3, .ref q), (0, .ref (ad 0)), (1, .int (oI p1)), (2, .ref ao)]) hx.1 hx.2.1 dL_tick_12 rfl hl (by decide) rfl (fun ls hl => ?_)
        refine lv_iconst (v := 1) hx.1 hx.2.1 dL_tick_13 (by decide) ?_
        exact H_ret hx hrt hL (by decide) (fun v h => by cases h) ⟨by decide, by decide⟩ dL_tick_14
      · refine vx_catch (name := eIS) hx.2.2.2.1 [⟨0, 9, 12, 13⟩] ⟨0, 9, 15, 69⟩ [] htb (fun z hz => by
              simp only [List.mem_cons, List.not_mem_nil, or_false] at hz
              rcases hz with rfl
              · exact Or.inr ⟨by decide, _, hx.2.2.2.2.1 _ g927, hN.2.2⟩
              ) rfl (by decide) (hx.2.2.2.2.1 _ g1195) (va_Nw.use rfl (hNw.2.2.2 eIS (by decide +kernel))) hc hcv hcl ?_
        refine lv_astore_n (lv' := [(3, .ref q), (0, .ref (ad 0)), (1, .int (oI p1)), (2, .ref ao)]) hx.1 hx.2.1 dL_tick_15 rfl hl (by decide) rfl (fun ls hl => ?_)
        refine lv_iconst (v := 2) hx.1 hx.2.1 dL_tick_16 (by decide) ?_
        exact H_ret hx hrt hL (by decide) (fun v h => by cases h) ⟨by decide, by decide⟩ dL_tick_17
set_option maxHeartbeats 4000000 in
set_option maxRecDepth 100000 in
theorem hm_give (p1 : Int) (p2 : Int) {w w1 : aI} {res : Int ⊕ String} (hf : f_X10_give 20000 0 p1 p2 w = some (res, w1)) (hE : ∀ E, res = .inr E → E ∈ [eIO, eIA, eIS]) : Hc yL_give cL_give 5 [(0, 10, 13, 22), (0, 10, 17, 13), (0, 10, 21, 69)] [eIO, eIA, eIS] (fun ad ao => [.ref (ad 0), .int (oI p1), .int (oI p2), .ref ao]) w res w1 := by
  refine Hc.of (by decide +kernel) rfl (fun _ _ => Nat.le_of_ble_eq_true rfl) ?_
  intro p l e s m args below meth c D ad aT adV aL ao f0 A ls hx htb hrt hN hNw hL hl
  have hl : lv_has ls 5 [(0, .ref (ad 0)), (1, .int (oI p1)), (2, .int (oI p2)), (3, .ref ao)] := hl
  refine lv_aload_n hx.1 hx.2.1 dL_give_0 rfl (lv_at hl 3 rfl) ?_
  refine lv_iconst (v := 0) hx.1 hx.2.1 dL_give_1 (by decide) ?_
  refine lv_aload_n hx.1 hx.2.1 dL_give_2 rfl (lv_at hl 0 rfl) ?_
  refine lv_iload_n hx.1 hx.2.1 dL_give_3 rfl (lv_at hl 1 rfl) ?_
  refine lv_iload_n hx.1 hx.2.1 dL_give_4 rfl (lv_at hl 2 rfl) ?_
  refine L_callV hx (b := 0) [.int (oI p1), .int (oI p2)] [.int 0, .ref ao] (ev_X10_give 20000 0 (by decide +kernel) p1 p2 w) vm_X10_give fc8 (by decide +kernel) g1239 dL_give_5 rfl rfl (Nat.le_of_ble_eq_true rfl) ⟨by decide, by decide⟩ ⟨by decide, by decide⟩ hl.1 hL hf (fun v hv H locs hL => ?_) (fun E hE1 H locs q ce hL hc hcv hcl => ?_)
  · cases res with
    | inr E => cases hv
    | inl u =>
      cases hv
      refine lv_i2l hx.1 hx.2.1 dL_give_8 rfl ?_
      refine L_last hx hL dL_give_9 (fun f1 H locs hf1 hL => ?_)
      refine lv_goto (tgt := 25) hx.1 hx.2.1 dL_give_10 (by decide) ?_
      refine lv_iconst (v := 0) hx.1 hx.2.1 dL_give_25 (by decide) ?_
      exact H_ret hx hrt hL rfl (fun v h => by cases h; exact hf1) ⟨by decide, by decide⟩ dL_give_26
  · cases res with
    | inl u => cases hE1
    | inr E0 =>
      cases hE1
      have hm := hE _ rfl
      simp only [List.mem_cons, List.not_mem_nil, or_false] at hm
      rcases hm with rfl | rfl | rfl
      · refine vx_catch (name := eIO) hx.2.2.2.1 [] ⟨0, 10, 13, 22⟩ [⟨0, 10, 17, 13⟩, ⟨0, 10, 21, 69⟩] htb (fun z hz => absurd hz List.not_mem_nil) rfl (by decide) (hx.2.2.2.2.1 _ g1030) (va_Nw.use rfl (hNw.2.2.2 eIO (by decide +kernel))) hc hcv hcl ?_
        refine lv_astore (lv' := [(4, .ref q), (0, .ref (ad 0)), (1, .int (oI p1)), (2, .int (oI p2)), (3, .ref ao)]) hx.1 hx.2.1 dL_give_13 hl (by decide) rfl (fun ls hl => ?_)
        refine lv_iconst (v := 1) hx.1 hx.2.1 dL_give_15 (by decide) ?_
        exact H_ret hx hrt hL (by decide) (fun v h => by cases h) ⟨by decide, by decide⟩ dL_give_16
      · refine vx_catch (name := eIA) hx.2.2.2.1 [⟨0, 10, 13, 22⟩] ⟨0, 10, 17, 13⟩ [⟨0, 10, 21, 69⟩] htb (fun z hz => by
              simp only [List.mem_cons, List.not_mem_nil, or_false] at hz
              rcases hz with rfl
              · exact Or.inr ⟨by decide, _, hx.2.2.2.2.1 _ g1030, hN.1⟩
              ) rfl (by decide) (hx.2.2.2.2.1 _ g927) (va_Nw.use rfl (hNw.2.2.2 eIA (by decide +kernel))) hc hcv hcl ?_
        refine lv_astore (lv' := [(4, .ref q), (0, .ref (ad 0)), (1, .int (oI p1)), (2, .int (oI p2)), (3, .ref ao)]) hx.1 hx.2.1 dL_give_17 hl (by decide) rfl (fun ls hl => ?_)
        refine lv_iconst (v := 2) hx.1 hx.2.1 dL_give_19 (by decide) ?_
        exact H_ret hx hrt hL (by decide) (fun v h => by cases h) ⟨by decide, by decide⟩ dL_give_20
      · refine vx_catch (name := eIS) hx.2.2.2.1 [⟨0, 10, 13, 22⟩, ⟨0, 10, 17, 13⟩] ⟨0, 10, 21, 69⟩ [] htb (fun z hz => by
              simp only [List.mem_cons, List.not_mem_nil, or_false] at hz
              rcases hz with rfl | rfl
              · exact Or.inr ⟨by decide, _, hx.2.2.2.2.1 _ g1030, hN.2.1⟩
              · exact Or.inr ⟨by decide, _, hx.2.2.2.2.1 _ g927, hN.2.2⟩
              ) rfl (by decide) (hx.2.2.2.2.1 _ g1195) (va_Nw.use rfl (hNw.2.2.2 eIS (by decide +kernel))) hc hcv hcl ?_
        refine lv_astore (lv' := [(4, .ref q), (0, .ref (ad 0)), (1, .int (oI p1)), (2, .int (oI p2)), (3, .ref ao)]) hx.1 hx.2.1 dL_give_21 hl (by decide) rfl (fun ls hl => ?_)
        refine lv_iconst (v := 3) hx.1 hx.2.1 dL_give_23 (by decide) ?_
        exact H_ret hx hrt hL (by decide) (fun v h => by cases h) ⟨by decide, by decide⟩ dL_give_24
set_option maxHeartbeats 4000000 in
set_option maxRecDepth 100000 in
theorem hm_cut (p1 : Int) (p2 : Int) {w w1 : aI} {res : Int ⊕ String} (hf : f_X10_cut 20000 0 p1 p2 w = some (res, w1)) (hE : ∀ E, res = .inr E → E ∈ [eIO, eIS]) : Hc yL_cut cL_cut 5 [(0, 10, 13, 22), (0, 10, 17, 69)] [eIO, eIS] (fun ad ao => [.ref (ad 0), .int (oI p1), .int (oI p2), .ref ao]) w res w1 := by
  refine Hc.of (by decide +kernel) rfl (fun _ _ => Nat.le_of_ble_eq_true rfl) ?_
  intro p l e s m args below meth c D ad aT adV aL ao f0 A ls hx htb hrt hN hNw hL hl
  have hl : lv_has ls 5 [(0, .ref (ad 0)), (1, .int (oI p1)), (2, .int (oI p2)), (3, .ref ao)] := hl
  refine lv_aload_n hx.1 hx.2.1 dL_cut_0 rfl (lv_at hl 3 rfl) ?_
  refine lv_iconst (v := 0) hx.1 hx.2.1 dL_cut_1 (by decide) ?_
  refine lv_aload_n hx.1 hx.2.1 dL_cut_2 rfl (lv_at hl 0 rfl) ?_
  refine lv_iload_n hx.1 hx.2.1 dL_cut_3 rfl (lv_at hl 1 rfl) ?_
  refine lv_iload_n hx.1 hx.2.1 dL_cut_4 rfl (lv_at hl 2 rfl) ?_
  refine L_callV hx (b := 0) [.int (oI p1), .int (oI p2)] [.int 0, .ref ao] (ev_X10_cut 20000 0 (by decide +kernel) p1 p2 w) vm_X10_cut fc8 (by decide +kernel) g1247 dL_cut_5 rfl rfl (Nat.le_of_ble_eq_true rfl) ⟨by decide, by decide⟩ ⟨by decide, by decide⟩ hl.1 hL hf (fun v hv H locs hL => ?_) (fun E hE1 H locs q ce hL hc hcv hcl => ?_)
  · cases res with
    | inr E => cases hv
    | inl u =>
      cases hv
      refine lv_i2l hx.1 hx.2.1 dL_cut_8 rfl ?_
      refine L_last hx hL dL_cut_9 (fun f1 H locs hf1 hL => ?_)
      refine lv_goto (tgt := 21) hx.1 hx.2.1 dL_cut_10 (by decide) ?_
      refine lv_iconst (v := 0) hx.1 hx.2.1 dL_cut_21 (by decide) ?_
      exact H_ret hx hrt hL rfl (fun v h => by cases h; exact hf1) ⟨by decide, by decide⟩ dL_cut_22
  · cases res with
    | inl u => cases hE1
    | inr E0 =>
      cases hE1
      have hm := hE _ rfl
      simp only [List.mem_cons, List.not_mem_nil, or_false] at hm
      rcases hm with rfl | rfl
      · refine vx_catch (name := eIO) hx.2.2.2.1 [] ⟨0, 10, 13, 22⟩ [⟨0, 10, 17, 69⟩] htb (fun z hz => absurd hz List.not_mem_nil) rfl (by decide) (hx.2.2.2.2.1 _ g1030) (va_Nw.use rfl (hNw.2.2.2 eIO (by decide +kernel))) hc hcv hcl ?_
        refine lv_astore (lv' := [(4, .ref q), (0, .ref (ad 0)), (1, .int (oI p1)), (2, .int (oI p2)), (3, .ref ao)]) hx.1 hx.2.1 dL_cut_13 hl (by decide) rfl (fun ls hl => ?_)
        refine lv_iconst (v := 1) hx.1 hx.2.1 dL_cut_15 (by decide) ?_
        exact H_ret hx hrt hL (by decide) (fun v h => by cases h) ⟨by decide, by decide⟩ dL_cut_16
      · refine vx_catch (name := eIS) hx.2.2.2.1 [⟨0, 10, 13, 22⟩] ⟨0, 10, 17, 69⟩ [] htb (fun z hz => by
              simp only [List.mem_cons, List.not_mem_nil, or_false] at hz
              rcases hz with rfl
              · exact Or.inr ⟨by decide, _, hx.2.2.2.2.1 _ g1030, hN.2.1⟩
              ) rfl (by decide) (hx.2.2.2.2.1 _ g1195) (va_Nw.use rfl (hNw.2.2.2 eIS (by decide +kernel))) hc hcv hcl ?_
        refine lv_astore (lv' := [(4, .ref q), (0, .ref (ad 0)), (1, .int (oI p1)), (2, .int (oI p2)), (3, .ref ao)]) hx.1 hx.2.1 dL_cut_17 hl (by decide) rfl (fun ls hl => ?_)
        refine lv_iconst (v := 2) hx.1 hx.2.1 dL_cut_19 (by decide) ?_
        exact H_ret hx hrt hL (by decide) (fun v h => by cases h) ⟨by decide, by decide⟩ dL_cut_20
set_option maxHeartbeats 4000000 in
set_option maxRecDepth 100000 in
theorem hm_set (p1 : Int) (p2 : Int) {w w1 : aI} {res : Int ⊕ String} (hf : f_X10_set 20000 0 p1 p2 w = some (res, w1)) (hE : ∀ E, res = .inr E → E ∈ [eIA]) : Hc yL_set cL_set 5 [(0, 10, 13, 13)] [eIA] (fun ad ao => [.ref (ad 0), .int (oI p1), .int (oI p2), .ref ao]) w res w1 := by
  refine Hc.of (by decide +kernel) rfl (fun _ _ => Nat.le_of_ble_eq_true rfl) ?_
  intro p l e s m args below meth c D ad aT adV aL ao f0 A ls hx htb hrt hN hNw hL hl
  have hl : lv_has ls 5 [(0, .ref (ad 0)), (1, .int (oI p1)), (2, .int (oI p2)), (3, .ref ao)] := hl
  refine lv_aload_n hx.1 hx.2.1 dL_set_0 rfl (lv_at hl 3 rfl) ?_
  refine lv_iconst (v := 0) hx.1 hx.2.1 dL_set_1 (by decide) ?_
  refine lv_aload_n hx.1 hx.2.1 dL_set_2 rfl (lv_at hl 0 rfl) ?_
  refine lv_iload_n hx.1 hx.2.1 dL_set_3 rfl (lv_at hl 1 rfl) ?_
  refine lv_iload_n hx.1 hx.2.1 dL_set_4 rfl (lv_at hl 2 rfl) ?_
  refine L_callV hx (b := 0) [.int (oI p1), .int (oI p2)] [.int 0, .ref ao] (ev_X10_set 20000 0 (by decide +kernel) p1 p2 w) vm_X10_set fc8 (by decide +kernel) g1256 dL_set_5 rfl rfl (Nat.le_of_ble_eq_true rfl) ⟨by decide, by decide⟩ ⟨by decide, by decide⟩ hl.1 hL hf (fun v hv H locs hL => ?_) (fun E hE1 H locs q ce hL hc hcv hcl => ?_)
  · cases res with
    | inr E => cases hv
    | inl u =>
      cases hv
      refine lv_i2l hx.1 hx.2.1 dL_set_8 rfl ?_
      refine L_last hx hL dL_set_9 (fun f1 H locs hf1 hL => ?_)
      refine lv_goto (tgt := 17) hx.1 hx.2.1 dL_set_10 (by decide) ?_
      refine lv_iconst (v := 0) hx.1 hx.2.1 dL_set_17 (by decide) ?_
      exact H_ret hx hrt hL rfl (fun v h => by cases h; exact hf1) ⟨by decide, by decide⟩ dL_set_18
  · cases res with
    | inl u => cases hE1
    | inr E0 =>
      cases hE1
      have hm := hE _ rfl
      simp only [List.mem_cons, List.not_mem_nil, or_false] at hm
      rcases hm with rfl
      · refine vx_catch (name := eIA) hx.2.2.2.1 [] ⟨0, 10, 13, 13⟩ [] htb (fun z hz => absurd hz List.not_mem_nil) rfl (by decide) (hx.2.2.2.2.1 _ g927) (va_Nw.use rfl (hNw.2.2.2 eIA (by decide +kernel))) hc hcv hcl ?_
        refine lv_astore (lv' := [(4, .ref q), (0, .ref (ad 0)), (1, .int (oI p1)), (2, .int (oI p2)), (3, .ref ao)]) hx.1 hx.2.1 dL_set_13 hl (by decide) rfl (fun ls hl => ?_)
        refine lv_iconst (v := 1) hx.1 hx.2.1 dL_set_15 (by decide) ?_
        exact H_ret hx hrt hL (by decide) (fun v h => by cases h) ⟨by decide, by decide⟩ dL_set_16
set_option maxHeartbeats 4000000 in
set_option maxRecDepth 100000 in
theorem hm_undo {w w1 : aI} {res : Int ⊕ String} (hf : f_X10_undo 20000 0 w = some (res, w1)) (hE : ∀ E, res = .inr E → E ∈ [eNS]) : Hc yL_undo cL_undo 3 [(0, 8, 11, 87)] [eNS] (fun ad ao => [.ref (ad 0), .ref ao]) w res w1 := by
  refine Hc.of (by decide +kernel) rfl (fun _ _ => Nat.le_of_ble_eq_true rfl) ?_
  intro p l e s m args below meth c D ad aT adV aL ao f0 A ls hx htb hrt hN hNw hL hl
  have hl : lv_has ls 3 [(0, .ref (ad 0)), (1, .ref ao)] := hl
  refine lv_aload_n hx.1 hx.2.1 dL_undo_0 rfl (lv_at hl 1 rfl) ?_
  refine lv_iconst (v := 0) hx.1 hx.2.1 dL_undo_1 (by decide) ?_
  refine lv_aload_n hx.1 hx.2.1 dL_undo_2 rfl (lv_at hl 0 rfl) ?_
  refine L_callV hx (b := 0) [] [.int 0, .ref ao] (ev_X10_undo 20000 0 (by decide +kernel) w) vm_X10_undo fc8 (by decide +kernel) g1266 dL_undo_3 rfl rfl (Nat.le_of_ble_eq_true rfl) ⟨by decide, by decide⟩ ⟨by decide, by decide⟩ hl.1 hL hf (fun v hv H locs hL => ?_) (fun E hE1 H locs q ce hL hc hcv hcl => ?_)
  · cases res with
    | inr E => cases hv
    | inl u =>
      cases hv
      refine lv_i2l hx.1 hx.2.1 dL_undo_6 rfl ?_
      refine L_last hx hL dL_undo_7 (fun f1 H locs hf1 hL => ?_)
      refine lv_goto (tgt := 14) hx.1 hx.2.1 dL_undo_8 (by decide) ?_
      refine lv_iconst (v := 0) hx.1 hx.2.1 dL_undo_14 (by decide) ?_
      exact H_ret hx hrt hL rfl (fun v h => by cases h; exact hf1) ⟨by decide, by decide⟩ dL_undo_15
  · cases res with
    | inl u => cases hE1
    | inr E0 =>
      cases hE1
      have hm := hE _ rfl
      simp only [List.mem_cons, List.not_mem_nil, or_false] at hm
      rcases hm with rfl
      · refine vx_catch (name := eNS) hx.2.2.2.1 [] ⟨0, 8, 11, 87⟩ [] htb (fun z hz => absurd hz List.not_mem_nil) rfl (by decide) (hx.2.2.2.2.1 _ g1265) (va_Nw.use rfl (hNw.2.2.2 eNS (by decide +kernel))) hc hcv hcl ?_
        refine lv_astore_n (lv' := [(2, .ref q), (0, .ref (ad 0)), (1, .ref ao)]) hx.1 hx.2.1 dL_undo_11 rfl hl (by decide) rfl (fun ls hl => ?_)
        refine lv_iconst (v := 1) hx.1 hx.2.1 dL_undo_12 (by decide) ?_
        exact H_ret hx hrt hL (by decide) (fun v h => by cases h) ⟨by decide, by decide⟩ dL_undo_13
set_option maxHeartbeats 4000000 in
set_option maxRecDepth 100000 in
theorem hm_printTune (p1 : Int) {w w1 : aI} {res : Int ⊕ String} (hf : f_X10_printTune 20000 0 p1 w = some (res, w1)) (hE : ∀ E, res = .inr E → E ∈ [eIO]) : Hc yL_printTune cL_printTune 4 [(0, 9, 12, 22)] [eIO] (fun ad ao => [.ref (ad 0), .int (oI p1), .ref ao]) w res w1 := by
  refine Hc.of (by decide +kernel) rfl (fun _ _ => Nat.le_of_ble_eq_true rfl) ?_
  intro p l e s m args below meth c D ad aT adV aL ao f0 A ls hx htb hrt hN hNw hL hl
  have hl : lv_has ls 4 [(0, .ref (ad 0)), (1, .int (oI p1)), (2, .ref ao)] := hl
  refine lv_aload_n hx.1 hx.2.1 dL_printTune_0 rfl (lv_at hl 2 rfl) ?_
  refine lv_iconst (v := 0) hx.1 hx.2.1 dL_printTune_1 (by decide) ?_
  refine lv_aload_n hx.1 hx.2.1 dL_printTune_2 rfl (lv_at hl 0 rfl) ?_
  refine lv_iload_n hx.1 hx.2.1 dL_printTune_3 rfl (lv_at hl 1 rfl) ?_
  refine L_callV hx (b := 0) [.int (oI p1)] [.int 0, .ref ao] (ev_X10_printTune 20000 0 (by decide +kernel) p1 w) vm_X10_printTune fc8 (by decide +kernel) g1293 dL_printTune_4 rfl rfl (Nat.le_of_ble_eq_true rfl) ⟨by decide, by decide⟩ ⟨by decide, by decide⟩ hl.1 hL hf (fun v hv H locs hL => ?_) (fun E hE1 H locs q ce hL hc hcv hcl => ?_)
  · cases res with
    | inr E => cases hv
    | inl u =>
      cases hv
      refine lv_i2l hx.1 hx.2.1 dL_printTune_7 rfl ?_
      refine L_last hx hL dL_printTune_8 (fun f1 H locs hf1 hL => ?_)
      refine lv_goto (tgt := 15) hx.1 hx.2.1 dL_printTune_9 (by decide) ?_
      refine lv_iconst (v := 0) hx.1 hx.2.1 dL_printTune_15 (by decide) ?_
      exact H_ret hx hrt hL rfl (fun v h => by cases h; exact hf1) ⟨by decide, by decide⟩ dL_printTune_16
  · cases res with
    | inl u => cases hE1
    | inr E0 =>
      cases hE1
      have hm := hE _ rfl
      simp only [List.mem_cons, List.not_mem_nil, or_false] at hm
      rcases hm with rfl
      · refine vx_catch (name := eIO) hx.2.2.2.1 [] ⟨0, 9, 12, 22⟩ [] htb (fun z hz => absurd hz List.not_mem_nil) rfl (by decide) (hx.2.2.2.2.1 _ g1030) (va_Nw.use rfl (hNw.2.2.2 eIO (by decide +kernel))) hc hcv hcl ?_
        refine lv_astore_n (lv' := [(3, .ref q), (0, .ref (ad 0)), (1, .int (oI p1)), (2, .ref ao)]) hx.1 hx.2.1 dL_printTune_12 rfl hl (by decide) rfl (fun ls hl => ?_)
        refine lv_iconst (v := 1) hx.1 hx.2.1 dL_printTune_13 (by decide) ?_
        exact H_ret hx hrt hL (by decide) (fun v h => by cases h) ⟨by decide, by decide⟩ dL_printTune_14
set_option maxHeartbeats 4000000 in
set_option maxRecDepth 100000 in
theorem hm_restoreState {w w1 : aI} {res : Int ⊕ String} (hf : f_X10_restoreState 20000 0 w = some (res, w1)) (hE : ∀ E, res = .inr E → E ∈ [eNS]) : Hc yL_restoreState cL_restoreState 3 [(0, 8, 11, 87)] [eNS] (fun ad ao => [.ref (ad 0), .ref ao]) w res w1 := by
  refine Hc.of (by decide +kernel) rfl (fun _ _ => Nat.le_of_ble_eq_true rfl) ?_
  intro p l e s m args below meth c D ad aT adV aL ao f0 A ls hx htb hrt hN hNw hL hl
  have hl : lv_has ls 3 [(0, .ref (ad 0)), (1, .ref ao)] := hl
  refine lv_aload_n hx.1 hx.2.1 dL_restoreState_0 rfl (lv_at hl 1 rfl) ?_
  refine lv_iconst (v := 0) hx.1 hx.2.1 dL_restoreState_1 (by decide) ?_
  refine lv_aload_n hx.1 hx.2.1 dL_restoreState_2 rfl (lv_at hl 0 rfl) ?_
  refine L_callV hx (b := 0) [] [.int 0, .ref ao] (ev_X10_restoreState 20000 0 (by decide +kernel) w) vm_X10_restoreState fc8 (by decide +kernel) g1300 dL_restoreState_3 rfl rfl (Nat.le_of_ble_eq_true rfl) ⟨by decide, by decide⟩ ⟨by decide, by decide⟩ hl.1 hL hf (fun v hv H locs hL => ?_) (fun E hE1 H locs q ce hL hc hcv hcl => ?_)
  · cases res with
    | inr E => cases hv
    | inl u =>
      cases hv
      refine lv_i2l hx.1 hx.2.1 dL_restoreState_6 rfl ?_
      refine L_last hx hL dL_restoreState_7 (fun f1 H locs hf1 hL => ?_)
      refine lv_goto (tgt := 14) hx.1 hx.2.1 dL_restoreState_8 (by decide) ?_
      refine lv_iconst (v := 0) hx.1 hx.2.1 dL_restoreState_14 (by decide) ?_
      exact H_ret hx hrt hL rfl (fun v h => by cases h; exact hf1) ⟨by decide, by decide⟩ dL_restoreState_15
  · cases res with
    | inl u => cases hE1
    | inr E0 =>
      cases hE1
      have hm := hE _ rfl
      simp only [List.mem_cons, List.not_mem_nil, or_false] at hm
      rcases hm with rfl
      · refine vx_catch (name := eNS) hx.2.2.2.1 [] ⟨0, 8, 11, 87⟩ [] htb (fun z hz => absurd hz List.not_mem_nil) rfl (by decide) (hx.2.2.2.2.1 _ g1265) (va_Nw.use rfl (hNw.2.2.2 eNS (by decide +kernel))) hc hcv hcl ?_
        refine lv_astore_n (lv' := [(2, .ref q), (0, .ref (ad 0)), (1, .ref ao)]) hx.1 hx.2.1 dL_restoreState_11 rfl hl (by decide) rfl (fun ls hl => ?_)
        refine lv_iconst (v := 1) hx.1 hx.2.1 dL_restoreState_12 (by decide) ?_
        exact H_ret hx hrt hL (by decide) (fun v h => by cases h) ⟨by decide, by decide⟩ dL_restoreState_13
