section Calls2
variable {p : Program} {l : Launch} {e : Env} {R : Room} {s : State} {m : MethodId} {args : Array Value} {below : List Frame} {meth : Method} {c : Code} {locs : List Loc} {cells slots : Nat} {T : State}
/-- a call of a nest mate's private static method, which may throw (as the library's Nest rows, with one case more) -/
theorem vy_callSN (X : Stand p l e R s m args below meth c T locs cells slots) (hexec : p.tables.exec = Jvm.exec) {own : String} {index : Nat} {host : String} {y : MethodName} {bytes : ByteArray} {maxL : Nat} {ret : Option FieldType}
    (hown : s.vm.findClass own = some m.cls) (hlink : (Cond.methodLinkNest own index y host).before args s = true) (hstat : (Cond.static y).before args s = true) (hinit : (Cond.initialized y.cls).before args s = true)
    (hcode : (Cond.code y bytes maxL ret).before args s = true) (hy : y.cls ≠ "java/lang/invoke/MethodHandle" ∧ y.cls ≠ "java/lang/invoke/VarHandle")
    {W9 : Nat} {Pre : Pt → Array Value → Prop} {Post : Pt → Array Value → Option Value → Pt → Prop} {PostX : Pt → Array Value → Addr → Pt → Prop} (hK : vx_Back l R p e below s args y 3 W9 Pre Post PostX)
    {g : JFrame} (hg : g.method = m) (hsize : g.locals.size = c.maxLocals) {argsL rest : List Value} (hlen : ∀ sig, parseMethodDescriptor y.desc = some sig → argsL.length = sig.parameters.length)
    (hstack : g.stack = argsL.reverse ++ rest) (hW : 2 * g.monitorRoom + (rest.map fun v => v.category).sum ≤ W9) (hdg : decode c.code g.pc = .ok (.invokestatic index, 3))
    (hpre : ∀ vm₁, s.WarmedH vm₁ → Pre ⟨T.setVm vm₁, locs, cells, slots⟩ argsL.toArray) :
    (∃ (v : Option Value) (vm₁ : Vm) (B : Pt), s.WarmedH vm₁ ∧ Stand p l e R s m args below meth c B.U B.locs B.cells B.slots ∧ Post ⟨T.setVm vm₁, locs, cells, slots⟩ argsL.toArray v B ∧
      ∀ target, Steps p.tables e below (B.U.setTop { g with pc := g.pc + 3, stack := v.toList ++ rest }) target → Steps p.tables e below (T.setTop g) target) ∨
    (∃ (q : Addr) (vm₁ : Vm) (B : Pt), s.WarmedH vm₁ ∧ Stand p l e R s m args below meth c B.U B.locs B.cells B.slots ∧ PostX ⟨T.setVm vm₁, locs, cells, slots⟩ argsL.toArray q B ∧
      Steps p.tables e below (T.setTop g) ((B.U.setTop { g with stack := rest }).pushFrame (.throwing q))) := by
  obtain ⟨mk, hnamed⟩ := Cond.code_named hcode
  obtain ⟨methM, cM, hmethM, -, -, -, -, -, -, hsigM⟩ := Cond.code_spec hnamed hcode
  have hstatic : methM.isStatic = true := Cond.static_spec hnamed hmethM hstat
  obtain ⟨kP, hkP, -⟩ := className_of_methodNamed hnamed
  have hinitP : kP.init = .initialized := Cond.initialized_spec (findClass_of_methodNamed hnamed) hkP hinit
  obtain ⟨vm₁, X₁, hstep₁⟩ := X.invokestaticNest hexec hown hlink hnamed hmethM hstatic hkP hinitP hy (g := g) hg (argsL := argsL) (rest := rest) (hlen _ hsigM) hstack hdg
  rcases hK m meth c ⟨T.setVm vm₁, locs, cells, slots⟩ { g with stack := rest } (.invokestatic index) mk argsL.toArray X₁ hg hsize hdg hW (X₁.named hnamed) (hpre vm₁ X₁.warmed) with ⟨v, B, X', hpost, hsteps⟩ | ⟨q, B, X', hpost, hsteps⟩
  · exact Or.inl ⟨v, vm₁, B, X₁.warmed, X', hpost, fun target h => hstep₁ _ fun acts => by rw [doInvoke_state]; exact hsteps.trans h⟩
  · exact Or.inr ⟨q, vm₁, B, X₁.warmed, X', hpost, hstep₁ _ fun acts => by rw [doInvoke_state]; exact hsteps⟩
end Calls2
section Calls3
variable {p : Program} {l : Launch} {e : Env} {R : Room} {s : State} {m : MethodId} {args : Array Value} {below : List Frame} {meth : Method} {c : Code} {H : Heap} {locs : List Loc} {cells slots : Nat}
variable {y : MethodName} {bytes cc : ByteArray} {maxL nL mc ms n index : Nat} {ret : Option FieldType} {ws : List Cond} {rm : Room} {Pc : Array Value → State → Prop} {Qc : Array Value → State → Outcome → State → Prop} {XC : String → State → State → Prop} {free : Addr → Prop} {Ts : List Cond} {own C host : String} {b : Addr} {As rest : List Value} {g : JFrame}
theorem vy_runSN (S : CallFix p m c cc nL s args Ts own) (hM : vx_Met l y ws rm Pc Qc XC mc ms free) (cw : va_CN R s args own index y host bytes maxL ret ws rm mc ms n ∧ (Cond.static y).before args s = true) (hp : PreS s H Pc As)
    (hg : g.method = m) (hn : As.length = n) (hsize : g.locals.size = nL) (hstack : g.stack = As.reverse ++ rest) (hW : 2 * g.monitorRoom + (rest.map fun v => v.category).sum ≤ 8) (hdg : decode cc g.pc = .ok (.invokestatic index, 3)) (hf : cells + mc ≤ R.cells ∧ slots + ms ≤ R.slots) :
    vx_Run p l e R s m args below meth c H locs cells slots mc ms g rest (Qc As.toArray) XC free := by
  obtain ⟨⟨⟨hrc, hrs, hfr, hlo, hws, hcw⟩, hcode, hini, hy, hlen, hl⟩, hstt⟩ := cw
  have hK : vx_Back l R p e below s args y 3 8 (PreOf R mc ms Pc) (PostOf Qc mc ms free) (vx_Post XC mc ms free) := vx_back (bytes := bytes) (maxL := maxL) (ret := ret) hM hp.1 hrc hrs hfr hlo hws hcw (fun a' U hW => word_at hW (Or.inl (by first | rfl | simp [Cond.onTables, Cond.keeps, Cond.steady])) hini)
  obtain ⟨hx, hb, hml, ho, -⟩ := S
  intro T hT X
  rcases vy_callSN X hx (bytes := bytes) (maxL := maxL) (ret := ret) ho hl hstt hini hcode hy hK hg (hsize.trans hml.symm) (argsL := As) (rest := rest) (fun sig h => hn.trans (hlen sig h)) hstack hW (by rw [hb]; exact hdg)
    (fun vm₁ hW₁ => ⟨hf.1, hf.2, hp.2 (T.setVm vm₁) hT hW₁⟩) with ⟨v, vm₁, ⟨U', l2, c2, s2⟩, hW₁, X', ⟨g', mk, t, L, e1, e2, hq, h1, hL, h2, h3⟩, st⟩ | ⟨q, vm₁, ⟨U', l2, c2, s2⟩, hW₁, X', ⟨g', mk, t, L, E, ce, e1, e2, hq, hce, hcv, hcl, h1, hL, h2, h3⟩, st⟩
  · dsimp only [Pt.U, Pt.locs, Pt.cells, Pt.slots] at X' e1 e2 h1 h2 h3 st
    subst h1; subst h2; subst h3
    exact Or.inl ⟨v, (T.setVm vm₁).calling g' mk As.toArray, t, U', L, hT, X', hL, e1, e2, hq, st⟩
  · dsimp only [Pt.U, Pt.locs, Pt.cells, Pt.slots] at X' e1 e2 h1 h2 h3 st hcl
    subst h1; subst h2; subst h3
    exact Or.inr ⟨q, (T.setVm vm₁).calling g' mk As.toArray, t, U', L, E, ce, hT, X', hL, e1, e2, hq, hce, hcv, vx_cls hW₁ hcl, st⟩
end Calls3
theorem PcE_blind {D : va_G} {ad : Nat → Nat} {aT : Nat → ClassId} {N : Nat} {adV : Nat → Nat} {sz : Nat} {avs : List Value} {w : aW} : FrameBlind (PcE D ad aT N adV sz avs w) := by
  intro a U g mk q
  obtain ⟨q0, q1, qP, qK, qA, qX⟩ := q
  exact ⟨q0, q1, qP, KA.moved (u := U) (U := U.calling g mk a) (Vm.Alike.refl U.vm) qK, qA, XE.warm (s := U) (U := U.calling g mk a) (State.WarmedH.refl U) qX⟩
theorem AdOK.mono {ad : Nat → Nat} {N sz sz' : Nat} (h : AdOK ad N sz) (hz : sz ≤ sz') : AdOK ad N sz' := ⟨h.1, fun a ha => Nat.lt_of_lt_of_le (h.2 a ha) hz⟩
section Calls4
variable {T : Type} {x : Cx} {cv : T → aO} {Qf : T → State → Prop} {own : String} {cc : ByteArray} {nL dp mc j pc : Nat} {ret : Option FieldType} {L : List (Nat × Value)} {st : List Value} {w : aW}
theorem cP.lo {H : Heap} (h : cP x w H) : va_P (xD x) vwCl (conc (xad x) (xaT x) (xN x) w) H := fun k q hk => h.1 k q (by
  rw [List.getElem?_append_left (by rw [conc_len]; exact (conc_of hk).1)]
  exact hk)
theorem cP.adk (hx : CxOK x own cc nL dp mc ret) {H : Heap} (h : cP x w H) : AdOK (xad x) (xN x) H.size := ⟨hx.ada.1, fun a ha => (h.1 _ _ (hx.gt ha)).lt⟩
theorem CxOK.sb (hx : CxOK x own cc nL dp mc ret) {H : Heap} {locs : List Loc} (hS : va_S (xA x) (xs x).heap H locs) : ∀ q, aA (xad x) (xN x) H.size q → xA x q := by
  rintro q (⟨a, ha, rfl⟩ | hq)
  · exact hx.ada.2 a ha
  · exact hx.fr q (Nat.le_trans hS.1 hq)
theorem PcE_at (hx : CxOK x own cc nL dp mc ret) {H : Heap} {locs : List Loc} (hP : cP x w H) (hS : va_S (xA x) (xs x).heap H locs) (avs : List Value) {U : State} (hU : U.heap = H) (hW : (xs x).WarmedH U.vm) :
    PcE (xD x) (xad x) (xaT x) (xN x) (xaV x) H.size avs w ((avs.map (cvv (xad x))).toArray) U := by
  refine ⟨rfl, by rw [hU], ⟨by rw [hU]; exact hP.lo, hP.2⟩, KA.moved hW.alike hx.ka, ⟨⟨hx.nn, hx.n8⟩, cP.adk hx hP⟩, ?_⟩
  rw [hU]
  exact ((hx.xe.kept hS.2.1).narrow (hx.sb hS)).warm hW
/-- what stands beside the cells of a method that is called -/
theorem cP.back (hx : CxOK x own cc nL dp mc ret) {H H1 : Heap} {w2 : aW} (h : cP x w H) (hP : va_P (xD x) vwCl (conc (xad x) (xaT x) (xN x) w2 ++ []) H1 ∧ nW w2 = xN x) (hq : ∀ q, q < H.size → ¬ aA (xad x) (xN x) H.size q → H1[q]? = H[q]?) : cP x w2 H1 := by
  rw [List.append_nil] at hP
  refine ⟨fun k q hk => ?_, hP.2⟩
  rcases Nat.lt_or_ge k (xN x) with c | c
  · rw [List.getElem?_append_left (by rw [conc_len]; exact c)] at hk
    exact hP.1 k q hk
  · have hk2 : (xc9 x w)[k]? = some q := by
      rw [List.getElem?_append_right (by rw [conc_len]; exact c), conc_len] at hk
      show (conc (xad x) (xaT x) (xN x) w ++ xX x)[k]? = some q
      rw [List.getElem?_append_right (by rw [conc_len]; exact c), conc_len]
      exact hk
    refine (va_P.kept (ws := [q]) (H := H) (fun k9 q9 h9 => ?_) (fun k9 q9 h9 => ?_)) 0 q rfl
    · have e0 : k9 < 1 := (List.getElem?_eq_some_iff.mp h9).1
      rw [show k9 = 0 by omega] at h9
      cases h9
      exact h.1 k q hk2
    · have e0 : k9 < 1 := (List.getElem?_eq_some_iff.mp h9).1
      rw [show k9 = 0 by omega] at h9
      cases h9
      refine hq q.1 (h.1 k q hk2).lt ?_
      rintro (⟨a, ha, e⟩ | e)
      · have h8 := (hx.dd w).1 k (ps a) _ _ hk2 (hx.gt ha) e
        have := ps_lt hx.nn ha
        omega
      · have := (h.1 k q hk2).lt
        omega
theorem E_run {r2 : aO} {mc2 : Nat} {H : Heap} {locs : List Loc} {ls : Array Slot} {st0 rest : List Value} {As : Array Value} {Q : State → Prop} (hx : CxOK x own cc nL dp mc ret) (hw : cP x w H)
    (hr : vx_Run (xp x) (xl x) (xe x) (xRm x) (xs x) (xm x) (xa x) (xb x) (xme x) (xc x) H locs j (6 * j) mc2 (6 * mc2) (F0 (xm x) pc ls st0) rest (QcE (xD x) (xad x) (xaT x) (xN x) (aA (xad x) (xN x) H.size) [] r2 As) (XcE (xD x) (xad x) (xaT x) (xN x) (aA (xad x) (xN x) H.size) [] r2) (aA (xad x) (xN x) H.size)) (hS : va_S (xA x) (xs x).heap H locs) (hj : j + mc2 ≤ mc)
    (kk : ∀ v, r2.1 = .inl v → ∀ (H1 : Heap) (locs1 : List Loc), cP x r2.2 H1 → va_S (xA x) (xs x).heap H1 locs1 → W (xp x) (xl x) (xe x) (xRm x) (xs x) (xm x) (xa x) (xb x) (xme x) (xc x) H1 locs1 (j + mc2) (6 * (j + mc2)) Q (F0 (xm x) (pc + 3) ls ((v.map (cvv (xad x))).toList ++ rest)))
    (kx : ∀ E, r2.1 = .inr E → Q = Qm x mc r2) : W (xp x) (xl x) (xe x) (xRm x) (xs x) (xm x) (xa x) (xb x) (xme x) (xc x) H locs j (6 * j) Q (F0 (xm x) pc ls st0) := by
  intro U hU X
  have hsub := hx.sb hS
  have hA : ∀ q, q < H.size → aA (xad x) (xN x) H.size q → xA x q := fun q _ h => hsub q h
  rcases hr U hU X with ⟨v, st₀, t, T', Lc, h0, X', hL, e1, e2, ⟨⟨v2, hv2, ho⟩, hP, hF⟩, sp⟩ | ⟨q, st₀, t, T', Lc, E, ce, h0, X', hL, e1, e2, ⟨hE, hP, hF⟩, hce, hcv, hcl, sp⟩
  · cases ho
    obtain ⟨k1, k2, k3⟩ := vx_keep h0 e1 hS hA hsub hL hF
    obtain ⟨t2, a1, b1⟩ := kk v2 hv2 T'.heap (locs ++ Lc) (cP.back hx hw (by rw [e1]; exact hP) (fun q h1 h2 => by rw [e1]; have h9 := hF.2 q (by rw [h0]; exact h1) h2; rw [h0] at h9; exact h9)) k3 T' rfl (by rw [Nat.mul_add]; exact X')
    exact ⟨t2, sp t2 a1, b1⟩
  · obtain ⟨k1, k2, k3⟩ := vx_keep h0 e1 hS hA hsub hL hF
    have e9 := kx E hE
    subst e9
    have hb : cP x r2.2 T'.heap := cP.back hx hw (by rw [e1]; exact hP) (fun q h1 h2 => by rw [e1]; have h9 := hF.2 q (by rw [h0]; exact h1) h2; rw [h0] at h9; exact h9)
    obtain ⟨t2, a1, b1⟩ := vx_out (Qc := QcE (xD x) (xad x) (xaT x) (xN x) (xA x) (xX x) r2) (XC := XcE (xD x) (xad x) (xaT x) (xN x) (xA x) (xX x) r2) (below := xb x) (free := xA x) (pc := pc) (ls := ls) (rest := rest) (E := E) (q := q) (mc := mc) (ms := 6 * mc) (s := xs x) (fun z hz => (hx.nx z hz).elim) hx.lk (H := T'.heap) (by rw [e1]; exact hce) hcv hcl
      (fun t9 h9 _ => ⟨hE, by rw [h9]; exact hb, k3.F h9⟩) k3.2.2 (Nat.le_trans (Nat.le_refl _) hj) (by rw [← Nat.mul_add]; exact Nat.mul_le_mul_left 6 hj) T' rfl X'
    exact ⟨t2, sp.trans a1, b1⟩
/-- what the tables say of a method that is called -/
def VMet (y : MethodName) (C : String) (cc : ByteArray) (nL : Nat) (ret : Option FieldType) (n : Nat) : Prop :=
  Cond.instanceMethod y ∈ Gw ∧ Cond.selects C y y ∈ Gw ∧ Cond.initialized y.cls ∈ Gw ∧ Cond.code y cc nL ret ∈ Gw ∧ (y.cls ≠ "java/lang/invoke/MethodHandle" ∧ y.cls ≠ "java/lang/invoke/VarHandle") ∧ (parseMethodDescriptor y.desc).map (fun d => d.parameters.length) = some n ∧ nL ≤ 20
def SMet (y : MethodName) (cc : ByteArray) (nL : Nat) (ret : Option FieldType) (n : Nat) : Prop :=
  Cond.static y ∈ Gw ∧ Cond.initialized y.cls ∈ Gw ∧ Cond.code y cc nL ret ∈ Gw ∧ (y.cls ≠ "java/lang/invoke/MethodHandle" ∧ y.cls ≠ "java/lang/invoke/VarHandle") ∧ (parseMethodDescriptor y.desc).map (fun d => d.parameters.length) = some n ∧ nL ≤ 20
theorem Gw_ws (hx : CxOK x own cc nL dp mc ret) {y : MethodName} {cc2 : ByteArray} {nL2 : Nat} {ret2 : Option FieldType} (hc : Cond.code y cc2 nL2 ret2 ∈ Gw) : ∀ w ∈ (Cond.code y cc2 nL2 ret2 :: Gw), ∀ (a' : Array Value) (U : State), (xs x).WarmedH U.vm → w.before a' U = true := by
  intro v hv a' U hW
  have h : v ∈ Gw := by
    rcases List.mem_cons.mp hv with h | h
    · rw [h]; exact hc
    · exact h
  exact word_at hW (good_of_word (gw_good v h)) (hx.ts v h)
theorem rmd_room (hx : CxOK x own cc nL dp mc ret) {dp2 mc2 nL2 : Nat} (hd : dp2 + 1 ≤ dp) (hn : nL2 ≤ 20) : (rmd dp2 mc2).frames + 1 ≤ (xRm x).frames ∧ 8 + (nL2 + 11) + (rmd dp2 mc2).locals ≤ (xRm x).locals := by
  rw [hx.rm]
  exact ⟨hd, by show 8 + (nL2 + 11) + 39 * dp2 ≤ 39 * dp; omega⟩
theorem rmd_cells (hx : CxOK x own cc nL dp mc ret) {mc2 : Nat} (hj : j + mc2 ≤ mc) : j + mc2 ≤ (xRm x).cells ∧ 6 * j + 6 * mc2 ≤ (xRm x).slots := by
  rw [hx.rm]
  exact ⟨hj, by show 6 * j + 6 * mc2 ≤ 6 * mc; omega⟩
theorem hx_par {y : MethodName} {n : Nat} (h : (parseMethodDescriptor y.desc).map (fun d => d.parameters.length) = some n) : ∀ sig, parseMethodDescriptor y.desc = some sig → n = sig.parameters.length := by
  intro sig e
  rw [e] at h
  exact (Option.some.inj h).symm
theorem cvv_cats (ad : Nat → Nat) (st : List Value) : ((st.map (cvv ad)).map fun v => v.category) = st.map fun v => v.category := by
  rw [List.map_map]
  exact List.map_congr_left fun v _ => cvv_cat
/-- a call on an object -/
theorem E_callV {T2 : Type} {X2 : Option T2} {cv2 : T2 → aO} {K : T2 → Option T} (hx : CxOK x own cc nL dp mc ret) {y : MethodName} {C : String} {cc2 : ByteArray} {nL2 dp2 mc2 ix n : Nat} {ret2 : Option FieldType} {ci N : Nat} {Tt : u_T} {b : Nat} (As : List Value) (st : List Value) {sk : List Value}
    (hE : Ev y cc2 nL2 ret2 dp2 mc2 cv2 (.ref b :: As) w X2) (hm : VMet y C cc2 nL2 ret2 n) (fc : fcl ci C Tt N) (hb : shK b = 10 + ci) (he : xst (xN x) b) (g : Cond.methodLink own ix y ∈ Gw) (d : decode cc pc = .ok (.invokevirtual ix, 3)) (hs : sk = As.reverse ++ .ref b :: st) (hn : As.length = n) (hst : (st.map fun v => v.category).sum ≤ 8) (hdp : dp2 + 1 ≤ dp) (hj : j + mc2 ≤ mc)
    (kk : ∀ r2, X2 = some r2 → ∀ v, (cv2 r2).1 = .inl v → EnQ x Qf (j + mc2) (pc + 3) L (v.toList ++ st) (cv2 r2).2 (K r2))
    (kx : ∀ r2, X2 = some r2 → ∀ E, (cv2 r2).1 = .inr E → ∀ r, K r2 = some r → Qf r = Qm x mc (cv2 r2)) : EnQ x Qf j pc L sk w (X2.bind K) := by
  intro t ht H locs ls hP hS hl
  subst hs
  obtain ⟨r2, h2, h3⟩ := Option.bind_eq_some_iff.mp ht
  obtain ⟨m1, m2, m3, m4, m5, m6, m7⟩ := hm
  have hM := hE r2 h2 (xl x) hx.tr (xD x) (xad x) (xaT x) (xN x) (xaV x) H.size
  have hsk : ((As.reverse ++ .ref b :: st).map (cvv (xad x))) = (As.map (cvv (xad x))).reverse ++ .ref (xad x b) :: st.map (cvv (xad x)) := by
    rw [List.map_append, List.map_reverse]; rfl
  have hr := vx_runV (p := xp x) (e := xe x) (R := xRm x) (below := xb x) (meth := xme x) (H := H) (locs := locs) (cells := j) (slots := 6 * j) (b := xad x b) (As := As.map (cvv (xad x))) (rest := st.map (cvv (xad x))) (C := C) (own := own) (index := ix) (n := n) (g := F0 (xm x) pc ls ((As.reverse ++ .ref b :: st).map (cvv (xad x)))) (S := (⟨hx.ex, hx.bs, hx.ml, hx.ow, hx.ts⟩ : CallFix (xp x) (xm x) (xc x) cc nL (xs x) (xa x) Gw own)) hM
    (cw := ⟨⟨rfl, rfl, (rmd_room hx hdp m7).1, (rmd_room hx (mc2 := mc2) hdp m7).2, Gw_ws hx m4, List.mem_cons_self, hx.ts _ m4, hx.ts _ m3, m5, hx_par m6, hx.ts _ g⟩, hx.ts _ m1, hx.ts _ m2⟩)
    ⟨PcE_blind, va_recv hx.kk hP.1 fc.1 (q0 := ps b) (ci := vi ci) (a := xad x b) (by rw [hx.gt he, cve_obj hb]), fun U hU hW => PcE_at hx hP hS (.ref b :: As) hU hW⟩
    rfl (by rw [List.length_map]; exact hn) (by show ls.size = nL; rw [← hx.ml]; exact hl.1) hsk (by rw [cvv_cats]; exact (show 2 * 0 + _ ≤ 8 by omega)) d (rmd_cells hx hj)
  refine E_run hx hP hr hS hj (fun v hv H1 locs1 hP1 hS1 => ?_) (fun E hE1 => kx r2 h2 E hE1 t h3)
  have h9 := kk r2 h2 v hv t h3 H1 locs1 ls hP1 hS1 hl
  have e9 : (v.toList ++ st).map (cvv (xad x)) = (v.map (cvv (xad x))).toList ++ st.map (cvv (xad x)) := by
    rw [List.map_append]; cases v <;> rfl
  rw [e9] at h9
  exact h9
/-- a static call -/
theorem E_callS {T2 : Type} {X2 : Option T2} {cv2 : T2 → aO} {K : T2 → Option T} (hx : CxOK x own cc nL dp mc ret) {y : MethodName} {cc2 : ByteArray} {nL2 dp2 mc2 ix n : Nat} {ret2 : Option FieldType} (As : List Value) (st : List Value) {sk : List Value}
    (hE : Ev y cc2 nL2 ret2 dp2 mc2 cv2 As w X2) (hm : SMet y cc2 nL2 ret2 n) (g : Cond.methodLink own ix y ∈ Gw) (d : decode cc pc = .ok (.invokestatic ix, 3)) (hs : sk = As.reverse ++ st) (hn : As.length = n) (hst : (st.map fun v => v.category).sum ≤ 8) (hdp : dp2 + 1 ≤ dp) (hj : j + mc2 ≤ mc)
    (kk : ∀ r2, X2 = some r2 → ∀ v, (cv2 r2).1 = .inl v → EnQ x Qf (j + mc2) (pc + 3) L (v.toList ++ st) (cv2 r2).2 (K r2))
    (kx : ∀ r2, X2 = some r2 → ∀ E, (cv2 r2).1 = .inr E → ∀ r, K r2 = some r → Qf r = Qm x mc (cv2 r2)) : EnQ x Qf j pc L sk w (X2.bind K) := by
  intro t ht H locs ls hP hS hl
  subst hs
  obtain ⟨r2, h2, h3⟩ := Option.bind_eq_some_iff.mp ht
  obtain ⟨m1, m3, m4, m5, m6, m7⟩ := hm
  have hM := hE r2 h2 (xl x) hx.tr (xD x) (xad x) (xaT x) (xN x) (xaV x) H.size
  have hsk : ((As.reverse ++ st).map (cvv (xad x))) = (As.map (cvv (xad x))).reverse ++ st.map (cvv (xad x)) := by
    rw [List.map_append, List.map_reverse]
  have hr := vx_runS (p := xp x) (e := xe x) (R := xRm x) (below := xb x) (meth := xme x) (H := H) (locs := locs) (cells := j) (slots := 6 * j) (As := As.map (cvv (xad x))) (rest := st.map (cvv (xad x))) (own := own) (index := ix) (n := n) (g := F0 (xm x) pc ls ((As.reverse ++ st).map (cvv (xad x)))) (S := (⟨hx.ex, hx.bs, hx.ml, hx.ow, hx.ts⟩ : CallFix (xp x) (xm x) (xc x) cc nL (xs x) (xa x) Gw own)) hM
    (cw := ⟨⟨rfl, rfl, (rmd_room hx hdp m7).1, (rmd_room hx (mc2 := mc2) hdp m7).2, Gw_ws hx m4, List.mem_cons_self, hx.ts _ m4, hx.ts _ m3, m5, hx_par m6, hx.ts _ g⟩, hx.ts _ m1⟩)
    ⟨PcE_blind, fun U hU hW => PcE_at hx hP hS As hU hW⟩
    rfl (by rw [List.length_map]; exact hn) (by show ls.size = nL; rw [← hx.ml]; exact hl.1) hsk (by rw [cvv_cats]; exact (show 2 * 0 + _ ≤ 8 by omega)) d (rmd_cells hx hj)
  refine E_run hx hP hr hS hj (fun v hv H1 locs1 hP1 hS1 => ?_) (fun E hE1 => kx r2 h2 E hE1 t h3)
  have h9 := kk r2 h2 v hv t h3 H1 locs1 ls hP1 hS1 hl
  have e9 : (v.toList ++ st).map (cvv (xad x)) = (v.map (cvv (xad x))).toList ++ st.map (cvv (xad x)) := by
    rw [List.map_append]; cases v <;> rfl
  rw [e9] at h9
  exact h9
/-- a nest mate's static -/
theorem E_callN {T2 : Type} {X2 : Option T2} {cv2 : T2 → aO} {K : T2 → Option T} (hx : CxOK x own cc nL dp mc ret) {y : MethodName} {host : String} {cc2 : ByteArray} {nL2 dp2 mc2 ix n : Nat} {ret2 : Option FieldType} (As : List Value) (st : List Value) {sk : List Value}
    (hE : Ev y cc2 nL2 ret2 dp2 mc2 cv2 As w X2) (hm : SMet y cc2 nL2 ret2 n) (g : va_Nw (.methodLinkNest own ix y host) (xs x)) (d : decode cc pc = .ok (.invokestatic ix, 3)) (hs : sk = As.reverse ++ st) (hn : As.length = n) (hst : (st.map fun v => v.category).sum ≤ 8) (hdp : dp2 + 1 ≤ dp) (hj : j + mc2 ≤ mc)
    (kk : ∀ r2, X2 = some r2 → ∀ v, (cv2 r2).1 = .inl v → EnQ x Qf (j + mc2) (pc + 3) L (v.toList ++ st) (cv2 r2).2 (K r2))
    (kx : ∀ r2, X2 = some r2 → ∀ E, (cv2 r2).1 = .inr E → ∀ r, K r2 = some r → Qf r = Qm x mc (cv2 r2)) : EnQ x Qf j pc L sk w (X2.bind K) := by
  intro t ht H locs ls hP hS hl
  subst hs
  obtain ⟨r2, h2, h3⟩ := Option.bind_eq_some_iff.mp ht
  obtain ⟨m1, m3, m4, m5, m6, m7⟩ := hm
  have hM := hE r2 h2 (xl x) hx.tr (xD x) (xad x) (xaT x) (xN x) (xaV x) H.size
  have hsk : ((As.reverse ++ st).map (cvv (xad x))) = (As.map (cvv (xad x))).reverse ++ st.map (cvv (xad x)) := by
    rw [List.map_append, List.map_reverse]
  have hr := vy_runSN (p := xp x) (e := xe x) (R := xRm x) (below := xb x) (meth := xme x) (H := H) (locs := locs) (cells := j) (slots := 6 * j) (As := As.map (cvv (xad x))) (rest := st.map (cvv (xad x))) (own := own) (index := ix) (n := n) (host := host) (g := F0 (xm x) pc ls ((As.reverse ++ st).map (cvv (xad x)))) (S := (⟨hx.ex, hx.bs, hx.ml, hx.ow, hx.ts⟩ : CallFix (xp x) (xm x) (xc x) cc nL (xs x) (xa x) Gw own)) hM
    (cw := ⟨⟨⟨rfl, rfl, (rmd_room hx hdp m7).1, (rmd_room hx (mc2 := mc2) hdp m7).2, Gw_ws hx m4, List.mem_cons_self⟩, hx.ts _ m4, hx.ts _ m3, m5, hx_par m6, va_Nw.use rfl g⟩, hx.ts _ m1⟩)
    ⟨PcE_blind, fun U hU hW => PcE_at hx hP hS As hU hW⟩
    rfl (by rw [List.length_map]; exact hn) (by show ls.size = nL; rw [← hx.ml]; exact hl.1) hsk (by rw [cvv_cats]; exact (show 2 * 0 + _ ≤ 8 by omega)) d (rmd_cells hx hj)
  refine E_run hx hP hr hS hj (fun v hv H1 locs1 hP1 hS1 => ?_) (fun E hE1 => kx r2 h2 E hE1 t h3)
  have h9 := kk r2 h2 v hv t h3 H1 locs1 ls hP1 hS1 hl
  have e9 : (v.toList ++ st).map (cvv (xad x)) = (v.map (cvv (xad x))).toList ++ st.map (cvv (xad x)) := by
    rw [List.map_append]; cases v <;> rfl
  rw [e9] at h9
  exact h9
end Calls4
