/-! ===== a call whose throw is caught; the law's isRefused ===== -/
section Cat
variable {T : Type} {x : Cx} {own : String} {cc : ByteArray} {nL dp mc j pc : Nat} {ret : Option FieldType} {w : aI}
theorem X_callV (hx : CxOK x own cc nL dp mc ret) {c : Code} (hbs : c.code = cc) (hml : c.maxLocals = nL) {y : MethodName} {C : String} {cc2 : ByteArray} {nL2 dp2 mc2 ix n : Nat} {ret2 : Option FieldType} {ci N : Nat} {Tt : u_T} {b : Nat} {X2 : Option ((Int ⊕ String) × aI)} (As : List Value) (st : List Value) {r2 : (Int ⊕ String) × aI} {H : Heap} {locs : List Loc} {ls : Array Slot} {Q : State → Prop}
    (hE : Ev y cc2 nL2 ret2 dp2 mc2 jvT (.ref b :: As) (cm w) X2) (hm : VMet y C cc2 nL2 ret2 n) (fc : fcl ci C Tt N) (hb : shK b = 10 + ci) (he : xst (xN x) b) (g : Cond.methodLink own ix y ∈ Gw) (d : decode cc pc = .ok (.invokevirtual ix, 3)) (hn : As.length = n) (hst : (st.map fun v => v.category).sum ≤ 8) (hdp : dp2 + 1 ≤ dp) (hj : j + mc2 ≤ mc) (h2 : X2 = some r2) (hP : cP x (cm w) H) (hS : va_S (xA x) (xs x).heap H locs) (hls : ls.size = nL)
    (kk : ∀ v, r2.1 = .inl v → ∀ (H1 : Heap) (locs1 : List Loc), cP x (cm r2.2) H1 → va_S (xA x) (xs x).heap H1 locs1 → W (xp x) (xl x) (xe x) (xRm x) (xs x) (xm x) (xa x) (xb x) (xme x) c H1 locs1 (j + mc2) (6 * (j + mc2)) Q (F0 (xm x) (pc + 3) ls (.int (oI v) :: st.map (cvv (xad x)))))
    (kx : ∀ E, r2.1 = .inr E → ∀ (H1 : Heap) (locs1 : List Loc) (q : Addr) (ce : Cell), cP x (cm r2.2) H1 → va_S (xA x) (xs x).heap H1 locs1 → H1[q]? = some ce → ce.vm = .none → (xs x).vm.findClass E = some ce.cls → vx_W (xp x) (xl x) (xe x) (xRm x) (xs x) (xm x) (xa x) (xb x) (xme x) c H1 locs1 (j + mc2) (6 * (j + mc2)) Q (F0 (xm x) pc ls (st.map (cvv (xad x)))) q) :
    W (xp x) (xl x) (xe x) (xRm x) (xs x) (xm x) (xa x) (xb x) (xme x) c H locs j (6 * j) Q (F0 (xm x) pc ls ((As.reverse ++ .ref b :: st).map (cvv (xad x)))) := by
  obtain ⟨m1, m2, m3, m4, m5, m6, m7⟩ := hm
  have hM := hE r2 h2 (xl x) hx.tr (xD x) (xad x) (xaT x) (xN x) (xaV x) H.size
  have hsk : ((As.reverse ++ .ref b :: st).map (cvv (xad x))) = (As.map (cvv (xad x))).reverse ++ .ref (xad x b) :: st.map (cvv (xad x)) := by
    rw [List.map_append, List.map_reverse]; rfl
  have hr := vx_runV (p := xp x) (e := xe x) (R := xRm x) (below := xb x) (meth := xme x) (H := H) (locs := locs) (cells := j) (slots := 6 * j) (b := xad x b) (As := As.map (cvv (xad x))) (rest := st.map (cvv (xad x))) (C := C) (own := own) (index := ix) (n := n) (g := F0 (xm x) pc ls ((As.reverse ++ .ref b :: st).map (cvv (xad x)))) (S := (⟨hx.ex, hbs, hml, hx.ow, hx.ts⟩ : CallFix (xp x) (xm x) c cc nL (xs x) (xa x) Gw own)) hM
    (cw := ⟨⟨rfl, rfl, (rmd_room hx hdp m7).1, (rmd_room hx (mc2 := mc2) hdp m7).2, Gw_ws hx m4, List.mem_cons_self, hx.ts _ m4, hx.ts _ m3, m5, hx_par m6, hx.ts _ g⟩, hx.ts _ m1, hx.ts _ m2⟩)
    ⟨PcE_blind, va_recv hx.kk hP.1 fc.1 (q0 := ps b) (ci := vi ci) (a := xad x b) (by rw [hx.gt he, cve_obj hb]), fun U hU hW => PcE_at hx hP hS (.ref b :: As) hU hW⟩
    rfl (by rw [List.length_map]; exact hn) hls hsk (by rw [cvv_cats]; exact (show 2 * 0 + _ ≤ 8 by omega)) d (rmd_cells hx hj)
  intro U hU X
  have hsub := hx.sb hS
  have hA : ∀ q, q < H.size → aA (xad x) (xN x) H.size q → xA x q := fun q _ h => hsub q h
  rcases hr U hU X with ⟨v, st₀, t, T', Lc, h0, X', hL, e1, e2, ⟨⟨v2, hv2, ho⟩, hP9, hF⟩, sp⟩ | ⟨q, st₀, t, T', Lc, E, ce, h0, X', hL, e1, e2, ⟨hE9, hP9, hF⟩, hce, hcv, hcl, sp⟩
  · cases ho
    obtain ⟨k1, k2, k3⟩ := vx_keep h0 e1 hS hA hsub hL hF
    have hb9 : cP x (cm r2.2) T'.heap := cP.back hx hP (by rw [e1]; exact hP9) (fun q h1 h2 => by rw [e1]; have h9 := hF.2 q (by rw [h0]; exact h1) h2; rw [h0] at h9; exact h9)
    obtain ⟨q2, w2⟩ := r2
    cases q2 with
    | inr E => cases hv2
    | inl u =>
      cases hv2
      obtain ⟨t2, a1, b1⟩ := kk u rfl T'.heap (locs ++ Lc) hb9 k3 T' rfl (by rw [Nat.mul_add]; exact X')
      exact ⟨t2, sp t2 a1, b1⟩
  · obtain ⟨k1, k2, k3⟩ := vx_keep h0 e1 hS hA hsub hL hF
    have hb9 : cP x (cm r2.2) T'.heap := cP.back hx hP (by rw [e1]; exact hP9) (fun q h1 h2 => by rw [e1]; have h9 := hF.2 q (by rw [h0]; exact h1) h2; rw [h0] at h9; exact h9)
    obtain ⟨q2, w2⟩ := r2
    cases q2 with
    | inl u => cases hE9
    | inr E0 =>
      cases hE9
      obtain ⟨t2, a1, b1⟩ := kx E rfl T'.heap (locs ++ Lc) q ce hb9 k3 (by rw [e1]; exact hce) hcv hcl T' rfl (by rw [Nat.mul_add]; exact X')
      exact ⟨t2, sp.trans a1, b1⟩
end Cat
set_option maxHeartbeats 1000000 in
theorem R_refused {x : Cx} (hx : CxOK x RL cL_isRefused 5 8 10 (some .boolean)) {c : Code} (hbs : c.code = cL_isRefused) (hml : c.maxLocals = 5) (htb : c.exceptionTable.toList = tableOf [(0, 24, 25, 182)]) {F a0 : Nat} (h0 : shK a0 = 10 + 8) {p1 p2 p3 : Int} {w : aI} {H : Heap} {locs : List Loc} {ls : Array Slot} {t : Bool × aI} (ht : f_L_isRefused F a0 p1 p2 p3 w = some t) (hP : cP x (cm w) H) (hS : va_S (xA x) (xs x).heap H locs) (hl : lv_has ls 5 [(0, .ref (xad x a0)), (1, .int (oI p1)), (2, .int (oI p2)), (3, .int (oI p3))]) :
    W (xp x) (xl x) (xe x) (xRm x) (xs x) (xm x) (xa x) (xb x) (xme x) c H locs 0 (6 * 0) (Qm x 10 (jvBW t)) (F0 (xm x) 0 ls []) := by
  have xst0 : xst (xN x) a0 := hx.ci h0 (by decide)
  have fin : ∀ (b : Bool) (w1 : aI) (pc j : Nat) (H1 : Heap) (locs1 : List Loc) (ls1 : Array Slot), t = (b, w1) → (pc = 24 ∨ pc = 28) → j ≤ 10 → cP x (cm w1) H1 → va_S (xA x) (xs x).heap H1 locs1 → W (xp x) (xl x) (xe x) (xRm x) (xs x) (xm x) (xa x) (xb x) (xme x) c H1 locs1 j (6 * j) (Qm x 10 (jvBW t)) (F0 (xm x) pc ls1 [.int (oI (bI b))]) := by
    intro b w1 pc j H1 locs1 ls1 e hpc hj hP1 hS1
    subst e
    have hd : decode cL_isRefused pc = .ok (.ireturn, 1) := by
      rcases hpc with rfl | rfl
      · exact dL_isRefused_24
      · exact dL_isRefused_28
    refine vx_ret (W.widen hj (Nat.mul_le_mul_left 6 hj) (W.zret (v := oI (bI b)) hx.ex hbs hx.rt (by cases b <;> rfl) (fun t ht hW => ⟨⟨some (.int (oI (bI b))), rfl, rfl⟩, by rw [ht]; exact hP1, hS1.F ht⟩) hS1.2.2 hd (hlocks := hx.lk)))
  have caught : ∀ (w1 : aI) (pc j : Nat) (H1 : Heap) (locs1 : List Loc) (q : Addr) (ce : Cell) (rest : List Value), t = (true, w1) → pc < 24 → j ≤ 10 → cP x (cm w1) H1 → va_S (xA x) (xs x).heap H1 locs1 → H1[q]? = some ce → ce.vm = .none → (xs x).vm.findClass "java/lang/IllegalStateException" = some ce.cls → vx_W (xp x) (xl x) (xe x) (xRm x) (xs x) (xm x) (xa x) (xb x) (xme x) c H1 locs1 j (6 * j) (Qm x 10 (jvBW t)) (F0 (xm x) pc ls rest) q := by
    intro w1 pc j H1 locs1 q ce rest e hpc hj hP1 hS1 hc hcv hcl
    refine vx_catch (name := "java/lang/IllegalStateException") hx.ow [] ⟨0, 24, 25, 182⟩ [] htb (fun z hz => absurd hz List.not_mem_nil) (by simp [covers]; omega) (by decide) (hx.ts _ g689) (va_Nw.use rfl (hx.xe.2.2.1.2.2.2 "java/lang/IllegalStateException" (by decide +kernel))) hc hcv hcl ?_
    refine lv_astore (lv' := [(4, .ref q), (0, .ref (xad x a0)), (1, .int (oI p1)), (2, .int (oI p2)), (3, .int (oI p3))]) hx.ex hbs dL_isRefused_25 hl (by decide) rfl (fun ls hl => ?_)
    refine lv_iconst (v := 1) hx.ex hbs dL_isRefused_27 (by decide) ?_
    exact fin true w1 28 j H1 locs1 ls e (Or.inr rfl) hj hP1 hS1
  have back : ∀ (v : Int32) (w1 : aI) (j : Nat) (H1 : Heap) (locs1 : List Loc), t = (false, w1) → j ≤ 10 → cP x (cm w1) H1 → va_S (xA x) (xs x).heap H1 locs1 → W (xp x) (xl x) (xe x) (xRm x) (xs x) (xm x) (xa x) (xb x) (xme x) c H1 locs1 j (6 * j) (Qm x 10 (jvBW t)) (F0 (xm x) 21 ls [.int v]) := by
    intro v w1 j H1 locs1 e hj hP1 hS1
    refine lv_istore (lv' := [(4, .int v), (0, .ref (xad x a0)), (1, .int (oI p1)), (2, .int (oI p2)), (3, .int (oI p3))]) hx.ex hbs dL_isRefused_21 hl (by decide) rfl (fun ls hl => ?_)
    refine lv_iconst (v := 0) hx.ex hbs dL_isRefused_23 (by decide) ?_
    exact fin false w1 24 j H1 locs1 ls e (Or.inl rfl) hj hP1 hS1
  unfold f_L_isRefused at ht
  by_cases hr : rg p1
  · rw [gd, if_pos hr] at ht
    refine lv_iload_n hx.ex hbs dL_isRefused_0 rfl (lv_at hl 1 rfl) ?_
    refine lv_if_ne (tgt := 13) hx.ex hbs dL_isRefused_1 rfl (fun q => ?_) (fun q => ?_)
    · rw [if_neg (fun e => q ((oI_eq0 hr).mpr e))] at ht
      refine lv_aload_n hx.ex hbs dL_isRefused_13 rfl (lv_at hl 0 rfl) ?_
      refine lv_iload_n hx.ex hbs dL_isRefused_14 rfl (lv_at hl 2 rfl) ?_
      refine lv_iload_n hx.ex hbs dL_isRefused_15 rfl (lv_at hl 3 rfl) ?_
      refine lv_iconst (v := 1) hx.ex hbs dL_isRefused_16 (by decide) ?_
      refine lv_iconst (v := 0) hx.ex hbs dL_isRefused_17 (by decide) ?_
      obtain ⟨r2, h2, h3⟩ := Option.bind_eq_some_iff.mp ht
      refine X_callV hx hbs hml [.int (oI p2), .int (oI p3), .int (oI 1), .int (oI 0)] [] (ev_X10_send F a0 h0 p2 p3 1 0 w) vm_X10_send fc8 h0 xst0 g803 dL_isRefused_18 rfl (Nat.le_of_ble_eq_true rfl) (Nat.le_of_ble_eq_true rfl) (Nat.le_of_ble_eq_true rfl) h2 hP hS hl.1 (fun v hv H1 locs1 hP1 hS1 => ?_) (fun E hE H1 locs1 q ce hP1 hS1 hc hcv hcl => ?_)
      · rw [hv] at h3
        exact back _ r2.2 _ H1 locs1 (Option.some.inj h3).symm (by decide) hP1 hS1
      · rw [hE] at h3
        by_cases eE : E = "java/lang/IllegalStateException"
        · subst eE
          exact caught r2.2 18 _ H1 locs1 q ce _ (Option.some.inj ((if_pos rfl).symm.trans h3)).symm (by decide) (by decide) hP1 hS1 hc hcv hcl
        · exact absurd ((if_neg eE).symm.trans h3) (fun z => nomatch z)
    · rw [if_pos ((oI_eq0 hr).mp q)] at ht
      refine lv_aload_n hx.ex hbs dL_isRefused_4 rfl (lv_at hl 0 rfl) ?_
      refine lv_iload_n hx.ex hbs dL_isRefused_5 rfl (lv_at hl 2 rfl) ?_
      refine lv_iload_n hx.ex hbs dL_isRefused_6 rfl (lv_at hl 3 rfl) ?_
      obtain ⟨r2, h2, h3⟩ := Option.bind_eq_some_iff.mp ht
      refine X_callV hx hbs hml [.int (oI p2), .int (oI p3)] [] (ev_X10_cut F a0 h0 p2 p3 w) vm_X10_cut fc8 h0 xst0 g690 dL_isRefused_7 rfl (Nat.le_of_ble_eq_true rfl) (Nat.le_of_ble_eq_true rfl) (Nat.le_of_ble_eq_true rfl) h2 hP hS hl.1 (fun v hv H1 locs1 hP1 hS1 => ?_) (fun E hE H1 locs1 q ce hP1 hS1 hc hcv hcl => ?_)
      · rw [hv] at h3
        refine lv_goto (tgt := 21) hx.ex hbs dL_isRefused_10 (by decide) ?_
        exact back _ r2.2 _ H1 locs1 (Option.some.inj h3).symm (by decide) hP1 hS1
      · rw [hE] at h3
        by_cases eE : E = "java/lang/IllegalStateException"
        · subst eE
          exact caught r2.2 7 _ H1 locs1 q ce _ (Option.some.inj ((if_pos rfl).symm.trans h3)).symm (by decide) (by decide) hP1 hS1 hc hcv hcl
        · exact absurd ((if_neg eE).symm.trans h3) (fun z => nomatch z)
  · rw [gd, if_neg hr] at ht
    cases ht
theorem ev_L_isRefused (F : Nat) (a0 : Nat) (h0 : shK a0 = 10 + 8) (p1 p2 p3 : Int) (w : aI) : EvX yL_isRefused cL_isRefused 5 (some .boolean) [(0, 24, 25, 182)] 8 10 jvBW [.ref a0, .int (oI p1), .int (oI p2), .int (oI p3)] (cm w) (f_L_isRefused F a0 p1 p2 p3 w) := by
  intro t ht hne l htr D ad aT N adV sz
  refine vx_ofWH (hh := [(0, 24, 25, 182)]) (cc := cL_isRefused) (maxL := 5) (ret := some .boolean) (by decide +kernel) rfl ?_
  intro p e s m args below meth c s₁ B hml hv
  obtain ⟨rfl, rfl, ⟨hP, hW9⟩, hK, ⟨hN, hA⟩, hX⟩ := hv
  have hts := atoms_spec (ws := .codeWith yL_isRefused cL_isRefused 5 (some .boolean) [(0, 24, 25, 182)] :: Gw) B.pre
  have htb := vx_table (x := yL_isRefused) B (hts _ List.mem_cons_self)
  have hl := lv_entry ([Value.ref a0, .int (oI p1), .int (oI p2), .int (oI p3)].map (cvv ad)) (n := 5) (by rw [cvv_sl]; exact Nat.le_of_ble_eq_true rfl)
  rw [lg_entry_eq]
  exact R_refused (x := (p, l, e, rmd 8 10, s, m, ([Value.ref a0, .int (oI p1), .int (oI p2), .int (oI p3)].map (cvv ad)).toArray, below, meth, { c with exceptionTable := #[] }, D, ad, aT, adV, N, aA ad N s.heap.size, []))
    ⟨B.exec, B.bytes, hml, findClass_of_methodNamed B.named, fun w hw => hts w (List.mem_cons_of_mem _ hw), fun z hz => (by cases hz), B.notSynchronized, htr, hK, ⟨hN, fun w => by show va_D _ (conc ad aT N w ++ []); rw [List.append_nil]; exact conc_D hN.1 hA aT w, fun q hq => Or.inr hq⟩, hX, rfl, B.returns⟩
    B.bytes hml htb h0 ht ⟨by show va_P D vwCl (conc ad aT N (cm w) ++ []) s.heap; rw [List.append_nil]; exact hP, hW9⟩ va_S.rf hl
