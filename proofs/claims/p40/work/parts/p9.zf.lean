/-! ===== the law's entry, from pc 0 ===== -/
def R_law : String := "WhistlePostsLaw"
def lw_P (b : Addr) (xs : List Int32) (args : Array Value) (s : State) : Prop := args = #[.ref b] ∧ s.IntsAt b xs ∧ xs.length ≤ 260 ∧ (Jvm.Cond.and given_1 narrow_1).before args s = true
def lw_Q (_ : Array Value) (s : State) (o : Outcome) (t : State) : Prop := o = .returned (some (.int 1)) ∧ Framed s o t [] 600086 7301442
def lw_Z (below : List Frame) (a : Array Value) (s : State) : State → Prop := fun t => ∃ o, t.status = .running ∧ Ended t below o ∧ lw_Q a s o t
/-- the law's own end, with 1 on the stack, nothing written that was there before, its room as the claim has it -/
theorem lw_ret {p : Program} {l : Launch} {e : Env} {s : State} {m : MethodId} {below : List Frame} {meth : Method} {c : Code} {b : Nat} (hx : p.tables.exec = Jvm.exec) (hb : c.code = code) (hr : meth.sig.returnType = ret) (hlocks : meth.locks = false) {pc : Nat} {H : Heap} {ls : Array Slot} (hdg : decode code pc = .ok (.ireturn, 1)) : W p l e room_1 s m #[Value.ref b] below meth c H [] 600086 7301442 (lw_Z below #[Value.ref b] s) (F0 m pc ls [.int 1]) := by
  intro T hT X
  obtain ⟨fs, hret, hrun, hended, hW, hframe⟩ := X.leave (v := some (.int 1)) (hlocks := hlocks) (fun h => by rw [hr] at h; cases h)
  have hmeth' : T.vm.method? m = some meth := X.method'
  refine ⟨T.setFrames fs, ?_, .returned (some (.int 1)), hrun, hended, rfl, ⟨_, rfl⟩, hW, hframe⟩
  jvm_step X.here [X.here.top, hx, hb, hdg, hmeth', hr, ret, narrow_b1]
  (try refine ⟨rfl, ?_⟩); (try refine ⟨rfl, ?_⟩)
  first | (intro acts; rw [hret _ acts rfl rfl rfl]) | rw [hret _ _ rfl rfl rfl]
  exact Steps.refl _
/-- what holds at the law's entry: the machine, the code, the tables' words (any of lw_tbl by 'hts w (by decide +kernel)'), the script of L ints xs at the cell b, what the Statement gives of the start (any of its parts by flat_of_before) -/
def lw_At (p : Program) (s : State) (m : MethodId) (meth : Method) (c : Code) (b L : Nat) (xs : Nat → Int32) : Prop :=
  p.tables.exec = Jvm.exec ∧ c.code = code ∧ meth.sig.returnType = ret ∧ c.maxLocals = 9 ∧ s.vm.findClass R_law = some m.cls ∧ (∀ w ∈ lw_tbl, w.before #[Value.ref b] s = true) ∧ va_X b L xs s s.heap ∧ b < s.heap.size ∧ meth.locks = false ∧ (Jvm.Cond.and given_1 narrow_1).before #[Value.ref b] s = true
theorem ws_start {args : Array Value} {s : State} (htG : ∀ w ∈ Gw, w.before args s = true) {w0 : Cond} (h0 : w0 ∈ Gw) : ∀ w ∈ (w0 :: Gw), ∀ (a' : Array Value) (U : State), s.WarmedH U.vm → w.before a' U = true := by
  intro v hv a' U hW
  have h : v ∈ Gw := by
    rcases List.mem_cons.mp hv with h | h
    · rw [h]; exact h0
    · exact h
  exact word_at hW (good_of_word (gw_good v h)) (htG v h)
def Run_Lw (D : va_G) (aT : Nat → ClassId) (q1 : Nat) : Option Value → va_W → Prop := fun v w1 => v = none ∧ ∃ u : (Nat → Nat) × (Nat → Nat) × (Nat → Nat), u.1 0 = q1 ∧ w1 = wLw aT u.1 u.2.1 u.2.2
theorem run_Lw {p : Program} {l : Launch} {e : Env} {R : Room} {s : State} {m : MethodId} {args : Array Value} {below : List Frame} {meth : Method} {c : Code} {H : Heap} {locs : List Loc} {cells slots : Nat} {D : va_G} {aT : Nat → ClassId} {q1 : Nat} {g : JFrame} {rest : List Value} {a : Array Value} {mc ms : Nat}
    (h : va_Run p l e R s m args below meth c H locs cells slots mc ms g rest (LwKQ D aT q1 H.size a) (va_A [(q1, iLs)] H.size)) : va_Run p l e R s m args below meth c H locs cells slots mc ms g rest (BcQ D [(q1, iLs)] H.size (Run_Lw D aT q1) a) (va_A [(q1, iLs)] H.size) := by
  intro T hT X
  obtain ⟨v, st₀, t, T', L, h0, X', hL, e1, e2, ⟨⟨u, ho, hu, hP, hD⟩, hF⟩, sp⟩ := h T hT X
  exact ⟨v, st₀, t, T', L, h0, X', hL, e1, e2, ⟨⟨none, wLw aT u.1 u.2.1 u.2.2, ho, ⟨rfl, u, hu, rfl⟩, hP, hD⟩, hF⟩, sp⟩
set_option maxHeartbeats 4000000 in
set_option maxRecDepth 100000 in
theorem whole_start {p : Program} {e : Env} {s : State} {m : MethodId} {below : List Frame} {meth : Method} {c : Code} (l : Launch) (hflags : l.flags = flags0) {b L : Nat} {xs : Nat → Int32} (hL : L ≤ 260) (C0 : lw_At p s m meth c b L xs) : W p l e room_1 s m #[Value.ref b] below meth c s.heap [] 0 0 (lw_Z below #[Value.ref b] s) (entryFrame m ([Value.ref b] : List Value).toArray 9) := by
  obtain ⟨hx, hb, hr, hml, hown, hts, hX, hbl, hlocks, hgv⟩ := id C0
  have htr : l.stackTraces = false := by
    unfold Launch.stackTraces
    rw [hflags]
    decide +kernel
  have htG : ∀ w ∈ Gw, w.before #[Value.ref b] s = true := fun w h => hts w (gw_lw w h)
  have hf : ∀ w ∈ F9, w.before #[Value.ref b] s = true := flat_of_before _ hgv
  have hA : ∀ q : Nat, s.heap.size ≤ q → (fun q : Nat => s.heap.size ≤ q) q := fun _ h => h
  have hnA : ∀ a : Nat, a < s.heap.size → ¬ (fun q : Nat => s.heap.size ≤ q) a := fun a h => Nat.not_le.mpr h
  have hbA : ¬ (fun q : Nat => s.heap.size ≤ q) b := Nat.not_le.mpr hbl
  obtain ⟨ad0, hXE⟩ := XE_start (A := fun q : Nat => s.heap.size ≤ q) hf hts hnA
  obtain ⟨d1, d2, hFD⟩ := FD_start (A := fun q : Nat => s.heap.size ≤ q) hf hts hnA
  have hPV := PVs_start hts
  obtain ⟨D, aT, cB, hKB, hRA⟩ := K_start hts
  have hKt : va_K D vwCl (tysA aT) s := hKB.sub (tys' := tysA aT) [0, 1, 2] rfl
  have hK : KA D aT s := ⟨hKt, hRA⟩
  have hAO : va_AO "WhistlePosts$Post" s := va_AO.of (hts _ (lw_at 184 (by decide +kernel)))
  have hAA : va_AOA .int s := hts (Cond.arrayOver (.array .int)) (lw_at 543 (by decide +kernel))
  have hl := lv_entry ([.ref b]) (n := 9) (Nat.le_of_ble_eq_true rfl)
  rw [lg_entry_eq]
  generalize (lg_sl ([.ref b]) ++ List.replicate (9 - (lg_sl ([.ref b])).length) Slot.unset).toArray = ls at hl ⊢
  have hl : lv_has ls 9 [(0, .ref b)] := hl
  have hS : va_S (fun q : Nat => s.heap.size ≤ q) s.heap s.heap [] := va_S.rf
  have hP : va_P D vwCl [] s.heap := fun k q h => by simp at h
  have hD : va_D (fun q : Nat => s.heap.size ≤ q) [] := ⟨fun i j p q h => by simp at h, fun k q h => by simp at h⟩
  refine va_new (ci := 10) (fs := iW0) (C := RX10) (T := TX10) (N := 10) hx hb htG fc8.2.1 tyX10 tyX10_ok hown (htG _ g56) (htG _ gy57) (htG _ g27) hKt hP hD hS hA rfl (fun j hj => by rcases (show j = 0 ∨ j = 1 ∨ j = 2 ∨ j = 3 ∨ j = 4 ∨ j = 5 ∨ j = 6 ∨ j = 7 ∨ j = 8 ∨ j = 9 by omega) with rfl | rfl | rfl | rfl | rfl | rfl | rfl | rfl | rfl | rfl <;> rfl) (by decide) (by decide) dL_law_0 (fun q0 H hP hD hS => ?_)
  have hP : va_P D vwCl [(q0, iWs)] H := hP
  have hD : va_D (fun q : Nat => s.heap.size ≤ q) [(q0, iWs)] := hD
  refine lv_dup hx hb dL_law_3 rfl ?_
  have hF0 : ∀ q, va_A [(q0, iWs)] H.size q → s.heap.size ≤ q := by
    rintro q (⟨k, e, hk⟩ | h)
    · exact hD.2 k _ hk
    · exact Nat.le_trans hS.1 h
  refine va_callv (va_runI (As := []) (rest := [.ref q0]) ⟨hx, hb, hml, hown, htG⟩ (ct_W l htr D aT ad0 (fun _ => 0) q0 H.size) ⟨⟨rfl, rfl, by decide, by decide, ws_start htG g60, List.mem_cons_self, htG _ g60, htG _ g27, ⟨by decide +kernel, by decide +kernel⟩, hx_par (n := 0) (by decide +kernel), htG _ g58⟩, rfl, htG _ gy59⟩ ⟨fun a U g mk q => by
      obtain ⟨b0, b1, b2, b3, b4, b5⟩ := q
      exact ⟨b0, b1, b2, KA.moved (u := U) (U := U.calling g mk a) (Vm.Alike.refl U.vm) b3, va_AO.moved (u := U) (U := U.calling g mk a) (Vm.Alike.refl U.vm) b4, XE.warm (s := U) (U := U.calling g mk a) (State.WarmedH.refl U) b5⟩, fun U hU hW => ⟨rfl, by rw [hU], by rw [hU]; exact hP, KA.moved hW.alike hK, va_AO.moved hW.alike hAO, by
      rw [hU]
      exact ((hXE.kept hS.2.1).narrow hF0).warm hW⟩⟩ rfl rfl hl.1 rfl (lv_room (Nat.le_of_ble_eq_true rfl)) dL_law_4 ⟨by decide, by decide⟩) hS (fun q _ h => hF0 q h) hF0 (fun u t H1 locs ht hvm hw hB hz1 hk1 hS1 => ?_)
  obtain ⟨ad1, w1⟩ := u
  obtain ⟨hP1, hD1⟩ := hB
  rw [ht] at hP1
  obtain ⟨hw0, hw1, hCI, -⟩ := hw
  dsimp only at hw0 hw1 hCI hP1 hD1
  have hD1 : va_D (fun q : Nat => s.heap.size ≤ q) (conc ad1 aT 210 (cm w1)) := hD1.weaken (fun k q _ h => hF0 q.1 h)
  refine lv_astore_n (lv' := [(1, .ref q0), (0, .ref b)]) hx hb dL_law_7 rfl hl (by decide) rfl (fun ls hl => ?_)
  refine va_new (ci := 11) (fs := iL0) (C := RL) (T := TL) (N := 34) hx hb htG fc10.2.1 tyL tyL_ok hown (htG _ g536) (htG _ gy537) (htG _ g26) hKt hP1 hD1 hS1 hA rfl (fun j hj => by rcases (show j = 0 ∨ j = 1 ∨ j = 2 ∨ j = 3 ∨ j = 4 ∨ j = 5 ∨ j = 6 ∨ j = 7 ∨ j = 8 ∨ j = 9 ∨ j = 10 ∨ j = 11 ∨ j = 12 ∨ j = 13 ∨ j = 14 ∨ j = 15 ∨ j = 16 ∨ j = 17 ∨ j = 18 ∨ j = 19 ∨ j = 20 ∨ j = 21 ∨ j = 22 ∨ j = 23 ∨ j = 24 ∨ j = 25 ∨ j = 26 ∨ j = 27 ∨ j = 28 ∨ j = 29 ∨ j = 30 ∨ j = 31 ∨ j = 32 ∨ j = 33 by omega) with rfl | rfl | rfl | rfl | rfl | rfl | rfl | rfl | rfl | rfl | rfl | rfl | rfl | rfl | rfl | rfl | rfl | rfl | rfl | rfl | rfl | rfl | rfl | rfl | rfl | rfl | rfl | rfl | rfl | rfl | rfl | rfl | rfl | rfl <;> rfl) (by decide) (by decide) dL_law_8 (fun q1 H2 hP2 hD2 hS2 => ?_)
  have hS2 : Sx D (fun q : Nat => s.heap.size ≤ q) s.heap (conc ad1 aT 210 (cm w1) ++ [(q1, iLs)]) H2 locs := ⟨hP2, hD2, hS2⟩
  refine lv_dup hx hb dL_law_11 rfl ?_
  have hP3 : va_P D vwCl [(q1, iLs)] H2 := by
    intro k q hk
    exact hS2.1 ((conc ad1 aT 210 (cm w1)).length + k) q (by rw [List.getElem?_append_right (Nat.le_add_right _ _), Nat.add_sub_cancel_left]; exact hk)
  refine B_run (wr := conc ad1 aT 210 (cm w1)) (run_Lw (va_runI (As := []) (rest := [.ref q1]) ⟨hx, hb, hml, hown, htG⟩ (ct_Lw l D aT q1 H2.size) ⟨⟨rfl, rfl, by decide, by decide, ws_start htG g540, List.mem_cons_self, htG _ g540, htG _ g26, ⟨by decide +kernel, by decide +kernel⟩, hx_par (n := 0) (by decide +kernel), htG _ g538⟩, rfl, htG _ gy539⟩ ⟨fun a U g mk q => by
      obtain ⟨b0, b1, b2, b3, b4, b5⟩ := q
      exact ⟨b0, b1, b2, KA.moved (u := U) (U := U.calling g mk a) (Vm.Alike.refl U.vm) b3, va_AO.moved (u := U) (U := U.calling g mk a) (Vm.Alike.refl U.vm) b4, AOA.moved (u := U) (U := U.calling g mk a) (Vm.Alike.refl U.vm) b5⟩, fun U hU hW => ⟨rfl, by rw [hU], by rw [hU]; exact hP3, KA.moved hW.alike hK, va_AO.moved hW.alike hAO, AOA.moved hW.alike hAA⟩⟩ rfl rfl hl.1 rfl (lv_room (Nat.le_of_ble_eq_true rfl)) dL_law_12 ⟨by decide, by decide⟩)) hS2 hA (fun v w2 H3 locs3 hu hS3 => ?_)
  obtain ⟨rfl, ⟨q, r6, r7⟩, hq0, rfl⟩ := hu
  dsimp only at hq0 hS3
  have hL3 := lw_conc hS3
  refine lv_astore_n (lv' := [(2, .ref q1), (1, .ref q0), (0, .ref b)]) hx hb dL_law_15 rfl hl (by decide) rfl (fun ls hl => ?_)
  have e0 : adW ad1 q r6 r7 0 = q0 := by rw [adW_o (by decide)]; exact hw0
  have e3 : adW ad1 q r6 r7 300 = q1 := hq0
  have hl9 : lv_has ls 9 [(2, .ref (adW ad1 q r6 r7 300)), (1, .ref (adW ad1 q r6 r7 0)), (0, .ref b)] := by
    rw [e0, e3]
    exact hl
  have hM : MzC p l room_1 s m #[Value.ref b] meth c D aT cB (adW ad1 q r6 r7) (fun _ => 0) (fun q => s.heap.size ≤ q) b L xs d1 d2 := ⟨⟨hx, hb, hml, hown, htG, hlocks, htr, ⟨hKB, hRA⟩, XE_cg (fun i hi => by rw [adW_o (by omega)]; exact hw1 i (by omega)) hXE, hA⟩, hPV, ⟨hX, hbl, hbA⟩, hFD, by omega, by decide, by decide⟩
  refine law_body hM hCI (c0 := 0 + 1 + 300 + 1 + 30) (s0 := 0 + 10 + 30000 + 34 + 450) ⟨by decide, by decide⟩ (fun H1 locs1 ls1 hS9 => ?_) hL3 hl9
  refine va_forget hS9.2.2 ?_
  refine lv_iconst (v := 1) hx hb dL_law_554 (by decide) ?_
  exact W.widen (k := 600086) (n := 7301442) (by decide) (by decide) (lw_ret hx hb hr hlocks dL_law_555)
