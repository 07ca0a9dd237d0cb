/-! ===== the law's entry ===== -/
theorem gi1935 : (Cond.arrayClass Jvm.ClassFile.FieldType.long) ∈ Gw := gw_in 1935 (by decide +kernel) (by decide +kernel)
theorem va_D_rot {A : Nat → Prop} {X : va_W} {y : Nat × va_E} (h : va_D A (X ++ [y])) : va_D A (y :: X) := by
  have ix : ∀ (k : Nat) (q : Nat × va_E), (y :: X)[k]? = some q → (X ++ [y])[if k = 0 then X.length else k - 1]? = some q := by
    intro k q hk
    cases k with
    | zero =>
      cases hk
      rw [if_pos rfl, List.getElem?_append_right (Nat.le_refl _), Nat.sub_self]
      rfl
    | succ k =>
      rw [List.getElem?_cons_succ] at hk
      have hl := (List.getElem?_eq_some_iff.mp hk).1
      rw [if_neg (Nat.succ_ne_zero k), Nat.add_sub_cancel, List.getElem?_append_left hl]
      exact hk
  refine ⟨fun i j p q hi hj e => ?_, fun k q hk => h.2 _ q (ix k q hk)⟩
  have h1 := h.1 _ _ p q (ix i p hi) (ix j q hj) e
  have hli := (List.getElem?_eq_some_iff.mp hi).1
  have hlj := (List.getElem?_eq_some_iff.mp hj).1
  rw [List.length_cons] at hli hlj
  split at h1 <;> split at h1 <;> omega
theorem va_P_rot {D : va_G} {cl : List vw_C} {X : va_W} {y : Nat × va_E} {H : Heap} (h : va_P D cl (X ++ [y]) H) : va_P D cl (y :: X) H := by
  rw [va_P_mem] at h ⊢
  intro q hq
  refine h q ?_
  rcases List.mem_cons.mp hq with h1 | h1
  · exact List.mem_append.mpr (Or.inr (by rw [h1]; exact List.mem_singleton.mpr rfl))
  · exact List.mem_append.mpr (Or.inl h1)
theorem ws_start {args : Array Value} {s : State} (htG : ∀ w ∈ Gw, w.before args s = true) {w0 : Cond} (h0 : w0 ∈ Gw) : ∀ w ∈ (w0 :: Gw), ∀ (a' : Array Value) (U : State), s.WarmedH U.vm → w.before a' U = true := by
  intro v hv a' U hW
  have h : v ∈ Gw := by
    rcases List.mem_cons.mp hv with h | h
    · rw [h]; exact h0
    · exact h
  exact word_at hW (good_of_word (gw_good v h)) (htG v h)
set_option maxHeartbeats 4000000 in
set_option maxRecDepth 100000 in
theorem whole_start {p : Program} {e : Env} {s : State} {m : MethodId} {below : List Frame} {meth : Method} {c : Code} (l : Launch) (hflags : l.flags = flags0) {b L : Nat} {xs : Nat → Int32} (hL : L ≤ 3072) (C0 : lw_At p s m meth c b L xs) : W p l e room_1 s m #[Value.ref b] below meth c s.heap [] 0 0 (lw_Z below #[Value.ref b] s) (entryFrame m ([Value.ref b] : List Value).toArray 9) := by
  obtain ⟨hx, hb, hr, hml, hown, hts, hX, hbl, hlocks, hgv⟩ := id C0
  have htr : l.stackTraces = false := by
    unfold Launch.stackTraces
    rw [hflags]
    decide +kernel
  have htG : ∀ w ∈ Gw, w.before #[Value.ref b] s = true := fun w h => hts w (gw_lw w h)
  have hf : ∀ w ∈ F9, w.before #[Value.ref b] s = true := flat_of_before _ hgv
  have hA : ∀ q : Nat, s.heap.size ≤ q → (fun q : Nat => s.heap.size ≤ q) q := fun _ h => h
  have hnA : ∀ a : Nat, a < s.heap.size → ¬ (fun q : Nat => s.heap.size ≤ q) a := fun a h => Nat.not_le.mpr h
  have hbA : ¬ (fun q : Nat => s.heap.size ≤ q) b := Nat.not_le.mpr hbl
  obtain ⟨ad0, hXE⟩ := XE_start (A := fun q : Nat => s.heap.size ≤ q) hf hts hnA
  obtain ⟨D, aT, hK⟩ := K_start hts
  have hAO : va_AO "WhistlePosts$Post" s := va_AO.of (hts _ (lw_at 270 (by decide +kernel)))
  have hl := lv_entry ([.ref b]) (n := 9) (Nat.le_of_ble_eq_true rfl)
  rw [lg_entry_eq]
  generalize (lg_sl ([.ref b]) ++ List.replicate (9 - (lg_sl ([.ref b])).length) Slot.unset).toArray = ls at hl ⊢
  have hl : lv_has ls 9 [(0, .ref b)] := hl
  have hS : va_S (fun q : Nat => s.heap.size ≤ q) s.heap s.heap [] := va_S.rf
  have hP : va_P D vwCl [] s.heap := fun k q h => by simp at h
  have hD : va_D (fun q : Nat => s.heap.size ≤ q) [] := ⟨fun i j p q h => by simp at h, fun k q h => by simp at h⟩
  refine va_new (ci := 8) (fs := iW0) (C := RX10) (T := TX10) (N := 10) hx hb htG fc8.2.1 tyX10 tyX10_ok hown (htG _ g134) (htG _ gi135) (htG _ g108) hK hP hD hS hA fc8.1 (fun j hj => by rcases (show j = 0 ∨ j = 1 ∨ j = 2 ∨ j = 3 ∨ j = 4 ∨ j = 5 ∨ j = 6 ∨ j = 7 ∨ j = 8 ∨ j = 9 by omega) with rfl | rfl | rfl | rfl | rfl | rfl | rfl | rfl | rfl | rfl <;> rfl) (by decide) (by decide) dL_law_0 (fun q0 H hP hD hS => ?_)
  have hP : va_P D vwCl [(q0, iWs)] H := hP
  have hD : va_D (fun q : Nat => s.heap.size ≤ q) [(q0, iWs)] := hD
  refine lv_dup hx hb dL_law_3 rfl ?_
  have hF0 : ∀ q, va_A [(q0, iWs)] H.size q → s.heap.size ≤ q := by
    rintro q (⟨k, e, hk⟩ | h)
    · exact hD.2 k _ hk
    · exact Nat.le_trans hS.1 h
  refine va_callv (va_runI (As := []) (rest := [.ref q0]) ⟨hx, hb, hml, hown, htG⟩ (ct_W l htr D aT ad0 (fun _ => 0) q0 H.size) ⟨⟨rfl, rfl, by decide, by decide, ws_start htG g138, List.mem_cons_self, htG _ g138, htG _ g108, ⟨by decide +kernel, by decide +kernel⟩, hx_par (n := 0) (by decide +kernel), htG _ g136⟩, rfl, htG _ g137⟩ ⟨fun a U g mk q => by
      obtain ⟨b0, b1, b2, b3, b4, b5⟩ := q
      exact ⟨b0, b1, b2, va_K.moved (u := U) (U := U.calling g mk a) (Vm.Alike.refl U.vm) b3, va_AO.moved (u := U) (U := U.calling g mk a) (Vm.Alike.refl U.vm) b4, XE.warm (s := U) (U := U.calling g mk a) (State.WarmedH.refl U) b5⟩, fun U hU hW => ⟨rfl, by rw [hU], by rw [hU]; exact hP, va_K.moved hW.alike hK, va_AO.moved hW.alike hAO, by
      rw [hU]
      exact ((hXE.kept hS.2.1).narrow hF0).warm hW⟩⟩ rfl rfl hl.1 rfl (lv_room (Nat.le_of_ble_eq_true rfl)) dL_law_4 ⟨by decide, by decide⟩) hS (fun q _ h => hF0 q h) hF0 (fun u t H1 locs ht hvm hw hB hz1 hk1 hS1 => ?_)
  obtain ⟨ad1, w1⟩ := u
  obtain ⟨hP1, hD1⟩ := hB
  rw [ht] at hP1
  obtain ⟨hw0, hw1, hCI⟩ := hw
  dsimp only at hw0 hw1 hCI hP1 hD1
  have hD1 : va_D (fun q : Nat => s.heap.size ≤ q) (conc_k ad1 aT (cm w1)) := hD1.weaken (fun k q _ h => hF0 q.1 h)
  refine lv_astore_n (lv' := [(1, .ref q0), (0, .ref b)]) hx hb dL_law_7 rfl hl (by decide) rfl (fun ls hl => ?_)
  refine va_new (ci := 9) (fs := iM0) (C := RX11) (T := TX11) (N := 28) hx hb htG fc9.2.1 tyX11 tyX11_ok hown (htG _ g1305) (htG _ gi1306) (htG _ g123) hK hP1 hD1 hS1 hA fc9.1 (fun j hj => by rcases (show j = 0 ∨ j = 1 ∨ j = 2 ∨ j = 3 ∨ j = 4 ∨ j = 5 ∨ j = 6 ∨ j = 7 ∨ j = 8 ∨ j = 9 ∨ j = 10 ∨ j = 11 ∨ j = 12 ∨ j = 13 ∨ j = 14 ∨ j = 15 ∨ j = 16 ∨ j = 17 ∨ j = 18 ∨ j = 19 ∨ j = 20 ∨ j = 21 ∨ j = 22 ∨ j = 23 ∨ j = 24 ∨ j = 25 ∨ j = 26 ∨ j = 27 by omega) with rfl | rfl | rfl | rfl | rfl | rfl | rfl | rfl | rfl | rfl | rfl | rfl | rfl | rfl | rfl | rfl | rfl | rfl | rfl | rfl | rfl | rfl | rfl | rfl | rfl | rfl | rfl | rfl <;> rfl) (by decide) (by decide) dL_law_8 (fun q1 H2 hP2 hD2 hS2 => ?_)
  have hP2 : va_P D vwCl ((q1, iMs) :: conc_k ad1 aT (cm w1)) H2 := va_P_rot hP2
  have hD2 : va_D (fun q : Nat => s.heap.size ≤ q) ((q1, iMs) :: conc_k ad1 aT (cm w1)) := va_D_rot hD2
  refine lv_dup hx hb dL_law_11 rfl ?_
  have hF1 : ∀ q, va_A ((q1, iMs) :: conc_k ad1 aT (cm w1)) H2.size q → s.heap.size ≤ q := by
    rintro q (⟨k, e, hk⟩ | h)
    · exact hD2.2 k _ hk
    · exact Nat.le_trans hS2.1 h
  have hXE1 := XE_cg hw1 hXE
  refine va_callv (va_runI (As := []) (rest := [.ref q1]) ⟨hx, hb, hml, hown, htG⟩ (ct_M l htr D aT ad1 (fun _ => 0) q1 H2.size hCI) ⟨⟨rfl, rfl, by decide, by decide, ws_start htG g1309, List.mem_cons_self, htG _ g1309, htG _ g123, ⟨by decide +kernel, by decide +kernel⟩, hx_par (n := 0) (by decide +kernel), htG _ g1307⟩, rfl, htG _ g1308⟩ ⟨fun a U g mk q => by
      obtain ⟨b0, b1, b2, b6, b3, b4, b5⟩ := q
      exact ⟨b0, b1, b2, b6, va_K.moved (u := U) (U := U.calling g mk a) (Vm.Alike.refl U.vm) b3, va_AO.moved (u := U) (U := U.calling g mk a) (Vm.Alike.refl U.vm) b4, XE.warm (s := U) (U := U.calling g mk a) (State.WarmedH.refl U) b5⟩, fun U hU hW => ⟨rfl, by rw [hU], by rw [hU]; exact hP2, hD2.weaken (fun _ _ _ _ => trivial), va_K.moved hW.alike hK, va_AO.moved hW.alike hAO, by
      rw [hU]
      exact ((hXE1.kept hS2.2.1).narrow hF1).warm hW⟩⟩ rfl rfl hl.1 rfl (lv_room (Nat.le_of_ble_eq_true rfl)) dL_law_12 ⟨by decide, by decide⟩) hS2 (fun q _ h => hF1 q h) hF1 (fun u t H3 locs ht hvm hw hB hz1 hk1 hS3 => ?_)
  obtain ⟨ad, w2⟩ := u
  obtain ⟨hP3, hD3⟩ := hB
  rw [ht] at hP3
  obtain ⟨hv0, hv1, hv2, hI⟩ := hw
  dsimp only at hv0 hv1 hv2 hI hP3 hD3
  have hD3 : va_D (fun q : Nat => s.heap.size ≤ q) (conc ad aT (cm w2)) := hD3.weaken (fun k q _ h => hF1 q.1 h)
  refine lv_astore_n (lv' := [(2, .ref q1), (1, .ref q0), (0, .ref b)]) hx hb dL_law_15 rfl hl (by decide) rfl (fun ls hl => ?_)
  refine lv_iconst (v := 1) hx hb dL_law_16 (by decide) ?_
  refine va_newa (atype := .long) (ty := .long) (a0 := (1, .inr (.inl fun _ => 0))) hx hb (htG _ gi1935) rfl hK hP3 hD3 hS3 hA (fun _ => rfl) (by decide) (by decide) (by decide) (by decide) (by decide) dL_law_17 (fun ao aL H4 hK4 hP4 hD4 hS4 => ?_)
  refine lv_astore_n (lv' := [(3, .ref ao), (2, .ref q1), (1, .ref q0), (0, .ref b)]) hx hb dL_law_19 rfl hl (by decide) rfl (fun ls hl => ?_)
  refine lv_iconst (v := nI (6 * 0)) hx hb dL_law_20 (by decide) ?_
  refine lv_istore (lv' := [(4, .int (nI (6 * 0))), (3, .ref ao), (2, .ref q1), (1, .ref q0), (0, .ref b)]) hx hb dL_law_21 hl (by decide) rfl (fun ls hl => ?_)
  refine W.widen (k := 1000 + 4 * 0) (n := 100000 + 24 * 0) (by decide) (by decide) ?_
  have e0 : ad 0 = q0 := by rw [hv1 0 (by decide)]; exact hw0
  have hc : LwC p l s m meth c D aT aL ad (fun _ => 0) (fun q => s.heap.size ≤ q) b L xs := ⟨⟨hx, hb, hml, hown, htG, hlocks, htr, hK4, XE_cg hv2 hXE1, hA⟩, XNc_start hf, hX, hbl, hbA⟩
  have hl9 : lv_has ls 9 (LL ad b ao (nI (6 * 0))) := by
    have h9 := lv_sub (l' := [(0, .ref b), (1, .ref q0), (2, .ref q1), (3, .ref ao), (4, .int (nI (6 * 0)))]) hl [4, 3, 2, 1, 0] rfl
    unfold LL
    rw [e0, hv0]
    exact h9
  exact law_loop hc hr hL 600 0 (by omega) (by omega) w2 (fun _ => 0) H4 locs ls hI ⟨hP4, hD4, hS4⟩ hl9
