/-! ===== the law's body: reckoned, told, loaded, compared ===== -/
section TL
variable {p : Program} {l : Launch} {e : Env} {R : Room} {s : State} {m : MethodId} {args : Array Value} {below : List Frame} {meth : Method} {c : Code} {Q : State → Prop}
variable {D : va_G} {aT : Nat → ClassId} {cB : ClassId} {ad adV : Nat → Nat} {A : Nat → Prop} {sc L : Nat} {xs : Nat → Int32} {d1 d2 : Nat}
theorem law_tail (hM : MzC p l R s m args meth c D aT cB ad adV A sc L xs d1 d2) {z wc : aI} (hz : LwI z (dzT (Czi L xs))) (hC : CI wc) (hcl : ∀ a, a < 210 → z a = wc a) {b c0 s0 : Nat} {x3 x6 : Value} (hcs : c0 + 121000 ≤ R.cells ∧ s0 + 731000 ≤ R.slots)
    (kk : ∀ (H1 : Heap) (locs1 : List Loc) (ls1 : Array Slot), va_S A s.heap H1 locs1 → W p l e R s m args below meth c H1 locs1 (c0 + 121000) (s0 + 731000) Q (F0 m 554 ls1 [])) {X : va_W} {H : Heap} {locs : List Loc} {ls : Array Slot} (hT : BT cB b (oLz (txz (rfL (dzT (Czi L xs)) (tR (dzT (Czi L xs))).toNat ++ wyA (dzT (Czi L xs)) (tR (dzT (Czi L xs))).toNat))) X) (hL : Lx D ad aT 241 A s.heap (cm z) X H locs) (hl : lv_has ls 9 [(6, x6), (5, .int (nI (wyA (dzT (Czi L xs)) (tR (dzT (Czi L xs))).toNat).length)), (4, .ref b), (3, x3), (2, .ref (ad 300)), (1, .ref (ad 0)), (0, .ref sc)]) : W p l e R s m args below meth c H locs c0 s0 Q (F0 m 426 ls []) := by
  have hM0 := hM
  have hd := dzT_ok (Czi L xs)
  generalize hdd : dzT (Czi L xs) = d at hd hz hT hl
  obtain ⟨hx, hV, hSc, hFD, hLk, hR1, hR2⟩ := hM
  have hB := bx_of hx hV
  have h5 := hd.1
  obtain ⟨z1, f1, hLw, ho1⟩ := l_start (F := 20000) (by decide) hd hz
  refine lv_aload_n hx.1 hx.2.1 dL_law_426 rfl (lv_at hl 4 rfl) ?_
  refine L_callV hx (b := 300) [] [] (ev_L_reckon 20000 300 (by decide +kernel) z) vm_L_reckon fc10 (by decide +kernel) (xst_la (Nat.le_refl _) ⟨by decide, by decide⟩) g677 dL_law_427 rfl rfl (Nat.le_of_ble_eq_true rfl) ⟨by omega, by omega⟩ ⟨by omega, by omega⟩ hl.1 hL f1 (fun v hv H locs hL => ?_) (fun E hE => absurd hE (by intro h; cases h))
  cases hv
  have hL : Lx D ad aT 241 A s.heap (cm z1) _ H locs := hL
  have hlen0 : (oLz (txz (rfL d (tR d).toNat ++ wyA d (tR d).toNat))).length ≤ 180 := by rw [oLz_len]; exact pre_len5 hd
  obtain ⟨t0, ht0⟩ : ∃ t, t = oLz (txz (rfL d (tR d).toNat ++ wyA d (tR d).toNat)) := ⟨_, rfl⟩
  rw [← ht0] at hT hlen0
  have e23 : cm z1 300 23 = nI (twi d).toNat := by show oI (z1 300 23) = _; rw [ho1 300 (Or.inl (by decide)), hz.1.2.2.2.1, ← oI_n, Int.toNat_of_nonneg hd.2.2.2.1.1]
  have e24 : cm z1 300 24 = nI (tdu d).toNat := by show oI (z1 300 24) = _; rw [ho1 300 (Or.inl (by decide)), hz.1.2.2.2.2.1, ← oI_n, Int.toNat_of_nonneg (by have := hd.2.2.2.2.1.1; omega)]
  have e25 : cm z1 300 25 = nI (tag d).toNat := by show oI (z1 300 25) = _; rw [ho1 300 (Or.inl (by decide)), hz.1.2.2.2.2.2.1, ← oI_n, Int.toNat_of_nonneg hd.2.2.2.2.2.1]
  obtain ⟨-, -, -, b1, b2, b3⟩ := id hd
  refine lv_aload_n hx.1 hx.2.1 dL_law_430 rfl (lv_at hl 5 rfl) ?_
  refine lv_aload hx.1 hx.2.1 dL_law_431 (lv_at hl 2 rfl) ?_
  refine L_ldcS hx (tx := "wind ") 36 (by decide +kernel) dL_law_433 ?_
  refine L_apS hx hV hT 36 (by decide +kernel) (by rw [xB_len9.2.2.1]; omega) (xB_fit 36 (by decide) (by decide)) ⟨by omega, by omega⟩ ⟨by omega, by omega⟩ dL_law_435 [.ref (ad 0)] (Nat.le_of_ble_eq_true rfl) hl.1 hL (fun X H locs hT hL => ?_)
  obtain ⟨t1, ht1⟩ : ∃ t, t = t0 ++ xB 36 := ⟨_, rfl⟩
  rw [← ht1] at hT
  have hlen1 : t1.length ≤ 185 := by rw [ht1, List.length_append, xB_len9.2.2.1]; omega
  refine lv_aload_n hx.1 hx.2.1 dL_law_438 rfl (lv_at hl 4 rfl) ?_
  refine L_getI hx hL (a := 300) 23 fc10 (by decide +kernel) (xst_la (Nat.le_refl _) ⟨by decide, by decide⟩) rfl ⟨rfl, rfl, rfl⟩ g568 dL_law_439 ?_
  rw [e23]
  refine L_apI hx hV hT (k := (twi d).toNat) hFD (by omega) (by omega) ⟨by omega, by omega⟩ ⟨by omega, by omega⟩ dL_law_442 [.ref (ad 0)] (Nat.le_of_ble_eq_true rfl) hl.1 hL (fun X H locs hT hL => ?_)
  obtain ⟨t2, ht2⟩ : ∃ t, t = t1 ++ dgI (twi d).toNat := ⟨_, rfl⟩
  rw [← ht2] at hT
  have hlen2 : t2.length ≤ 187 := by rw [ht2, List.length_append]; have := dgI_le (twi d).toNat; omega
  refine L_ldcW hx (tx := ";dusk ") 37 (by decide +kernel) dL_law_445 ?_
  refine L_apS hx hV hT 37 (by decide +kernel) (by rw [xB_len9.2.2.2.1]; omega) (xB_fit 37 (by decide) (by decide)) ⟨by omega, by omega⟩ ⟨by omega, by omega⟩ dL_law_448 [.ref (ad 0)] (Nat.le_of_ble_eq_true rfl) hl.1 hL (fun X H locs hT hL => ?_)
  obtain ⟨t3, ht3⟩ : ∃ t, t = t2 ++ xB 37 := ⟨_, rfl⟩
  rw [← ht3] at hT
  have hlen3 : t3.length ≤ 193 := by rw [ht3, List.length_append, xB_len9.2.2.2.1]; omega
  refine lv_aload_n hx.1 hx.2.1 dL_law_451 rfl (lv_at hl 4 rfl) ?_
  refine L_getI hx hL (a := 300) 24 fc10 (by decide +kernel) (xst_la (Nat.le_refl _) ⟨by decide, by decide⟩) rfl ⟨rfl, rfl, rfl⟩ g569 dL_law_452 ?_
  rw [e24]
  refine L_apI hx hV hT (k := (tdu d).toNat) hFD (by omega) (by omega) ⟨by omega, by omega⟩ ⟨by omega, by omega⟩ dL_law_455 [.ref (ad 0)] (Nat.le_of_ble_eq_true rfl) hl.1 hL (fun X H locs hT hL => ?_)
  obtain ⟨t4, ht4⟩ : ∃ t, t = t3 ++ dgI (tdu d).toNat := ⟨_, rfl⟩
  rw [← ht4] at hT
  have hlen4 : t4.length ≤ 195 := by rw [ht4, List.length_append]; have := dgI_le (tdu d).toNat; omega
  refine L_ldcW hx (tx := ";again ") 38 (by decide +kernel) dL_law_458 ?_
  refine L_apS hx hV hT 38 (by decide +kernel) (by rw [xB_len9.2.2.2.2]; omega) (xB_fit 38 (by decide) (by decide)) ⟨by omega, by omega⟩ ⟨by omega, by omega⟩ dL_law_461 [.ref (ad 0)] (Nat.le_of_ble_eq_true rfl) hl.1 hL (fun X H locs hT hL => ?_)
  obtain ⟨t5, ht5⟩ : ∃ t, t = t4 ++ xB 38 := ⟨_, rfl⟩
  rw [← ht5] at hT
  have hlen5 : t5.length ≤ 202 := by rw [ht5, List.length_append, xB_len9.2.2.2.2]; omega
  refine lv_aload_n hx.1 hx.2.1 dL_law_464 rfl (lv_at hl 4 rfl) ?_
  refine L_getI hx hL (a := 300) 25 fc10 (by decide +kernel) (xst_la (Nat.le_refl _) ⟨by decide, by decide⟩) rfl ⟨rfl, rfl, rfl⟩ g570 dL_law_465 ?_
  rw [e25]
  refine L_apI hx hV hT (k := (tag d).toNat) hFD (by omega) (by omega) ⟨by omega, by omega⟩ ⟨by omega, by omega⟩ dL_law_468 [.ref (ad 0)] (Nat.le_of_ble_eq_true rfl) hl.1 hL (fun X H locs hT hL => ?_)
  obtain ⟨t6, ht6⟩ : ∃ t, t = t5 ++ dgI (tag d).toNat := ⟨_, rfl⟩
  rw [← ht6] at hT
  have hlen6 : t6.length ≤ 204 := by rw [ht6, List.length_append]; have := dgI_le (tag d).toNat; omega
  refine lv_bipush (v := nI 59) hx.1 hx.2.1 dL_law_471 (by decide) ?_
  refine L_apC hx hV hT (k := 59) (by omega) (by omega) ⟨by omega, by omega⟩ ⟨by omega, by omega⟩ dL_law_473 [.ref (ad 0)] (Nat.le_of_ble_eq_true rfl) hl.1 hL (fun X H locs hT hL => ?_)
  obtain ⟨t7, ht7⟩ : ∃ t, t = t6 ++ [nI 59] := ⟨_, rfl⟩
  rw [← ht7] at hT
  have hlen7 : t7.length ≤ 205 := by rw [ht7, List.length_append]; show t6.length + 1 ≤ _; omega
  have eT : t7 = oLz (txz (allz d)) := by
    unfold allz
    rw [txz_app _ (stL d), oLz_app, oLz_st hd, ht7, ht6, ht5, ht4, ht3, ht2, ht1, ht0]
    simp only [List.append_assoc]
  have hall := allz_len9 hd
  obtain ⟨hby, hch⟩ := oLz_byz (t := txz (allz d)) (by omega) (txz_bd _ (allz_rg hd))
  rw [eT] at hT
  obtain ⟨bs, hbs⟩ : ∃ bs, bs = oLz (txz (allz d)) := ⟨_, rfl⟩
  have hbl : bs.length = (txz (allz d)).length := by rw [hbs, oLz_len]
  rw [← hbs] at hT hby hch
  obtain ⟨v, mm, f, rfl, g1, g2, g3, g4⟩ := hT
  have hmm : mm ≤ 286 := by unfold mOK at g3; omega
  refine B_callV (n := 0) hB (wr := conc ad aT 241 (cm z1)) (bc_toS cB (b := b) (v := v) (n := bs.length) (m := mm) (ml := 0) (f := f) ⟨g4, by omega⟩ g1) FNo_ok hL.sx trivial (B_recv hB hL.sx (241 + 0) (by rw [cx_r]; rfl)) (hx.2.2.2.2.1 _ g1267) g1268 g43 g1265 g1266 ⟨⟨by decide +kernel, by decide +kernel⟩, by decide +kernel⟩ dL_law_476 [.ref (ad 0)] rfl rfl (Nat.le_of_ble_eq_true rfl) ⟨by omega, by omega⟩ ⟨by omega, by omega⟩ hl.1 (fun r w1 H locs hp hS => ?_)
  obtain ⟨sq, sd, g, rfl, rfl, hg⟩ := hp
  have hL := hL.of hS
  refine L_told hx hV hL (fun j hj => by rw [hg j hj, g2 j hj]) hby (by rw [ho1 1 (Or.inl (by decide)), hcl 1 (by decide)]; exact hC.2.2.2.1) ⟨by omega, by omega⟩ ⟨by omega, by omega⟩ dL_law_479 [] (Nat.le_of_ble_eq_true rfl) hl.1 (fun z2 H locs hE hL => ?_)
  have hk2 : ∀ a, a < 210 → ¬ a = 1 → ¬ a = 2 → z2 a = wc a := fun a h1 h2 h3 => by rw [hE.2.2.1 a h2 h3, ho1 a (Or.inl (by omega)), hcl a h1]
  have hb3 : ∀ b ∈ [12, 30, 48, 66, 84, 102, 120, 138, 156, 174, 192], 12 ≤ b ∧ b + 18 ≤ 210 := by decide +kernel
  have hIv : IvT z2 := ⟨fun b hb => (hC.2.1 b hb).of fun a h1 h2 => hk2 a (by have := hb3 b hb; omega) (by have := hb3 b hb; omega) (by have := hb3 b hb; omega), by rw [hk2 8 (by decide) (by decide) (by decide)]; exact hC.2.2.1.1, by rw [hk2 8 (by decide) (by decide) (by decide)]; exact hC.2.2.1.2⟩
  have h10 : z2 10 1 = 0 := by rw [hk2 10 (by decide) (by decide) (by decide)]; exact hC.2.2.2.2.2.2.2.1
  have hLw2 : LwR z2 (Rz d) := hLw.ov (Rz_0 hd).2.2.2.2 (fun a ha => hE.2.2.1 a (by omega) (by omega))
  obtain ⟨z3, f3, hSt⟩ := k_loadz (F := 20000) (Nat.le_refl _) hd hIv (by rw [h10]; decide) hLw2 (by rw [hE.1, hbl]) (fun k hk => by rw [hE.2.1 k (by omega)]; exact hch k hk)
  refine lv_aload_n hx.1 hx.2.1 dL_law_482 rfl (lv_at hl 5 rfl) ?_
  refine L_callV hx (b := 0) [] [] (ev_X10_loadPost 20000 0 (by decide +kernel) z2) vm_X10_loadPost fc8 (by decide +kernel) (Or.inl (by decide)) g528 dL_law_483 rfl rfl (Nat.le_of_ble_eq_true rfl) ⟨by omega, by omega⟩ ⟨by omega, by omega⟩ hl.1 hL f3 (fun v hv H locs hL => ?_) (fun E hE => absurd hE (by intro h; cases h))
  cases hv
  have hL : Lx D ad aT 241 A s.heap (cm z3) [] H locs := hL
  have eW : oI (Rz d 1) = nI (wyA d (tR d).toNat).length := by rw [Rz_1 hd, oI_n]
  refine lv_iload hx.1 hx.2.1 dL_law_486 (lv_at hl 1 rfl) ?_
  refine lv_icmp_ne (tgt := 499) hx.1 hx.2.1 dL_law_488 (by decide) (fun y => absurd eW y) (fun _ => ?_)
  refine lv_aload_n hx.1 hx.2.1 dL_law_491 rfl (lv_at hl 4 rfl) ?_
  refine lv_aload_n hx.1 hx.2.1 dL_law_492 rfl (lv_at hl 5 rfl) ?_
  obtain ⟨z4, f4, k1, k2⟩ := l_isLike (F := 20000) (Nat.le_refl _) hSt.1 hSt.2.1 hSt.2.2 (by decide)
  refine L_callV hx (b := 300) [.ref 0] [] (ev_L_isLike 20000 300 (by decide +kernel) 0 (by decide +kernel) z3) vm_L_isLike fc10 (by decide +kernel) (xst_la (Nat.le_refl _) ⟨by decide, by decide⟩) g1000 dL_law_493 rfl rfl (Nat.le_of_ble_eq_true rfl) ⟨by omega, by omega⟩ ⟨by omega, by omega⟩ hl.1 hL f4 (fun v hv H locs hL => ?_) (fun E hE => absurd hE (by intro h; cases h))
  cases hv
  have hL : Lx D ad aT 241 A s.heap (cm z4) [] H locs := hL
  refine lv_if_ne (tgt := 501) hx.1 hx.2.1 dL_law_496 (by decide) (fun _ => ?_) (fun y => absurd y (show ¬ oI (bI true) = 0 by decide))
  refine lv_iconst (v := 0) hx.1 hx.2.1 dL_law_501 (by decide) ?_
  refine lv_istore (lv' := [(6, .int (nI 0)), (5, .int (nI (wyA d (tR d).toNat).length)), (4, .ref b), (3, x3), (2, .ref (ad 300)), (1, .ref (ad 0)), (0, .ref sc)]) hx.1 hx.2.1 dL_law_502 hl (by decide) rfl (fun ls hl => ?_)
  refine W.widen (k := c0 + 2200 + 3300 * 0) (n := s0 + 18200 + 19800 * 0) (by omega) (by omega) ?_
  refine acts_loop hM0 (c0 := c0 + 2200) (s0 := s0 + 18200) ⟨by omega, by omega⟩ (fun H1 locs1 ls1 hS1 => W.widen (k := c0 + 121000) (n := s0 + 731000) (by omega) (by omega) (kk H1 locs1 ls1 hS1)) 36 0 rfl ad 241 z4 (Rz d) H locs _ hx.2.2.2.2.2.2.2.2.1 (Nat.le_refl _) ⟨k1, k2, hSt.2.2⟩ hL (lv_sub hl [0, 4, 5, 6] rfl)
end TL
