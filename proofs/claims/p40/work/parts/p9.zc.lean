/-! ===== the law's body behind the two constructors ===== -/
def wPz (wc : aI) (d : Dt) : aI := iset (iset (iset (iset (wzL wc) 300 20 (tR d)) 300 23 (twi d)) 300 24 (tdu d)) 300 25 (tag d)
theorem wPz_o {wc : aI} {d : Dt} {a : Nat} (h : ¬ a = 300) : wPz wc d a = wzL wc a := by unfold wPz; rw [is_ne h, is_ne h, is_ne h, is_ne h]
theorem wPz_f {wc : aI} {d : Dt} : wPz wc d 300 20 = tR d ∧ wPz wc d 300 23 = twi d ∧ wPz wc d 300 24 = tdu d ∧ wPz wc d 300 25 = tag d ∧ ∀ k : Int, ¬ k = 20 → ¬ k = 23 → ¬ k = 24 → ¬ k = 25 → wPz wc d 300 k = 0 := by
  unfold wPz
  simp only [is_eq]
  refine ⟨?_, ?_, ?_, ?_, fun k h0 h3 h4 h5 => ?_⟩
  · rw [rs_ne (by decide), rs_ne (by decide), rs_ne (by decide), rs_self]
  · rw [rs_ne (by decide), rs_ne (by decide), rs_self]
  · rw [rs_ne (by decide), rs_self]
  · rw [rs_self]
  · rw [rs_ne h5, rs_ne h4, rs_ne h3, rs_ne h0]
    exact wzL_z ⟨by decide, by decide⟩ k
theorem lwi_of {wc z1 z2 : aI} {d : Dt} (hd : DtOK d) (h1 : PAz (wPz wc d) z1 d (tR d).toNat) (h2 : PBz z1 z2 d (tR d).toNat ((tR d).toNat + 1)) : LwI z2 d ∧ ∀ a, a < 210 → z2 a = wc a := by
  have h5 := hd.1
  obtain ⟨f0, f3, f4, f5, fz⟩ := wPz_f (wc := wc) (d := d)
  have e1 : ∀ a, ¬ (301 ≤ a ∧ a ≤ 304) → ¬ (308 ≤ a ∧ a < 313) → z2 a = wPz wc d a := fun a q1 q2 => by rw [h2.1 a q2, h1.1 a q1]
  have e0 : ∀ a, 305 ≤ a → a < 331 → ¬ (308 ≤ a ∧ a < 313) → ∀ k, z2 a k = 0 := fun a q1 q2 q3 k => by
    rw [e1 a (by omega) q3, wPz_o (by omega)]
    exact wzL_z ⟨by omega, q2⟩ k
  have e300 : z2 300 = wPz wc d 300 := e1 300 (by decide) (by decide)
  refine ⟨⟨⟨by rw [e300]; exact f0, by rw [e300]; exact fz 21 (by decide) (by decide) (by decide) (by decide), by rw [e300]; exact fz 22 (by decide) (by decide) (by decide) (by decide), by rw [e300]; exact f3, by rw [e300]; exact f4, by rw [e300]; exact f5, fun k k1 k2 => by rw [e300]; exact fz k (by omega) (by omega) (by omega) (by omega)⟩, fun x x0 x1 => ?_, fun x y x0 x1 y0 y1 => ?_, fun t t0 t1 => ?_, ?_⟩, fun a ha => ?_⟩
  · obtain ⟨p1, p2, p3, p4⟩ := h1.2 x x0 (by omega)
    rw [h2.1 301 (by decide), h2.1 302 (by decide), h2.1 303 (by decide), h2.1 304 (by decide)]
    exact ⟨p1, p2, p3, p4, e0 305 (by decide) (by decide) (by decide) x, e0 306 (by decide) (by decide) (by decide) x⟩
  · have h9 := h2.2 x.toNat y.toNat (by omega) (by omega)
    rw [Int.toNat_of_nonneg x0, Int.toNat_of_nonneg y0] at h9
    rw [h9]
    unfold twS
    by_cases c : x < y
    · rw [if_pos (by omega), if_pos (by omega), if_pos c]
    · rw [if_neg (by omega), if_neg c]
      by_cases c1 : y < x
      · rw [if_pos (by omega), if_pos (by omega), if_pos c1]
      · rw [if_neg (by omega), if_neg c1]
  · exact ⟨e0 325 (by decide) (by decide) (by decide) t, e0 326 (by decide) (by decide) (by decide) t, e0 329 (by decide) (by decide) (by decide) t, e0 330 (by decide) (by decide) (by decide) t⟩
  · rw [e1 999 (by decide) (by decide), wPz_o (by decide)]
    rfl
  · rw [e1 a (by omega) (by omega), wPz_o (by omega), wzL_o (by omega)]
section BY
variable {p : Program} {l : Launch} {e : Env} {R : Room} {s : State} {m : MethodId} {args : Array Value} {below : List Frame} {meth : Method} {c : Code} {Q : State → Prop}
variable {D : va_G} {aT : Nat → ClassId} {cB : ClassId} {ad adV : Nat → Nat} {A : Nat → Prop} {sc L : Nat} {xs : Nat → Int32} {d1 d2 : Nat}
theorem gx1103 : (Cond.instantiable "java/lang/StringBuilder" 4) ∈ Gw := gw_in 1103 (by decide +kernel) (by decide +kernel)
theorem law_body (hM : MzC p l R s m args meth c D aT cB ad adV A sc L xs d1 d2) {wc : aI} (hC : CI wc) {c0 s0 : Nat} (hcs : c0 + 122000 ≤ R.cells ∧ s0 + 900000 ≤ R.slots)
    (kk : ∀ (H1 : Heap) (locs1 : List Loc) (ls1 : Array Slot), va_S A s.heap H1 locs1 → W p l e R s m args below meth c H1 locs1 (c0 + 122000) (s0 + 900000) Q (F0 m 554 ls1 [])) {H : Heap} {locs : List Loc} {ls : Array Slot} (hL : Lx D ad aT 241 A s.heap (cm (wzL wc)) [] H locs) (hl : lv_has ls 9 [(2, .ref (ad 300)), (1, .ref (ad 0)), (0, .ref sc)]) : W p l e R s m args below meth c H locs c0 s0 Q (F0 m 16 ls []) := by
  have hM0 := hM
  have hd := dzT_ok (Czi L xs)
  obtain ⟨hx, hV, hSc, hFD, hLk, hR1, hR2⟩ := hM
  have hB := bx_of hx hV
  have e1 : tR (dzT (Czi L xs)) = 3 + bv (Czi L xs 0) 0 4 % 3 := rfl
  have e2 : twi (dzT (Czi L xs)) = bv (Czi L xs 0) 4 4 % 10 := rfl
  have e3 : tdu (dzT (Czi L xs)) = 20 + bv (Czi L xs 0) 8 5 := rfl
  have e4 : tag (dzT (Czi L xs)) = bv (Czi L xs 0) 13 2 := rfl
  have hzz : wPz wc (dzT (Czi L xs)) = wPz wc (dzT (Czi L xs)) := rfl
  refine lv_aload_n hx.1 hx.2.1 dL_law_16 rfl (lv_at hl 2 rfl) ?_
  refine lv_iconst (v := nI 0) hx.1 hx.2.1 dL_law_17 (by decide) ?_
  refine L_cell hx hV hSc (k := 0) ⟨hLk, by omega⟩ ⟨by omega, by omega⟩ ⟨by omega, by omega⟩ dL_law_18 [] (Nat.le_of_ble_eq_true rfl) hl.1 hL (fun H locs hL => ?_)
  rw [Czi_o]
  refine lv_istore_n (lv' := [(3, .int (oI (Czi L xs 0))), (2, .ref (ad 300)), (1, .ref (ad 0)), (0, .ref sc)]) hx.1 hx.2.1 dL_law_21 rfl hl (by decide) rfl (fun ls hl => ?_)
  refine lv_aload_n hx.1 hx.2.1 dL_law_22 rfl (lv_at hl 1 rfl) ?_
  refine lv_iconst (v := oI 3) hx.1 hx.2.1 dL_law_23 rfl ?_
  refine lv_iload_n hx.1 hx.2.1 dL_law_24 rfl (lv_at hl 0 rfl) ?_
  refine lv_iconst (v := oI 0) hx.1 hx.2.1 dL_law_25 rfl ?_
  refine lv_iconst (v := oI 4) hx.1 hx.2.1 dL_law_26 rfl ?_
  refine L_bits hx (x := Czi L xs 0) (f := 0) (k := 4) (by decide) ⟨by omega, by omega⟩ ⟨by omega, by omega⟩ dL_law_27 [.int (oI 3), .ref (ad 300)] (Nat.le_of_ble_eq_true rfl) hl.1 hL (fun H locs hL => ?_)
  refine lv_iconst (v := oI 3) hx.1 hx.2.1 dL_law_30 rfl ?_
  refine lv_irem hx.1 hx.2.1 dL_law_31 (by decide) ?_
  rw [rem_z (by have := bv_4 (Czi L xs 0) 0; omega) (Or.inl rfl)]
  refine lv_iadd hx.1 hx.2.1 dL_law_32 ?_
  rw [oI_add, ← e1]
  refine L_putI hx hL (a := 300) 20 .int tyL fc10 tyL_ok (by decide +kernel) (xst_la (Nat.le_refl _) ⟨by decide, by decide⟩) (by decide) rfl ⟨rfl, rfl, rfl, rfl, by decide +kernel⟩ rfl rfl g565 dL_law_33 (fun H locs hL => ?_)
  refine lv_aload_n hx.1 hx.2.1 dL_law_36 rfl (lv_at hl 1 rfl) ?_
  refine lv_iload_n hx.1 hx.2.1 dL_law_37 rfl (lv_at hl 0 rfl) ?_
  refine lv_iconst (v := oI 4) hx.1 hx.2.1 dL_law_38 rfl ?_
  refine lv_iconst (v := oI 4) hx.1 hx.2.1 dL_law_39 rfl ?_
  refine L_bits hx (x := Czi L xs 0) (f := 4) (k := 4) (by decide) ⟨by omega, by omega⟩ ⟨by omega, by omega⟩ dL_law_40 [.ref (ad 300)] (Nat.le_of_ble_eq_true rfl) hl.1 hL (fun H locs hL => ?_)
  refine lv_bipush (v := oI 10) hx.1 hx.2.1 dL_law_43 (by decide) ?_
  refine lv_irem hx.1 hx.2.1 dL_law_45 (by decide) ?_
  rw [rem_z (by have := bv_4 (Czi L xs 0) 4; omega) (Or.inr (Or.inr rfl))]
  rw [← e2]
  refine L_putI hx hL (a := 300) 23 .int tyL fc10 tyL_ok (by decide +kernel) (xst_la (Nat.le_refl _) ⟨by decide, by decide⟩) (by decide) rfl ⟨rfl, rfl, rfl, rfl, by decide +kernel⟩ rfl rfl g568 dL_law_46 (fun H locs hL => ?_)
  refine lv_aload_n hx.1 hx.2.1 dL_law_49 rfl (lv_at hl 1 rfl) ?_
  refine lv_bipush (v := oI 20) hx.1 hx.2.1 dL_law_50 (by decide) ?_
  refine lv_iload_n hx.1 hx.2.1 dL_law_52 rfl (lv_at hl 0 rfl) ?_
  refine lv_bipush (v := oI 8) hx.1 hx.2.1 dL_law_53 (by decide) ?_
  refine lv_iconst (v := oI 5) hx.1 hx.2.1 dL_law_55 rfl ?_
  refine L_bits hx (x := Czi L xs 0) (f := 8) (k := 5) (by decide) ⟨by omega, by omega⟩ ⟨by omega, by omega⟩ dL_law_56 [.int (oI 20), .ref (ad 300)] (Nat.le_of_ble_eq_true rfl) hl.1 hL (fun H locs hL => ?_)
  refine lv_iadd hx.1 hx.2.1 dL_law_59 ?_
  rw [oI_add, ← e3]
  refine L_putI hx hL (a := 300) 24 .int tyL fc10 tyL_ok (by decide +kernel) (xst_la (Nat.le_refl _) ⟨by decide, by decide⟩) (by decide) rfl ⟨rfl, rfl, rfl, rfl, by decide +kernel⟩ rfl rfl g569 dL_law_60 (fun H locs hL => ?_)
  refine lv_aload_n hx.1 hx.2.1 dL_law_63 rfl (lv_at hl 1 rfl) ?_
  refine lv_iload_n hx.1 hx.2.1 dL_law_64 rfl (lv_at hl 0 rfl) ?_
  refine lv_bipush (v := oI 13) hx.1 hx.2.1 dL_law_65 (by decide) ?_
  refine lv_iconst (v := oI 2) hx.1 hx.2.1 dL_law_67 rfl ?_
  refine L_bits hx (x := Czi L xs 0) (f := 13) (k := 2) (by decide) ⟨by omega, by omega⟩ ⟨by omega, by omega⟩ dL_law_68 [.ref (ad 300)] (Nat.le_of_ble_eq_true rfl) hl.1 hL (fun H locs hL => ?_)
  rw [← e4]
  refine L_putI hx hL (a := 300) 25 .int tyL fc10 tyL_ok (by decide +kernel) (xst_la (Nat.le_refl _) ⟨by decide, by decide⟩) (by decide) rfl ⟨rfl, rfl, rfl, rfl, by decide +kernel⟩ rfl rfl g570 dL_law_71 (fun H locs hL => ?_)
  have hL : Lx D ad aT 241 A s.heap (cm (wPz wc (dzT (Czi L xs)))) [] H locs := hL
  refine va_new (ci := 1) (fs := [.null, .int 0, .int 0, .int 0]) (C := RJ4) (T := TJ4) (N := 4) hx.1 hx.2.1 hx.2.2.2.2.1 fcB tyJ4 tyJ4_ok hx.2.2.2.1 (hx.2.2.2.2.1 _ g1102) (hx.2.2.2.2.1 _ gx1103) (hx.2.2.2.2.1 _ g43) hx.2.2.2.2.2.2.2.1.1 hL.1.1 hL.2.1 hL.2.2 hx.2.2.2.2.2.2.2.2.2 rfl (fun j hj => by rcases (show j = 0 ∨ j = 1 ∨ j = 2 ∨ j = 3 by omega) with rfl | rfl | rfl | rfl <;> rfl) (by omega) (by omega) dL_law_74 (fun b H1 a1 a2 a3 => ?_)
  have hS : Sx D A s.heap (conc ad aT 241 (cm (wPz wc (dzT (Czi L xs)))) ++ [(b, .inr (1, [.null, .int 0, .int 0, .int 0]))]) H1 locs := by
    rw [List.append_nil] at a1 a2
    exact ⟨a1, a2, a3⟩
  refine lv_dup hx.1 hx.2.1 dL_law_77 rfl ?_
  refine B_callI (n := 0) hB (wr := conc ad aT 241 (cm (wPz wc (dzT (Czi L xs))))) (bc_sbI0 cB (b := b)) FNo_ok hS trivial g1106 g43 g1104 g1105 rfl ⟨⟨by decide +kernel, by decide +kernel⟩, by decide +kernel⟩ dL_law_78 [.ref b] rfl rfl (Nat.le_of_ble_eq_true rfl) ⟨by omega, by omega⟩ ⟨by omega, by omega⟩ hl.1 (fun r X H locs hp hS => ?_)
  obtain ⟨rfl, hT⟩ := hp
  have hL := hL.of hS
  refine lv_astore (lv' := [(4, .ref b), (3, .int (oI (Czi L xs 0))), (2, .ref (ad 300)), (1, .ref (ad 0)), (0, .ref sc)]) hx.1 hx.2.1 dL_law_81 hl (by decide) rfl (fun ls hl => ?_)
  refine lv_iconst (v := 0) hx.1 hx.2.1 dL_law_83 (by decide) ?_
  refine lv_istore (lv' := [(5, .int (nI 0)), (4, .ref b), (3, .int (oI (Czi L xs 0))), (2, .ref (ad 300)), (1, .ref (ad 0)), (0, .ref sc)]) hx.1 hx.2.1 dL_law_84 hl (by decide) rfl (fun ls hl => ?_)
  have f0 := (wPz_f (wc := wc) (d := dzT (Czi L xs))).1
  refine W.widen (k := c0 + 10 + 11 * 0) (n := s0 + 100 + 7700 * 0) (by omega) (by omega) ?_
  refine roofs_loop hM0 f0 (b := b) (c0 := c0 + 10) (s0 := s0 + 100) (x3 := .int (oI (Czi L xs 0))) ⟨by omega, by omega⟩ (fun z1 X H locs ls h1 hT hL hl => ?_) _ 0 (Nat.zero_add _) (wPz wc (dzT (Czi L xs))) X H locs _ ⟨fun _ _ => rfl, fun x x0 x1 => by omega⟩ hT hL hl
  refine lv_iconst (v := 0) hx.1 hx.2.1 dL_law_256 (by decide) ?_
  refine lv_istore (lv' := [(5, .int (nI 0)), (4, .ref b), (3, .int (oI (Czi L xs 0))), (2, .ref (ad 300)), (1, .ref (ad 0)), (0, .ref sc)]) hx.1 hx.2.1 dL_law_257 hl (by decide) rfl (fun ls hl => ?_)
  refine lv_iconst (v := 0) hx.1 hx.2.1 dL_law_259 (by decide) ?_
  refine lv_istore (lv' := [(6, .int (nI 0)), (5, .int (nI 0)), (4, .ref b), (3, .int (oI (Czi L xs 0))), (2, .ref (ad 300)), (1, .ref (ad 0)), (0, .ref sc)]) hx.1 hx.2.1 dL_law_260 hl (by decide) rfl (fun ls hl => ?_)
  have hw1 : z1 300 20 = tR (dzT (Czi L xs)) := by rw [h1.1 300 (by decide)]; exact f0
  have hrow : PBz z1 z1 (dzT (Czi L xs)) 0 (0 + 1) := by
    refine ⟨fun _ _ => rfl, fun x y hx hy => ?_⟩
    have h5 := hd.1
    have ez : z1 (308 + x) (y : Int) = 0 := by rw [h1.1 (308 + x) (by omega), wPz_o (by omega)]; exact wzL_z ⟨by omega, by omega⟩ _
    rw [ez]
    by_cases c1 : x < y
    · rw [if_pos c1, if_neg (by omega)]
    · rw [if_neg c1]
      by_cases c2 : y < x
      · rw [if_pos c2, if_neg (by omega)]
      · rw [if_neg c2]
  refine W.widen (k := c0 + 100 + 7 * (5 * 0)) (n := s0 + 40000 + 4900 * (5 * 0)) (by omega) (by omega) ?_
  refine ways_out hM0 hw1 (b := b) (c0 := c0 + 100) (s0 := s0 + 40000) (x3 := .int (oI (Czi L xs 0))) ⟨by omega, by omega⟩ (fun z2 X H locs ls h2 hT hL hl => ?_) _ 0 (Nat.zero_add _) z1 X H locs _ hrow (by rw [show wyA (dzT (Czi L xs)) 0 = [] from rfl, List.append_nil]; exact hT) hL hl
  obtain ⟨hz, hcl⟩ := lwi_of hd h1 h2
  refine W.widen (k := c0 + 1000) (n := s0 + 169000) (by omega) (by omega) ?_
  exact law_tail hM0 hz hC hcl (c0 := c0 + 1000) (s0 := s0 + 169000) ⟨by omega, by omega⟩ (fun H1 locs1 ls1 hS1 => W.widen (k := c0 + 122000) (n := s0 + 900000) (by omega) (by omega) (kk H1 locs1 ls1 hS1)) hT hL hl
end BY
