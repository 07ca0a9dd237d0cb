/-! ===== the law's text: the ways ===== -/
theorem row_z : ∀ a, a < 5 → shR 307 a = 308 + a ∧ (shK (308 + a) = 0 ∨ shK (308 + a) = 7) ∧ shL (308 + a) = 5 := by decide +kernel
/-- the ways before the one from a to b have been drawn -/
def PBz (w1 z : aI) (d : Dt) (a b : Nat) : Prop := (∀ q, ¬ (308 ≤ q ∧ q < 313) → z q = w1 q) ∧ ∀ x y : Nat, x < (tR d).toNat → y < (tR d).toNat → z (308 + x) (y : Int) = (if x < y then (if x < a ∨ (x = a ∧ y < b) then tw d x y else 0) else if y < x then (if y < a ∨ (y = a ∧ x < b) then tw d y x else 0) else 0)
theorem PBz.out {w1 z : aI} {d : Dt} {a : Nat} (h : PBz w1 z d a (tR d).toNat) : PBz w1 z d (a + 1) (a + 1 + 1) := by
  refine ⟨h.1, fun x y hx hy => ?_⟩
  rw [h.2 x y hx hy]
  by_cases c : x < y
  · rw [if_pos c, if_pos c]
    by_cases c2 : x < a + 1
    · rw [if_pos (by omega), if_pos (by omega)]
    · rw [if_neg (by omega), if_neg (by omega)]
  · rw [if_neg c, if_neg c]
    by_cases c1 : y < x
    · rw [if_pos c1, if_pos c1]
      by_cases c2 : y < a + 1
      · rw [if_pos (by omega), if_pos (by omega)]
      · rw [if_neg (by omega), if_neg (by omega)]
    · rw [if_neg c1, if_neg c1]
theorem PBz.none {w1 z : aI} {d : Dt} {a b : Nat} (h : PBz w1 z d a b) (hab : a < b) (h0 : tw d a b = 0) : PBz w1 z d a (b + 1) := by
  refine ⟨h.1, fun x y hx hy => ?_⟩
  rw [h.2 x y hx hy]
  by_cases c : x < y
  · rw [if_pos c, if_pos c]
    by_cases c2 : x = a ∧ y = b
    · obtain ⟨rfl, rfl⟩ := c2
      rw [if_neg (by omega), if_pos (by omega), h0]
    · by_cases c3 : x < a ∨ (x = a ∧ y < b)
      · rw [if_pos c3, if_pos (by omega)]
      · rw [if_neg c3, if_neg (by omega)]
  · rw [if_neg c, if_neg c]
    by_cases c1 : y < x
    · rw [if_pos c1, if_pos c1]
      by_cases c2 : y = a ∧ x = b
      · obtain ⟨rfl, rfl⟩ := c2
        rw [if_neg (by omega), if_pos (by omega), h0]
      · by_cases c3 : y < a ∨ (y = a ∧ x < b)
        · rw [if_pos c3, if_pos (by omega)]
        · rw [if_neg c3, if_neg (by omega)]
    · rw [if_neg c1, if_neg c1]
theorem PBz.way {w1 z : aI} {d : Dt} {a b : Nat} (h : PBz w1 z d a b) (hab : a < b) (hb : b < 5) : PBz w1 (iset (iset z (308 + a) (b : Int) (tw d a b)) (308 + b) (a : Int) (tw d a b)) d a (b + 1) := by
  refine ⟨fun q hq => by rw [is_ne (by omega), is_ne (by omega)]; exact h.1 q hq, fun x y hx hy => ?_⟩
  have h9 := h.2 x y hx hy
  by_cases e1 : x = b ∧ y = a
  · obtain ⟨rfl, rfl⟩ := e1
    rw [is_eq, rs_self, if_neg (by omega), if_pos (by omega), if_pos (by omega)]
  · have s1 : iset (iset z (308 + a) (b : Int) (tw d a b)) (308 + b) (a : Int) (tw d a b) (308 + x) (y : Int) = iset z (308 + a) (b : Int) (tw d a b) (308 + x) (y : Int) := by
      by_cases c : x = b
      · subst c
        rw [is_eq, rs_ne (by omega)]
      · rw [is_ne (by omega)]
    rw [s1]
    by_cases e2 : x = a ∧ y = b
    · obtain ⟨rfl, rfl⟩ := e2
      rw [is_eq, rs_self, if_pos hab, if_pos (by omega)]
    · have s2 : iset z (308 + a) (b : Int) (tw d a b) (308 + x) (y : Int) = z (308 + x) (y : Int) := by
        by_cases c : x = a
        · subst c
          rw [is_eq, rs_ne (by omega)]
        · rw [is_ne (by omega)]
      rw [s2, h9]
      by_cases c : x < y
      · rw [if_pos c, if_pos c]
        by_cases c3 : x < a ∨ (x = a ∧ y < b)
        · rw [if_pos c3, if_pos (by omega)]
        · rw [if_neg c3, if_neg (by omega)]
      · rw [if_neg c, if_neg c]
        by_cases c1 : y < x
        · rw [if_pos c1, if_pos c1]
          by_cases c3 : y < a ∨ (y = a ∧ x < b)
          · rw [if_pos c3, if_pos (by omega)]
          · rw [if_neg c3, if_neg (by omega)]
        · rw [if_neg c1, if_neg c1]
section WF
variable {p : Program} {l : Launch} {e : Env} {R : Room} {s : State} {m : MethodId} {args : Array Value} {below : List Frame} {meth : Method} {c : Code} {Q : State → Prop}
variable {D : va_G} {aT : Nat → ClassId} {cB : ClassId} {ad adV : Nat → Nat} {A : Nat → Prop} {sc L : Nat} {xs : Nat → Int32} {d1 d2 : Nat}
theorem ways_in (hM : MzC p l R s m args meth c D aT cB ad adV A sc L xs d1 d2) {w1 : aI} (hw : w1 300 20 = tR (dzT (Czi L xs))) {b c0 s0 a : Nat} {x3 : Value} (ha : a < (tR (dzT (Czi L xs))).toNat) (hcs : c0 + 200 ≤ R.cells ∧ s0 + 140000 ≤ R.slots)
    (kk : ∀ (z : aI) (X : va_W) (H1 : Heap) (locs1 : List Loc) (ls1 : Array Slot), PBz w1 z (dzT (Czi L xs)) a (tR (dzT (Czi L xs))).toNat → BT cB b (oLz (txz (rfL (dzT (Czi L xs)) (tR (dzT (Czi L xs))).toNat ++ wyA (dzT (Czi L xs)) a ++ wyB (dzT (Czi L xs)) a ((tR (dzT (Czi L xs))).toNat - 1 - a)))) X → Lx D ad aT 241 A s.heap (cm z) X H1 locs1 → lv_has ls1 9 [(7, .int (nI ((tR (dzT (Czi L xs))).toNat))), (6, .int (nI a)), (5, .int (nI ((wyA (dzT (Czi L xs)) a).length + (wyB (dzT (Czi L xs)) a ((tR (dzT (Czi L xs))).toNat - 1 - a)).length))), (4, .ref b), (3, x3), (2, .ref (ad 300)), (1, .ref (ad 0)), (0, .ref sc)] → W p l e R s m args below meth c H1 locs1 (c0 + 7 * (5 * a + 5)) (s0 + 4900 * (5 * a + 5)) Q (F0 m 420 ls1 [])) :
    ∀ n k, a + 1 + k + n = (tR (dzT (Czi L xs))).toNat → ∀ (z : aI) (X : va_W) (H : Heap) (locs : List Loc) (ls : Array Slot), PBz w1 z (dzT (Czi L xs)) a (a + 1 + k) → BT cB b (oLz (txz (rfL (dzT (Czi L xs)) (tR (dzT (Czi L xs))).toNat ++ wyA (dzT (Czi L xs)) a ++ wyB (dzT (Czi L xs)) a k))) X → Lx D ad aT 241 A s.heap (cm z) X H locs → lv_has ls 9 [(7, .int (nI (a + 1 + k))), (6, .int (nI a)), (5, .int (nI ((wyA (dzT (Czi L xs)) a).length + (wyB (dzT (Czi L xs)) a k).length))), (4, .ref b), (3, x3), (2, .ref (ad 300)), (1, .ref (ad 0)), (0, .ref sc)] → W p l e R s m args below meth c H locs (c0 + 7 * (5 * a + k)) (s0 + 4900 * (5 * a + k)) Q (F0 m 277 ls []) := by
  have hd := dzT_ok (Czi L xs)
  generalize hdd : dzT (Czi L xs) = d at hd hw ha kk ⊢
  obtain ⟨hx, hV, hSc, hFD, hLk, hR1, hR2⟩ := hM
  have h5 := hd.1
  intro n
  induction n with
  | zero =>
    intro k hk z X H locs ls hz hT hL hl
    have e0 : k = (tR d).toNat - 1 - a := by omega
    have e1 : a + 1 + k = (tR d).toNat := by omega
    have eR : cm z 300 20 = nI (tR d).toNat := by
      show oI (z 300 20) = _
      rw [hz.1 300 (by decide), hw, ← oI_n, Int.toNat_of_nonneg (by omega)]
    refine lv_iload hx.1 hx.2.1 dL_law_277 (lv_at hl 0 rfl) ?_
    refine lv_aload_n hx.1 hx.2.1 dL_law_279 rfl (lv_at hl 5 rfl) ?_
    refine L_getI hx hL (a := 300) 20 fc10 (by decide +kernel) (xst_la (Nat.le_refl _) ⟨by decide, by decide⟩) rfl ⟨rfl, rfl, rfl⟩ g565 dL_law_280 ?_
    rw [eR]
    refine lv_icmp_ge (tgt := 420) hx.1 hx.2.1 dL_law_283 (by decide) (fun _ => ?_) (fun y => absurd (nI_le (by omega) (by omega)) y)
    rw [e1] at hz hl
    rw [e0] at hT hl ⊢
    exact W.widen (k := c0 + 7 * (5 * a + 5)) (n := s0 + 4900 * (5 * a + 5)) (by omega) (by omega) (kk z X H locs ls hz hT hL hl)
  | succ n ih =>
    intro k hk z X H locs ls hz hT hL hl
    have hb9 : a + 1 + k < (tR d).toNat := by omega
    have hbw := hd.2.2.1 (a : Int) ((a : Int) + 1 + k) (by omega) (by omega) (by omega)
    have etw : tw d (a : Int) ((a : Int) + 1 + k) = if bv (Czi L xs (6 + 5 * a + (a + 1 + k))) 0 2 = 0 then 0 else 1 + bv (Czi L xs (6 + 5 * a + (a + 1 + k))) 2 4 % 9 := by
      rw [← hdd]
      show (if bv (Czi L xs (6 + 5 * (a : Int).toNat + ((a : Int) + 1 + k).toNat)) 0 2 = 0 then 0 else 1 + bv (Czi L xs (6 + 5 * (a : Int).toNat + ((a : Int) + 1 + k).toNat)) 2 4 % 9) = _
      rw [show ((a : Int) + 1 + k).toNat = a + 1 + k by omega, Int.toNat_natCast]
    have ecs : ((a + 1 + k : Nat) : Int) = (a : Int) + 1 + k := by push_cast; rfl
    have eR : cm z 300 20 = nI (tR d).toNat := by
      show oI (z 300 20) = _
      rw [hz.1 300 (by decide), hw, ← oI_n, Int.toNat_of_nonneg (by omega)]
    refine lv_iload hx.1 hx.2.1 dL_law_277 (lv_at hl 0 rfl) ?_
    refine lv_aload_n hx.1 hx.2.1 dL_law_279 rfl (lv_at hl 5 rfl) ?_
    refine L_getI hx hL (a := 300) 20 fc10 (by decide +kernel) (xst_la (Nat.le_refl _) ⟨by decide, by decide⟩) rfl ⟨rfl, rfl, rfl⟩ g565 dL_law_280 ?_
    rw [eR]
    refine lv_icmp_ge (tgt := 420) hx.1 hx.2.1 dL_law_283 (by decide) (fun y => absurd y (nI_ge hb9 (by omega))) (fun _ => ?_)
    refine lv_aload_n hx.1 hx.2.1 dL_law_286 rfl (lv_at hl 7 rfl) ?_
    refine lv_bipush (v := nI 6) hx.1 hx.2.1 dL_law_287 (by decide) ?_
    refine lv_iconst (v := nI 5) hx.1 hx.2.1 dL_law_289 (by decide) ?_
    refine lv_iload hx.1 hx.2.1 dL_law_290 (lv_at hl 1 rfl) ?_
    refine lv_imul hx.1 hx.2.1 dL_law_292 ?_
    rw [pk_mul]
    refine lv_iadd hx.1 hx.2.1 dL_law_293 ?_
    rw [nI_add]
    refine lv_iload hx.1 hx.2.1 dL_law_294 (lv_at hl 0 rfl) ?_
    refine lv_iadd hx.1 hx.2.1 dL_law_296 ?_
    rw [nI_add]
    refine L_cell hx hV hSc (k := 6 + 5 * a + (a + 1 + k)) ⟨hLk, by omega⟩ ⟨by omega, by omega⟩ ⟨by omega, by omega⟩ dL_law_297 [] (Nat.le_of_ble_eq_true rfl) hl.1 hL (fun H locs hL => ?_)
    rw [Czi_o]
    refine lv_istore (lv' := [(8, .int (oI (Czi L xs (6 + 5 * a + (a + 1 + k))))), (7, .int (nI (a + 1 + k))), (6, .int (nI a)), (5, .int (nI ((wyA d a).length + (wyB d a k).length))), (4, .ref b), (3, x3), (2, .ref (ad 300)), (1, .ref (ad 0)), (0, .ref sc)]) hx.1 hx.2.1 dL_law_300 hl (by decide) rfl (fun ls hl => ?_)
    refine lv_iload hx.1 hx.2.1 dL_law_302 (lv_at hl 0 rfl) ?_
    refine lv_iconst (v := oI 0) hx.1 hx.2.1 dL_law_304 rfl ?_
    refine lv_iconst (v := oI 2) hx.1 hx.2.1 dL_law_305 rfl ?_
    refine L_bits hx (x := Czi L xs (6 + 5 * a + (a + 1 + k))) (f := 0) (k := 2) (by decide) ⟨by omega, by omega⟩ ⟨by omega, by omega⟩ dL_law_306 [] (Nat.le_of_ble_eq_true rfl) hl.1 hL (fun H locs hL => ?_)
    have hrec : ∀ (z : aI) (X : va_W) (H : Heap) (locs : List Loc) (ls : Array Slot) (v : Value), PBz w1 z d a (a + 1 + (k + 1)) → BT cB b (oLz (txz (rfL d (tR d).toNat ++ wyA d a ++ wyB d a (k + 1)))) X → Lx D ad aT 241 A s.heap (cm z) X H locs → lv_has ls 9 [(5, .int (nI ((wyA d a).length + (wyB d a (k + 1)).length))), (8, v), (7, .int (nI (a + 1 + k))), (6, .int (nI a)), (4, .ref b), (3, x3), (2, .ref (ad 300)), (1, .ref (ad 0)), (0, .ref sc)] → W p l e R s m args below meth c H locs (c0 + 7 * (5 * a + (k + 1))) (s0 + 4900 * (5 * a + (k + 1))) Q (F0 m 414 ls []) := by
      intro z X H locs ls v hz hT hL hl
      refine lv_iinc (k := 2) (lv' := [(7, .int (nI (a + 1 + (k + 1)))), (5, .int (nI ((wyA d a).length + (wyB d a (k + 1)).length))), (8, v), (6, .int (nI a)), (4, .ref b), (3, x3), (2, .ref (ad 300)), (1, .ref (ad 0)), (0, .ref sc)]) hx.1 hx.2.1 dL_law_414 hl rfl (nI_1 (a + 1 + k)) (by decide) rfl (fun ls hl => ?_)
      refine lv_goto (tgt := 277) hx.1 hx.2.1 dL_law_417 (by decide) ?_
      exact ih (k + 1) (by omega) z X H locs _ hz hT hL (lv_sub hl [0, 3, 1, 4, 5, 6, 7, 8] rfl)
    refine lv_if_ne (tgt := 315) hx.1 hx.2.1 dL_law_309 (by decide) (fun y => ?_) (fun y => ?_)
    · have hn0 : ¬ bv (Czi L xs (6 + 5 * a + (a + 1 + k))) 0 2 = 0 := fun q => y (by rw [q]; rfl)
      rw [if_neg hn0] at etw
      have hb4 := bv_4 (Czi L xs (6 + 5 * a + (a + 1 + k))) 2
      have hbig : ¬ tw d (a : Int) ((a : Int) + 1 + k) = 0 := by omega
      obtain ⟨far, hfar⟩ : ∃ q : Nat, tw d (a : Int) ((a : Int) + 1 + k) = q := ⟨(tw d (a : Int) ((a : Int) + 1 + k)).toNat, (Int.toNat_of_nonneg (by omega)).symm⟩
      have r1 := row_z a (by omega)
      have r2 := row_z (a + 1 + k) (by omega)
      have hlen0 : (oLz (txz (rfL d (tR d).toNat ++ wyA d a ++ wyB d a k))).length ≤ 180 := by
        rw [oLz_len]
        exact pre_len hd (by omega)
      obtain ⟨t0, ht0⟩ : ∃ t, t = (oLz (txz (rfL d (tR d).toNat ++ wyA d a ++ wyB d a k))) := ⟨_, rfl⟩
      rw [← ht0] at hT hlen0
      refine lv_aload_n hx.1 hx.2.1 dL_law_315 rfl (lv_at hl 6 rfl) ?_
      refine L_getR hx hL (a := 300) (b := 307) 6 fc10 (by decide +kernel) (xst_la (Nat.le_refl _) ⟨by decide, by decide⟩) (by decide +kernel) rfl ⟨rfl, rfl, rfl⟩ g551 dL_law_316 ?_
      refine lv_iload hx.1 hx.2.1 dL_law_319 (lv_at hl 2 rfl) ?_
      refine L_aald hx hL (a := 307) (i := a) rfl (xst_la (Nat.le_refl _) ⟨by decide, by decide⟩) (by decide +kernel) (by show a < 5; omega) (by decide +kernel) dL_law_321 ?_
      rw [r1.1]
      refine lv_iload hx.1 hx.2.1 dL_law_322 (lv_at hl 1 rfl) ?_
      refine lv_iconst (v := oI 1) hx.1 hx.2.1 dL_law_324 rfl ?_
      refine lv_iload hx.1 hx.2.1 dL_law_325 (lv_at hl 0 rfl) ?_
      refine lv_iconst (v := oI 2) hx.1 hx.2.1 dL_law_327 rfl ?_
      refine lv_iconst (v := oI 4) hx.1 hx.2.1 dL_law_328 rfl ?_
      refine L_bits hx (x := Czi L xs (6 + 5 * a + (a + 1 + k))) (f := 2) (k := 4) (by decide) ⟨by omega, by omega⟩ ⟨by omega, by omega⟩ dL_law_329 [.int (oI 1), .int (nI (a + 1 + k)), .ref (ad (308 + a))] (Nat.le_of_ble_eq_true rfl) hl.1 hL (fun H locs hL => ?_)
      refine lv_bipush (v := oI 9) hx.1 hx.2.1 dL_law_332 (by decide) ?_
      refine lv_irem hx.1 hx.2.1 dL_law_334 (by decide) ?_
      rw [rem_z (by omega) (Or.inr (Or.inl rfl))]
      refine lv_iadd hx.1 hx.2.1 dL_law_335 ?_
      rw [oI_add, ← etw]
      refine L_iast hx hL (a := 308 + a) (i := a + 1 + k) (x := tw d (a : Int) ((a : Int) + 1 + k)) rfl (xst_la (Nat.le_refl _) ⟨by omega, by omega⟩) (by omega) r1.2.1 (by rw [r1.2.2]; omega) (by rw [r1.2.2]; decide) dL_law_336 (fun H locs hL => ?_)
      refine lv_aload_n hx.1 hx.2.1 dL_law_337 rfl (lv_at hl 6 rfl) ?_
      refine L_getR hx hL (a := 300) (b := 307) 6 fc10 (by decide +kernel) (xst_la (Nat.le_refl _) ⟨by decide, by decide⟩) (by decide +kernel) rfl ⟨rfl, rfl, rfl⟩ g551 dL_law_338 ?_
      refine lv_iload hx.1 hx.2.1 dL_law_341 (lv_at hl 1 rfl) ?_
      refine L_aald hx hL (a := 307) (i := a + 1 + k) rfl (xst_la (Nat.le_refl _) ⟨by decide, by decide⟩) (by decide +kernel) (by show a + 1 + k < 5; omega) (by decide +kernel) dL_law_343 ?_
      rw [r2.1]
      refine lv_iload hx.1 hx.2.1 dL_law_344 (lv_at hl 2 rfl) ?_
      refine lv_aload_n hx.1 hx.2.1 dL_law_346 rfl (lv_at hl 6 rfl) ?_
      refine L_getR hx hL (a := 300) (b := 307) 6 fc10 (by decide +kernel) (xst_la (Nat.le_refl _) ⟨by decide, by decide⟩) (by decide +kernel) rfl ⟨rfl, rfl, rfl⟩ g551 dL_law_347 ?_
      refine lv_iload hx.1 hx.2.1 dL_law_350 (lv_at hl 2 rfl) ?_
      refine L_aald hx hL (a := 307) (i := a) rfl (xst_la (Nat.le_refl _) ⟨by decide, by decide⟩) (by decide +kernel) (by show a < 5; omega) (by decide +kernel) dL_law_352 ?_
      rw [r1.1]
      refine lv_iload hx.1 hx.2.1 dL_law_353 (lv_at hl 1 rfl) ?_
      refine L_iald hx hL (a := 308 + a) (i := a + 1 + k) rfl (xst_la (Nat.le_refl _) ⟨by omega, by omega⟩) r1.2.1 (by rw [r1.2.2]; omega) (by rw [r1.2.2]; decide) dL_law_355 ?_
      have ev : cm (iset z (308 + a) ((a + 1 + k : Nat) : Int) (tw d (a : Int) ((a : Int) + 1 + k))) (308 + a) (a + 1 + k) = oI (tw d (a : Int) ((a : Int) + 1 + k)) := by show oI (iset z (308 + a) ((a + 1 + k : Nat) : Int) (tw d (a : Int) ((a : Int) + 1 + k)) (308 + a) ((a + 1 + k : Nat) : Int)) = _; rw [is_eq, rs_self]
      rw [ev]
      refine L_iast hx hL (a := 308 + (a + 1 + k)) (i := a) (x := tw d (a : Int) ((a : Int) + 1 + k)) rfl (xst_la (Nat.le_refl _) ⟨by omega, by omega⟩) (by omega) r2.2.1 (by rw [r2.2.2]; omega) (by rw [r2.2.2]; decide) dL_law_356 (fun H locs hL => ?_)
      have hz4 := hz.way (by omega) (by omega)
      rw [ecs] at hz4
      rw [ecs] at hL
      obtain ⟨z4, hzz⟩ : ∃ z4, z4 = iset (iset z (308 + a) ((a : Int) + 1 + k) (tw d (a : Int) ((a : Int) + 1 + k))) (308 + (a + 1 + k)) (a : Int) (tw d (a : Int) ((a : Int) + 1 + k)) := ⟨_, rfl⟩
      rw [← hzz] at hL hz4
      refine lv_aload hx.1 hx.2.1 dL_law_357 (lv_at hl 4 rfl) ?_
      refine L_ldcS hx (tx := "way ") 35 (by decide +kernel) dL_law_359 ?_
      refine L_apS hx hV hT 35 (by decide +kernel) (by rw [xB_len9.2.1]; omega) (xB_fit 35 (by decide) (by decide)) ⟨by omega, by omega⟩ ⟨by omega, by omega⟩ dL_law_361 [] (Nat.le_of_ble_eq_true rfl) hl.1 hL (fun X H locs hT hL => ?_)
      obtain ⟨t1, ht1⟩ : ∃ t, t = t0 ++ xB 35 := ⟨_, rfl⟩
      rw [← ht1] at hT
      have hlen1 : t1.length ≤ 184 := by rw [ht1, List.length_append, xB_len9.2.1]; omega
      refine lv_bipush (v := nI 97) hx.1 hx.2.1 dL_law_364 (by decide) ?_
      refine lv_iload hx.1 hx.2.1 dL_law_366 (lv_at hl 1 rfl) ?_
      refine lv_iadd hx.1 hx.2.1 dL_law_368 ?_
      rw [nI_add]
      refine lv_i2c hx.1 hx.2.1 dL_law_369 (chc_z (97 + (a + 1 + k)) (by omega)) ?_
      refine L_apC hx hV hT (k := 97 + (a + 1 + k)) (by omega) (by omega) ⟨by omega, by omega⟩ ⟨by omega, by omega⟩ dL_law_370 [] (Nat.le_of_ble_eq_true rfl) hl.1 hL (fun X H locs hT hL => ?_)
      obtain ⟨t2, ht2⟩ : ∃ t, t = t1 ++ [nI (97 + (a + 1 + k))] := ⟨_, rfl⟩
      rw [← ht2] at hT
      have hlen2 : t2.length ≤ 185 := by rw [ht2, List.length_append]; show t1.length + 1 ≤ _; omega
      refine lv_bipush (v := nI 32) hx.1 hx.2.1 dL_law_373 (by decide) ?_
      refine L_apC hx hV hT (k := 32) (by omega) (by omega) ⟨by omega, by omega⟩ ⟨by omega, by omega⟩ dL_law_375 [] (Nat.le_of_ble_eq_true rfl) hl.1 hL (fun X H locs hT hL => ?_)
      obtain ⟨t3, ht3⟩ : ∃ t, t = t2 ++ [nI 32] := ⟨_, rfl⟩
      rw [← ht3] at hT
      have hlen3 : t3.length ≤ 186 := by rw [ht3, List.length_append]; show t2.length + 1 ≤ _; omega
      refine lv_bipush (v := nI 97) hx.1 hx.2.1 dL_law_378 (by decide) ?_
      refine lv_iload hx.1 hx.2.1 dL_law_380 (lv_at hl 2 rfl) ?_
      refine lv_iadd hx.1 hx.2.1 dL_law_382 ?_
      rw [nI_add]
      refine lv_i2c hx.1 hx.2.1 dL_law_383 (chc_z (97 + a) (by omega)) ?_
      refine L_apC hx hV hT (k := 97 + a) (by omega) (by omega) ⟨by omega, by omega⟩ ⟨by omega, by omega⟩ dL_law_384 [] (Nat.le_of_ble_eq_true rfl) hl.1 hL (fun X H locs hT hL => ?_)
      obtain ⟨t4, ht4⟩ : ∃ t, t = t3 ++ [nI (97 + a)] := ⟨_, rfl⟩
      rw [← ht4] at hT
      have hlen4 : t4.length ≤ 187 := by rw [ht4, List.length_append]; show t3.length + 1 ≤ _; omega
      refine lv_bipush (v := nI 32) hx.1 hx.2.1 dL_law_387 (by decide) ?_
      refine L_apC hx hV hT (k := 32) (by omega) (by omega) ⟨by omega, by omega⟩ ⟨by omega, by omega⟩ dL_law_389 [] (Nat.le_of_ble_eq_true rfl) hl.1 hL (fun X H locs hT hL => ?_)
      obtain ⟨t5, ht5⟩ : ∃ t, t = t4 ++ [nI 32] := ⟨_, rfl⟩
      rw [← ht5] at hT
      have hlen5 : t5.length ≤ 188 := by rw [ht5, List.length_append]; show t4.length + 1 ≤ _; omega
      refine lv_aload_n hx.1 hx.2.1 dL_law_392 rfl (lv_at hl 6 rfl) ?_
      refine L_getR hx hL (a := 300) (b := 307) 6 fc10 (by decide +kernel) (xst_la (Nat.le_refl _) ⟨by decide, by decide⟩) (by decide +kernel) rfl ⟨rfl, rfl, rfl⟩ g551 dL_law_393 ?_
      refine lv_iload hx.1 hx.2.1 dL_law_396 (lv_at hl 2 rfl) ?_
      refine L_aald hx hL (a := 307) (i := a) rfl (xst_la (Nat.le_refl _) ⟨by decide, by decide⟩) (by decide +kernel) (by show a < 5; omega) (by decide +kernel) dL_law_398 ?_
      rw [r1.1]
      refine lv_iload hx.1 hx.2.1 dL_law_399 (lv_at hl 1 rfl) ?_
      refine L_iald hx hL (a := 308 + a) (i := a + 1 + k) rfl (xst_la (Nat.le_refl _) ⟨by omega, by omega⟩) r1.2.1 (by rw [r1.2.2]; omega) (by rw [r1.2.2]; decide) dL_law_401 ?_
      have ev2 : cm z4 (308 + a) (a + 1 + k) = nI far := by
        show oI (z4 (308 + a) ((a + 1 + k : Nat) : Int)) = _
        rw [hz4.2 a (a + 1 + k) (by omega) (by omega), if_pos (by omega), if_pos (by omega), ecs, hfar, oI_n]
      rw [ev2]
      refine L_apI hx hV hT (k := far) hFD (by omega) (by omega) ⟨by omega, by omega⟩ ⟨by omega, by omega⟩ dL_law_402 [] (Nat.le_of_ble_eq_true rfl) hl.1 hL (fun X H locs hT hL => ?_)
      obtain ⟨t6, ht6⟩ : ∃ t, t = t5 ++ dgI far := ⟨_, rfl⟩
      rw [← ht6] at hT
      have hlen6 : t6.length ≤ 190 := by rw [ht6, List.length_append]; have := dgI_le far; omega
      refine lv_bipush (v := nI 59) hx.1 hx.2.1 dL_law_405 (by decide) ?_
      refine L_apC hx hV hT (k := 59) (by omega) (by omega) ⟨by omega, by omega⟩ ⟨by omega, by omega⟩ dL_law_407 [] (Nat.le_of_ble_eq_true rfl) hl.1 hL (fun X H locs hT hL => ?_)
      obtain ⟨t7, ht7⟩ : ∃ t, t = t6 ++ [nI 59] := ⟨_, rfl⟩
      rw [← ht7] at hT
      have hlen7 : t7.length ≤ 191 := by rw [ht7, List.length_append]; show t6.length + 1 ≤ _; omega
      refine lv_pop hx.1 hx.2.1 dL_law_410 rfl ?_
      have eW : wyB d a (k + 1) = wyB d a k ++ [(1, (a : Int) + 1 + k, (a : Int), tw d (a : Int) ((a : Int) + 1 + k), 0, 0)] := by
        show wyB d a k ++ (if tw d a (a + 1 + k) = 0 then [] else [(1, (a : Int) + 1 + k, (a : Int), tw d a (a + 1 + k), 0, 0)]) = _
        rw [if_neg hbig]
      have eT : t7 = (oLz (txz (rfL d (tR d).toNat ++ wyA d a ++ wyB d a (k + 1)))) := by
        have e2 : txz [((1 : Int), (a : Int) + 1 + k, (a : Int), tw d (a : Int) ((a : Int) + 1 + k), (0 : Int), (0 : Int))] = bWy ((a : Int) + 1 + k) (a : Int) (tw d (a : Int) ((a : Int) + 1 + k)) := List.append_nil _
        rw [eW, ← List.append_assoc, txz_app (_ ++ _) [_], e2, oLz_app, hfar, ← ecs, oLz_wy (b := a + 1 + k) (a := a) (far := far) (by omega), ht7, ht6, ht5, ht4, ht3, ht2, ht1, ht0]
        simp only [List.append_assoc]
      rw [eT] at hT
      have eC : ((wyA d a).length + (wyB d a k).length) + 1 = ((wyA d a).length + (wyB d a (k + 1)).length) := by rw [eW, List.length_append]; show _ = _ + (_ + 1); omega
      refine lv_iinc (k := 3) (lv' := [(5, .int (nI ((wyA d a).length + (wyB d a (k + 1)).length))), (8, .int (oI (Czi L xs (6 + 5 * a + (a + 1 + k))))), (7, .int (nI (a + 1 + k))), (6, .int (nI a)), (4, .ref b), (3, x3), (2, .ref (ad 300)), (1, .ref (ad 0)), (0, .ref sc)]) hx.1 hx.2.1 dL_law_411 hl rfl (by rw [← eC]; exact nI_1 _) (by decide) rfl (fun ls hl => ?_)
      refine W.widen (k := c0 + 7 * (5 * a + (k + 1))) (n := s0 + 4900 * (5 * a + (k + 1))) (by omega) (by omega) ?_
      exact hrec z4 X H locs _ _ hz4 hT hL (lv_sub hl [0, 1, 2, 3, 4, 5, 6, 7, 8] rfl)
    · have hn0 : bv (Czi L xs (6 + 5 * a + (a + 1 + k))) 0 2 = 0 := (oI_eq0 (by have := bv_2 (Czi L xs (6 + 5 * a + (a + 1 + k))) 0; unfold rg; omega)).mp y
      rw [if_pos hn0] at etw
      refine lv_goto (tgt := 414) hx.1 hx.2.1 dL_law_312 (by decide) ?_
      have eW : wyB d a (k + 1) = wyB d a k := by
        show wyB d a k ++ (if tw d a (a + 1 + k) = 0 then [] else [(1, (a : Int) + 1 + k, (a : Int), tw d a (a + 1 + k), 0, 0)]) = _
        rw [if_pos etw, List.append_nil]
      have hz4 := hz.none (by omega) (by rw [ecs]; exact etw)
      refine W.widen (k := c0 + 7 * (5 * a + (k + 1))) (n := s0 + 4900 * (5 * a + (k + 1))) (by omega) (by omega) ?_
      exact hrec z X H locs _ _ hz4 (by rw [eW]; exact hT) hL (by rw [eW]; exact lv_sub hl [3, 0, 1, 2, 4, 5, 6, 7, 8] rfl)
theorem ways_out (hM : MzC p l R s m args meth c D aT cB ad adV A sc L xs d1 d2) {w1 : aI} (hw : w1 300 20 = tR (dzT (Czi L xs))) {b c0 s0 : Nat} {x3 : Value} (hcs : c0 + 200 ≤ R.cells ∧ s0 + 140000 ≤ R.slots)
    (kk : ∀ (z : aI) (X : va_W) (H1 : Heap) (locs1 : List Loc) (ls1 : Array Slot), PBz w1 z (dzT (Czi L xs)) (tR (dzT (Czi L xs))).toNat ((tR (dzT (Czi L xs))).toNat + 1) → BT cB b (oLz (txz (rfL (dzT (Czi L xs)) (tR (dzT (Czi L xs))).toNat ++ wyA (dzT (Czi L xs)) (tR (dzT (Czi L xs))).toNat))) X → Lx D ad aT 241 A s.heap (cm z) X H1 locs1 → lv_has ls1 9 [(6, .int (nI ((tR (dzT (Czi L xs))).toNat))), (5, .int (nI (wyA (dzT (Czi L xs)) (tR (dzT (Czi L xs))).toNat).length)), (4, .ref b), (3, x3), (2, .ref (ad 300)), (1, .ref (ad 0)), (0, .ref sc)] → W p l e R s m args below meth c H1 locs1 (c0 + 175) (s0 + 122500) Q (F0 m 426 ls1 [])) :
    ∀ n a, a + n = (tR (dzT (Czi L xs))).toNat → ∀ (z : aI) (X : va_W) (H : Heap) (locs : List Loc) (ls : Array Slot), PBz w1 z (dzT (Czi L xs)) a (a + 1) → BT cB b (oLz (txz (rfL (dzT (Czi L xs)) (tR (dzT (Czi L xs))).toNat ++ wyA (dzT (Czi L xs)) a))) X → Lx D ad aT 241 A s.heap (cm z) X H locs → lv_has ls 9 [(6, .int (nI a)), (5, .int (nI (wyA (dzT (Czi L xs)) a).length)), (4, .ref b), (3, x3), (2, .ref (ad 300)), (1, .ref (ad 0)), (0, .ref sc)] → W p l e R s m args below meth c H locs (c0 + 7 * (5 * a)) (s0 + 4900 * (5 * a)) Q (F0 m 262 ls []) := by
  have hM0 := hM
  have hd := dzT_ok (Czi L xs)
  obtain ⟨d, hdd⟩ : ∃ d, d = dzT (Czi L xs) := ⟨_, rfl⟩
  have hw0 := hw
  rw [← hdd] at hd hw kk ⊢
  obtain ⟨hx, hV, hSc, hFD, hLk, hR1, hR2⟩ := hM
  have h5 := hd.1
  intro n
  induction n with
  | zero =>
    intro a ha z X H locs ls hz hT hL hl
    have e0 : a = (tR d).toNat := by omega
    subst e0
    have eR : cm z 300 20 = nI (tR d).toNat := by
      show oI (z 300 20) = _
      rw [hz.1 300 (by decide), hw, ← oI_n, Int.toNat_of_nonneg (by omega)]
    refine lv_iload hx.1 hx.2.1 dL_law_262 (lv_at hl 0 rfl) ?_
    refine lv_aload_n hx.1 hx.2.1 dL_law_264 rfl (lv_at hl 4 rfl) ?_
    refine L_getI hx hL (a := 300) 20 fc10 (by decide +kernel) (xst_la (Nat.le_refl _) ⟨by decide, by decide⟩) rfl ⟨rfl, rfl, rfl⟩ g565 dL_law_265 ?_
    rw [eR]
    refine lv_icmp_ge (tgt := 426) hx.1 hx.2.1 dL_law_268 (by decide) (fun _ => ?_) (fun y => absurd (nI_le (Nat.le_refl _) (by omega)) y)
    exact W.widen (k := c0 + 175) (n := s0 + 122500) (by omega) (by omega) (kk z X H locs ls hz hT hL hl)
  | succ n ih =>
    intro a ha z X H locs ls hz hT hL hl
    have ha9 : a < (tR d).toNat := by omega
    have eR : cm z 300 20 = nI (tR d).toNat := by
      show oI (z 300 20) = _
      rw [hz.1 300 (by decide), hw, ← oI_n, Int.toNat_of_nonneg (by omega)]
    refine lv_iload hx.1 hx.2.1 dL_law_262 (lv_at hl 0 rfl) ?_
    refine lv_aload_n hx.1 hx.2.1 dL_law_264 rfl (lv_at hl 4 rfl) ?_
    refine L_getI hx hL (a := 300) 20 fc10 (by decide +kernel) (xst_la (Nat.le_refl _) ⟨by decide, by decide⟩) rfl ⟨rfl, rfl, rfl⟩ g565 dL_law_265 ?_
    rw [eR]
    refine lv_icmp_ge (tgt := 426) hx.1 hx.2.1 dL_law_268 (by decide) (fun y => absurd y (nI_ge ha9 (by omega))) (fun _ => ?_)
    refine lv_iload hx.1 hx.2.1 dL_law_271 (lv_at hl 0 rfl) ?_
    refine lv_iconst (v := 1) hx.1 hx.2.1 dL_law_273 (by decide) ?_
    refine lv_iadd hx.1 hx.2.1 dL_law_274 ?_
    rw [nI_1]
    refine lv_istore (lv' := [(7, .int (nI (a + 1 + 0))), (6, .int (nI a)), (5, .int (nI (wyA d a).length)), (4, .ref b), (3, x3), (2, .ref (ad 300)), (1, .ref (ad 0)), (0, .ref sc)]) hx.1 hx.2.1 dL_law_275 hl (by decide) rfl (fun ls hl => ?_)
    have eB : wyB d a 0 = [] := rfl
    refine ways_in hM0 hw0 (b := b) (c0 := c0) (s0 := s0) (a := a) (x3 := x3) (by rw [← hdd]; exact ha9) hcs ?_ ((tR d).toNat - 1 - a) 0 (by rw [← hdd]; omega) z X H locs ls (by rw [← hdd]; exact hz) (by rw [← hdd, eB, List.append_nil]; exact hT) hL (by rw [← hdd, eB]; exact hl)
    rw [← hdd]
    intro z X H locs ls hz hT hL hl
    have eA : wyA d (a + 1) = wyA d a ++ wyB d a ((tR d).toNat - 1 - a) := rfl
    have eL : (wyA d a).length + (wyB d a ((tR d).toNat - 1 - a)).length = (wyA d (a + 1)).length := by rw [eA, List.length_append]
    rw [eL] at hl
    rw [List.append_assoc, ← eA] at hT
    refine lv_iinc (k := 1) (lv' := [(6, .int (nI (a + 1))), (7, .int (nI ((tR d).toNat))), (5, .int (nI (wyA d (a + 1)).length)), (4, .ref b), (3, x3), (2, .ref (ad 300)), (1, .ref (ad 0)), (0, .ref sc)]) hx.1 hx.2.1 dL_law_420 hl rfl (nI_1 a) (by decide) rfl (fun ls hl => ?_)
    refine lv_goto (tgt := 262) hx.1 hx.2.1 dL_law_423 (by decide) ?_
    have q1 : c0 + 7 * (5 * a + 5) ≤ c0 + 7 * (5 * (a + 1)) := by omega
    have q2 : s0 + 4900 * (5 * a + 5) ≤ s0 + 4900 * (5 * (a + 1)) := Nat.add_le_add_left (Nat.mul_le_mul_left _ (by omega)) _
    refine W.widen q1 q2 ?_
    exact ih (a + 1) (by omega) z X H locs _ hz.out hT hL (lv_sub hl [0, 2, 3, 4, 5, 6, 7] rfl)
end WF
