/-! ===== Strings, and append(String) ===== -/
/-- a String of one byte a letter: the object, its array, its bytes -/
def FS (sa sd : Nat) (bs : List Int32) : aF := fun A U H => va_O "java/lang/String" sa A U H ∧ va_OF "java/lang/String" "coder" "B" (.int 0) sa A U H ∧ va_OF "java/lang/String" "value" "[B" (.ref sd) sa A U H ∧ va_T .byte sd bs.length (fun j => .int (bs.getD j 0)) A U H
theorem FS_ok {sa sd : Nat} {bs : List Int32} : FOK (FS sa sd bs) := fun _ _ _ _ h k => ⟨va_O.moved h.alike k.1, va_OF.moved h.alike k.2.1, va_OF.moved h.alike k.2.2.1, va_T.moved h.alike k.2.2.2⟩
theorem FS.kept {sa sd : Nat} {bs : List Int32} {A : Nat → Prop} {U : State} {H H1 : Heap} (h : FS sa sd bs A U H) (hq : ∀ a : Nat, a < H.size → ¬ A a → H1[a]? = H[a]?) : FS sa sd bs A U H1 := ⟨h.1.kept hq, h.2.1.kept hq, h.2.2.1.kept hq, h.2.2.2.kept hq⟩
theorem FS.narrow {sa sd : Nat} {bs : List Int32} {A B : Nat → Prop} {U : State} {H : Heap} (h : FS sa sd bs A U H) (hAB : ∀ q, B q → A q) : FS sa sd bs B U H := ⟨h.1.narrow hAB, h.2.1.narrow hAB, h.2.2.1.narrow hAB, h.2.2.2.narrow hAB⟩
theorem FS.recv {sa sd : Nat} {bs : List Int32} {A : Nat → Prop} {s : State} {H : Heap} (h : FS sa sd bs A s H) : ∃ cell : Cell, H[sa]? = some cell ∧ cell.vm.isStatics = false ∧ s.vm.findClass "java/lang/String" = some cell.cls := by
  obtain ⟨cell, c1, c2, c3, -⟩ := h.1
  exact ⟨cell, c1, c2, c3⟩
theorem bc_scoder (cB : ClassId) {sa sd : Nat} {bs : List Int32} : Bc yJ0_coder_7d493 cJ0_coder_7d493 1 (some .byte) 1 0 0 (FS sa sd bs) [.ref sa] cB [] (fun r w1 => r = some (.int 0) ∧ w1 = []) := by
  refine Bc.of (own := RJ0) (by decide +kernel) rfl (Nat.le_of_ble_eq_true rfl) (fun p l e s mt args below meth c D ls hx hS hF hl => ?_)
  have hl : lv_has ls 1 [(0, .ref sa)] := hl
  have hF : FS sa sd bs (va_A [] s.heap.size) s s.heap := hF
  refine B_cmp hx hS g272 dJ0_coder_7d493_0 ?_
  refine lv_if_eq (tgt := 13) hx.1 hx.2.1 dJ0_coder_7d493_3 (by decide) (fun z => absurd z (by decide)) (fun _ => ?_)
  refine lv_aload_n hx.1 hx.2.1 dJ0_coder_7d493_6 rfl (lv_at hl 0 rfl) ?_
  refine vk_getf (ref := "java/lang/String") hx.1 hx.2.1 hF.2.1 hS.2.2 hx.2.2.2.1 (hx.2.2.2.2.1 _ g1312) (fun _ h => h) dJ0_coder_7d493_7 ?_
  refine lv_goto (tgt := 14) hx.1 hx.2.1 dJ0_coder_7d493_10 (by decide) ?_
  exact B_retI hx hS ⟨rfl, rfl⟩ .byte rfl rfl ⟨Nat.le_refl _, Nat.le_refl _⟩ dJ0_coder_7d493_14 rfl
theorem bc_slength (cB : ClassId) {sa sd : Nat} {bs : List Int32} : Bc yJ0_length_8abf5 cJ0_length_8abf5 1 (some .int) 2 0 0 (FS sa sd bs) [.ref sa] cB [] (fun r w1 => r = some (.int (nI bs.length)) ∧ w1 = []) := by
  refine Bc.of (own := RJ0) (by decide +kernel) rfl (Nat.le_of_ble_eq_true rfl) (fun p l e s mt args below meth c D ls hx hS hF hl => ?_)
  have hl : lv_has ls 1 [(0, .ref sa)] := hl
  have hF : FS sa sd bs (va_A [] s.heap.size) s s.heap := hF
  refine lv_aload_n hx.1 hx.2.1 dJ0_length_8abf5_0 rfl (lv_at hl 0 rfl) ?_
  refine vk_getf (ref := "java/lang/String") hx.1 hx.2.1 hF.2.2.1 hS.2.2 hx.2.2.2.1 (hx.2.2.2.2.1 _ g1311) (fun _ h => h) dJ0_length_8abf5_1 ?_
  refine va_tlen hx.1 hx.2.1 hF.2.2.2 hS.2.2 (v := nI bs.length) rfl dJ0_length_8abf5_4 ?_
  refine lv_aload_n hx.1 hx.2.1 dJ0_length_8abf5_5 rfl (lv_at hl 0 rfl) ?_
  refine B_callV (n := 0) hx (wr := []) (bc_scoder cB (sa := sa) (sd := sd) (bs := bs)) FS_ok hS hF (FS.recv hF) (hx.2.2.2.2.1 _ g270) g271 g36 g268 g269 ⟨⟨by decide +kernel, by decide +kernel⟩, by decide +kernel⟩ dJ0_length_8abf5_6 [.int (nI bs.length)] rfl rfl (Nat.le_of_ble_eq_true rfl) ⟨by decide, by decide⟩ ⟨by decide, by decide⟩ hl.1 (fun r w1 H1 locs1 hp hS => ?_)
  obtain ⟨rfl, rfl⟩ := hp
  refine lv_ishr hx.1 hx.2.1 dJ0_length_8abf5_9 ?_
  rw [sb_shr0]
  exact B_retI hx hS ⟨rfl, rfl⟩ .int rfl rfl ⟨Nat.le_refl _, Nat.le_refl _⟩ dJ0_length_8abf5_10 rfl
theorem Bsub {D : va_G} {A : Nat → Prop} {H0 H : Heap} {wr wc : va_W} {locs : List Loc} (hS : Sx D A H0 (wr ++ wc) H locs) (hA : ∀ q, H0.size ≤ q → A q) : ∀ q, va_A wc H.size q → A q := by
  rintro q (⟨k, e, hk⟩ | h)
  · exact hS.2.1.2 (wr.length + k) _ (by rw [List.getElem?_append_right (Nat.le_add_right _ _), Nat.add_sub_cancel_left]; exact hk)
  · exact hA q (Nat.le_trans hS.2.2.1 h)
theorem FS.at {D : va_G} {A : Nat → Prop} {s : State} {H : Heap} {wr wc : va_W} {locs : List Loc} {sa sd : Nat} {bs : List Int32} (h : FS sa sd bs A s s.heap) (hS : Sx D A s.heap (wr ++ wc) H locs) (hA : ∀ q, s.heap.size ≤ q → A q) : FS sa sd bs (va_A wc H.size) s H := (h.kept hS.2.2.2.1).narrow (Bsub hS hA)
theorem FS.rc {D : va_G} {A : Nat → Prop} {s : State} {H : Heap} {ws : va_W} {locs : List Loc} {sa sd : Nat} {bs : List Int32} (h : FS sa sd bs A s s.heap) (hS : Sx D A s.heap ws H locs) : ∃ cell : Cell, H[sa]? = some cell ∧ cell.vm.isStatics = false ∧ s.vm.findClass "java/lang/String" = some cell.cls := (h.kept hS.2.2.2.1).recv
theorem Sx.nil {D : va_G} {A : Nat → Prop} {H0 H : Heap} {ws : va_W} {locs : List Loc} (hS : Sx D A H0 ws H locs) : Sx D A H0 (ws ++ []) H locs := by rw [List.append_nil]; exact hS
theorem Sx.nil' {D : va_G} {A : Nat → Prop} {H0 H : Heap} {ws : va_W} {locs : List Loc} (hS : Sx D A H0 (ws ++ []) H locs) : Sx D A H0 ws H locs := by rw [List.append_nil] at hS; exact hS
theorem bc_infl (cB : ClassId) {b v n m sa sd : Nat} {ml : Int32} {f : Nat → Int32} {bs : List Int32} : Bc yJ5_inflateIfNeededFor_a7421 cJ5_inflateIfNeededFor_a7421 2 none 2 0 0 (FS sa sd bs) [.ref b, .ref sa] cB (wSB cB b v ml n m f) (fun r w1 => r = none ∧ w1 = wSB cB b v ml n m f) := by
  refine Bc.of (own := RJ5) (by decide +kernel) rfl (Nat.le_of_ble_eq_true rfl) (fun p l e s mt args below meth c D ls hx hS hF hl => ?_)
  have hl : lv_has ls 2 [(0, .ref b), (1, .ref sa)] := hl
  have hF : FS sa sd bs (va_A (wSB cB b v ml n m f) s.heap.size) s s.heap := hF
  refine B_cmp hx hS g1111 dJ5_inflateIfNeededFor_a7421_0 ?_
  refine lv_if_eq (tgt := 21) hx.1 hx.2.1 dJ5_inflateIfNeededFor_a7421_3 (by decide) (fun z => absurd z (by decide)) (fun _ => ?_)
  refine lv_aload_n hx.1 hx.2.1 dJ5_inflateIfNeededFor_a7421_6 rfl (lv_at hl 0 rfl) ?_
  refine B_get hx hS 0 1 rfl (by decide) ⟨rfl, rfl, rfl⟩ g1120 rfl dJ5_inflateIfNeededFor_a7421_7 ?_
  refine lv_aload_n hx.1 hx.2.1 dJ5_inflateIfNeededFor_a7421_10 rfl (lv_at hl 1 rfl) ?_
  refine B_callV (n := 0) hx (bc_scoder cB (sa := sa) (sd := sd) (bs := bs)) FS_ok hS.nil (hF.at hS.nil hx.2.2.2.2.2.2.2.2.1) (hF.rc hS) (hx.2.2.2.2.1 _ g270) g271 g36 g1201 g269 ⟨⟨by decide +kernel, by decide +kernel⟩, by decide +kernel⟩ dJ5_inflateIfNeededFor_a7421_11 [.int 0] rfl rfl (Nat.le_of_ble_eq_true rfl) ⟨by decide, by decide⟩ ⟨by decide, by decide⟩ hl.1 (fun r w1 H1 locs1 hp hS => ?_)
  obtain ⟨rfl, rfl⟩ := hp
  refine lv_icmp_eq (tgt := 21) hx.1 hx.2.1 dJ5_inflateIfNeededFor_a7421_14 (by decide) (fun _ => ?_) (fun z => absurd rfl z)
  exact B_retV hx hS.nil' ⟨rfl, rfl⟩ ⟨Nat.zero_le _, Nat.zero_le _⟩ dJ5_inflateIfNeededFor_a7421_21 rfl rfl
theorem bc_getB (cB : ClassId) {v n m sa sd : Nat} {f : Nat → Int32} {bs : List Int32} (h : m ≤ 65536 ∧ n + bs.length ≤ m) (hb : ∀ j, j < bs.length → fits .byte (.int (bs.getD j 0)) = true) : Bc yJ0_getBytes_840e7 cJ0_getBytes_840e7 4 none 2 0 0 (FS sa sd bs) [.ref sa, .ref v, .int (nI n), .int 0] cB [(v, .inl (cB, m, .inl f))] (fun r w1 => r = none ∧ w1 = [(v, .inl (cB, m, .inl (va_cpy (fun j => bs.getD j 0) f 0 n bs.length)))]) := by
  refine Bc.of (own := RJ0) (by decide +kernel) rfl (Nat.le_of_ble_eq_true rfl) (fun p l e s mt args below meth c D ls hx hS hF hl => ?_)
  have hl : lv_has ls 4 [(0, .ref sa), (1, .ref v), (2, .int (nI n)), (3, .int 0)] := hl
  have hF : FS sa sd bs (va_A [(v, .inl (cB, m, .inl f))] s.heap.size) s s.heap := hF
  refine lv_aload_n hx.1 hx.2.1 dJ0_getBytes_840e7_0 rfl (lv_at hl 0 rfl) ?_
  refine B_callV (n := 0) hx (bc_scoder cB (sa := sa) (sd := sd) (bs := bs)) FS_ok hS.nil (hF.at hS.nil hx.2.2.2.2.2.2.2.2.1) (hF.rc hS) (hx.2.2.2.2.1 _ g270) g271 g36 g268 g269 ⟨⟨by decide +kernel, by decide +kernel⟩, by decide +kernel⟩ dJ0_getBytes_840e7_1 [] rfl rfl (Nat.le_of_ble_eq_true rfl) ⟨by decide, by decide⟩ ⟨by decide, by decide⟩ hl.1 (fun r w1 H1 locs1 hp hS => ?_)
  obtain ⟨rfl, rfl⟩ := hp
  have hS := hS.nil'
  refine lv_iload_n hx.1 hx.2.1 dJ0_getBytes_840e7_4 rfl (lv_at hl 3 rfl) ?_
  refine lv_icmp_ne (tgt := 28) hx.1 hx.2.1 dJ0_getBytes_840e7_5 (by decide) (fun z => absurd rfl z) (fun _ => ?_)
  refine lv_aload_n hx.1 hx.2.1 dJ0_getBytes_840e7_8 rfl (lv_at hl 0 rfl) ?_
  refine vk_getf (ref := "java/lang/String") hx.1 hx.2.1 hF.2.2.1 hS.2.2 hx.2.2.2.1 (hx.2.2.2.2.1 _ g1311) (fun _ h => h) dJ0_getBytes_840e7_9 ?_
  refine lv_iconst (v := 0) hx.1 hx.2.1 dJ0_getBytes_840e7_12 (by decide) ?_
  refine lv_aload_n hx.1 hx.2.1 dJ0_getBytes_840e7_13 rfl (lv_at hl 1 rfl) ?_
  refine lv_iload_n hx.1 hx.2.1 dJ0_getBytes_840e7_14 rfl (lv_at hl 2 rfl) ?_
  refine lv_iload_n hx.1 hx.2.1 dJ0_getBytes_840e7_15 rfl (lv_at hl 3 rfl) ?_
  refine lv_ishl hx.1 hx.2.1 dJ0_getBytes_840e7_16 ?_
  rw [sb_shl0]
  refine lv_aload_n hx.1 hx.2.1 dJ0_getBytes_840e7_17 rfl (lv_at hl 0 rfl) ?_
  refine vk_getf (ref := "java/lang/String") hx.1 hx.2.1 hF.2.2.1 hS.2.2 hx.2.2.2.1 (hx.2.2.2.2.1 _ g1311) (fun _ h => h) dJ0_getBytes_840e7_18 ?_
  refine va_tlen hx.1 hx.2.1 hF.2.2.2 hS.2.2 (v := nI bs.length) rfl dJ0_getBytes_840e7_21 ?_
  refine vk_copyt hx.1 hx.2.1 (by rw [hx.2.2.1]; exact hl.1.symm) hx.2.2.2.1 (hx.2.2.2.2.1 _ g1225) (hx.2.2.2.2.1 _ g486) (hx.2.2.2.2.1 _ g485) (hx.2.2.2.2.1 _ g41) hx.2.2.2.2.2.2.2.1 hS.1 hS.2.1 hS.2.2 hF.2.2.2 0 0 rfl rfl (by decide) (nI_pos (by omega)) (nI_pos (by omega)) (by rw [nI_clamp (by omega)]; show 0 + bs.length ≤ bs.length; omega) (by rw [nI_clamp (by omega), nI_clamp (by omega)]; exact h.2) (fun i hi => by rw [nI_clamp (by omega)] at hi; rw [sb_cl0, Nat.zero_add]; exact hb i hi) (by show 1 ≤ 2; decide) (by show 0 + (nativeFrameWords "java/lang/System" "arraycopy" 5 + 11) ≤ 78; decide +kernel) dJ0_getBytes_840e7_22 (fun H1 locs1 a1 a2 a3 => ?_)
  rw [nI_clamp (by omega), nI_clamp (by omega), sb_cl0] at a1 a2
  refine lv_goto (tgt := 43) hx.1 hx.2.1 dJ0_getBytes_840e7_25 (by decide) ?_
  exact B_retV hx (ws := [(v, .inl (cB, m, .inl (va_cpy (fun j => bs.getD j 0) f 0 n bs.length)))]) ⟨a1, a2, a3⟩ ⟨rfl, rfl⟩ ⟨Nat.zero_le _, Nat.zero_le _⟩ dJ0_getBytes_840e7_43 rfl rfl
theorem bc_putStr (cB : ClassId) {b v n m sa sd : Nat} {ml : Int32} {f : Nat → Int32} {bs : List Int32} (h : m ≤ 65536 ∧ n + bs.length ≤ m) (hb : ∀ j, j < bs.length → fits .byte (.int (bs.getD j 0)) = true) : Bc yJ5_putStringAt_47b60 cJ5_putStringAt_47b60 3 none 3 0 0 (FS sa sd bs) [.ref b, .int (nI n), .ref sa] cB (wSB cB b v ml n m f) (fun r w1 => r = none ∧ w1 = wSB cB b v ml n m (va_cpy (fun j => bs.getD j 0) f 0 n bs.length)) := by
  refine Bc.of (own := RJ5) (by decide +kernel) rfl (Nat.le_of_ble_eq_true rfl) (fun p l e s mt args below meth c D ls hx hS hF hl => ?_)
  have hl : lv_has ls 3 [(0, .ref b), (1, .int (nI n)), (2, .ref sa)] := hl
  have hF : FS sa sd bs (va_A (wSB cB b v ml n m f) s.heap.size) s s.heap := hF
  refine lv_aload_n hx.1 hx.2.1 dJ5_putStringAt_47b60_0 rfl (lv_at hl 0 rfl) ?_
  refine lv_aload_n hx.1 hx.2.1 dJ5_putStringAt_47b60_1 rfl (lv_at hl 2 rfl) ?_
  refine B_callV (n := 1) hx (wr := []) (bc_infl cB (b := b) (v := v) (n := n) (m := m) (sa := sa) (sd := sd) (ml := ml) (f := f) (bs := bs)) FS_ok hS hF (B_recv hx hS 0 rfl) (B_sel hx (by decide +kernel) (by decide +kernel) gx1333) g1200 g42 g1197 g1199 ⟨⟨by decide +kernel, by decide +kernel⟩, by decide +kernel⟩ dJ5_putStringAt_47b60_2 [] rfl rfl (Nat.le_of_ble_eq_true rfl) ⟨by decide, by decide⟩ ⟨by decide, by decide⟩ hl.1 (fun r w1 H1 locs1 hp hS => ?_)
  obtain ⟨rfl, rfl⟩ := hp
  have hS : Sx D (va_A (wSB cB b v ml n m f) s.heap.size) s.heap ([(b, .inr (1, [.ref v, .int 0, .int ml, .int (nI n)]))] ++ [(v, .inl (cB, m, .inl f))]) H1 locs1 := hS
  refine lv_aload_n hx.1 hx.2.1 dJ5_putStringAt_47b60_5 rfl (lv_at hl 2 rfl) ?_
  refine lv_aload_n hx.1 hx.2.1 dJ5_putStringAt_47b60_6 rfl (lv_at hl 0 rfl) ?_
  refine B_get hx hS 0 0 rfl (by decide) ⟨rfl, rfl, rfl⟩ g1119 rfl dJ5_putStringAt_47b60_7 ?_
  refine lv_iload_n hx.1 hx.2.1 dJ5_putStringAt_47b60_10 rfl (lv_at hl 1 rfl) ?_
  refine lv_aload_n hx.1 hx.2.1 dJ5_putStringAt_47b60_11 rfl (lv_at hl 0 rfl) ?_
  refine B_get hx hS 0 1 rfl (by decide) ⟨rfl, rfl, rfl⟩ g1120 rfl dJ5_putStringAt_47b60_12 ?_
  refine B_callV (n := 3) hx (bc_getB cB (v := v) (n := n) (m := m) (sa := sa) (sd := sd) (f := f) (bs := bs) h hb) FS_ok hS (hF.at hS hx.2.2.2.2.2.2.2.2.1) (hF.rc hS) (hx.2.2.2.2.1 _ g1223) g1224 g36 g1221 g1222 ⟨⟨by decide +kernel, by decide +kernel⟩, by decide +kernel⟩ dJ5_putStringAt_47b60_15 [] rfl rfl (Nat.le_of_ble_eq_true rfl) ⟨by decide, by decide⟩ ⟨by decide, by decide⟩ hl.1 (fun r w1 H2 locs2 hp hS => ?_)
  obtain ⟨rfl, rfl⟩ := hp
  exact B_retV hx hS ⟨rfl, rfl⟩ ⟨Nat.zero_le _, Nat.zero_le _⟩ dJ5_putStringAt_47b60_18 rfl rfl
