/-! ===== append(String) ===== -/
/-- a builder that holds a text -/
def mOK (m : Nat) : Prop := m = 16 ∨ m = 34 ∨ m = 70 ∨ m = 142 ∨ m = 286
def BT (cB : ClassId) (b : Nat) (tx : List Int32) (w : va_W) : Prop := ∃ (v m : Nat) (f : Nat → Int32), w = wSB cB b v 0 tx.length m f ∧ sb_Fit f ∧ (∀ j, j < tx.length → f j = tx.getD j 0) ∧ mOK m ∧ tx.length ≤ m
theorem BT.grown {cB : ClassId} {b v m k : Nat} {f : Nat → Int32} {tx : List Int32} {w1 : va_W} (hf : sb_Fit f) (ht : ∀ j, j < tx.length → f j = tx.getD j 0) (hm : mOK m) (hn : tx.length ≤ m) (hk : tx.length + k ≤ 240 ∧ k ≤ 7)
    (h : (tx.length + k ≤ m ∧ w1 = wSB cB b v 0 tx.length m f) ∨ (m < tx.length + k ∧ ∃ a, w1 = wSB cB b a 0 tx.length (capz (tx.length + k) m) (va_cpy f (fun _ => 0) 0 0 m))) :
    ∃ (v' m' : Nat) (f' : Nat → Int32), w1 = wSB cB b v' 0 tx.length m' f' ∧ sb_Fit f' ∧ (∀ j, j < tx.length → f' j = tx.getD j 0) ∧ mOK m' ∧ tx.length + k ≤ m' := by
  rcases h with ⟨h1, rfl⟩ | ⟨h1, a, rfl⟩
  · exact ⟨v, m, f, rfl, hf, ht, hm, h1⟩
  · refine ⟨a, capz (tx.length + k) m, _, rfl, sb_fitC hf sb_fit0, fun j hj => ?_, ?_, ?_⟩
    · rw [sb_cpy0 (by omega)]
      exact ht j hj
    · have e : capz (tx.length + k) m = m + (m + 2) := by unfold mOK at hm; unfold capz; omega
      rw [e]
      unfold mOK at hm ⊢
      omega
    · unfold capz; omega
theorem BT.app {cB : ClassId} {b v m : Nat} {f : Nat → Int32} {tx bs : List Int32} (hf : sb_Fit f) (ht : ∀ j, j < tx.length → f j = tx.getD j 0) (hm : mOK m) (hn : tx.length + bs.length ≤ m) (hb : ∀ j, j < bs.length → fits .byte (.int (bs.getD j 0)) = true) :
    BT cB b (tx ++ bs) (wSB cB b v 0 (tx.length + bs.length) m (va_cpy (fun j => bs.getD j 0) f 0 tx.length bs.length)) := by
  refine ⟨v, m, _, by rw [List.length_append], fun j => ?_, fun j hj => ?_, hm, by rw [List.length_append]; exact hn⟩
  · by_cases c : tx.length ≤ j ∧ j < tx.length + bs.length
    · rw [pk_cpy_in c.1 c.2]
      exact hb _ (by omega)
    · rw [pk_cpy_out (by omega)]
      exact hf j
  · rw [List.length_append] at hj
    by_cases c : tx.length ≤ j
    · rw [pk_cpy_in c hj, List.getD_eq_getElem?_getD (l := tx ++ bs), List.getElem?_append_right c, ← List.getD_eq_getElem?_getD, Nat.zero_add]
    · rw [pk_cpy_out (by omega), List.getD_eq_getElem?_getD (l := tx ++ bs), List.getElem?_append_left (by omega), ← List.getD_eq_getElem?_getD]
      exact ht j (by omega)
theorem bc_asbS (cB : ClassId) {b v m sa sd : Nat} {f : Nat → Int32} {tx bs : List Int32} (hf : sb_Fit f) (ht : ∀ j, j < tx.length → f j = tx.getD j 0) (hm : mOK m) (hn : tx.length ≤ m) (hk : tx.length + bs.length ≤ 240 ∧ bs.length ≤ 7) (hb : ∀ j, j < bs.length → fits .byte (.int (bs.getD j 0)) = true) : Bc yJ5_append_cf1ce cJ5_append_cf1ce 3 (some (.object "java/lang/AbstractStringBuilder")) 4 1 700 (FS sa sd bs) [.ref b, .ref sa] cB (wSB cB b v 0 tx.length m f) (fun r w1 => r = some (.ref b) ∧ BT cB b (tx ++ bs) w1) := by
  refine Bc.of (own := RJ5) (by decide +kernel) rfl (Nat.le_of_ble_eq_true rfl) (fun p l e s mt args below meth c D ls hx hS hF hl => ?_)
  have hl : lv_has ls 3 [(0, .ref b), (1, .ref sa)] := hl
  have hF : FS sa sd bs (va_A (wSB cB b v 0 tx.length m f) s.heap.size) s s.heap := hF
  refine lv_aload_n hx.1 hx.2.1 dJ5_append_cf1ce_0 rfl (lv_at hl 1 rfl) ?_
  refine lv_ifnonnull (tgt := 9) hx.1 hx.2.1 dJ5_append_cf1ce_1 (by decide) ?_
  refine lv_aload_n hx.1 hx.2.1 dJ5_append_cf1ce_9 rfl (lv_at hl 1 rfl) ?_
  refine B_callV (n := 0) hx (bc_slength cB (sa := sa) (sd := sd) (bs := bs)) FS_ok hS.nil (hF.at hS.nil hx.2.2.2.2.2.2.2.2.1) (hF.rc hS) (hx.2.2.2.2.1 _ g266) g267 g36 g1192 g265 ⟨⟨by decide +kernel, by decide +kernel⟩, by decide +kernel⟩ dJ5_append_cf1ce_10 [] rfl rfl (Nat.le_of_ble_eq_true rfl) ⟨by decide, by decide⟩ ⟨by decide, by decide⟩ hl.1 (fun r w1 H1 locs1 hp hS => ?_)
  obtain ⟨rfl, rfl⟩ := hp
  have hS := hS.nil'
  refine lv_istore_n (lv' := [(2, .int (nI bs.length)), (0, .ref b), (1, .ref sa)]) hx.1 hx.2.1 dJ5_append_cf1ce_13 rfl hl (by decide) rfl (fun ls hl => ?_)
  refine lv_aload_n hx.1 hx.2.1 dJ5_append_cf1ce_14 rfl (lv_at hl 1 rfl) ?_
  refine lv_aload_n hx.1 hx.2.1 dJ5_append_cf1ce_15 rfl (lv_at hl 1 rfl) ?_
  refine B_get hx hS 0 3 rfl (by decide) ⟨rfl, rfl, rfl⟩ g1122 rfl dJ5_append_cf1ce_16 ?_
  refine lv_iload_n hx.1 hx.2.1 dJ5_append_cf1ce_19 rfl (lv_at hl 0 rfl) ?_
  refine lv_iadd hx.1 hx.2.1 dJ5_append_cf1ce_20 ?_
  rw [nI_add]
  have hm9 : m ≤ 286 ∧ 16 ≤ m := by unfold mOK at hm; omega
  refine B_callV (n := 1) hx (wr := []) (bc_ensure cB (b := b) (v := v) (n := tx.length) (m := m) (q := tx.length + bs.length) (ml := 0) (f := f) (by omega) hf) FNo_ok hS trivial (B_recv hx hS 0 rfl) (B_sel hx (by decide +kernel) (by decide +kernel) gx1330) g1146 g42 g1143 g1145 ⟨⟨by decide +kernel, by decide +kernel⟩, by decide +kernel⟩ dJ5_append_cf1ce_21 [] rfl rfl (Nat.le_of_ble_eq_true rfl) ⟨by decide, by decide⟩ ⟨by decide, by decide⟩ hl.1 (fun r w1 H1 locs1 hp hS => ?_)
  obtain ⟨rfl, hp⟩ := hp
  obtain ⟨v', m', f', rfl, hf', ht', hm', hn'⟩ := BT.grown hf ht hm hn hk hp
  have hm8 : m' ≤ 286 := by unfold mOK at hm'; omega
  have hS : Sx D (va_A (wSB cB b v 0 tx.length m f) s.heap.size) s.heap (wSB cB b v' 0 tx.length m' f') H1 locs1 := hS
  refine lv_aload_n hx.1 hx.2.1 dJ5_append_cf1ce_24 rfl (lv_at hl 1 rfl) ?_
  refine lv_aload_n hx.1 hx.2.1 dJ5_append_cf1ce_25 rfl (lv_at hl 1 rfl) ?_
  refine B_get hx hS 0 3 rfl (by decide) ⟨rfl, rfl, rfl⟩ g1122 rfl dJ5_append_cf1ce_26 ?_
  refine lv_aload_n hx.1 hx.2.1 dJ5_append_cf1ce_29 rfl (lv_at hl 2 rfl) ?_
  refine B_callV (n := 2) hx (wr := []) (bc_putStr cB (b := b) (v := v') (n := tx.length) (m := m') (sa := sa) (sd := sd) (ml := 0) (f := f') (bs := bs) ⟨by omega, hn'⟩ hb) FS_ok hS (FS.at (wr := []) hF hS hx.2.2.2.2.2.2.2.2.1) (B_recv hx hS 0 rfl) (B_sel hx (by decide +kernel) (by decide +kernel) gx1332) g1196 g42 g1193 g1195 ⟨⟨by decide +kernel, by decide +kernel⟩, by decide +kernel⟩ dJ5_append_cf1ce_30 [] rfl rfl (Nat.le_of_ble_eq_true rfl) ⟨by decide, by decide⟩ ⟨by decide, by decide⟩ hl.1 (fun r w1 H2 locs2 hp hS => ?_)
  obtain ⟨rfl, rfl⟩ := hp
  have hS : Sx D (va_A (wSB cB b v 0 tx.length m f) s.heap.size) s.heap (wSB cB b v' 0 tx.length m' (va_cpy (fun j => bs.getD j 0) f' 0 tx.length bs.length)) H2 locs2 := hS
  refine lv_aload_n hx.1 hx.2.1 dJ5_append_cf1ce_33 rfl (lv_at hl 1 rfl) ?_
  refine lv_dup hx.1 hx.2.1 dJ5_append_cf1ce_34 rfl ?_
  refine B_get hx hS 0 3 rfl (by decide) ⟨rfl, rfl, rfl⟩ g1122 rfl dJ5_append_cf1ce_35 ?_
  refine lv_iload_n hx.1 hx.2.1 dJ5_append_cf1ce_38 rfl (lv_at hl 0 rfl) ?_
  refine lv_iadd hx.1 hx.2.1 dJ5_append_cf1ce_39 ?_
  rw [nI_add]
  refine B_put hx hS (v := .int (nI (tx.length + bs.length))) (ty := .int) 0 3 rfl (by decide) ⟨rfl, rfl, rfl⟩ g1122 rfl (by decide +kernel) rfl rfl (by show 3 < 4; decide) dJ5_append_cf1ce_40 rfl (fun H3 locs3 hS => ?_)
  refine lv_aload_n hx.1 hx.2.1 dJ5_append_cf1ce_43 rfl (lv_at hl 1 rfl) ?_
  exact B_retA hx (ws := wSB cB b v' 0 (tx.length + bs.length) m' (va_cpy (fun j => bs.getD j 0) f' 0 tx.length bs.length)) hS ⟨rfl, BT.app hf' ht' hm' hn' hb⟩ (.object "java/lang/AbstractStringBuilder") rfl (Or.inl ⟨_, rfl⟩) ⟨by decide, by decide⟩ dJ5_append_cf1ce_44 rfl
theorem bc_sbS (cB : ClassId) {b v m sa sd : Nat} {f : Nat → Int32} {tx bs : List Int32} (hf : sb_Fit f) (ht : ∀ j, j < tx.length → f j = tx.getD j 0) (hm : mOK m) (hn : tx.length ≤ m) (hk : tx.length + bs.length ≤ 240 ∧ bs.length ≤ 7) (hb : ∀ j, j < bs.length → fits .byte (.int (bs.getD j 0)) = true) : Bc yJ4_append_15ec4 cJ4_append_15ec4 2 (some (.object "java/lang/StringBuilder")) 5 1 700 (FS sa sd bs) [.ref b, .ref sa] cB (wSB cB b v 0 tx.length m f) (fun r w1 => r = some (.ref b) ∧ BT cB b (tx ++ bs) w1) := by
  refine Bc.of (own := RJ4) (by decide +kernel) rfl (Nat.le_of_ble_eq_true rfl) (fun p l e s mt args below meth c D ls hx hS hF hl => ?_)
  have hl : lv_has ls 2 [(0, .ref b), (1, .ref sa)] := hl
  have hF : FS sa sd bs (va_A (wSB cB b v 0 tx.length m f) s.heap.size) s s.heap := hF
  refine lv_aload_n hx.1 hx.2.1 dJ4_append_15ec4_0 rfl (lv_at hl 0 rfl) ?_
  refine lv_aload_n hx.1 hx.2.1 dJ4_append_15ec4_1 rfl (lv_at hl 1 rfl) ?_
  refine B_callU (n := 1) hx (B_cls hx) (wr := []) (bc_asbS cB (b := b) (v := v) (m := m) (sa := sa) (sd := sd) (f := f) (tx := tx) (bs := bs) hf ht hm hn hk hb) FS_ok hS hF (B_recv hx hS 0 rfl) g1138 g42 g1136 g1137 gx1328 gx1131 ⟨by decide +kernel, by decide +kernel⟩ dJ4_append_15ec4_2 [] rfl rfl (Nat.le_of_ble_eq_true rfl) ⟨by decide, by decide⟩ ⟨by decide, by decide⟩ hl.1 (fun r w1 H1 locs1 hp hS => ?_)
  obtain ⟨rfl, hp⟩ := hp
  have hS : Sx D (va_A (wSB cB b v 0 tx.length m f) s.heap.size) s.heap w1 H1 locs1 := hS
  refine lv_pop hx.1 hx.2.1 dJ4_append_15ec4_5 rfl ?_
  refine lv_aload_n hx.1 hx.2.1 dJ4_append_15ec4_6 rfl (lv_at hl 0 rfl) ?_
  exact B_retA hx (ws := w1) hS ⟨rfl, hp⟩ (.object "java/lang/StringBuilder") rfl (Or.inl ⟨_, rfl⟩) ⟨by decide, by decide⟩ dJ4_append_15ec4_7 rfl
