/-! ===== append(char), append(int) ===== -/
theorem i2b_z : ∀ k : Nat, k < 128 → (nI k).toInt8.toInt32 = nI k ∧ vp_nar .byte (nI k) = nI k ∧ fits .byte (.int (nI k)) = true := by decide +kernel
theorem neg_z : ∀ v : Nat, v < 100 → -(-(nI v)) = nI v ∧ (v < 10 → ¬ (-(nI v) ≤ -10) ∧ -9 ≤ -(nI v)) ∧ (10 ≤ v → -(nI v) ≤ -10 ∧ ¬ (-(nI v) ≤ -100) ∧ ¬ (-9 ≤ -(nI v))) ∧ -100 < -(nI v) := by decide +kernel
theorem dec_z {t : Nat} (h : 0 < t) : nI t + Int32.ofInt (-1) = nI (t - 1) := by
  obtain ⟨k, rfl⟩ : ∃ k, t = k + 1 := ⟨t - 1, by omega⟩
  rw [Nat.add_sub_cancel]
  exact pk_m1 k
def szI (v : Nat) : Nat := if v < 10 then 1 else 2
def dgI (v : Nat) : List Int32 := if v < 10 then [nI (48 + v)] else [nI (48 + v / 10), nI (48 + v % 10)]
theorem dgI_len (v : Nat) : (dgI v).length = szI v := by unfold dgI szI; split <;> rfl
theorem dgI_fit {v : Nat} (h : v < 100) : ∀ j, j < (dgI v).length → fits .byte (.int ((dgI v).getD j 0)) = true := by
  intro j hj
  rw [dgI_len] at hj
  unfold dgI
  unfold szI at hj
  by_cases c : v < 10
  · rw [if_pos c] at hj ⊢
    obtain rfl : j = 0 := by omega
    exact (i2b_z (48 + v) (by omega)).2.2
  · rw [if_neg c] at hj ⊢
    rcases (show j = 0 ∨ j = 1 by omega) with rfl | rfl
    · exact (i2b_z (48 + v / 10) (by omega)).2.2
    · exact (i2b_z (48 + v % 10) (by omega)).2.2
/-- what getChars lays -/
def putI (f : Nat → Int32) (n v : Nat) : Nat → Int32 := if v < 10 then upd f n (nI (48 + v)) else upd (upd f (n + 1) (nI (48 + v % 10))) n (nI (48 + v / 10))
theorem putI_cpy {f : Nat → Int32} {n v : Nat} : putI f n v = va_cpy (fun j => (dgI v).getD j 0) f 0 n (dgI v).length := by
  funext j
  rw [dgI_len]
  unfold putI dgI szI
  by_cases c : v < 10
  · simp only [if_pos c]
    by_cases e : j = n
    · subst e
      rw [pk_us, pk_cpy_in (Nat.le_refl _) (by omega), Nat.sub_self]
      rfl
    · rw [pk_un e, pk_cpy_out (by omega)]
  · simp only [if_neg c]
    by_cases e : j = n
    · subst e
      rw [pk_us, pk_cpy_in (Nat.le_refl _) (by omega), Nat.sub_self]
      rfl
    · rw [pk_un e]
      by_cases e2 : j = n + 1
      · subst e2
        rw [pk_us, pk_cpy_in (by omega) (by omega), Nat.add_sub_cancel_left]
        rfl
      · rw [pk_un e2, pk_cpy_out (by omega)]
theorem bc_lat1 (cB : ClassId) {b v n m : Nat} {ml : Int32} {f : Nat → Int32} : Bc yJ5_isLatin1_aae02 cJ5_isLatin1_aae02 1 (some .boolean) 1 0 0 FNo [.ref b] cB (wSB cB b v ml n m f) (fun r w1 => r = some (.int 1) ∧ w1 = wSB cB b v ml n m f) := by
  refine Bc.of (own := RJ5) (by decide +kernel) rfl (Nat.le_of_ble_eq_true rfl) (fun p l e s mt args below meth c D ls hx hS hF hl => ?_)
  have hl : lv_has ls 1 [(0, .ref b)] := hl
  refine B_cmp hx hS g1111 dJ5_isLatin1_aae02_0 ?_
  refine lv_if_eq (tgt := 17) hx.1 hx.2.1 dJ5_isLatin1_aae02_3 (by decide) (fun z => absurd z (by decide)) (fun _ => ?_)
  refine lv_aload_n hx.1 hx.2.1 dJ5_isLatin1_aae02_6 rfl (lv_at hl 0 rfl) ?_
  refine B_get hx hS 0 1 rfl (by decide) ⟨rfl, rfl, rfl⟩ g1120 rfl dJ5_isLatin1_aae02_7 ?_
  refine lv_if_ne (tgt := 17) hx.1 hx.2.1 dJ5_isLatin1_aae02_10 (by decide) (fun z => absurd rfl z) (fun _ => ?_)
  refine lv_iconst (v := 1) hx.1 hx.2.1 dJ5_isLatin1_aae02_13 (by decide) ?_
  refine lv_goto (tgt := 18) hx.1 hx.2.1 dJ5_isLatin1_aae02_14 (by decide) ?_
  exact B_retI hx hS ⟨rfl, rfl⟩ .boolean rfl rfl ⟨Nat.le_refl _, Nat.le_refl _⟩ dJ5_isLatin1_aae02_18 rfl
theorem bc_canE (cB : ClassId) {k : Nat} (h : k < 128) : Bc yJ1_canEncode_fc78d cJ1_canEncode_fc78d 1 (some .boolean) 1 0 0 FNo [.int (nI k)] cB [] (fun r w1 => r = some (.int 1) ∧ w1 = []) := by
  refine Bc.of (own := RJ1) (by decide +kernel) rfl (Nat.le_of_ble_eq_true rfl) (fun p l e s mt args below meth c D ls hx hS hF hl => ?_)
  have hl : lv_has ls 1 [(0, .int (nI k))] := hl
  refine lv_iload_n hx.1 hx.2.1 dJ1_canEncode_fc78d_0 rfl (lv_at hl 0 rfl) ?_
  refine lv_sipush (v := 255) hx.1 hx.2.1 dJ1_canEncode_fc78d_1 (by decide) ?_
  refine lv_icmp_gt (tgt := 11) hx.1 hx.2.1 dJ1_canEncode_fc78d_4 (by decide) (fun z => absurd z (show ¬ nI 255 < nI k from nI_nlt (by omega) (by decide))) (fun _ => ?_)
  refine lv_iconst (v := 1) hx.1 hx.2.1 dJ1_canEncode_fc78d_7 (by decide) ?_
  refine lv_goto (tgt := 12) hx.1 hx.2.1 dJ1_canEncode_fc78d_8 (by decide) ?_
  exact B_retI hx hS ⟨rfl, rfl⟩ .boolean rfl rfl ⟨Nat.le_refl _, Nat.le_refl _⟩ dJ1_canEncode_fc78d_12 rfl
theorem bc_asbC (cB : ClassId) {b v m k : Nat} {f : Nat → Int32} {tx : List Int32} (hf : sb_Fit f) (ht : ∀ j, j < tx.length → f j = tx.getD j 0) (hm : mOK m) (hn : tx.length ≤ m) (hk0 : tx.length + 1 ≤ 240) (hc : k < 128) : Bc yJ5_append_3fe6f cJ5_append_3fe6f 2 (some (.object "java/lang/AbstractStringBuilder")) 4 1 700 FNo [.ref b, .int (nI k)] cB (wSB cB b v 0 tx.length m f) (fun r w1 => r = some (.ref b) ∧ BT cB b (tx ++ [nI k]) w1) := by
  refine Bc.of (own := RJ5) (by decide +kernel) rfl (Nat.le_of_ble_eq_true rfl) (fun p l e s mt args below meth c D ls hx hS hF hl => ?_)
  have hl : lv_has ls 2 [(0, .ref b), (1, .int (nI k))] := hl
  have hk : tx.length + 1 ≤ 240 ∧ 1 ≤ 7 := ⟨hk0, by decide⟩
  refine lv_aload_n hx.1 hx.2.1 dJ5_append_3fe6f_0 rfl (lv_at hl 0 rfl) ?_
  refine lv_aload_n hx.1 hx.2.1 dJ5_append_3fe6f_1 rfl (lv_at hl 0 rfl) ?_
  refine B_get hx hS 0 3 rfl (by decide) ⟨rfl, rfl, rfl⟩ g1122 rfl dJ5_append_3fe6f_2 ?_
  refine lv_iconst (v := 1) hx.1 hx.2.1 dJ5_append_3fe6f_5 (by decide) ?_
  refine lv_iadd hx.1 hx.2.1 dJ5_append_3fe6f_6 ?_
  rw [nI_1]
  have hm9 : m ≤ 286 ∧ 16 ≤ m := by unfold mOK at hm; omega
  refine B_callV (n := 1) hx (wr := []) (bc_ensure cB (b := b) (v := v) (n := tx.length) (m := m) (q := tx.length + 1) (ml := 0) (f := f) (by omega) hf) FNo_ok hS trivial (B_recv hx hS 0 rfl) (B_sel hx (by decide +kernel) (by decide +kernel) gx1330) g1146 g42 g1143 g1145 ⟨⟨by decide +kernel, by decide +kernel⟩, by decide +kernel⟩ dJ5_append_3fe6f_7 [] rfl rfl (Nat.le_of_ble_eq_true rfl) ⟨by decide, by decide⟩ ⟨by decide, by decide⟩ hl.1 (fun r w1 H1 locs1 hp hS => ?_)
  obtain ⟨rfl, hp⟩ := hp
  obtain ⟨v', m', f', rfl, hf', ht', hm', hn'⟩ := BT.grown hf ht hm hn hk hp
  have hm8 : m' ≤ 286 := by unfold mOK at hm'; omega
  have hS : Sx D (va_A (wSB cB b v 0 tx.length m f) s.heap.size) s.heap (wSB cB b v' 0 tx.length m' f') H1 locs1 := hS
  refine lv_aload_n hx.1 hx.2.1 dJ5_append_3fe6f_10 rfl (lv_at hl 0 rfl) ?_
  refine B_callV (n := 0) hx (wr := []) (bc_lat1 cB (b := b) (v := v') (n := tx.length) (m := m') (ml := 0) (f := f')) FNo_ok hS trivial (B_recv hx hS 0 rfl) (hx.2.2.2.2.1 _ g1175) g1176 g42 g1172 g1173 ⟨⟨by decide +kernel, by decide +kernel⟩, by decide +kernel⟩ dJ5_append_3fe6f_11 [] rfl rfl (Nat.le_of_ble_eq_true rfl) ⟨by decide, by decide⟩ ⟨by decide, by decide⟩ hl.1 (fun r w1 H2 locs2 hp hS => ?_)
  obtain ⟨rfl, rfl⟩ := hp
  have hS : Sx D (va_A (wSB cB b v 0 tx.length m f) s.heap.size) s.heap (wSB cB b v' 0 tx.length m' f') H2 locs2 := hS
  refine lv_if_eq (tgt := 45) hx.1 hx.2.1 dJ5_append_3fe6f_14 (by decide) (fun z => absurd z (by decide)) (fun _ => ?_)
  refine lv_iload_n hx.1 hx.2.1 dJ5_append_3fe6f_17 rfl (lv_at hl 1 rfl) ?_
  refine B_callS (n := 1) hx (bc_canE cB (k := k) hc) FNo_ok hS.nil trivial g1236 g37 g1234 g1235 ⟨⟨by decide +kernel, by decide +kernel⟩, by decide +kernel⟩ dJ5_append_3fe6f_18 [] rfl rfl (Nat.le_of_ble_eq_true rfl) ⟨by decide, by decide⟩ ⟨by decide, by decide⟩ hl.1 (fun r w1 H3 locs3 hp hS => ?_)
  obtain ⟨rfl, rfl⟩ := hp
  have hS := hS.nil'
  refine lv_if_eq (tgt := 45) hx.1 hx.2.1 dJ5_append_3fe6f_21 (by decide) (fun z => absurd z (by decide)) (fun _ => ?_)
  refine lv_aload_n hx.1 hx.2.1 dJ5_append_3fe6f_24 rfl (lv_at hl 0 rfl) ?_
  refine B_get hx hS 0 0 rfl (by decide) ⟨rfl, rfl, rfl⟩ g1119 rfl dJ5_append_3fe6f_25 ?_
  refine lv_aload_n hx.1 hx.2.1 dJ5_append_3fe6f_28 rfl (lv_at hl 0 rfl) ?_
  refine lv_dup hx.1 hx.2.1 dJ5_append_3fe6f_29 rfl ?_
  refine B_get hx hS 0 3 rfl (by decide) ⟨rfl, rfl, rfl⟩ g1122 rfl dJ5_append_3fe6f_30 ?_
  refine lv_dup_x1 hx.1 hx.2.1 dJ5_append_3fe6f_33 rfl rfl ?_
  refine lv_iconst (v := 1) hx.1 hx.2.1 dJ5_append_3fe6f_34 (by decide) ?_
  refine lv_iadd hx.1 hx.2.1 dJ5_append_3fe6f_35 ?_
  rw [nI_1]
  refine B_put hx hS (v := .int (nI (tx.length + 1))) (ty := .int) 0 3 rfl (by decide) ⟨rfl, rfl, rfl⟩ g1122 rfl (by decide +kernel) rfl rfl (by show 3 < 4; decide) dJ5_append_3fe6f_36 rfl (fun H4 locs4 hS => ?_)
  refine lv_iload_n hx.1 hx.2.1 dJ5_append_3fe6f_39 rfl (lv_at hl 1 rfl) ?_
  refine lv_i2b hx.1 hx.2.1 dJ5_append_3fe6f_40 (i2b_z k hc).1 ?_
  refine B_bast hx hS 1 rfl rfl (by omega) (by omega) (i2b_z k hc).2.1 dJ5_append_3fe6f_41 rfl (fun H5 locs5 hS => ?_)
  refine lv_goto (tgt := 75) hx.1 hx.2.1 dJ5_append_3fe6f_42 (by decide) ?_
  refine lv_aload_n hx.1 hx.2.1 dJ5_append_3fe6f_75 rfl (lv_at hl 0 rfl) ?_
  have e9 : upd f' tx.length (nI k) = va_cpy (fun j => [nI k].getD j 0) f' 0 tx.length [nI k].length := by
    funext j
    by_cases e : j = tx.length
    · rw [e, pk_us, pk_cpy_in (Nat.le_refl _) (by show tx.length < tx.length + 1; omega), Nat.sub_self]; rfl
    · rw [pk_un e, pk_cpy_out (by show j < tx.length ∨ tx.length + 1 ≤ j; omega)]
  have hS : Sx D (va_A (wSB cB b v 0 tx.length m f) s.heap.size) s.heap (wSB cB b v' 0 (tx.length + [nI k].length) m' (va_cpy (fun j => [nI k].getD j 0) f' 0 tx.length [nI k].length)) H5 locs5 := by rw [← e9]; exact hS
  exact B_retA hx hS ⟨rfl, BT.app hf' ht' hm' (by exact hn') (fun j hj => by have hj9 : j < 1 := hj; obtain rfl : j = 0 := (by omega); exact (i2b_z k hc).2.2)⟩ (.object "java/lang/AbstractStringBuilder") rfl (Or.inl ⟨_, rfl⟩) ⟨by decide, by decide⟩ dJ5_append_3fe6f_76 rfl
theorem bc_sbC (cB : ClassId) {b v m k : Nat} {f : Nat → Int32} {tx : List Int32} (hf : sb_Fit f) (ht : ∀ j, j < tx.length → f j = tx.getD j 0) (hm : mOK m) (hn : tx.length ≤ m) (hk0 : tx.length + 1 ≤ 240) (hc : k < 128) : Bc yJ4_append_cf468 cJ4_append_cf468 2 (some (.object "java/lang/StringBuilder")) 5 1 700 FNo [.ref b, .int (nI k)] cB (wSB cB b v 0 tx.length m f) (fun r w1 => r = some (.ref b) ∧ BT cB b (tx ++ [nI k]) w1) := by
  refine Bc.of (own := RJ4) (by decide +kernel) rfl (Nat.le_of_ble_eq_true rfl) (fun p l e s mt args below meth c D ls hx hS hF hl => ?_)
  have hl : lv_has ls 2 [(0, .ref b), (1, .int (nI k))] := hl
  refine lv_aload_n hx.1 hx.2.1 dJ4_append_cf468_0 rfl (lv_at hl 0 rfl) ?_
  refine lv_iload_n hx.1 hx.2.1 dJ4_append_cf468_1 rfl (lv_at hl 1 rfl) ?_
  refine B_callU (n := 1) hx (B_cls hx) (wr := []) (bc_asbC cB (b := b) (v := v) (m := m) (k := k) (f := f) (tx := tx) hf ht hm hn hk0 hc) FNo_ok hS trivial (B_recv hx hS 0 rfl) g1233 g42 g1231 g1232 gx1335 gx1131 ⟨by decide +kernel, by decide +kernel⟩ dJ4_append_cf468_2 [] rfl rfl (Nat.le_of_ble_eq_true rfl) ⟨by decide, by decide⟩ ⟨by decide, by decide⟩ hl.1 (fun r w1 H1 locs1 hp hS => ?_)
  obtain ⟨rfl, hp⟩ := hp
  have hS : Sx D (va_A (wSB cB b v 0 tx.length m f) s.heap.size) s.heap w1 H1 locs1 := hS
  refine lv_pop hx.1 hx.2.1 dJ4_append_cf468_5 rfl ?_
  refine lv_aload_n hx.1 hx.2.1 dJ4_append_cf468_6 rfl (lv_at hl 0 rfl) ?_
  exact B_retA hx (ws := w1) hS ⟨rfl, hp⟩ (.object "java/lang/StringBuilder") rfl (Or.inl ⟨_, rfl⟩) ⟨by decide, by decide⟩ dJ4_append_cf468_7 rfl
theorem bc_ssz (cB : ClassId) {v : Nat} (h : v < 100) : Bc yJ6_stringSize_0f7a4 cJ6_stringSize_0f7a4 4 (some .int) 1 0 0 FNo [.int (nI v)] cB [] (fun r w1 => r = some (.int (nI (szI v))) ∧ w1 = []) := by
  refine Bc.of (own := RJ6) (by decide +kernel) rfl (Nat.le_of_ble_eq_true rfl) (fun p l e s mt args below meth c D ls hx hS hF hl => ?_)
  have hl : lv_has ls 4 [(0, .int (nI v))] := hl
  obtain ⟨z1, z2, z3, z4⟩ := neg_z v h
  refine lv_iconst (v := 1) hx.1 hx.2.1 dJ6_stringSize_0f7a4_0 (by decide) ?_
  refine lv_istore_n (lv' := [(1, .int 1), (0, .int (nI v))]) hx.1 hx.2.1 dJ6_stringSize_0f7a4_1 rfl hl (by decide) rfl (fun ls hl => ?_)
  refine lv_iload_n hx.1 hx.2.1 dJ6_stringSize_0f7a4_2 rfl (lv_at hl 1 rfl) ?_
  refine lv_if_lt hx.1 hx.2.1 dJ6_stringSize_0f7a4_3 (tgt := 11) (by decide) (fun z => absurd z (nI_pos (by omega))) (fun _ => ?_)
  refine lv_iconst (v := 0) hx.1 hx.2.1 dJ6_stringSize_0f7a4_6 (by decide) ?_
  refine lv_istore_n (lv' := [(1, .int 0), (0, .int (nI v))]) hx.1 hx.2.1 dJ6_stringSize_0f7a4_7 rfl hl (by decide) rfl (fun ls hl => ?_)
  refine lv_iload_n hx.1 hx.2.1 dJ6_stringSize_0f7a4_8 rfl (lv_at hl 1 rfl) ?_
  refine lv_ineg hx.1 hx.2.1 dJ6_stringSize_0f7a4_9 ?_
  refine lv_istore_n (lv' := [(0, .int (-(nI v))), (1, .int 0)]) hx.1 hx.2.1 dJ6_stringSize_0f7a4_10 rfl hl (by decide) rfl (fun ls hl => ?_)
  refine lv_bipush (v := -10) hx.1 hx.2.1 dJ6_stringSize_0f7a4_11 (by decide) ?_
  refine lv_istore_n (lv' := [(2, .int (-10)), (0, .int (-(nI v))), (1, .int 0)]) hx.1 hx.2.1 dJ6_stringSize_0f7a4_13 rfl hl (by decide) rfl (fun ls hl => ?_)
  refine lv_iconst (v := 1) hx.1 hx.2.1 dJ6_stringSize_0f7a4_14 (by decide) ?_
  refine lv_istore_n (lv' := [(3, .int 1), (2, .int (-10)), (0, .int (-(nI v))), (1, .int 0)]) hx.1 hx.2.1 dJ6_stringSize_0f7a4_15 rfl hl (by decide) rfl (fun ls hl => ?_)
  refine lv_iload_n hx.1 hx.2.1 dJ6_stringSize_0f7a4_16 rfl (lv_at hl 0 rfl) ?_
  refine lv_bipush (v := 10) hx.1 hx.2.1 dJ6_stringSize_0f7a4_17 (by decide) ?_
  refine lv_icmp_ge (tgt := 42) hx.1 hx.2.1 dJ6_stringSize_0f7a4_19 (by decide) (fun z => absurd z (by decide)) (fun _ => ?_)
  refine lv_iload_n hx.1 hx.2.1 dJ6_stringSize_0f7a4_22 rfl (lv_at hl 2 rfl) ?_
  refine lv_iload_n hx.1 hx.2.1 dJ6_stringSize_0f7a4_23 rfl (lv_at hl 1 rfl) ?_
  refine lv_icmp_le (tgt := 31) hx.1 hx.2.1 dJ6_stringSize_0f7a4_24 (by decide) (fun z => ?_) (fun z => ?_)
  · have hv : 10 ≤ v := Nat.le_of_not_lt fun h9 => (z2 h9).1 z
    refine lv_bipush (v := 10) hx.1 hx.2.1 dJ6_stringSize_0f7a4_31 (by decide) ?_
    refine lv_iload_n hx.1 hx.2.1 dJ6_stringSize_0f7a4_33 rfl (lv_at hl 1 rfl) ?_
    refine lv_imul hx.1 hx.2.1 dJ6_stringSize_0f7a4_34 ?_
    refine lv_istore_n (lv' := [(2, .int (-100)), (3, .int 1), (0, .int (-(nI v))), (1, .int 0)]) hx.1 hx.2.1 dJ6_stringSize_0f7a4_35 rfl hl (by decide) rfl (fun ls hl => ?_)
    refine lv_iinc (k := 1) (lv' := [(3, .int 2), (2, .int (-100)), (0, .int (-(nI v))), (1, .int 0)]) hx.1 hx.2.1 dJ6_stringSize_0f7a4_36 hl rfl (rfl) (by decide) rfl (fun ls hl => ?_)
    refine lv_goto (tgt := 16) hx.1 hx.2.1 dJ6_stringSize_0f7a4_39 (by decide) ?_
    refine lv_iload_n hx.1 hx.2.1 dJ6_stringSize_0f7a4_16 rfl (lv_at hl 0 rfl) ?_
    refine lv_bipush (v := 10) hx.1 hx.2.1 dJ6_stringSize_0f7a4_17 (by decide) ?_
    refine lv_icmp_ge (tgt := 42) hx.1 hx.2.1 dJ6_stringSize_0f7a4_19 (by decide) (fun z => absurd z (by decide)) (fun _ => ?_)
    refine lv_iload_n hx.1 hx.2.1 dJ6_stringSize_0f7a4_22 rfl (lv_at hl 2 rfl) ?_
    refine lv_iload_n hx.1 hx.2.1 dJ6_stringSize_0f7a4_23 rfl (lv_at hl 1 rfl) ?_
    refine lv_icmp_le (tgt := 31) hx.1 hx.2.1 dJ6_stringSize_0f7a4_24 (by decide) (fun z => absurd z (z3 hv).2.1) (fun _ => ?_)
    refine lv_iload_n hx.1 hx.2.1 dJ6_stringSize_0f7a4_27 rfl (lv_at hl 0 rfl) ?_
    refine lv_iload_n hx.1 hx.2.1 dJ6_stringSize_0f7a4_28 rfl (lv_at hl 3 rfl) ?_
    refine lv_iadd hx.1 hx.2.1 dJ6_stringSize_0f7a4_29 ?_
    exact B_retI hx hS ⟨by rw [szI, if_neg (by omega)]; rfl, rfl⟩ .int rfl rfl ⟨Nat.le_refl _, Nat.le_refl _⟩ dJ6_stringSize_0f7a4_30 rfl
  · have hv : v < 10 := Nat.lt_of_not_le fun h9 => z (z3 h9).1
    refine lv_iload_n hx.1 hx.2.1 dJ6_stringSize_0f7a4_27 rfl (lv_at hl 0 rfl) ?_
    refine lv_iload_n hx.1 hx.2.1 dJ6_stringSize_0f7a4_28 rfl (lv_at hl 3 rfl) ?_
    refine lv_iadd hx.1 hx.2.1 dJ6_stringSize_0f7a4_29 ?_
    exact B_retI hx hS ⟨by rw [szI, if_pos hv]; rfl, rfl⟩ .int rfl rfl ⟨Nat.le_refl _, Nat.le_refl _⟩ dJ6_stringSize_0f7a4_30 rfl
/-- Integer's two tables of digits -/
def FD (d1 d2 : Nat) : aF := fun A U H => va_Z "java/lang/Integer" "DigitOnes" "[B" (.ref d1) A U H ∧ va_T .byte d1 100 (fun j => .int (nI (48 + j % 10))) A U H ∧ va_Z "java/lang/Integer" "DigitTens" "[B" (.ref d2) A U H ∧ va_T .byte d2 100 (fun j => .int (nI (48 + j / 10))) A U H
theorem FD_ok {d1 d2 : Nat} : FOK (FD d1 d2) := fun _ _ _ _ h k => ⟨va_Z.moved h.alike k.1, va_T.moved h.alike k.2.1, va_Z.moved h.alike k.2.2.1, va_T.moved h.alike k.2.2.2⟩
theorem FD.kept {d1 d2 : Nat} {A : Nat → Prop} {U : State} {H H1 : Heap} (h : FD d1 d2 A U H) (hq : ∀ a : Nat, a < H.size → ¬ A a → H1[a]? = H[a]?) : FD d1 d2 A U H1 := ⟨va_Z.kept h.1 hq, h.2.1.kept hq, va_Z.kept h.2.2.1 hq, h.2.2.2.kept hq⟩
theorem FD.narrow {d1 d2 : Nat} {A B : Nat → Prop} {U : State} {H : Heap} (h : FD d1 d2 A U H) (hAB : ∀ q, B q → A q) : FD d1 d2 B U H := ⟨h.1.narrow hAB, h.2.1.narrow hAB, h.2.2.1.narrow hAB, h.2.2.2.narrow hAB⟩
theorem FD.at {D : va_G} {A : Nat → Prop} {s : State} {H : Heap} {wr wc : va_W} {locs : List Loc} {d1 d2 : Nat} (h : FD d1 d2 A s s.heap) (hS : Sx D A s.heap (wr ++ wc) H locs) (hA : ∀ q, s.heap.size ≤ q → A q) : FD d1 d2 (va_A wc H.size) s H := (h.kept hS.2.2.2.1).narrow (Bsub hS hA)
theorem bc_getC (cB : ClassId) {va n m v d1 d2 : Nat} {f : Nat → Int32} (h : v < 100) (ht : n + szI v ≤ m ∧ m ≤ 300) : Bc yJ6_getChars_ba4f3 cJ6_getChars_ba4f3 7 (some .int) 1 0 0 (FD d1 d2) [.int (nI v), .int (nI (n + szI v)), .ref va] cB [(va, .inl (cB, m, .inl f))] (fun r w1 => r = some (.int (nI n)) ∧ w1 = [(va, .inl (cB, m, .inl (putI f n v)))]) := by
  refine Bc.of (own := RJ6) (by decide +kernel) rfl (Nat.le_of_ble_eq_true rfl) (fun p l e s mt args below meth c D ls hx hS hF hl => ?_)
  have hl : lv_has ls 7 [(0, .int (nI v)), (1, .int (nI (n + szI v))), (2, .ref va)] := hl
  have hF : FD d1 d2 (va_A [(va, .inl (cB, m, .inl f))] s.heap.size) s s.heap := hF
  obtain ⟨z1, z2, z3, z4⟩ := neg_z v h
  have hs9 : 1 ≤ szI v ∧ szI v ≤ 2 := by unfold szI; split <;> omega
  refine lv_iload_n hx.1 hx.2.1 dJ6_getChars_ba4f3_0 rfl (lv_at hl 1 rfl) ?_
  refine lv_istore (lv' := [(5, .int (nI (n + szI v))), (0, .int (nI v)), (1, .int (nI (n + szI v))), (2, .ref va)]) hx.1 hx.2.1 dJ6_getChars_ba4f3_1 hl (by decide) rfl (fun ls hl => ?_)
  refine lv_iload_n hx.1 hx.2.1 dJ6_getChars_ba4f3_3 rfl (lv_at hl 1 rfl) ?_
  refine lv_if_ge (tgt := 11) hx.1 hx.2.1 dJ6_getChars_ba4f3_4 (by decide) (fun _ => ?_) (fun z => absurd (nI_pos' (by omega)) z)
  refine lv_iconst (v := 0) hx.1 hx.2.1 dJ6_getChars_ba4f3_11 (by decide) ?_
  refine lv_istore (lv' := [(6, .int 0), (5, .int (nI (n + szI v))), (0, .int (nI v)), (1, .int (nI (n + szI v))), (2, .ref va)]) hx.1 hx.2.1 dJ6_getChars_ba4f3_12 hl (by decide) rfl (fun ls hl => ?_)
  refine lv_iload hx.1 hx.2.1 dJ6_getChars_ba4f3_14 (lv_at hl 0 rfl) ?_
  refine lv_if_ne (tgt := 22) hx.1 hx.2.1 dJ6_getChars_ba4f3_16 (by decide) (fun z => absurd rfl z) (fun _ => ?_)
  refine lv_iload_n hx.1 hx.2.1 dJ6_getChars_ba4f3_19 rfl (lv_at hl 2 rfl) ?_
  refine lv_ineg hx.1 hx.2.1 dJ6_getChars_ba4f3_20 ?_
  refine lv_istore_n (lv' := [(0, .int (-(nI v))), (6, .int 0), (5, .int (nI (n + szI v))), (1, .int (nI (n + szI v))), (2, .ref va)]) hx.1 hx.2.1 dJ6_getChars_ba4f3_21 rfl hl (by decide) rfl (fun ls hl => ?_)
  refine lv_iload_n hx.1 hx.2.1 dJ6_getChars_ba4f3_22 rfl (lv_at hl 0 rfl) ?_
  refine lv_bipush (v := -100) hx.1 hx.2.1 dJ6_getChars_ba4f3_23 (by decide) ?_
  refine lv_icmp_gt (tgt := 72) hx.1 hx.2.1 dJ6_getChars_ba4f3_25 (by decide) (fun _ => ?_) (fun z => absurd z4 z)
  refine lv_aload_n hx.1 hx.2.1 dJ6_getChars_ba4f3_72 rfl (lv_at hl 4 rfl) ?_
  refine lv_iinc (k := 2) (lv' := [(5, .int (nI (n + szI v - 1))), (0, .int (-(nI v))), (6, .int 0), (1, .int (nI (n + szI v))), (2, .ref va)]) hx.1 hx.2.1 dJ6_getChars_ba4f3_73 hl rfl (dec_z (by omega)) (by decide) rfl (fun ls hl => ?_)
  refine lv_iload hx.1 hx.2.1 dJ6_getChars_ba4f3_76 (lv_at hl 0 rfl) ?_
  refine va_gets (ref := "java/lang/Integer") hx.1 hx.2.1 hF.1 hS.2.2 hx.2.2.2.1 (hx.2.2.2.2.1 _ g1253) (fun _ h => h) dJ6_getChars_ba4f3_78 ?_
  refine lv_iload_n hx.1 hx.2.1 dJ6_getChars_ba4f3_81 rfl (lv_at hl 1 rfl) ?_
  refine lv_ineg hx.1 hx.2.1 dJ6_getChars_ba4f3_82 ?_
  rw [z1]
  refine va_tb (v := .int (nI (48 + v % 10))) hx.1 hx.2.1 hF.2.1 hS.2.2 (vp_in_nI (by omega) (by decide)) (by rw [nI_clamp (by omega)]) dJ6_getChars_ba4f3_83 ?_
  refine B_bast hx hS 0 rfl rfl (by omega) (by omega) (i2b_z (48 + v % 10) (by omega)).2.1 dJ6_getChars_ba4f3_84 rfl (fun H1 locs1 hS => ?_)
  refine lv_iload_n hx.1 hx.2.1 dJ6_getChars_ba4f3_85 rfl (lv_at hl 1 rfl) ?_
  refine lv_bipush (v := -9) hx.1 hx.2.1 dJ6_getChars_ba4f3_86 (by decide) ?_
  refine lv_icmp_ge (tgt := 104) hx.1 hx.2.1 dJ6_getChars_ba4f3_88 (by decide) (fun z => ?_) (fun z => ?_)
  · have hv : v < 10 := Nat.lt_of_not_le fun h9 => (z3 h9).2.2 z
    have e1 : szI v = 1 := by unfold szI; rw [if_pos hv]
    have e2 : n + szI v - 1 = n := by omega
    refine lv_iload hx.1 hx.2.1 dJ6_getChars_ba4f3_104 (lv_at hl 2 rfl) ?_
    refine lv_if_eq (tgt := 118) hx.1 hx.2.1 dJ6_getChars_ba4f3_106 (by decide) (fun _ => ?_) (fun z => absurd rfl z)
    refine lv_iload hx.1 hx.2.1 dJ6_getChars_ba4f3_118 (lv_at hl 0 rfl) ?_
    exact B_retI hx hS ⟨by rw [e2], by rw [e2, putI, if_pos hv, Nat.mod_eq_of_lt hv]; rfl⟩ .int rfl rfl ⟨Nat.le_refl _, Nat.le_refl _⟩ dJ6_getChars_ba4f3_120 rfl
  · have hv : 10 ≤ v := Nat.le_of_not_lt fun h9 => z (z2 h9).2
    have e1 : szI v = 2 := by unfold szI; rw [if_neg (by omega)]
    refine lv_aload_n hx.1 hx.2.1 dJ6_getChars_ba4f3_91 rfl (lv_at hl 4 rfl) ?_
    refine lv_iinc (k := 0) (lv' := [(5, .int (nI (n + szI v - 1 - 1))), (0, .int (-(nI v))), (6, .int 0), (1, .int (nI (n + szI v))), (2, .ref va)]) hx.1 hx.2.1 dJ6_getChars_ba4f3_92 hl rfl (dec_z (by omega)) (by decide) rfl (fun ls hl => ?_)
    refine lv_iload hx.1 hx.2.1 dJ6_getChars_ba4f3_95 (lv_at hl 0 rfl) ?_
    refine va_gets (ref := "java/lang/Integer") hx.1 hx.2.1 hF.2.2.1 hS.2.2 hx.2.2.2.1 (hx.2.2.2.2.1 _ g1255) (fun _ h => h) dJ6_getChars_ba4f3_97 ?_
    refine lv_iload_n hx.1 hx.2.1 dJ6_getChars_ba4f3_100 rfl (lv_at hl 1 rfl) ?_
    refine lv_ineg hx.1 hx.2.1 dJ6_getChars_ba4f3_101 ?_
    rw [z1]
    refine va_tb (v := .int (nI (48 + v / 10))) hx.1 hx.2.1 hF.2.2.2 hS.2.2 (vp_in_nI (by omega) (by decide)) (by rw [nI_clamp (by omega)]) dJ6_getChars_ba4f3_102 ?_
    refine B_bast hx hS 0 rfl rfl (by omega) (by omega) (i2b_z (48 + v / 10) (by omega)).2.1 dJ6_getChars_ba4f3_103 rfl (fun H2 locs2 hS => ?_)
    refine lv_iload hx.1 hx.2.1 dJ6_getChars_ba4f3_104 (lv_at hl 2 rfl) ?_
    refine lv_if_eq (tgt := 118) hx.1 hx.2.1 dJ6_getChars_ba4f3_106 (by decide) (fun _ => ?_) (fun z => absurd rfl z)
    refine lv_iload hx.1 hx.2.1 dJ6_getChars_ba4f3_118 (lv_at hl 0 rfl) ?_
    have e2 : n + szI v - 1 - 1 = n := by omega
    have e3 : n + szI v - 1 = n + 1 := by omega
    exact B_retI hx hS ⟨by rw [e2], by rw [e2, e3, putI, if_neg (by omega)]; rfl⟩ .int rfl rfl ⟨Nat.le_refl _, Nat.le_refl _⟩ dJ6_getChars_ba4f3_120 rfl
theorem bc_asbI (cB : ClassId) {b v m k d1 d2 : Nat} {f : Nat → Int32} {tx : List Int32} (hf : sb_Fit f) (ht : ∀ j, j < tx.length → f j = tx.getD j 0) (hm : mOK m) (hn : tx.length ≤ m) (hk0 : tx.length + 2 ≤ 240) (hc : k < 100) : Bc yJ5_append_c97b9 cJ5_append_c97b9 4 (some (.object "java/lang/AbstractStringBuilder")) 4 1 700 (FD d1 d2) [.ref b, .int (nI k)] cB (wSB cB b v 0 tx.length m f) (fun r w1 => r = some (.ref b) ∧ BT cB b (tx ++ dgI k) w1) := by
  refine Bc.of (own := RJ5) (by decide +kernel) rfl (Nat.le_of_ble_eq_true rfl) (fun p l e s mt args below meth c D ls hx hS hF hl => ?_)
  have hl : lv_has ls 4 [(0, .ref b), (1, .int (nI k))] := hl
  have hF : FD d1 d2 (va_A (wSB cB b v 0 tx.length m f) s.heap.size) s s.heap := hF
  have hs9 : 1 ≤ szI k ∧ szI k ≤ 2 := by unfold szI; split <;> omega
  have hk : tx.length + szI k ≤ 240 ∧ szI k ≤ 7 := by omega
  refine lv_aload_n hx.1 hx.2.1 dJ5_append_c97b9_0 rfl (lv_at hl 0 rfl) ?_
  refine B_get hx hS 0 3 rfl (by decide) ⟨rfl, rfl, rfl⟩ g1122 rfl dJ5_append_c97b9_1 ?_
  refine lv_istore_n (lv' := [(2, .int (nI tx.length)), (0, .ref b), (1, .int (nI k))]) hx.1 hx.2.1 dJ5_append_c97b9_4 rfl hl (by decide) rfl (fun ls hl => ?_)
  refine lv_iload_n hx.1 hx.2.1 dJ5_append_c97b9_5 rfl (lv_at hl 0 rfl) ?_
  refine lv_iload_n hx.1 hx.2.1 dJ5_append_c97b9_6 rfl (lv_at hl 2 rfl) ?_
  refine B_callS (n := 1) hx (bc_ssz cB (v := k) hc) FNo_ok hS.nil trivial g1249 g47 g1247 g1248 ⟨⟨by decide +kernel, by decide +kernel⟩, by decide +kernel⟩ dJ5_append_c97b9_7 [.int (nI tx.length)] rfl rfl (Nat.le_of_ble_eq_true rfl) ⟨by decide, by decide⟩ ⟨by decide, by decide⟩ hl.1 (fun r w1 H0 locs0 hp hS => ?_)
  obtain ⟨rfl, rfl⟩ := hp
  have hS := hS.nil'
  refine lv_iadd hx.1 hx.2.1 dJ5_append_c97b9_10 ?_
  rw [nI_add]
  refine lv_istore_n (lv' := [(3, .int (nI (tx.length + szI k))), (2, .int (nI tx.length)), (0, .ref b), (1, .int (nI k))]) hx.1 hx.2.1 dJ5_append_c97b9_11 rfl hl (by decide) rfl (fun ls hl => ?_)
  refine lv_aload_n hx.1 hx.2.1 dJ5_append_c97b9_12 rfl (lv_at hl 2 rfl) ?_
  refine lv_iload_n hx.1 hx.2.1 dJ5_append_c97b9_13 rfl (lv_at hl 0 rfl) ?_
  have hm9 : m ≤ 286 ∧ 16 ≤ m := by unfold mOK at hm; omega
  refine B_callV (n := 1) hx (wr := []) (bc_ensure cB (b := b) (v := v) (n := tx.length) (m := m) (q := tx.length + szI k) (ml := 0) (f := f) (by omega) hf) FNo_ok hS trivial (B_recv hx hS 0 rfl) (B_sel hx (by decide +kernel) (by decide +kernel) gx1330) g1146 g42 g1143 g1145 ⟨⟨by decide +kernel, by decide +kernel⟩, by decide +kernel⟩ dJ5_append_c97b9_14 [] rfl rfl (Nat.le_of_ble_eq_true rfl) ⟨by decide, by decide⟩ ⟨by decide, by decide⟩ hl.1 (fun r w1 H1 locs1 hp hS => ?_)
  obtain ⟨rfl, hp⟩ := hp
  obtain ⟨v', m', f', rfl, hf', ht', hm', hn'⟩ := BT.grown hf ht hm hn hk hp
  have hm8 : m' ≤ 286 := by unfold mOK at hm'; omega
  have hS : Sx D (va_A (wSB cB b v 0 tx.length m f) s.heap.size) s.heap (wSB cB b v' 0 tx.length m' f') H1 locs1 := hS
  refine lv_aload_n hx.1 hx.2.1 dJ5_append_c97b9_17 rfl (lv_at hl 2 rfl) ?_
  refine B_callV (n := 0) hx (wr := []) (bc_lat1 cB (b := b) (v := v') (n := tx.length) (m := m') (ml := 0) (f := f')) FNo_ok hS trivial (B_recv hx hS 0 rfl) (hx.2.2.2.2.1 _ g1175) g1176 g42 g1172 g1173 ⟨⟨by decide +kernel, by decide +kernel⟩, by decide +kernel⟩ dJ5_append_c97b9_18 [] rfl rfl (Nat.le_of_ble_eq_true rfl) ⟨by decide, by decide⟩ ⟨by decide, by decide⟩ hl.1 (fun r w1 H2 locs2 hp hS => ?_)
  obtain ⟨rfl, rfl⟩ := hp
  have hS : Sx D (va_A (wSB cB b v 0 tx.length m f) s.heap.size) s.heap ([(b, .inr (1, [.ref v', .int 0, .int 0, .int (nI tx.length)]))] ++ [(v', .inl (cB, m', .inl f'))]) H2 locs2 := hS
  refine lv_if_eq (tgt := 37) hx.1 hx.2.1 dJ5_append_c97b9_21 (by decide) (fun z => absurd z (by decide)) (fun _ => ?_)
  refine lv_iload_n hx.1 hx.2.1 dJ5_append_c97b9_24 rfl (lv_at hl 3 rfl) ?_
  refine lv_iload_n hx.1 hx.2.1 dJ5_append_c97b9_25 rfl (lv_at hl 0 rfl) ?_
  refine lv_aload_n hx.1 hx.2.1 dJ5_append_c97b9_26 rfl (lv_at hl 2 rfl) ?_
  refine B_get hx hS 0 0 rfl (by decide) ⟨rfl, rfl, rfl⟩ g1119 rfl dJ5_append_c97b9_27 ?_
  refine B_callS (n := 3) hx (bc_getC cB (va := v') (n := tx.length) (m := m') (v := k) (d1 := d1) (d2 := d2) (f := f') hc ⟨hn', by omega⟩) FD_ok hS (hF.at hS hx.2.2.2.2.2.2.2.2.1) g1252 g47 g1250 g1251 ⟨⟨by decide +kernel, by decide +kernel⟩, by decide +kernel⟩ dJ5_append_c97b9_30 [] rfl rfl (Nat.le_of_ble_eq_true rfl) ⟨by decide, by decide⟩ ⟨by decide, by decide⟩ hl.1 (fun r w1 H3 locs3 hp hS => ?_)
  obtain ⟨rfl, rfl⟩ := hp
  refine lv_pop hx.1 hx.2.1 dJ5_append_c97b9_33 rfl ?_
  refine lv_goto (tgt := 48) hx.1 hx.2.1 dJ5_append_c97b9_34 (by decide) ?_
  refine lv_aload_n hx.1 hx.2.1 dJ5_append_c97b9_48 rfl (lv_at hl 2 rfl) ?_
  refine lv_iload_n hx.1 hx.2.1 dJ5_append_c97b9_49 rfl (lv_at hl 0 rfl) ?_
  rw [putI_cpy] at hS
  refine B_put hx hS (v := .int (nI (tx.length + szI k))) (ty := .int) 0 3 rfl (by decide) ⟨rfl, rfl, rfl⟩ g1122 rfl (by decide +kernel) rfl rfl (by show 3 < 4; decide) dJ5_append_c97b9_50 rfl (fun H4 locs4 hS => ?_)
  refine lv_aload_n hx.1 hx.2.1 dJ5_append_c97b9_53 rfl (lv_at hl 2 rfl) ?_
  have hS : Sx D (va_A (wSB cB b v 0 tx.length m f) s.heap.size) s.heap (wSB cB b v' 0 (tx.length + (dgI k).length) m' (va_cpy (fun j => (dgI k).getD j 0) f' 0 tx.length (dgI k).length)) H4 locs4 := by rw [dgI_len k]; rw [dgI_len k] at hS; exact hS
  exact B_retA hx hS ⟨rfl, BT.app hf' ht' hm' (by rw [dgI_len]; exact hn') (dgI_fit hc)⟩ (.object "java/lang/AbstractStringBuilder") rfl (Or.inl ⟨_, rfl⟩) ⟨by decide, by decide⟩ dJ5_append_c97b9_54 rfl
theorem bc_sbI (cB : ClassId) {b v m k d1 d2 : Nat} {f : Nat → Int32} {tx : List Int32} (hf : sb_Fit f) (ht : ∀ j, j < tx.length → f j = tx.getD j 0) (hm : mOK m) (hn : tx.length ≤ m) (hk0 : tx.length + 2 ≤ 240) (hc : k < 100) : Bc yJ4_append_bf812 cJ4_append_bf812 2 (some (.object "java/lang/StringBuilder")) 5 1 700 (FD d1 d2) [.ref b, .int (nI k)] cB (wSB cB b v 0 tx.length m f) (fun r w1 => r = some (.ref b) ∧ BT cB b (tx ++ dgI k) w1) := by
  refine Bc.of (own := RJ4) (by decide +kernel) rfl (Nat.le_of_ble_eq_true rfl) (fun p l e s mt args below meth c D ls hx hS hF hl => ?_)
  have hl : lv_has ls 2 [(0, .ref b), (1, .int (nI k))] := hl
  have hF : FD d1 d2 (va_A (wSB cB b v 0 tx.length m f) s.heap.size) s s.heap := hF
  refine lv_aload_n hx.1 hx.2.1 dJ4_append_bf812_0 rfl (lv_at hl 0 rfl) ?_
  refine lv_iload_n hx.1 hx.2.1 dJ4_append_bf812_1 rfl (lv_at hl 1 rfl) ?_
  refine B_callU (n := 1) hx (B_cls hx) (wr := []) (bc_asbI cB (b := b) (v := v) (m := m) (k := k) (d1 := d1) (d2 := d2) (f := f) (tx := tx) hf ht hm hn hk0 hc) FD_ok hS hF (B_recv hx hS 0 rfl) g1246 g42 g1244 g1245 gx1336 gx1131 ⟨by decide +kernel, by decide +kernel⟩ dJ4_append_bf812_2 [] rfl rfl (Nat.le_of_ble_eq_true rfl) ⟨by decide, by decide⟩ ⟨by decide, by decide⟩ hl.1 (fun r w1 H1 locs1 hp hS => ?_)
  obtain ⟨rfl, hp⟩ := hp
  have hS : Sx D (va_A (wSB cB b v 0 tx.length m f) s.heap.size) s.heap w1 H1 locs1 := hS
  refine lv_pop hx.1 hx.2.1 dJ4_append_bf812_5 rfl ?_
  refine lv_aload_n hx.1 hx.2.1 dJ4_append_bf812_6 rfl (lv_at hl 0 rfl) ?_
  exact B_retA hx (ws := w1) hS ⟨rfl, hp⟩ (.object "java/lang/StringBuilder") rfl (Or.inl ⟨_, rfl⟩) ⟨by decide, by decide⟩ dJ4_append_bf812_7 rfl
