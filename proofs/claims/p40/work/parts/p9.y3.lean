/-! ===== how a StringBuilder grows ===== -/
def wSB (cB : ClassId) (b v : Nat) (ml : Int32) (n m : Nat) (f : Nat → Int32) : va_W := [(b, .inr (1, [.ref v, .int 0, .int ml, .int (nI n)])), (v, .inl (cB, m, .inl f))]
theorem bc_newLen (cB : ClassId) {m a b : Nat} (h : m ≤ 65536 ∧ a ≤ 65536 ∧ b ≤ 65536 ∧ 0 < m) : Bc yJ8_newLength_cabcc cJ8_newLength_cabcc 4 (some .int) 1 0 0 FNo [.int (nI m), .int (nI a), .int (nI b)] cB [] (fun v w1 => v = some (.int (nI (m + max a b))) ∧ w1 = []) := by
  refine Bc.of (own := RJ8) (by decide +kernel) rfl (Nat.le_of_ble_eq_true rfl) (fun p l e s mt args below meth c D ls hx hS hF hl => ?_)
  have hl : lv_has ls 4 [(0, .int (nI m)), (1, .int (nI a)), (2, .int (nI b))] := hl
  refine lv_iload_n hx.1 hx.2.1 dJ8_newLength_cabcc_0 rfl (lv_at hl 0 rfl) ?_
  refine lv_iload_n hx.1 hx.2.1 dJ8_newLength_cabcc_1 rfl (lv_at hl 1 rfl) ?_
  refine lv_iload_n hx.1 hx.2.1 dJ8_newLength_cabcc_2 rfl (lv_at hl 2 rfl) ?_
  refine va_mmax hx.1 hx.2.1 (by rw [hx.2.2.1]; exact hl.1.symm) hx.2.2.2.1 (hx.2.2.2.2.1 _ g1154) (hx.2.2.2.2.1 _ g895) (hx.2.2.2.2.1 _ g40) (hx.2.2.2.2.1 _ g896) (by decide) (by show 1 + 13 ≤ 39; decide) (Nat.zero_le _) (Nat.zero_le _) dJ8_newLength_cabcc_3 ?_
  have e1 : (if nI a < nI b then nI b else nI a) = nI (max a b) := by
    by_cases c : a < b
    · rw [if_pos (nI_lt c (by omega)), Nat.max_eq_right (by omega)]
    · rw [if_neg (nI_nlt (by omega) (by omega)), Nat.max_eq_left (by omega)]
  have hmx : max a b ≤ 65536 := Nat.max_le.mpr ⟨h.2.1, h.2.2.1⟩
  rw [e1]
  refine lv_iadd hx.1 hx.2.1 dJ8_newLength_cabcc_6 ?_
  rw [nI_add]
  refine lv_istore_n (lv' := [(3, .int (nI (m + max a b))), (0, .int (nI m)), (1, .int (nI a)), (2, .int (nI b))]) hx.1 hx.2.1 dJ8_newLength_cabcc_7 rfl hl (by decide) rfl (fun ls hl => ?_)
  refine lv_iconst (v := 0) hx.1 hx.2.1 dJ8_newLength_cabcc_8 (by decide) ?_
  refine lv_iload_n hx.1 hx.2.1 dJ8_newLength_cabcc_9 rfl (lv_at hl 0 rfl) ?_
  refine lv_icmp_ge (tgt := 21) hx.1 hx.2.1 dJ8_newLength_cabcc_10 (by decide) (fun z => absurd z (by rw [← nI_0]; exact nI_ge (by omega) (by omega))) (fun _ => ?_)
  refine lv_iload_n hx.1 hx.2.1 dJ8_newLength_cabcc_13 rfl (lv_at hl 0 rfl) ?_
  refine lv_ldc hx.1 hx.2.1 hx.2.2.2.1 (hx.2.2.2.2.1 _ g1155) dJ8_newLength_cabcc_14 ?_
  refine lv_icmp_gt (tgt := 21) hx.1 hx.2.1 dJ8_newLength_cabcc_16 (by decide) (fun z => absurd z (show ¬ nI 2147483639 < nI (m + max a b) from nI_nlt (by omega) (by decide))) (fun _ => ?_)
  refine lv_iload_n hx.1 hx.2.1 dJ8_newLength_cabcc_19 rfl (lv_at hl 0 rfl) ?_
  exact B_retI hx hS ⟨rfl, rfl⟩ .int rfl rfl ⟨Nat.le_refl _, Nat.le_refl _⟩ dJ8_newLength_cabcc_20 rfl
def capz (q m : Nat) : Nat := m + max (q - m) (m + 2)
theorem capz_le {q m : Nat} (h : m ≤ 300 ∧ q ≤ 300 ∧ 0 < m ∧ m < q) : capz q m ≤ 700 ∧ m < capz q m ∧ q ≤ capz q m := by unfold capz; omega
theorem bc_newCap (cB : ClassId) {b v n m q : Nat} {ml : Int32} {f : Nat → Int32} (h : m ≤ 300 ∧ q ≤ 300 ∧ 0 < m ∧ m < q) : Bc yJ5_newCapacity_0f7a4 cJ5_newCapacity_0f7a4 6 (some .int) 2 0 0 FNo [.ref b, .int (nI q)] cB (wSB cB b v ml n m f) (fun r w1 => r = some (.int (nI (capz q m))) ∧ w1 = wSB cB b v ml n m f) := by
  refine Bc.of (own := RJ5) (by decide +kernel) rfl (Nat.le_of_ble_eq_true rfl) (fun p l e s mt args below meth c D ls hx hS hF hl => ?_)
  have hl : lv_has ls 6 [(0, .ref b), (1, .int (nI q))] := hl
  refine lv_aload_n hx.1 hx.2.1 dJ5_newCapacity_0f7a4_0 rfl (lv_at hl 0 rfl) ?_
  refine B_get hx hS 0 0 rfl (by decide) ⟨rfl, rfl, rfl⟩ g1119 rfl dJ5_newCapacity_0f7a4_1 ?_
  refine B_alen hx hS 1 rfl rfl dJ5_newCapacity_0f7a4_4 ?_
  refine lv_istore_n (lv' := [(2, .int (nI m)), (0, .ref b), (1, .int (nI q))]) hx.1 hx.2.1 dJ5_newCapacity_0f7a4_5 rfl hl (by decide) rfl (fun ls hl => ?_)
  refine lv_iload_n hx.1 hx.2.1 dJ5_newCapacity_0f7a4_6 rfl (lv_at hl 2 rfl) ?_
  refine lv_aload_n hx.1 hx.2.1 dJ5_newCapacity_0f7a4_7 rfl (lv_at hl 1 rfl) ?_
  refine B_get hx hS 0 1 rfl (by decide) ⟨rfl, rfl, rfl⟩ g1120 rfl dJ5_newCapacity_0f7a4_8 ?_
  refine lv_ishl hx.1 hx.2.1 dJ5_newCapacity_0f7a4_11 ?_
  rw [sb_shl0]
  refine lv_istore_n (lv' := [(3, .int (nI q)), (2, .int (nI m)), (0, .ref b), (1, .int (nI q))]) hx.1 hx.2.1 dJ5_newCapacity_0f7a4_12 rfl hl (by decide) rfl (fun ls hl => ?_)
  refine lv_iload_n hx.1 hx.2.1 dJ5_newCapacity_0f7a4_13 rfl (lv_at hl 0 rfl) ?_
  refine lv_iload_n hx.1 hx.2.1 dJ5_newCapacity_0f7a4_14 rfl (lv_at hl 1 rfl) ?_
  refine lv_isub hx.1 hx.2.1 dJ5_newCapacity_0f7a4_15 ?_
  rw [pk_sub (by omega)]
  refine lv_istore (lv' := [(4, .int (nI (q - m))), (3, .int (nI q)), (2, .int (nI m)), (0, .ref b), (1, .int (nI q))]) hx.1 hx.2.1 dJ5_newCapacity_0f7a4_16 hl (by decide) rfl (fun ls hl => ?_)
  refine lv_iload_n hx.1 hx.2.1 dJ5_newCapacity_0f7a4_18 rfl (lv_at hl 2 rfl) ?_
  refine lv_iload hx.1 hx.2.1 dJ5_newCapacity_0f7a4_19 (lv_at hl 0 rfl) ?_
  refine lv_iload_n hx.1 hx.2.1 dJ5_newCapacity_0f7a4_21 rfl (lv_at hl 2 rfl) ?_
  refine lv_iconst (v := 2) hx.1 hx.2.1 dJ5_newCapacity_0f7a4_22 (by decide) ?_
  refine lv_aload_n hx.1 hx.2.1 dJ5_newCapacity_0f7a4_23 rfl (lv_at hl 3 rfl) ?_
  refine B_get hx hS 0 1 rfl (by decide) ⟨rfl, rfl, rfl⟩ g1120 rfl dJ5_newCapacity_0f7a4_24 ?_
  refine lv_ishl hx.1 hx.2.1 dJ5_newCapacity_0f7a4_27 ?_
  rw [sb_shl0]
  refine lv_iadd hx.1 hx.2.1 dJ5_newCapacity_0f7a4_28 ?_
  rw [show nI m + 2 = nI (m + 2) from nI_add m 2]
  have hS : Sx D (va_A (wSB cB b v ml n m f) s.heap.size) s.heap (wSB cB b v ml n m f ++ []) s.heap [] := by rw [List.append_nil]; exact hS
  refine B_callS (n := 3) hx (bc_newLen cB (m := m) (a := q - m) (b := m + 2) (by omega)) FNo_ok hS trivial g1153 g44 g1151 g1152 ⟨⟨by decide +kernel, by decide +kernel⟩, by decide +kernel⟩ dJ5_newCapacity_0f7a4_29 [] rfl rfl (by decide) ⟨by decide, by decide⟩ ⟨by decide, by decide⟩ hl.1 (fun r w1 H1 locs1 hp hS => ?_)
  obtain ⟨rfl, rfl⟩ := hp
  rw [List.append_nil] at hS
  refine lv_istore (lv' := [(5, .int (nI (capz q m))), (4, .int (nI (q - m))), (3, .int (nI q)), (2, .int (nI m)), (0, .ref b), (1, .int (nI q))]) hx.1 hx.2.1 dJ5_newCapacity_0f7a4_32 hl (by decide) rfl (fun ls hl => ?_)
  refine lv_iload hx.1 hx.2.1 dJ5_newCapacity_0f7a4_34 (lv_at hl 0 rfl) ?_
  refine lv_ldc hx.1 hx.2.1 hx.2.2.2.1 (hx.2.2.2.2.1 _ g1159) dJ5_newCapacity_0f7a4_36 ?_
  have hcap := (capz_le h).1
  refine lv_icmp_ne (tgt := 51) hx.1 hx.2.1 dJ5_newCapacity_0f7a4_38 (by decide) (fun _ => ?_) (fun z => absurd ((nI_eq (b := 2147483647) (by omega) (by decide)).mp z) (by omega))
  refine lv_iload hx.1 hx.2.1 dJ5_newCapacity_0f7a4_51 (lv_at hl 0 rfl) ?_
  refine lv_aload_n hx.1 hx.2.1 dJ5_newCapacity_0f7a4_53 rfl (lv_at hl 4 rfl) ?_
  refine B_get hx hS 0 1 rfl (by decide) ⟨rfl, rfl, rfl⟩ g1120 rfl dJ5_newCapacity_0f7a4_54 ?_
  refine lv_ishr hx.1 hx.2.1 dJ5_newCapacity_0f7a4_57 ?_
  rw [show nI (capz q m) >>> ((0 : Int32) &&& 31) = nI (capz q m) from sb_shr0 _]
  exact B_retI hx hS ⟨rfl, rfl⟩ .int rfl rfl ⟨Nat.le_refl _, Nat.le_refl _⟩ dJ5_newCapacity_0f7a4_58 rfl
theorem gx1328 : (Cond.sameMethod RJ5 RJ5 "append" "(Ljava/lang/String;)Ljava/lang/AbstractStringBuilder;") ∈ Gw := gw_in 1328 (by decide +kernel) (by decide +kernel)
theorem gx1330 : (Cond.sameMethod RJ5 RJ5 "ensureCapacityInternal" "(I)V") ∈ Gw := gw_in 1330 (by decide +kernel) (by decide +kernel)
theorem gx1331 : (Cond.sameMethod RJ5 RJ5 "newCapacity" "(I)I") ∈ Gw := gw_in 1331 (by decide +kernel) (by decide +kernel)
theorem gx1332 : (Cond.sameMethod RJ5 RJ5 "putStringAt" "(ILjava/lang/String;)V") ∈ Gw := gw_in 1332 (by decide +kernel) (by decide +kernel)
theorem gx1333 : (Cond.sameMethod RJ5 RJ5 "inflateIfNeededFor" "(Ljava/lang/String;)V") ∈ Gw := gw_in 1333 (by decide +kernel) (by decide +kernel)
theorem gx1335 : (Cond.sameMethod RJ5 RJ5 "append" "(C)Ljava/lang/AbstractStringBuilder;") ∈ Gw := gw_in 1335 (by decide +kernel) (by decide +kernel)
theorem gx1336 : (Cond.sameMethod RJ5 RJ5 "append" "(I)Ljava/lang/AbstractStringBuilder;") ∈ Gw := gw_in 1336 (by decide +kernel) (by decide +kernel)
theorem gx1131 : (Cond.superclass RJ4 RJ5) ∈ Gw := gw_in 1131 (by decide +kernel) (by decide +kernel)
def FT (cB : ClassId) (v m : Nat) (f : Nat → Int32) : aF := fun A U H => va_T .byte v m (fun j => .int (f j)) A U H
theorem FT_ok {cB : ClassId} {v m : Nat} {f : Nat → Int32} : FOK (FT cB v m f) := fun _ _ _ _ h k => va_T.moved h.alike k
theorem bc_copyOf (cB : ClassId) {v m q : Nat} {f : Nat → Int32} (h : m < q ∧ q ≤ 65536) (hf : sb_Fit f) : Bc yJ7_copyOf_9075b cJ7_copyOf_9075b 3 (some (.array .byte)) 1 1 q (FT cB v m f) [.ref v, .int (nI q)] cB [] (fun r w1 => ∃ a : Nat, r = some (.ref a) ∧ w1 = [(a, .inl (cB, q, .inl (va_cpy f (fun _ => 0) 0 0 m)))]) := by
  refine Bc.of (own := RJ7) (by decide +kernel) rfl (Nat.le_of_ble_eq_true rfl) (fun p l e s mt args below meth c D ls hx hS hF hl => ?_)
  have hl : lv_has ls 3 [(0, .ref v), (1, .int (nI q))] := hl
  have hF : va_T .byte v m (fun j => .int (f j)) (va_A [] s.heap.size) s s.heap := hF
  refine lv_iload_n hx.1 hx.2.1 dJ7_copyOf_9075b_0 rfl (lv_at hl 1 rfl) ?_
  refine lv_aload_n hx.1 hx.2.1 dJ7_copyOf_9075b_1 rfl (lv_at hl 0 rfl) ?_
  refine va_tlen hx.1 hx.2.1 hF hS.2.2 (v := nI m) rfl dJ7_copyOf_9075b_2 ?_
  refine lv_icmp_ne (tgt := 14) hx.1 hx.2.1 dJ7_copyOf_9075b_3 (by decide) (fun _ => ?_) (fun z => absurd ((nI_eq (by omega) (by omega)).mp z) (by omega))
  refine lv_iload_n hx.1 hx.2.1 dJ7_copyOf_9075b_14 rfl (lv_at hl 1 rfl) ?_
  refine B_newa hx hS (N' := q) rfl (by omega) ⟨Nat.le_refl _, by show 0 + q ≤ q; omega⟩ dJ7_copyOf_9075b_15 (fun a H1 hS => ?_)
  refine lv_astore_n (lv' := [(2, .ref a), (0, .ref v), (1, .int (nI q))]) hx.1 hx.2.1 dJ7_copyOf_9075b_17 rfl hl (by decide) rfl (fun ls hl => ?_)
  refine lv_aload_n hx.1 hx.2.1 dJ7_copyOf_9075b_18 rfl (lv_at hl 1 rfl) ?_
  refine lv_iconst (v := 0) hx.1 hx.2.1 dJ7_copyOf_9075b_19 (by decide) ?_
  refine lv_aload_n hx.1 hx.2.1 dJ7_copyOf_9075b_20 rfl (lv_at hl 0 rfl) ?_
  refine lv_iconst (v := 0) hx.1 hx.2.1 dJ7_copyOf_9075b_21 (by decide) ?_
  refine lv_aload_n hx.1 hx.2.1 dJ7_copyOf_9075b_22 rfl (lv_at hl 1 rfl) ?_
  refine va_tlen hx.1 hx.2.1 hF hS.2.2 (v := nI m) rfl dJ7_copyOf_9075b_23 ?_
  refine lv_iload_n hx.1 hx.2.1 dJ7_copyOf_9075b_24 rfl (lv_at hl 2 rfl) ?_
  refine va_mmin hx.1 hx.2.1 (by rw [hx.2.2.1]; exact hl.1.symm) hx.2.2.2.1 (hx.2.2.2.2.1 _ g1170) (hx.2.2.2.2.1 _ g482) (hx.2.2.2.2.1 _ g40) (hx.2.2.2.2.1 _ g483) (by show 1 ≤ 1; decide) (by show 4 + 13 ≤ 39; decide) (Nat.le_refl _) (by show 0 + q ≤ q; omega) dJ7_copyOf_9075b_25 ?_
  rw [show (if nI q < nI m then nI q else nI m) = nI m from if_neg (nI_nlt (by omega) (by omega))]
  refine vk_copyt hx.1 hx.2.1 (by rw [hx.2.2.1]; exact hl.1.symm) hx.2.2.2.1 (hx.2.2.2.2.1 _ g1171) (hx.2.2.2.2.1 _ g486) (hx.2.2.2.2.1 _ g485) (hx.2.2.2.2.1 _ g41) hx.2.2.2.2.2.2.2.1 hS.1 hS.2.1 hS.2.2 hF 0 0 rfl rfl (by decide) (by decide) (nI_pos (by omega)) (by rw [nI_clamp (by omega)]; show 0 + m ≤ m; omega) (by rw [nI_clamp (by omega)]; show 0 + m ≤ q; omega) (fun i _ => hf _) (by show 1 ≤ 1; decide) (by show 0 + (nativeFrameWords "java/lang/System" "arraycopy" 5 + 11) ≤ 39; decide +kernel) dJ7_copyOf_9075b_28 (fun H1 locs1 a1 a2 a3 => ?_)
  rw [nI_clamp (by omega), sb_cl0] at a1 a2
  refine lv_aload_n hx.1 hx.2.1 dJ7_copyOf_9075b_31 rfl (lv_at hl 0 rfl) ?_
  exact B_retA hx (ws := [(a, .inl (cB, q, .inl (va_cpy f (fun _ => 0) 0 0 m)))]) ⟨a1, a2, a3⟩ ⟨a, rfl, rfl⟩ (.array .byte) rfl (Or.inr ⟨_, rfl⟩) ⟨Nat.le_refl _, by show 0 + q ≤ q; omega⟩ dJ7_copyOf_9075b_32 rfl
theorem bc_ensure (cB : ClassId) {b v n m q : Nat} {ml : Int32} {f : Nat → Int32} (h : m ≤ 300 ∧ q ≤ 300 ∧ 0 < m) (hf : sb_Fit f) : Bc yJ5_ensureCapacityInternal_d00df cJ5_ensureCapacityInternal_d00df 3 none 3 1 700 FNo [.ref b, .int (nI q)] cB (wSB cB b v ml n m f) (fun r w1 => r = none ∧ ((q ≤ m ∧ w1 = wSB cB b v ml n m f) ∨ (m < q ∧ ∃ a, w1 = wSB cB b a ml n (capz q m) (va_cpy f (fun _ => 0) 0 0 m)))) := by
  refine Bc.of (own := RJ5) (by decide +kernel) rfl (Nat.le_of_ble_eq_true rfl) (fun p l e s mt args below meth c D ls hx hS hF hl => ?_)
  have hl : lv_has ls 3 [(0, .ref b), (1, .int (nI q))] := hl
  refine lv_aload_n hx.1 hx.2.1 dJ5_ensureCapacityInternal_d00df_0 rfl (lv_at hl 0 rfl) ?_
  refine B_get hx hS 0 0 rfl (by decide) ⟨rfl, rfl, rfl⟩ g1119 rfl dJ5_ensureCapacityInternal_d00df_1 ?_
  refine B_alen hx hS 1 rfl (v := nI m) rfl dJ5_ensureCapacityInternal_d00df_4 ?_
  refine lv_aload_n hx.1 hx.2.1 dJ5_ensureCapacityInternal_d00df_5 rfl (lv_at hl 0 rfl) ?_
  refine B_get hx hS 0 1 rfl (by decide) ⟨rfl, rfl, rfl⟩ g1120 rfl dJ5_ensureCapacityInternal_d00df_6 ?_
  refine lv_ishr hx.1 hx.2.1 dJ5_ensureCapacityInternal_d00df_9 ?_
  rw [sb_shr0]
  refine lv_istore_n (lv' := [(2, .int (nI m)), (0, .ref b), (1, .int (nI q))]) hx.1 hx.2.1 dJ5_ensureCapacityInternal_d00df_10 rfl hl (by decide) rfl (fun ls hl => ?_)
  refine lv_iload_n hx.1 hx.2.1 dJ5_ensureCapacityInternal_d00df_11 rfl (lv_at hl 2 rfl) ?_
  refine lv_iload_n hx.1 hx.2.1 dJ5_ensureCapacityInternal_d00df_12 rfl (lv_at hl 0 rfl) ?_
  refine lv_isub hx.1 hx.2.1 dJ5_ensureCapacityInternal_d00df_13 ?_
  have e1 : (nI q - nI m).toInt = (q : Int) - m := pk_sub_toInt (by omega) (by omega)
  refine lv_if_le (tgt := 38) hx.1 hx.2.1 dJ5_ensureCapacityInternal_d00df_14 (by decide) (fun z => ?_) (fun z => ?_)
  · have hq : q ≤ m := by rw [Int32.le_iff_toInt_le, e1, Int32.toInt_zero] at z; omega
    exact B_retV hx hS ⟨rfl, Or.inl ⟨hq, rfl⟩⟩ ⟨Nat.zero_le _, Nat.zero_le _⟩ dJ5_ensureCapacityInternal_d00df_38 rfl rfl
  have hq : m < q := by rw [Int32.le_iff_toInt_le, e1, Int32.toInt_zero] at z; omega
  have hc := capz_le ⟨h.1, h.2.1, h.2.2, hq⟩
  refine lv_aload_n hx.1 hx.2.1 dJ5_ensureCapacityInternal_d00df_17 rfl (lv_at hl 1 rfl) ?_
  refine lv_aload_n hx.1 hx.2.1 dJ5_ensureCapacityInternal_d00df_18 rfl (lv_at hl 1 rfl) ?_
  refine B_get hx hS 0 0 rfl (by decide) ⟨rfl, rfl, rfl⟩ g1119 rfl dJ5_ensureCapacityInternal_d00df_19 ?_
  refine lv_aload_n hx.1 hx.2.1 dJ5_ensureCapacityInternal_d00df_22 rfl (lv_at hl 1 rfl) ?_
  refine lv_iload_n hx.1 hx.2.1 dJ5_ensureCapacityInternal_d00df_23 rfl (lv_at hl 2 rfl) ?_
  refine B_callV (n := 1) hx (wr := []) (bc_newCap cB (b := b) (v := v) (n := n) (m := m) (q := q) (ml := ml) (f := f) ⟨h.1, h.2.1, h.2.2, hq⟩) FNo_ok hS trivial (B_recv hx hS 0 rfl) (B_sel hx (by decide +kernel) (by decide +kernel) gx1331) g1150 g42 g1147 g1149 ⟨⟨by decide +kernel, by decide +kernel⟩, by decide +kernel⟩ dJ5_ensureCapacityInternal_d00df_24 [.ref v, .ref b] rfl rfl (Nat.le_of_ble_eq_true rfl) ⟨by decide, by decide⟩ ⟨by decide, by decide⟩ hl.1 (fun r w1 H1 locs1 hp hS => ?_)
  obtain ⟨rfl, rfl⟩ := hp
  refine lv_aload_n hx.1 hx.2.1 dJ5_ensureCapacityInternal_d00df_27 rfl (lv_at hl 1 rfl) ?_
  refine B_get hx hS 0 1 rfl (by decide) ⟨rfl, rfl, rfl⟩ g1120 rfl dJ5_ensureCapacityInternal_d00df_28 ?_
  refine lv_ishl hx.1 hx.2.1 dJ5_ensureCapacityInternal_d00df_31 ?_
  rw [sb_shl0]
  have hS : Sx D (va_A (wSB cB b v ml n m f) s.heap.size) s.heap (wSB cB b v ml n m f ++ []) H1 locs1 := by rw [List.append_nil]; exact hS
  have hv : v < H1.size := (hS.1 1 _ rfl).lt
  refine B_callS (n := 2) hx (bc_copyOf cB (v := v) (m := m) (q := capz q m) (f := f) ⟨hc.2.1, by omega⟩ hf) FT_ok hS (B_T hx hS 1 rfl (fun z => z.elim (fun z => by obtain ⟨k, e9, hk⟩ := z; simp at hk) (fun z => by omega))) g1162 g45 g1160 g1161 ⟨⟨by decide +kernel, by decide +kernel⟩, by decide +kernel⟩ dJ5_ensureCapacityInternal_d00df_32 [.ref b] rfl rfl (Nat.le_of_ble_eq_true rfl) ⟨by decide, by decide⟩ ⟨by decide, by show 0 + 0 + capz q m ≤ 700; omega⟩ hl.1 (fun r w1 H2 locs2 hp hS => ?_)
  obtain ⟨a, rfl, rfl⟩ := hp
  refine B_put hx hS (v := .ref a) (ty := .array .byte) 0 0 rfl (by decide) ⟨rfl, rfl, rfl⟩ g1119 rfl (by decide +kernel) rfl rfl (by show 0 < 4; decide) dJ5_ensureCapacityInternal_d00df_35 rfl (fun H3 locs3 hS => ?_)
  have hS : Sx D (va_A (wSB cB b v ml n m f) s.heap.size) s.heap (wSB cB b a ml n (capz q m) (va_cpy f (fun _ => 0) 0 0 m)) H3 locs3 := ⟨hS.1.sub [0, 2] rfl, hS.2.1.sub [0, 2] rfl rfl, hS.2.2⟩
  exact B_retV hx hS ⟨rfl, Or.inr ⟨hq, a, rfl⟩⟩ ⟨Nat.le_refl _, by show 0 + 0 + capz q m ≤ 700; omega⟩ dJ5_ensureCapacityInternal_d00df_38 rfl rfl
