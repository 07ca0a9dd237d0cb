/-! ===== String.charAt ===== -/
def FXq : aF := fun A U H => va_Zq "jdk/internal/util/Preconditions" "SIOOBE_FORMATTER" "Ljava/util/function/BiFunction;" A U H
theorem FXq_ok : FOK FXq := fun _ _ _ _ h k => va_Zq.moved h.alike k
def FTX (cB : ClassId) (v m : Nat) (f : Nat → Int32) : aF := fun A U H => FT cB v m f A U H ∧ FXq A U H
theorem FTX_ok {cB : ClassId} {v m : Nat} {f : Nat → Int32} : FOK (FTX cB v m f) := fun A U U' H h k => ⟨FT_ok (cB := cB) A U U' H h k.1, FXq_ok A U U' H h k.2⟩
def FSX (sa sd : Nat) (bs : List Int32) : aF := fun A U H => FS sa sd bs A U H ∧ FXq A U H
theorem FSX_ok {sa sd : Nat} {bs : List Int32} : FOK (FSX sa sd bs) := fun A U U' H h k => ⟨FS_ok A U U' H h k.1, FXq_ok A U U' H h k.2⟩
theorem FXq.at {D : va_G} {A : Nat → Prop} {s : State} {H : Heap} {wr wc : va_W} {locs : List Loc} (h : FXq A s s.heap) (hS : Sx D A s.heap (wr ++ wc) H locs) (hA : ∀ q, s.heap.size ≤ q → A q) : FXq (va_A wc H.size) s H := va_Zq.narrow (va_Zq.kept h hS.2.2.2.1) (Bsub hS hA)
theorem chr_z : ∀ k : Nat, k < 128 → ((nI k &&& 255).toUInt32 % 65536).toInt32 = nI k ∧ narrow .char (.int (nI k)) = .int (nI k) := by decide +kernel
theorem bc_pchk (cB : ClassId) {i n : Nat} {z : Value} (hz : z = .null ∨ ∃ t, z = .ref t) (h : i < n ∧ n ≤ 300) : Bc yJ3_checkIndex_8e157 cJ3_checkIndex_8e157 3 (some .int) 1 0 0 FNo [.int (nI i), .int (nI n), z] cB [] (fun r w1 => r = some (.int (nI i)) ∧ w1 = []) := by
  have hlg : (lg_sl [.int (nI i), .int (nI n), z]).length ≤ 3 := by rcases hz with rfl | ⟨t, rfl⟩ <;> exact Nat.le_of_ble_eq_true rfl
  refine Bc.of (own := RJ3) (by decide +kernel) rfl hlg (fun p l e s mt args below meth c D ls hx hS hF hl => ?_)
  have hl : lv_has ls 3 [(0, .int (nI i)), (1, .int (nI n)), (2, z)] := hl
  refine lv_iload_n hx.1 hx.2.1 dJ3_checkIndex_8e157_0 rfl (lv_at hl 0 rfl) ?_
  refine lv_if_lt (tgt := 9) hx.1 hx.2.1 dJ3_checkIndex_8e157_1 (by decide) (fun q => absurd q (nI_pos (by omega))) (fun _ => ?_)
  refine lv_iload_n hx.1 hx.2.1 dJ3_checkIndex_8e157_4 rfl (lv_at hl 0 rfl) ?_
  refine lv_iload_n hx.1 hx.2.1 dJ3_checkIndex_8e157_5 rfl (lv_at hl 1 rfl) ?_
  refine lv_icmp_lt (tgt := 16) hx.1 hx.2.1 dJ3_checkIndex_8e157_6 (by decide) (fun _ => ?_) (fun q => absurd (nI_lt h.1 (by omega)) q)
  refine lv_iload_n hx.1 hx.2.1 dJ3_checkIndex_8e157_16 rfl (lv_at hl 0 rfl) ?_
  exact B_retI hx hS ⟨rfl, rfl⟩ .int rfl rfl ⟨Nat.le_refl _, Nat.le_refl _⟩ dJ3_checkIndex_8e157_17 rfl
theorem bc_schk (cB : ClassId) {i n : Nat} (h : i < n ∧ n ≤ 300) : Bc yJ0_checkIndex_df160 cJ0_checkIndex_df160 2 none 2 0 0 FXq [.int (nI i), .int (nI n)] cB [] (fun r w1 => r = none ∧ w1 = []) := by
  refine Bc.of (own := RJ0) (by decide +kernel) rfl (Nat.le_of_ble_eq_true rfl) (fun p l e s mt args below meth c D ls hx hS hF hl => ?_)
  have hl : lv_has ls 2 [(0, .int (nI i)), (1, .int (nI n))] := hl
  have hF : va_Zq "jdk/internal/util/Preconditions" "SIOOBE_FORMATTER" "Ljava/util/function/BiFunction;" (va_A [] s.heap.size) s s.heap := hF
  refine lv_iload_n hx.1 hx.2.1 dJ0_checkIndex_df160_0 rfl (lv_at hl 0 rfl) ?_
  refine lv_iload_n hx.1 hx.2.1 dJ0_checkIndex_df160_1 rfl (lv_at hl 1 rfl) ?_
  have core : ∀ z : Value, (z = .null ∨ ∃ t, z = .ref t) → W p l e (ctR 2 0 0) s mt args below meth c s.heap [] 0 0 (MQ below (BcQ D [] s.heap.size (fun r w1 => r = none ∧ w1 = [])) args s 0 0 (va_A [] s.heap.size)) (F0 mt (0 + 1 + 1 + 3) ls [z, .int (nI n), .int (nI i)]) := by
    intro z hz
    refine B_callS (n := 3) hx (bc_pchk cB hz (i := i) (n := n) h) FNo_ok hS.nil trivial g292 g38 g290 g291 ⟨⟨by decide +kernel, by decide +kernel⟩, by decide +kernel⟩ dJ0_checkIndex_df160_5 [] rfl rfl (Nat.le_of_ble_eq_true rfl) ⟨by decide, by decide⟩ ⟨by decide, by decide⟩ hl.1 (fun r w1 H1 locs1 hp hS => ?_)
    obtain ⟨rfl, rfl⟩ := hp
    refine lv_pop hx.1 hx.2.1 dJ0_checkIndex_df160_8 rfl ?_
    exact B_retV hx hS.nil' ⟨rfl, rfl⟩ ⟨Nat.zero_le _, Nat.zero_le _⟩ dJ0_checkIndex_df160_9 rfl rfl
  rcases hF with hZ | ⟨t, hZ⟩
  · refine va_gets (ref := "jdk/internal/util/Preconditions") hx.1 hx.2.1 hZ hS.2.2 hx.2.2.2.1 (hx.2.2.2.2.1 _ g288) (fun _ h => h) dJ0_checkIndex_df160_2 ?_
    exact core .null (Or.inl rfl)
  · refine va_gets (ref := "jdk/internal/util/Preconditions") hx.1 hx.2.1 hZ hS.2.2 hx.2.2.2.1 (hx.2.2.2.2.1 _ g288) (fun _ h => h) dJ0_checkIndex_df160_2 ?_
    exact core (.ref t) (Or.inr ⟨t, rfl⟩)
theorem bc_lchr (cB : ClassId) {sd i : Nat} {bs : List Int32} (h : i < bs.length ∧ bs.length ≤ 300) (hb : ∀ j, j < bs.length → ∃ k : Nat, k < 128 ∧ bs.getD j 0 = nI k) : Bc yJ1_charAt_3b067 cJ1_charAt_3b067 2 (some .char) 3 0 0 (FTX cB sd bs.length (fun j => bs.getD j 0)) [.ref sd, .int (nI i)] cB [] (fun r w1 => r = some (.int (bs.getD i 0)) ∧ w1 = []) := by
  refine Bc.of (own := RJ1) (by decide +kernel) rfl (Nat.le_of_ble_eq_true rfl) (fun p l e s mt args below meth c D ls hx hS hF hl => ?_)
  have hl : lv_has ls 2 [(0, .ref sd), (1, .int (nI i))] := hl
  have hT : va_T .byte sd bs.length (fun j => .int (bs.getD j 0)) (va_A [] s.heap.size) s s.heap := hF.1
  obtain ⟨k, hk, ek⟩ := hb i h.1
  refine lv_iload_n hx.1 hx.2.1 dJ1_charAt_3b067_0 rfl (lv_at hl 1 rfl) ?_
  refine lv_aload_n hx.1 hx.2.1 dJ1_charAt_3b067_1 rfl (lv_at hl 0 rfl) ?_
  refine va_tlen hx.1 hx.2.1 hT hS.2.2 (v := nI bs.length) rfl dJ1_charAt_3b067_2 ?_
  refine B_callS (n := 2) hx (bc_schk cB (i := i) (n := bs.length) h) FXq_ok hS.nil (FXq.at hF.2 hS.nil hx.2.2.2.2.2.2.2.2.1) g287 g36 g285 g286 ⟨⟨by decide +kernel, by decide +kernel⟩, by decide +kernel⟩ dJ1_charAt_3b067_3 [] rfl rfl (Nat.le_of_ble_eq_true rfl) ⟨by decide, by decide⟩ ⟨by decide, by decide⟩ hl.1 (fun r w1 H1 locs1 hp hS => ?_)
  obtain ⟨rfl, rfl⟩ := hp
  have hS := hS.nil'
  refine lv_aload_n hx.1 hx.2.1 dJ1_charAt_3b067_6 rfl (lv_at hl 0 rfl) ?_
  refine lv_iload_n hx.1 hx.2.1 dJ1_charAt_3b067_7 rfl (lv_at hl 1 rfl) ?_
  refine va_tb (v := .int (nI k)) hx.1 hx.2.1 hT hS.2.2 (vp_in_nI h.1 (by omega)) (by rw [nI_clamp (by omega), ek]) dJ1_charAt_3b067_8 ?_
  refine lv_sipush (v := 255) hx.1 hx.2.1 dJ1_charAt_3b067_9 (by decide) ?_
  refine lv_iand hx.1 hx.2.1 dJ1_charAt_3b067_12 ?_
  refine lv_i2c hx.1 hx.2.1 dJ1_charAt_3b067_13 (chr_z k hk).1 ?_
  exact B_retI hx hS ⟨by rw [ek], rfl⟩ .char rfl (chr_z k hk).2 ⟨Nat.le_refl _, Nat.le_refl _⟩ dJ1_charAt_3b067_14 rfl
theorem bc_slat (cB : ClassId) {sa sd : Nat} {bs : List Int32} : Bc yJ0_isLatin1_aae02 cJ0_isLatin1_aae02 1 (some .boolean) 1 0 0 (FS sa sd bs) [.ref sa] cB [] (fun r w1 => r = some (.int 1) ∧ w1 = []) := by
  refine Bc.of (own := RJ0) (by decide +kernel) rfl (Nat.le_of_ble_eq_true rfl) (fun p l e s mt args below meth c D ls hx hS hF hl => ?_)
  have hl : lv_has ls 1 [(0, .ref sa)] := hl
  have hF : FS sa sd bs (va_A [] s.heap.size) s s.heap := hF
  refine B_cmp hx hS g272 dJ0_isLatin1_aae02_0 ?_
  refine lv_if_eq (tgt := 17) hx.1 hx.2.1 dJ0_isLatin1_aae02_3 (by decide) (fun z => absurd z (by decide)) (fun _ => ?_)
  refine lv_aload_n hx.1 hx.2.1 dJ0_isLatin1_aae02_6 rfl (lv_at hl 0 rfl) ?_
  refine vk_getf (ref := "java/lang/String") hx.1 hx.2.1 hF.2.1 hS.2.2 hx.2.2.2.1 (hx.2.2.2.2.1 _ g1312) (fun _ h => h) dJ0_isLatin1_aae02_7 ?_
  refine lv_if_ne (tgt := 17) hx.1 hx.2.1 dJ0_isLatin1_aae02_10 (by decide) (fun z => absurd rfl z) (fun _ => ?_)
  refine lv_iconst (v := 1) hx.1 hx.2.1 dJ0_isLatin1_aae02_13 (by decide) ?_
  refine lv_goto (tgt := 18) hx.1 hx.2.1 dJ0_isLatin1_aae02_14 (by decide) ?_
  exact B_retI hx hS ⟨rfl, rfl⟩ .boolean rfl rfl ⟨Nat.le_refl _, Nat.le_refl _⟩ dJ0_isLatin1_aae02_18 rfl
theorem bc_schr (cB : ClassId) {sa sd i : Nat} {bs : List Int32} (h : i < bs.length ∧ bs.length ≤ 300) (hb : ∀ j, j < bs.length → ∃ k : Nat, k < 128 ∧ bs.getD j 0 = nI k) : Bc yJ0_charAt_5068e cJ0_charAt_5068e 2 (some .char) 4 0 0 (FSX sa sd bs) [.ref sa, .int (nI i)] cB [] (fun r w1 => r = some (.int (bs.getD i 0)) ∧ w1 = []) := by
  refine Bc.of (own := RJ0) (by decide +kernel) rfl (Nat.le_of_ble_eq_true rfl) (fun p l e s mt args below meth c D ls hx hS hF hl => ?_)
  have hl : lv_has ls 2 [(0, .ref sa), (1, .int (nI i))] := hl
  have hF1 : FSX sa sd bs (va_A [] s.heap.size) s s.heap := hF
  have hF : FS sa sd bs (va_A [] s.heap.size) s s.heap := hF1.1
  obtain ⟨k, hk, ek⟩ := hb i h.1
  refine lv_aload_n hx.1 hx.2.1 dJ0_charAt_5068e_0 rfl (lv_at hl 0 rfl) ?_
  refine B_callV (n := 0) hx (bc_slat cB (sa := sa) (sd := sd) (bs := bs)) FS_ok hS.nil (hF.at hS.nil hx.2.2.2.2.2.2.2.2.1) (hF.rc hS) (hx.2.2.2.2.1 _ g280) g281 g36 g278 g279 ⟨⟨by decide +kernel, by decide +kernel⟩, by decide +kernel⟩ dJ0_charAt_5068e_1 [] rfl rfl (Nat.le_of_ble_eq_true rfl) ⟨by decide, by decide⟩ ⟨by decide, by decide⟩ hl.1 (fun r w1 H1 locs1 hp hS => ?_)
  obtain ⟨rfl, rfl⟩ := hp
  have hS := hS.nil'
  refine lv_if_eq (tgt := 16) hx.1 hx.2.1 dJ0_charAt_5068e_4 (by decide) (fun z => absurd z (by decide)) (fun _ => ?_)
  refine lv_aload_n hx.1 hx.2.1 dJ0_charAt_5068e_7 rfl (lv_at hl 0 rfl) ?_
  refine vk_getf (ref := "java/lang/String") hx.1 hx.2.1 hF.2.2.1 hS.2.2 hx.2.2.2.1 (hx.2.2.2.2.1 _ g1311) (fun _ h => h) dJ0_charAt_5068e_8 ?_
  refine lv_iload_n hx.1 hx.2.1 dJ0_charAt_5068e_11 rfl (lv_at hl 1 rfl) ?_
  refine B_callS (n := 2) hx (bc_lchr cB (sd := sd) (i := i) (bs := bs) h hb) FTX_ok hS.nil ⟨(hF.at hS.nil hx.2.2.2.2.2.2.2.2.1).2.2.2, FXq.at hF1.2 hS.nil hx.2.2.2.2.2.2.2.2.1⟩ g284 g37 g282 g283 ⟨⟨by decide +kernel, by decide +kernel⟩, by decide +kernel⟩ dJ0_charAt_5068e_12 [] rfl rfl (Nat.le_of_ble_eq_true rfl) ⟨by decide, by decide⟩ ⟨by decide, by decide⟩ hl.1 (fun r w1 H2 locs2 hp hS => ?_)
  obtain ⟨rfl, rfl⟩ := hp
  have hS := hS.nil'
  exact B_retI hx hS ⟨rfl, rfl⟩ .char rfl (by rw [ek]; exact (chr_z k hk).2) ⟨Nat.le_refl _, Nat.le_refl _⟩ dJ0_charAt_5068e_15 rfl
