/-! ===== cell: the script's int, or one of its own ===== -/
def FSc (sc L : Nat) (xs : Nat → Int32) : aF := fun A U H => va_X sc L xs U H ∧ sc < H.size ∧ ¬ A sc
theorem FSc_ok {sc L : Nat} {xs : Nat → Int32} : FOK (FSc sc L xs) := fun _ _ _ _ h k => ⟨va_X.moved h.alike k.1, k.2⟩
def clz (L : Nat) (xs : Nat → Int32) (k : Nat) : Int32 := if k < L then xs k else nI (113 * k + 67)
theorem bc_cell (cB : ClassId) {sc L k : Nat} {xs : Nat → Int32} (h : L ≤ 65536 ∧ k ≤ 65536) : Bc yL_cell cL_cell 2 (some .int) 1 0 0 (FSc sc L xs) [.ref sc, .int (nI k)] cB [] (fun r w1 => r = some (.int (clz L xs k)) ∧ w1 = []) := by
  refine Bc.of (own := RL) (by decide +kernel) rfl (Nat.le_of_ble_eq_true rfl) (fun p l e s mt args below meth c D ls hx hS hF hl => ?_)
  have hl : lv_has ls 2 [(0, .ref sc), (1, .int (nI k))] := hl
  obtain ⟨hX, hb1, hb2⟩ := hF
  refine lv_iload_n hx.1 hx.2.1 dL_cell_0 rfl (lv_at hl 1 rfl) ?_
  refine lv_aload_n hx.1 hx.2.1 dL_cell_1 rfl (lv_at hl 0 rfl) ?_
  refine va_slen hx.1 hx.2.1 hX hb1 hb2 hS.2.2 dL_cell_2 ?_
  by_cases c9 : k < L
  · have e9 : clz L xs k = xs k := if_pos c9
    refine lv_icmp_ge (tgt := 12) hx.1 hx.2.1 dL_cell_3 (by decide) (fun z => absurd z (nI_ge c9 (by omega))) (fun _ => ?_)
    refine lv_aload_n hx.1 hx.2.1 dL_cell_6 rfl (lv_at hl 0 rfl) ?_
    refine lv_iload_n hx.1 hx.2.1 dL_cell_7 rfl (lv_at hl 1 rfl) ?_
    refine va_sld hx.1 hx.2.1 hX hb1 hb2 hS.2.2 (vp_in_nI c9 (by omega)) dL_cell_8 ?_
    rw [nI_clamp (by omega)]
    refine lv_goto (tgt := 19) hx.1 hx.2.1 dL_cell_9 (by decide) ?_
    exact B_retI hx hS ⟨by rw [e9], rfl⟩ .int rfl rfl ⟨Nat.le_refl _, Nat.le_refl _⟩ dL_cell_19 rfl
  · have e9 : clz L xs k = nI (113 * k + 67) := if_neg c9
    refine lv_icmp_ge (tgt := 12) hx.1 hx.2.1 dL_cell_3 (by decide) (fun _ => ?_) (fun z => absurd (nI_le (Nat.le_of_not_lt c9) (by omega)) z)
    refine lv_bipush (v := nI 113) hx.1 hx.2.1 dL_cell_12 (by decide) ?_
    refine lv_iload_n hx.1 hx.2.1 dL_cell_14 rfl (lv_at hl 1 rfl) ?_
    refine lv_imul hx.1 hx.2.1 dL_cell_15 ?_
    rw [pk_mul]
    refine lv_bipush (v := nI 67) hx.1 hx.2.1 dL_cell_16 (by decide) ?_
    refine lv_iadd hx.1 hx.2.1 dL_cell_18 ?_
    rw [nI_add]
    exact B_retI hx hS ⟨by rw [e9], rfl⟩ .int rfl rfl ⟨Nat.le_refl _, Nat.le_refl _⟩ dL_cell_19 rfl
