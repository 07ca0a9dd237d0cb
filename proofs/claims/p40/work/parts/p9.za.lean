/-! ===== the law's body: the 36 acts ===== -/
theorem LxC.re {p : Program} {l : Launch} {s : State} {m : MethodId} {args : Array Value} {meth : Method} {c : Code} {own : String} {cc : ByteArray} {nL : Nat} {D : va_G} {aT : Nat → ClassId} {tys : List (ClassId × FieldType)} {ad ad2 adV : Nat → Nat} {A : Nat → Prop} (h : LxC p l s m args meth c own cc nL D aT tys ad adV A) (k : XE ad2 adV A s s.heap) : LxC p l s m args meth c own cc nL D aT tys ad2 adV A := by
  obtain ⟨q1, q2, q3, q4, q5, q6, q7, q8, q9, q10⟩ := h
  exact ⟨q1, q2, q3, q4, q5, q6, q7, q8, k, q10⟩
section AL
variable {p : Program} {l : Launch} {e : Env} {R : Room} {s : State} {m : MethodId} {args : Array Value} {below : List Frame} {meth : Method} {c : Code} {Q : State → Prop}
variable {D : va_G} {aT : Nat → ClassId} {cB : ClassId} {ad0 adV : Nat → Nat} {A : Nat → Prop} {sc L : Nat} {xs : Nat → Int32} {d1 d2 : Nat}
theorem acts_loop (hM : MzC p l R s m args meth c D aT cB ad0 adV A sc L xs d1 d2) {c0 s0 : Nat} (hcs : c0 + 118800 ≤ R.cells ∧ s0 + 712800 ≤ R.slots)
    (kk : ∀ (H1 : Heap) (locs1 : List Loc) (ls1 : Array Slot), va_S A s.heap H1 locs1 → W p l e R s m args below meth c H1 locs1 (c0 + 118800) (s0 + 712800) Q (F0 m 554 ls1 [])) :
    ∀ (n k : Nat), k + n = 36 → ∀ (ad : Nat → Nat) (N : Nat) (z : aI) (q : Row) (H : Heap) (locs : List Loc) (ls : Array Slot), XE ad adV A s s.heap → 241 ≤ N → StA z q k → Lx D ad aT N A s.heap (cm z) [] H locs → lv_has ls 9 [(6, .int (nI k)), (2, .ref (ad 300)), (1, .ref (ad 0)), (0, .ref sc)] → W p l e R s m args below meth c H locs (c0 + 3300 * k) (s0 + 19800 * k) Q (F0 m 504 ls []) := by
  obtain ⟨hx0, hV, hSc, hFD, hLk, hR1, hR2⟩ := hM
  intro n
  induction n with
  | zero =>
    intro k hk ad N z q H locs ls hXE hN hz hL hl
    obtain rfl : k = 36 := by omega
    have hx := hx0.re hXE
    refine lv_iload hx.1 hx.2.1 dL_law_504 (lv_at hl 0 rfl) ?_
    refine lv_bipush (v := nI 36) hx.1 hx.2.1 dL_law_506 (by decide) ?_
    refine lv_icmp_ge (tgt := 554) hx.1 hx.2.1 dL_law_508 (by decide) (fun _ => ?_) (fun y => absurd (nI_le (Nat.le_refl _) (by decide)) y)
    exact kk H locs ls hL.2.2
  | succ n ih =>
    intro k hk ad N z q H locs ls hXE hN hz hL hl
    have hx := hx0.re hXE
    refine lv_iload hx.1 hx.2.1 dL_law_504 (lv_at hl 0 rfl) ?_
    refine lv_bipush (v := nI 36) hx.1 hx.2.1 dL_law_506 (by decide) ?_
    refine lv_icmp_ge (tgt := 554) hx.1 hx.2.1 dL_law_508 (by decide) (fun y => absurd y (nI_ge (by omega) (by decide))) (fun _ => ?_)
    refine lv_aload_n hx.1 hx.2.1 dL_law_511 rfl (lv_at hl 1 rfl) ?_
    refine lv_aload_n hx.1 hx.2.1 dL_law_512 rfl (lv_at hl 2 rfl) ?_
    refine lv_aload_n hx.1 hx.2.1 dL_law_513 rfl (lv_at hl 3 rfl) ?_
    refine lv_bipush (v := nI 12) hx.1 hx.2.1 dL_law_514 (by decide) ?_
    refine lv_iload hx.1 hx.2.1 dL_law_516 (lv_at hl 0 rfl) ?_
    refine lv_iadd hx.1 hx.2.1 dL_law_518 ?_
    rw [nI_add]
    refine L_cell hx hV hSc (k := 12 + k) ⟨hLk, by omega⟩ ⟨by omega, by omega⟩ ⟨by omega, by omega⟩ dL_law_519 [.ref (ad 0), .ref (ad 300)] (Nat.le_of_ble_eq_true rfl) hl.1 hL (fun H locs hL => ?_)
    rw [Czi_o]
    obtain ⟨z1, q1, f1, hz1⟩ := l_acts (F := 20000) (Nat.le_refl _) hz.1 hz.2.1 hz.2.2 ⟨by omega, by omega⟩ (Czi L xs (12 + k))
    refine L_callG hx (b := 300) [.ref 0, .int (oI (Czi L xs (12 + k)))] [] (ev_L_acts 20000 300 (by decide +kernel) 0 (by decide +kernel) (Czi L xs (12 + k)) z) vm_L_acts fc10 (by decide +kernel) (xst_la hN ⟨by decide, by decide⟩) g682 dL_law_522 rfl rfl (Nat.le_of_ble_eq_true rfl) ⟨by omega, by omega⟩ ⟨by omega, by omega⟩ hl.1 hL f1 (fun v hv ad2 N2 H1 locs1 hg hL => ?_)
    cases hv
    have e300 : ad2 300 = ad 300 := hg.2.1 300 (xst_la hN ⟨by decide, by decide⟩)
    have e000 : ad2 0 = ad 0 := hg.2.1 0 (Or.inl (by decide))
    have hXE2 := hXE.agr hg
    have hx := hx0.re hXE2
    have hN2 : 241 ≤ N2 := Nat.le_trans hN hg.1.1
    rw [← e300, ← e000] at hl
    refine lv_if_ne (tgt := 530) hx.1 hx.2.1 dL_law_525 (by decide) (fun _ => ?_) (fun y => absurd y (show ¬ oI (bI true) = 0 by decide))
    have hrec : ∀ (z2 : aI) (H : Heap) (locs : List Loc), StA z2 q1 ((k : Int) + 1) → Lx D ad2 aT N2 A s.heap (cm z2) [] H locs → W p l e R s m args below meth c H locs (c0 + 3300 * (k + 1)) (s0 + 19800 * (k + 1)) Q (F0 m 548 ls []) := by
      intro z2 H locs hz2 hL
      refine lv_iinc (k := 0) (lv' := [(6, .int (nI (k + 1))), (2, .ref (ad2 300)), (1, .ref (ad2 0)), (0, .ref sc)]) hx.1 hx.2.1 dL_law_548 hl rfl (nI_1 k) (by decide) rfl (fun ls hl => ?_)
      refine lv_goto (tgt := 504) hx.1 hx.2.1 dL_law_551 (by decide) ?_
      exact ih (k + 1) (by omega) ad2 N2 z2 q1 H locs _ hXE2 hN2 (by rw [show ((k + 1 : Nat) : Int) = (k : Int) + 1 by push_cast; rfl]; exact hz2) hL hl
    refine lv_iload hx.1 hx.2.1 dL_law_530 (lv_at hl 0 rfl) ?_
    refine lv_iconst (v := nI 4) hx.1 hx.2.1 dL_law_532 (by decide) ?_
    refine lv_irem hx.1 hx.2.1 dL_law_533 (by decide) ?_
    rw [pk_rem (d := 4) (by omega) (by decide) (by decide)]
    refine lv_iconst (v := nI 3) hx.1 hx.2.1 dL_law_534 (by decide) ?_
    refine lv_icmp_ne (tgt := 548) hx.1 hx.2.1 dL_law_535 (by decide) (fun _ => ?_) (fun _ => ?_)
    · refine W.widen (k := c0 + 3300 * (k + 1)) (n := s0 + 19800 * (k + 1)) (by omega) (by omega) ?_
      exact hrec z1 H1 locs1 hz1 hL
    refine lv_aload_n hx.1 hx.2.1 dL_law_538 rfl (lv_at hl 1 rfl) ?_
    refine lv_aload_n hx.1 hx.2.1 dL_law_539 rfl (lv_at hl 2 rfl) ?_
    obtain ⟨z2, f2, g1, g2⟩ := l_isLike (F := 20000) (Nat.le_refl _) hz1.1 hz1.2.1 hz1.2.2 (by omega)
    refine L_callV hx (b := 300) [.ref 0] [] (ev_L_isLike 20000 300 (by decide +kernel) 0 (by decide +kernel) z1) vm_L_isLike fc10 (by decide +kernel) (xst_la hN2 ⟨by decide, by decide⟩) g1000 dL_law_540 rfl rfl (Nat.le_of_ble_eq_true rfl) ⟨by omega, by omega⟩ ⟨by omega, by omega⟩ hl.1 hL f2 (fun v hv H2 locs2 hL => ?_) (fun E hE => absurd hE (by intro h; cases h))
    cases hv
    refine lv_if_ne (tgt := 548) hx.1 hx.2.1 dL_law_543 (by decide) (fun _ => ?_) (fun y => absurd y (show ¬ oI (bI true) = 0 by decide))
    refine W.widen (k := c0 + 3300 * (k + 1)) (n := s0 + 19800 * (k + 1)) (by omega) (by omega) ?_
    exact hrec z2 H2 locs2 ⟨g1, g2, hz1.2.2⟩ hL
end AL
