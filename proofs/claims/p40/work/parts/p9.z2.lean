/-! ===== the law tells the class a text ===== -/
theorem oI_n (n : Nat) : oI (n : Int) = nI n := rfl
def chz (bs : List Int32) (j : Nat) : Nat := if j < bs.length then (bs.getD j 0).toNatClampNeg else 32
def Byz (bs : List Int32) : Prop := bs.length ≤ 300 ∧ ∀ j, j < bs.length → ∃ k : Nat, k < 128 ∧ bs.getD j 0 = nI k
theorem chz_lt {bs : List Int32} (h : Byz bs) (j : Nat) : chz bs j < 128 := by
  unfold chz
  by_cases c : j < bs.length
  · obtain ⟨k, h1, h2⟩ := h.2 j c
    rw [if_pos c, h2, nI_clamp (by omega)]
    exact h1
  · rw [if_neg c]
    decide
theorem chz_in {bs : List Int32} (h : Byz bs) {j : Nat} (c : j < bs.length) : bs.getD j 0 = nI (chz bs j) := by
  obtain ⟨k, h1, h2⟩ := h.2 j c
  unfold chz
  rw [if_pos c, h2, nI_clamp (by omega)]
theorem chz_out {bs : List Int32} {j : Nat} (c : ¬ j < bs.length) : chz bs j = 32 := if_neg c
def FTo (D : va_G) (aT : Nat → ClassId) (ad adV : Nat → Nat) (sq sd : Nat) (bs : List Int32) : aF := fun A U H => KA D aT U ∧ XE ad adV A U H ∧ FS sq sd bs A U H
theorem FTo_ok {D : va_G} {aT : Nat → ClassId} {ad adV : Nat → Nat} {sq sd : Nat} {bs : List Int32} : FOK (FTo D aT ad adV sq sd bs) := fun _ _ _ _ h k => ⟨KA.moved h.alike k.1, k.2.1.warm h, FS_ok _ _ _ _ h k.2.2⟩
section TO
variable {p : Program} {l : Launch} {e : Env} {R : Room} {s : State} {m : MethodId} {args : Array Value} {below : List Frame} {meth : Method} {c : Code} {cells slots : Nat} {Q : State → Prop}
variable {D : va_G} {ad adV : Nat → Nat} {aT : Nat → ClassId} {N : Nat} {A : Nat → Prop} {cB : ClassId} {sq sd : Nat} {bs : List Int32}

theorem to_in (hx : LxC p l s m args meth c RL cL_told 5 D aT [(cB, .byte)] ad adV A) (hV : PVs s) (hF : FS sq sd bs A s s.heap) (hX : FXq A s s.heap) (hb : Byz bs) (hR : 6 ≤ R.frames ∧ 300 ≤ R.locals) (hcs : cells ≤ R.cells ∧ slots ≤ R.slots) {w : aW} {k q : Nat} (hk : k ≤ 300)
    (kk : ∀ (H1 : Heap) (locs1 : List Loc) (ls1 : Array Slot), Lx D ad aT N A s.heap w [(q, .inl (aT 0, 5, .inl (fA (fun i => chz bs (k + i)) 20)))] H1 locs1 → lv_has ls1 5 [(4, .int (nI 20)), (3, .ref q), (2, .int (nI k)), (0, .ref (ad 0)), (1, .ref sq)] → W p l e R s m args below meth c H1 locs1 cells slots Q (F0 m 70 ls1 [])) :
    ∀ n i, i + n = 20 → ∀ (H : Heap) (locs : List Loc) (ls : Array Slot), Lx D ad aT N A s.heap w [(q, .inl (aT 0, 5, .inl (fA (fun i => chz bs (k + i)) i)))] H locs → lv_has ls 5 [(4, .int (nI i)), (3, .ref q), (2, .int (nI k)), (0, .ref (ad 0)), (1, .ref sq)] → W p l e R s m args below meth c H locs cells slots Q (F0 m 17 ls []) := by
  have hB := bx_of hx hV
  have hb1 := hb.1
  intro n
  induction n with
  | zero =>
    intro i hi H locs ls hL hl
    obtain rfl : i = 20 := by omega
    refine lv_iload hx.1 hx.2.1 dL_told_17 (lv_at hl 0 rfl) ?_
    refine lv_bipush (v := nI 20) hx.1 hx.2.1 dL_told_19 (by decide) ?_
    refine lv_icmp_ge (tgt := 70) hx.1 hx.2.1 dL_told_21 (by decide) (fun _ => ?_) (fun z => absurd (nI_le (Nat.le_refl _) (by decide)) z)
    exact kk H locs ls hL hl
  | succ n ih =>
    intro i hi H locs ls hL hl
    refine lv_iload hx.1 hx.2.1 dL_told_17 (lv_at hl 0 rfl) ?_
    refine lv_bipush (v := nI 20) hx.1 hx.2.1 dL_told_19 (by decide) ?_
    refine lv_icmp_ge (tgt := 70) hx.1 hx.2.1 dL_told_21 (by decide) (fun z => absurd z (nI_ge (by omega) (by decide))) (fun _ => ?_)
    refine lv_aload_n hx.1 hx.2.1 dL_told_24 rfl (lv_at hl 1 rfl) ?_
    refine lv_iload hx.1 hx.2.1 dL_told_25 (lv_at hl 0 rfl) ?_
    refine lv_iconst (v := 4) hx.1 hx.2.1 dL_told_27 (by decide) ?_
    refine lv_idiv hx.1 hx.2.1 dL_told_28 (by decide) ?_
    rw [show nI i / 4 = nI (i / 4) from pk_div (d := 4) (by omega) (by decide) (by decide)]
    refine lv_aload_n hx.1 hx.2.1 dL_told_29 rfl (lv_at hl 1 rfl) ?_
    refine lv_iload hx.1 hx.2.1 dL_told_30 (lv_at hl 0 rfl) ?_
    refine lv_iconst (v := 4) hx.1 hx.2.1 dL_told_32 (by decide) ?_
    refine lv_idiv hx.1 hx.2.1 dL_told_33 (by decide) ?_
    rw [show nI i / 4 = nI (i / 4) from pk_div (d := 4) (by omega) (by decide) (by decide)]
    refine L_xld hx hL 0 rfl rfl (by omega) (by decide) dL_told_34 ?_
    refine lv_bipush (v := 8) hx.1 hx.2.1 dL_told_35 (by decide) ?_
    refine lv_ishl hx.1 hx.2.1 dL_told_37 ?_
    refine lv_iload_n hx.1 hx.2.1 dL_told_38 rfl (lv_at hl 2 rfl) ?_
    refine lv_iload hx.1 hx.2.1 dL_told_39 (lv_at hl 0 rfl) ?_
    refine lv_iadd hx.1 hx.2.1 dL_told_41 ?_
    rw [nI_add]
    refine lv_aload_n hx.1 hx.2.1 dL_told_42 rfl (lv_at hl 4 rfl) ?_
    refine B_callV (n := 0) hB (bc_slength cB (sa := sq) (sd := sd) (bs := bs)) FS_ok hL.sx.nil (hF.at hL.sx.nil hx.2.2.2.2.2.2.2.2.2) (hF.rc hL.sx) (hx.2.2.2.2.1 _ g266) g267 g36 g657 g265 ⟨⟨by decide +kernel, by decide +kernel⟩, by decide +kernel⟩ dL_told_43 [.int (nI (k + i)), .int (fA (fun i => chz bs (k + i)) i (i / 4) <<< ((8 : Int32) &&& 31)), .int (nI (i / 4)), .ref q] rfl rfl (Nat.le_of_ble_eq_true rfl) ⟨by omega, by omega⟩ ⟨hcs.1, hcs.2⟩ hl.1 (fun r w1 H1 locs1 hp hS => ?_)
    obtain ⟨rfl, rfl⟩ := hp
    have hL := hL.of hS.nil'
    have join : ∀ (H : Heap) (locs : List Loc), Lx D ad aT N A s.heap w [(q, .inl (aT 0, 5, .inl (fA (fun i => chz bs (k + i)) i)))] H locs → W p l e R s m args below meth c H locs cells slots Q (F0 m 62 ls [.int (nI (chz bs (k + i))), .int (fA (fun i => chz bs (k + i)) i (i / 4) <<< ((8 : Int32) &&& 31)), .int (nI (i / 4)), .ref q]) := by
      intro H locs hL
      refine lv_ior hx.1 hx.2.1 dL_told_62 ?_
      refine L_xst hx hL 0 rfl rfl (by omega) (by decide) dL_told_63 (fun H2 locs2 hL => ?_)
      refine lv_iinc (k := 0) (lv' := [(4, .int (nI (i + 1))), (3, .ref q), (2, .int (nI k)), (0, .ref (ad 0)), (1, .ref sq)]) hx.1 hx.2.1 dL_told_64 hl rfl (nI_1 i) (by decide) rfl (fun ls hl => ?_)
      refine lv_goto (tgt := 17) hx.1 hx.2.1 dL_told_67 (by decide) ?_
      exact ih (i + 1) (by omega) H2 locs2 _ hL hl
    refine lv_icmp_ge (tgt := 60) hx.1 hx.2.1 dL_told_46 (by decide) (fun z => ?_) (fun z => ?_)
    · have c9 : ¬ k + i < bs.length := fun h => nI_ge h (by omega) z
      refine lv_bipush (v := nI (chz bs (k + i))) hx.1 hx.2.1 dL_told_60 (by rw [chz_out c9]; decide) ?_
      exact join _ _ hL
    · have c9 : k + i < bs.length := Nat.lt_of_not_le fun h => z (nI_le h (by omega))
      refine lv_aload_n hx.1 hx.2.1 dL_told_49 rfl (lv_at hl 4 rfl) ?_
      refine lv_iload_n hx.1 hx.2.1 dL_told_50 rfl (lv_at hl 2 rfl) ?_
      refine lv_iload hx.1 hx.2.1 dL_told_51 (lv_at hl 0 rfl) ?_
      refine lv_iadd hx.1 hx.2.1 dL_told_53 ?_
      rw [nI_add]
      refine B_callV (n := 1) hB (bc_schr cB (sa := sq) (sd := sd) (i := k + i) (bs := bs) ⟨c9, hb1⟩ hb.2) FSX_ok hL.sx.nil ⟨hF.at hL.sx.nil hx.2.2.2.2.2.2.2.2.2, hX.at hL.sx.nil hx.2.2.2.2.2.2.2.2.2⟩ (hF.rc hL.sx) (hx.2.2.2.2.1 _ g276) g277 g36 g658 g275 ⟨⟨by decide +kernel, by decide +kernel⟩, by decide +kernel⟩ dL_told_54 [.int (fA (fun i => chz bs (k + i)) i (i / 4) <<< ((8 : Int32) &&& 31)), .int (nI (i / 4)), .ref q] rfl rfl (Nat.le_of_ble_eq_true rfl) ⟨by omega, by omega⟩ ⟨hcs.1, hcs.2⟩ hl.1 (fun r w1 H2 locs2 hp hS => ?_)
      obtain ⟨rfl, rfl⟩ := hp
      have hL := hL.of hS.nil'
      rw [chz_in hb c9]
      refine lv_goto (tgt := 62) hx.1 hx.2.1 dL_told_57 (by decide) ?_
      exact join _ _ hL
/-- what the class has heard after t times twenty letters -/
def ToI (w0 z : aI) (bs : List Int32) (t : Nat) : Prop := z 1 1 = 20 * t ∧ (∀ k : Nat, k < 20 * t → z 2 k = chz bs k) ∧ (∀ a, ¬ a = 1 → ¬ a = 2 → z a = w0 a) ∧ ∀ k, ¬ k = 1 → z 1 k = w0 1 k
def ToE (w0 z : aI) (bs : List Int32) : Prop := z 1 1 = bs.length ∧ (∀ k : Nat, k < bs.length → z 2 k = chz bs k) ∧ (∀ a, ¬ a = 1 → ¬ a = 2 → z a = w0 a) ∧ ∀ k, ¬ k = 1 → z 1 k = w0 1 k
theorem to_out (hx : LxC p l s m args meth c RL cL_told 5 D aT [(cB, .byte)] ad adV A) (hV : PVs s) (hF : FS sq sd bs A s s.heap) (hX : FXq A s s.heap) (hb : Byz bs) (hR : 6 ≤ R.frames ∧ 300 ≤ R.locals) (hcs : 20 ≤ R.cells ∧ 100 ≤ R.slots) {w0 : aI} 
    (kk : ∀ (z : aI) (H1 : Heap) (locs1 : List Loc) (ls1 : Array Slot), ToE w0 z bs → Lx D ad aT N A s.heap (cm z) [] H1 locs1 → W p l e R s m args below meth c H1 locs1 20 100 Q (F0 m 105 ls1 [])) :
    ∀ n t, t + n = 16 → 20 * t ≤ bs.length + 19 → ∀ (z : aI) (H : Heap) (locs : List Loc) (ls : Array Slot), ToI w0 z bs t → Lx D ad aT N A s.heap (cm z) [] H locs → lv_has ls 5 [(2, .int (nI (20 * t))), (0, .ref (ad 0)), (1, .ref sq)] → W p l e R s m args below meth c H locs t (5 * t) Q (F0 m 2 ls []) := by
  have hB := bx_of hx hV
  have hb1 := hb.1
  intro n
  induction n with
  | zero =>
    intro t ht ht2
    omega
  | succ n ih =>
    intro t ht ht2 z H locs ls hz hL hl
    refine lv_iload_n hx.1 hx.2.1 dL_told_2 rfl (lv_at hl 0 rfl) ?_
    refine lv_aload_n hx.1 hx.2.1 dL_told_3 rfl (lv_at hl 2 rfl) ?_
    refine B_callV (n := 0) hB (bc_slength cB (sa := sq) (sd := sd) (bs := bs)) FS_ok hL.sx.nil (hF.at hL.sx.nil hx.2.2.2.2.2.2.2.2.2) (hF.rc hL.sx) (hx.2.2.2.2.1 _ g266) g267 g36 g657 g265 ⟨⟨by decide +kernel, by decide +kernel⟩, by decide +kernel⟩ dL_told_4 [.int (nI (20 * t))] rfl rfl (Nat.le_of_ble_eq_true rfl) ⟨by omega, by omega⟩ ⟨by show t + 0 ≤ _; omega, by show 5 * t + 0 ≤ _; omega⟩ hl.1 (fun r w1 H1 locs1 hp hS => ?_)
    obtain ⟨rfl, rfl⟩ := hp
    have hL := hL.of hS.nil'
    refine lv_icmp_ge (tgt := 96) hx.1 hx.2.1 dL_told_7 (by decide) (fun y => ?_) (fun y => ?_)
    · have c9 : bs.length ≤ 20 * t := Nat.le_of_not_lt fun h => nI_ge h (by omega) y
      refine lv_aload_n hx.1 hx.2.1 dL_told_96 rfl (lv_at hl 1 rfl) ?_
      refine lv_aload_n hx.1 hx.2.1 dL_told_97 rfl (lv_at hl 2 rfl) ?_
      refine B_callV (n := 0) hB (bc_slength cB (sa := sq) (sd := sd) (bs := bs)) FS_ok hL.sx.nil (hF.at hL.sx.nil hx.2.2.2.2.2.2.2.2.2) (hF.rc hL.sx) (hx.2.2.2.2.1 _ g266) g267 g36 g657 g265 ⟨⟨by decide +kernel, by decide +kernel⟩, by decide +kernel⟩ dL_told_98 [.ref (ad 0)] rfl rfl (Nat.le_of_ble_eq_true rfl) ⟨by omega, by omega⟩ ⟨by show t + 0 ≤ _; omega, by show 5 * t + 0 ≤ _; omega⟩ hl.1 (fun r w1 H2 locs2 hp hS => ?_)
      obtain ⟨rfl, rfl⟩ := hp
      have hL := hL.of hS.nil'
      have hf := k_trunc (F := 20000) (w := z) (p := (bs.length : Int)) ⟨by omega, by rw [hz.1]; omega⟩ (by rw [hz.1]; omega)
      refine L_callV hx (b := 0) [.int (oI (bs.length : Int))] [] (ev_X10_truncateInput 20000 0 (by decide +kernel) (bs.length : Int) z) vm_X10_truncateInput fc8 (by decide +kernel) (Or.inl (by decide)) g669 dL_told_101 rfl rfl (Nat.le_of_ble_eq_true rfl) ⟨by omega, by omega⟩ ⟨by show t + 0 + 0 + 0 ≤ _; omega, by show 5 * t + 0 + 0 + 6 * 0 ≤ _; omega⟩ hl.1 hL hf (fun v hv H3 locs3 hL => ?_) (fun E hE => absurd hE (by intro h; cases h))
      cases hv
      refine lv_pop hx.1 hx.2.1 dL_told_104 rfl ?_
      refine W.widen (k := 20) (n := 100) (by show t + 0 + 0 + 0 ≤ 20; omega) (by show 5 * t + 0 + 0 + 6 * 0 ≤ 100; omega) ?_
      refine kk (iset z 1 1 (bs.length : Int)) H3 locs3 ls ⟨by rw [is_eq, rs_self], fun k hk => ?_, fun a h1 h2 => ?_, fun k h1 => ?_⟩ hL
      · rw [is_ne (by decide)]; exact hz.2.1 k (by omega)
      · rw [is_ne h1]; exact hz.2.2.1 a h1 h2
      · rw [is_eq, rs_ne h1]; exact hz.2.2.2 k h1
    · have c9 : 20 * t < bs.length := Nat.lt_of_not_le fun h => y (nI_le h (by omega))
      refine lv_iconst (v := 5) hx.1 hx.2.1 dL_told_10 (by decide) ?_
      refine L_xnew hx hL (N' := 5) rfl (by decide) ⟨by show t + 0 + 1 ≤ _; omega, by show 5 * t + 0 + 5 ≤ _; omega⟩ dL_told_11 (fun q H2 hL => ?_)
      refine lv_astore_n (lv' := [(3, .ref q), (2, .int (nI (20 * t))), (0, .ref (ad 0)), (1, .ref sq)]) hx.1 hx.2.1 dL_told_13 rfl hl (by decide) rfl (fun ls hl => ?_)
      refine lv_iconst (v := 0) hx.1 hx.2.1 dL_told_14 (by decide) ?_
      refine lv_istore (lv' := [(4, .int (nI 0)), (3, .ref q), (2, .int (nI (20 * t))), (0, .ref (ad 0)), (1, .ref sq)]) hx.1 hx.2.1 dL_told_15 hl (by decide) rfl (fun ls hl => ?_)
      refine to_in hx hV hF hX hb hR ⟨by show t + 0 + 1 ≤ _; omega, by show 5 * t + 0 + 5 ≤ _; omega⟩ (k := 20 * t) (q := q) (by omega) (fun H3 locs3 ls hL hl => ?_) 20 0 rfl H2 locs1 ls hL hl
      refine lv_aload_n hx.1 hx.2.1 dL_told_70 rfl (lv_at hl 3 rfl) ?_
      refine lv_aload_n hx.1 hx.2.1 dL_told_71 rfl (lv_at hl 1 rfl) ?_
      refine lv_iconst (v := 0) hx.1 hx.2.1 dL_told_72 (by decide) ?_
      refine L_xld hx hL 0 rfl (i := 0) rfl (by decide) (by decide) dL_told_73 ?_
      refine lv_aload_n hx.1 hx.2.1 dL_told_74 rfl (lv_at hl 1 rfl) ?_
      refine lv_iconst (v := 1) hx.1 hx.2.1 dL_told_75 (by decide) ?_
      refine L_xld hx hL 0 rfl (i := 1) rfl (by decide) (by decide) dL_told_76 ?_
      refine lv_aload_n hx.1 hx.2.1 dL_told_77 rfl (lv_at hl 1 rfl) ?_
      refine lv_iconst (v := 2) hx.1 hx.2.1 dL_told_78 (by decide) ?_
      refine L_xld hx hL 0 rfl (i := 2) rfl (by decide) (by decide) dL_told_79 ?_
      refine lv_aload_n hx.1 hx.2.1 dL_told_80 rfl (lv_at hl 1 rfl) ?_
      refine lv_iconst (v := 3) hx.1 hx.2.1 dL_told_81 (by decide) ?_
      refine L_xld hx hL 0 rfl (i := 3) rfl (by decide) (by decide) dL_told_82 ?_
      refine lv_aload_n hx.1 hx.2.1 dL_told_83 rfl (lv_at hl 1 rfl) ?_
      refine lv_iconst (v := 4) hx.1 hx.2.1 dL_told_84 (by decide) ?_
      refine L_xld hx hL 0 rfl (i := 4) rfl (by decide) (by decide) dL_told_85 ?_
      have hc : ∀ i, (fun i => chz bs (20 * t + i)) i < 128 := fun i => chz_lt hb _
      have hw : ∀ j : Nat, j < 5 → fA (fun i => chz bs (20 * t + i)) 20 j = oI (W4 (fun i => ((chz bs (20 * t + i.toNat) : Nat) : Int)) (j : Int)) := by
        intro j hj
        rw [fA_4 hc j hj, ← oI_n]
        congr 1
      have hb9 : ∀ i : Int, 0 ≤ i → i < 20 → 0 ≤ ((chz bs (20 * t + i.toNat) : Nat) : Int) ∧ ((chz bs (20 * t + i.toNat) : Nat) : Int) ≤ 127 := fun i _ _ => by have := chz_lt hb (20 * t + i.toNat); omega
      obtain ⟨z2, f1, f2, f3, f4, f5⟩ := k_append (F := 20000) (by decide) (w := z) (c := fun i => ((chz bs (20 * t + i.toNat) : Nat) : Int)) hb9 (by rw [hz.1]; omega)
      have w0 := hw 0 (by decide)
      have w1 := hw 1 (by decide)
      have w2 := hw 2 (by decide)
      have w3 := hw 3 (by decide)
      have w4 := hw 4 (by decide)
      rw [w0, w1, w2, w3, w4]
      refine L_callV hx (b := 0) [.int (oI (W4 _ 0)), .int (oI (W4 _ 1)), .int (oI (W4 _ 2)), .int (oI (W4 _ 3)), .int (oI (W4 _ 4))] [] (ev_X10_appendInput 20000 0 (by decide +kernel) _ _ _ _ _ z) vm_X10_appendInput fc8 (by decide +kernel) (Or.inl (by decide)) g659 dL_told_86 rfl rfl (Nat.le_of_ble_eq_true rfl) ⟨by omega, by omega⟩ ⟨by show t + 0 + 1 + 0 ≤ _; omega, by show 5 * t + 0 + 5 + 6 * 0 ≤ _; omega⟩ hl.1 hL f1 (fun v hv H4 locs4 hL => ?_) (fun E hE => absurd hE (by intro h; cases h))
      cases hv
      refine lv_pop hx.1 hx.2.1 dL_told_89 rfl ?_
      refine lv_iinc (k := 2) (lv' := [(2, .int (nI (20 * (t + 1)))), (4, .int (nI 20)), (3, .ref q), (0, .ref (ad 0)), (1, .ref sq)]) hx.1 hx.2.1 dL_told_90 hl rfl (nI_add (20 * t) 20) (by decide) rfl (fun ls hl => ?_)
      refine lv_goto (tgt := 2) hx.1 hx.2.1 dL_told_93 (by decide) ?_
      refine W.widen (k := t + 1) (n := 5 * (t + 1)) (by show t + 0 + 1 + 0 ≤ _; omega) (by show 5 * t + 0 + 5 + 6 * 0 ≤ _; omega) ?_
      refine ih (t + 1) (by omega) (by omega) z2 H4 locs4 _ ⟨by rw [f2, hz.1]; omega, fun k hk => ?_, fun a h1 h2 => ?_, fun k h1 => ?_⟩ hL.nil (lv_sub hl [0, 3, 4] rfl)
      · rw [f3, hz.1]
        by_cases c8 : k < 20 * t
        · rw [if_neg (by omega)]; exact hz.2.1 k c8
        · rw [if_pos (by omega)]
          rw [show 20 * t + ((k : Int) - 20 * (t : Int)).toNat = k by omega]
      · rw [f4 a h1 h2]; exact hz.2.2.1 a h1 h2
      · rw [f5 k h1]; exact hz.2.2.2 k h1
end TO
theorem ct_told (l : Launch) (htr : l.stackTraces = false) (D : va_G) (aT : Nat → ClassId) (ad adV : Nat → Nat) (cB : ClassId) {N sq sd sz : Nat} {bs : List Int32} {w0 : aI} (hb : Byz bs) (hN : 210 ≤ N ∧ N ≤ 800) (hw : nW (cm w0) = N) (h0 : w0 1 1 = 0) :
    Met l yL_told (.code yL_told cL_told 5 none :: Gw) (ctR 9 20 100) (BcP (FTo D aT ad adV sq sd bs) D cB (conc ad aT N (cm w0)) [.ref (ad 0), .ref sq] sz) (BcQ D (conc ad aT N (cm w0)) sz (fun r w1 => r = none ∧ ∃ z, ToE w0 z bs ∧ w1 = conc ad aT N (cm z))) 20 100 (va_A (conc ad aT N (cm w0)) sz) := by
  refine Met.ofW (cc := cL_told) (maxL := 5) (ret := none) (by decide +kernel) rfl ?_
  intro p e s m args below meth c s₁ B hml hv
  obtain ⟨rfl, hsz, hP, hD, hK, hZ, hF, hV⟩ := hv
  subst hsz
  have hts := atoms_spec (ws := .code yL_told cL_told 5 none :: Gw) B.pre
  have hl := lv_entry [.ref (ad 0), .ref sq] (n := 5) (Nat.le_of_ble_eq_true rfl)
  rw [lg_entry_eq]
  generalize (lg_sl ([.ref (ad 0), .ref sq]) ++ List.replicate (5 - (lg_sl ([.ref (ad 0), .ref sq])).length) Slot.unset).toArray = ls at hl ⊢
  have hl : lv_has ls 5 [(0, .ref (ad 0)), (1, .ref sq)] := hl
  obtain ⟨hKA, hXE, hFS⟩ := hF
  have hx : LxC p l s m [Value.ref (ad 0), Value.ref sq].toArray meth c RL cL_told 5 D aT [(cB, .byte)] ad adV (va_A (conc ad aT N (cm w0)) s.heap.size) := ⟨B.exec, B.bytes, hml, findClass_of_methodNamed B.named, fun w hw => hts w (List.mem_cons_of_mem _ hw), B.notSynchronized, htr, ⟨va_K.cat hKA.1 hK, hKA.2⟩, hXE, fun q h => Or.inr h⟩
  have hL : Lx D ad aT N (va_A (conc ad aT N (cm w0)) s.heap.size) s.heap (cm w0) [] s.heap [] := ⟨⟨by rw [List.append_nil]; exact hP, hw, hN⟩, by rw [List.append_nil]; exact va_D.self hD, va_S.rf⟩
  refine lv_iconst (v := 0) hx.1 hx.2.1 dL_told_0 (by decide) ?_
  refine lv_istore_n (lv' := [(2, .int (nI (20 * 0))), (0, .ref (ad 0)), (1, .ref sq)]) hx.1 hx.2.1 dL_told_1 rfl hl (by decide) rfl (fun ls hl => ?_)
  refine to_out hx hV hFS hXE.2.2.2.2.2.2 hb ⟨by decide, by decide⟩ ⟨by decide, by decide⟩ (w0 := w0) (fun z H1 locs1 ls1 hz hL => ?_) 16 0 rfl (Nat.zero_le _) w0 s.heap [] ls ⟨by rw [h0]; rfl, fun k hk => by omega, fun _ _ _ => rfl, fun _ _ => rfl⟩ hL hl
  obtain ⟨⟨hP9, -⟩, hD9, hS9⟩ := hL
  rw [List.append_nil] at hP9 hD9
  exact W.vret hx.1 hx.2.1 B.returns (fun t ht hW => ⟨⟨none, conc ad aT N (cm z), rfl, ⟨rfl, z, hz, rfl⟩, by rw [ht]; exact hP9, hD9⟩, hS9.F ht⟩) hS9.2.2 dL_told_105 (hlocks := B.notSynchronized)
