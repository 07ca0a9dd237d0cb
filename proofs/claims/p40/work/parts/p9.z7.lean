/-! ===== the law's text: the roofs ===== -/
theorem rem_z {v : Int} (h : 0 ≤ v ∧ v ≤ 1000) {n : Int} (hn : n = 3 ∨ n = 9 ∨ n = 10) : oI v - oI v / oI n * oI n = oI (v % n) := by
  have e := irm_eq (a := v) (b := n) (by unfold rg; omega) (by unfold rg; omega)
  rw [Int.tmod_eq_emod_of_nonneg h.1] at e
  exact e
theorem chc_z : ∀ k : Nat, k < 128 → ((nI k).toUInt32 % 65536).toInt32 = nI k := by decide +kernel
theorem xB_fit : ∀ i : Nat, 34 ≤ i → i < 39 → ∀ j, j < (xB i).length → fits .byte (.int ((xB i).getD j 0)) = true := by
  intro i h1 h2
  rcases (show i = 34 ∨ i = 35 ∨ i = 36 ∨ i = 37 ∨ i = 38 by omega) with rfl | rfl | rfl | rfl | rfl <;> decide +kernel
theorem xB_len9 : (xB 34).length = 5 ∧ (xB 35).length = 4 ∧ (xB 36).length = 5 ∧ (xB 37).length = 6 ∧ (xB 38).length = 7 := by decide +kernel
theorem dgI_le (k : Nat) : (dgI k).length ≤ 2 := by rw [dgI_len]; unfold szI; split <;> decide
/-- what holds all through the law's body -/
def MzC (p : Program) (l : Launch) (R : Room) (s : State) (m : MethodId) (args : Array Value) (meth : Method) (c : Code) (D : va_G) (aT : Nat → ClassId) (cB : ClassId) (ad adV : Nat → Nat) (A : Nat → Prop) (sc L : Nat) (xs : Nat → Int32) (d1 d2 : Nat) : Prop :=
  LxC p l s m args meth c RL cL_law 9 D aT [(cB, .byte)] ad adV A ∧ PVs s ∧ FSc sc L xs A s s.heap ∧ FD d1 d2 A s s.heap ∧ L ≤ 65536 ∧ 12 ≤ R.frames ∧ 440 ≤ R.locals
def Czi (L : Nat) (xs : Nat → Int32) (k : Nat) : Int := (clz L xs k).toInt
theorem Czi_o (L : Nat) (xs : Nat → Int32) (k : Nat) : clz L xs k = oI (Czi L xs k) := (oI_of _).symm
/-- n roofs have been drawn -/
def PAz (w0 z : aI) (d : Dt) (n : Nat) : Prop := (∀ a, ¬ (301 ≤ a ∧ a ≤ 304) → z a = w0 a) ∧ ∀ x : Int, 0 ≤ x → x < n → z 301 x = tb d x ∧ z 302 x = te d x ∧ z 303 x = tf d x ∧ z 304 x = tp d x
theorem PAz.next {w0 z : aI} {d : Dt} {n : Nat} (h : PAz w0 z d n) : PAz w0 (iset (iset (iset (iset z 301 (n : Int) (tb d n)) 302 (n : Int) (te d n)) 303 (n : Int) (tf d n)) 304 (n : Int) (tp d n)) d (n + 1) := by
  refine ⟨fun a ha => by rw [is_ne (by omega), is_ne (by omega), is_ne (by omega), is_ne (by omega)]; exact h.1 a ha, fun x x0 x1 => ?_⟩
  rw [is_ne (by decide : ¬ 301 = 304), is_ne (by decide : ¬ 301 = 303), is_ne (by decide : ¬ 301 = 302), is_eq, is_ne (by decide : ¬ 302 = 304), is_ne (by decide : ¬ 302 = 303), is_eq, is_ne (by decide : ¬ 302 = 301), is_ne (by decide : ¬ 303 = 304), is_eq, is_ne (by decide : ¬ 303 = 302), is_ne (by decide : ¬ 303 = 301), is_eq, is_ne (by decide : ¬ 304 = 303), is_ne (by decide : ¬ 304 = 302), is_ne (by decide : ¬ 304 = 301)]
  by_cases e : x = n
  · subst e
    exact ⟨rs_self _ _ _, rs_self _ _ _, rs_self _ _ _, rs_self _ _ _⟩
  · rw [rs_ne e, rs_ne e, rs_ne e, rs_ne e]
    exact h.2 x x0 (by omega)
section RF
variable {p : Program} {l : Launch} {e : Env} {R : Room} {s : State} {m : MethodId} {args : Array Value} {below : List Frame} {meth : Method} {c : Code} {Q : State → Prop}
variable {D : va_G} {aT : Nat → ClassId} {cB : ClassId} {ad adV : Nat → Nat} {A : Nat → Prop} {sc L : Nat} {xs : Nat → Int32} {d1 d2 : Nat}
theorem roofs_loop (hM : MzC p l R s m args meth c D aT cB ad adV A sc L xs d1 d2) {w0 : aI} (hw : w0 300 20 = tR (dzT (Czi L xs))) {b c0 s0 : Nat} {x3 : Value} (hcs : c0 + 70 ≤ R.cells ∧ s0 + 50000 ≤ R.slots)
    (kk : ∀ (z : aI) (X : va_W) (H1 : Heap) (locs1 : List Loc) (ls1 : Array Slot), PAz w0 z (dzT (Czi L xs)) (tR (dzT (Czi L xs))).toNat → BT cB b (oLz (txz (rfL (dzT (Czi L xs)) (tR (dzT (Czi L xs))).toNat))) X → Lx D ad aT 241 A s.heap (cm z) X H1 locs1 → lv_has ls1 9 [(5, .int (nI ((tR (dzT (Czi L xs))).toNat))), (4, .ref b), (3, x3), (2, .ref (ad 300)), (1, .ref (ad 0)), (0, .ref sc)] → W p l e R s m args below meth c H1 locs1 (c0 + 55) (s0 + 38500) Q (F0 m 256 ls1 [])) :
    ∀ n r, r + n = (tR (dzT (Czi L xs))).toNat → ∀ (z : aI) (X : va_W) (H : Heap) (locs : List Loc) (ls : Array Slot), PAz w0 z (dzT (Czi L xs)) r → BT cB b (oLz (txz (rfL (dzT (Czi L xs)) r))) X → Lx D ad aT 241 A s.heap (cm z) X H locs → lv_has ls 9 [(5, .int (nI r)), (4, .ref b), (3, x3), (2, .ref (ad 300)), (1, .ref (ad 0)), (0, .ref sc)] → W p l e R s m args below meth c H locs (c0 + 11 * r) (s0 + 7700 * r) Q (F0 m 86 ls []) := by
  have hd := dzT_ok (Czi L xs)
  generalize hdd : dzT (Czi L xs) = d at hd hw kk ⊢
  obtain ⟨hx, hV, hSc, hFD, hLk, hR1, hR2⟩ := hM
  have h5 := hd.1
  intro n
  induction n with
  | zero =>
    intro r hr z X H locs ls hz hT hL hl
    have e0 : r = (tR d).toNat := by omega
    subst e0
    have eR : cm z 300 20 = nI (tR d).toNat := by
      show oI (z 300 20) = _
      rw [hz.1 300 (by decide), hw, ← oI_n, Int.toNat_of_nonneg (by omega)]
    refine lv_iload hx.1 hx.2.1 dL_law_86 (lv_at hl 0 rfl) ?_
    refine lv_aload_n hx.1 hx.2.1 dL_law_88 rfl (lv_at hl 3 rfl) ?_
    refine L_getI hx hL (a := 300) 20 fc10 (by decide +kernel) (xst_la (Nat.le_refl _) ⟨by decide, by decide⟩) rfl ⟨rfl, rfl, rfl⟩ g565 dL_law_89 ?_
    rw [eR]
    refine lv_icmp_ge (tgt := 256) hx.1 hx.2.1 dL_law_92 (by decide) (fun _ => ?_) (fun y => absurd (nI_le (Nat.le_refl _) (by omega)) y)
    exact W.widen (k := c0 + 55) (n := s0 + 38500) (by omega) (by omega) (kk z X H locs ls hz hT hL hl)
  | succ n ih =>
    intro r hr z X H locs ls hz hT hL hl
    have hr9 : r < (tR d).toNat := by omega
    obtain ⟨k1, k2, k3, k4⟩ := hd.2.1 (r : Int) (by omega) (by omega)
    have ebr : tb d r = 1 + bv (Czi L xs (1 + r)) 0 3 := by rw [← hdd]; show 1 + bv (Czi L xs (1 + (r : Int).toNat)) 0 3 = _; rw [Int.toNat_natCast]
    have eea : te d r = bv (Czi L xs (1 + r)) 3 4 % 10 := by rw [← hdd]; show bv (Czi L xs (1 + (r : Int).toNat)) 3 4 % 10 = _; rw [Int.toNat_natCast]
    have efe : tf d r = bv (Czi L xs (1 + r)) 7 2 := by rw [← hdd]; show bv (Czi L xs (1 + (r : Int).toNat)) 7 2 = _; rw [Int.toNat_natCast]
    have epu : tp d r = bv (Czi L xs (1 + r)) 9 5 := by rw [← hdd]; show bv (Czi L xs (1 + (r : Int).toNat)) 9 5 = _; rw [Int.toNat_natCast]
    obtain ⟨br, hbr⟩ : ∃ k : Nat, tb d r = k := ⟨(tb d r).toNat, (Int.toNat_of_nonneg (by omega)).symm⟩
    obtain ⟨ea, hea⟩ : ∃ k : Nat, te d r = k := ⟨(te d r).toNat, (Int.toNat_of_nonneg (by omega)).symm⟩
    obtain ⟨fe, hfe⟩ : ∃ k : Nat, tf d r = k := ⟨(tf d r).toNat, (Int.toNat_of_nonneg (by omega)).symm⟩
    obtain ⟨pu, hpu⟩ : ∃ k : Nat, tp d r = k := ⟨(tp d r).toNat, (Int.toNat_of_nonneg (by omega)).symm⟩
    have hlen0 : (oLz (txz (rfL d r))).length ≤ 64 := by
      have h1 := tz_len (rfL d r)
      rw [rfL_len] at h1
      rw [oLz_len]
      omega
    obtain ⟨t0, ht0⟩ : ∃ t, t = oLz (txz (rfL d r)) := ⟨_, rfl⟩
    rw [← ht0] at hT hlen0
    have eR : cm z 300 20 = nI (tR d).toNat := by
      show oI (z 300 20) = _
      rw [hz.1 300 (by decide), hw, ← oI_n, Int.toNat_of_nonneg (by omega)]
    refine lv_iload hx.1 hx.2.1 dL_law_86 (lv_at hl 0 rfl) ?_
    refine lv_aload_n hx.1 hx.2.1 dL_law_88 rfl (lv_at hl 3 rfl) ?_
    refine L_getI hx hL (a := 300) 20 fc10 (by decide +kernel) (xst_la (Nat.le_refl _) ⟨by decide, by decide⟩) rfl ⟨rfl, rfl, rfl⟩ g565 dL_law_89 ?_
    rw [eR]
    refine lv_icmp_ge (tgt := 256) hx.1 hx.2.1 dL_law_92 (by decide) (fun y => absurd y (nI_ge hr9 (by omega))) (fun _ => ?_)
    refine lv_aload_n hx.1 hx.2.1 dL_law_95 rfl (lv_at hl 5 rfl) ?_
    refine lv_iconst (v := 1) hx.1 hx.2.1 dL_law_96 (by decide) ?_
    refine lv_iload hx.1 hx.2.1 dL_law_97 (lv_at hl 0 rfl) ?_
    refine lv_iadd hx.1 hx.2.1 dL_law_99 ?_
    rw [show (1 : Int32) + nI r = nI (1 + r) from nI_add 1 r]
    refine L_cell hx hV hSc (k := 1 + r) ⟨hLk, by omega⟩ ⟨by omega, by omega⟩ ⟨by omega, by omega⟩ dL_law_100 [] (Nat.le_of_ble_eq_true rfl) hl.1 hL (fun H locs hL => ?_)
    rw [Czi_o]
    refine lv_istore (lv' := [(6, .int (oI (Czi L xs (1 + r)))), (5, .int (nI r)), (4, .ref b), (3, x3), (2, .ref (ad 300)), (1, .ref (ad 0)), (0, .ref sc)]) hx.1 hx.2.1 dL_law_103 hl (by decide) rfl (fun ls hl => ?_)
    refine lv_aload_n hx.1 hx.2.1 dL_law_105 rfl (lv_at hl 4 rfl) ?_
    refine L_getR hx hL (a := 300) (b := 301) 0 fc10 (by decide +kernel) (xst_la (Nat.le_refl _) ⟨by decide, by decide⟩) (by decide +kernel) rfl ⟨rfl, rfl, rfl⟩ g545 dL_law_106 ?_
    refine lv_iload hx.1 hx.2.1 dL_law_109 (lv_at hl 1 rfl) ?_
    refine lv_iconst (v := oI 1) hx.1 hx.2.1 dL_law_111 rfl ?_
    refine lv_iload hx.1 hx.2.1 dL_law_112 (lv_at hl 0 rfl) ?_
    refine lv_iconst (v := oI 0) hx.1 hx.2.1 dL_law_114 rfl ?_
    refine lv_iconst (v := oI 3) hx.1 hx.2.1 dL_law_115 rfl ?_
    refine L_bits hx (x := Czi L xs (1 + r)) (f := 0) (k := 3) (by decide) ⟨by omega, by omega⟩ ⟨by omega, by omega⟩ dL_law_116 [.int (oI 1), .int (nI r), .ref (ad 301)] (Nat.le_of_ble_eq_true rfl) hl.1 hL (fun H locs hL => ?_)
    refine lv_iadd hx.1 hx.2.1 dL_law_119 ?_
    rw [oI_add, ← ebr]
    refine L_iast hx hL (a := 301) (i := r) (x := tb d r) rfl (xst_la (Nat.le_refl _) ⟨by decide, by decide⟩) (by decide) (by decide +kernel) (by show r < 5; omega) (by decide +kernel) dL_law_120 (fun H locs hL => ?_)
    refine lv_aload_n hx.1 hx.2.1 dL_law_121 rfl (lv_at hl 4 rfl) ?_
    refine L_getR hx hL (a := 300) (b := 302) 1 fc10 (by decide +kernel) (xst_la (Nat.le_refl _) ⟨by decide, by decide⟩) (by decide +kernel) rfl ⟨rfl, rfl, rfl⟩ g546 dL_law_122 ?_
    refine lv_iload hx.1 hx.2.1 dL_law_125 (lv_at hl 1 rfl) ?_
    refine lv_iload hx.1 hx.2.1 dL_law_127 (lv_at hl 0 rfl) ?_
    refine lv_iconst (v := oI 3) hx.1 hx.2.1 dL_law_129 rfl ?_
    refine lv_iconst (v := oI 4) hx.1 hx.2.1 dL_law_130 rfl ?_
    refine L_bits hx (x := Czi L xs (1 + r)) (f := 3) (k := 4) (by decide) ⟨by omega, by omega⟩ ⟨by omega, by omega⟩ dL_law_131 [.int (nI r), .ref (ad 302)] (Nat.le_of_ble_eq_true rfl) hl.1 hL (fun H locs hL => ?_)
    refine lv_bipush (v := oI 10) hx.1 hx.2.1 dL_law_134 (by decide) ?_
    refine lv_irem hx.1 hx.2.1 dL_law_136 (by decide) ?_
    rw [rem_z (by have := bv_4 (Czi L xs (1 + r)) 3; omega) (Or.inr (Or.inr rfl)), ← eea]
    refine L_iast hx hL (a := 302) (i := r) (x := te d r) rfl (xst_la (Nat.le_refl _) ⟨by decide, by decide⟩) (by decide) (by decide +kernel) (by show r < 5; omega) (by decide +kernel) dL_law_137 (fun H locs hL => ?_)
    refine lv_aload_n hx.1 hx.2.1 dL_law_138 rfl (lv_at hl 4 rfl) ?_
    refine L_getR hx hL (a := 300) (b := 303) 2 fc10 (by decide +kernel) (xst_la (Nat.le_refl _) ⟨by decide, by decide⟩) (by decide +kernel) rfl ⟨rfl, rfl, rfl⟩ g547 dL_law_139 ?_
    refine lv_iload hx.1 hx.2.1 dL_law_142 (lv_at hl 1 rfl) ?_
    refine lv_iload hx.1 hx.2.1 dL_law_144 (lv_at hl 0 rfl) ?_
    refine lv_bipush (v := oI 7) hx.1 hx.2.1 dL_law_146 (by decide) ?_
    refine lv_iconst (v := oI 2) hx.1 hx.2.1 dL_law_148 rfl ?_
    refine L_bits hx (x := Czi L xs (1 + r)) (f := 7) (k := 2) (by decide) ⟨by omega, by omega⟩ ⟨by omega, by omega⟩ dL_law_149 [.int (nI r), .ref (ad 303)] (Nat.le_of_ble_eq_true rfl) hl.1 hL (fun H locs hL => ?_)
    rw [← efe]
    refine L_iast hx hL (a := 303) (i := r) (x := tf d r) rfl (xst_la (Nat.le_refl _) ⟨by decide, by decide⟩) (by decide) (by decide +kernel) (by show r < 5; omega) (by decide +kernel) dL_law_152 (fun H locs hL => ?_)
    refine lv_aload_n hx.1 hx.2.1 dL_law_153 rfl (lv_at hl 4 rfl) ?_
    refine L_getR hx hL (a := 300) (b := 304) 3 fc10 (by decide +kernel) (xst_la (Nat.le_refl _) ⟨by decide, by decide⟩) (by decide +kernel) rfl ⟨rfl, rfl, rfl⟩ g548 dL_law_154 ?_
    refine lv_iload hx.1 hx.2.1 dL_law_157 (lv_at hl 1 rfl) ?_
    refine lv_iload hx.1 hx.2.1 dL_law_159 (lv_at hl 0 rfl) ?_
    refine lv_bipush (v := oI 9) hx.1 hx.2.1 dL_law_161 (by decide) ?_
    refine lv_iconst (v := oI 5) hx.1 hx.2.1 dL_law_163 rfl ?_
    refine L_bits hx (x := Czi L xs (1 + r)) (f := 9) (k := 5) (by decide) ⟨by omega, by omega⟩ ⟨by omega, by omega⟩ dL_law_164 [.int (nI r), .ref (ad 304)] (Nat.le_of_ble_eq_true rfl) hl.1 hL (fun H locs hL => ?_)
    rw [← epu]
    refine L_iast hx hL (a := 304) (i := r) (x := tp d r) rfl (xst_la (Nat.le_refl _) ⟨by decide, by decide⟩) (by decide) (by decide +kernel) (by show r < 5; omega) (by decide +kernel) dL_law_167 (fun H locs hL => ?_)
    have hz4 := hz.next
    obtain ⟨z4, hzz⟩ : ∃ z4, z4 = iset (iset (iset (iset z 301 (r : Int) (tb d r)) 302 (r : Int) (te d r)) 303 (r : Int) (tf d r)) 304 (r : Int) (tp d r) := ⟨_, rfl⟩
    rw [← hzz] at hL hz4
    obtain ⟨v1, v2, v3, v4⟩ := hz4.2 (r : Int) (by omega) (by omega)
    refine lv_aload hx.1 hx.2.1 dL_law_168 (lv_at hl 2 rfl) ?_
    refine L_ldcS hx (tx := "roof ") 34 (by decide +kernel) dL_law_170 ?_
    refine L_apS hx hV hT 34 (by decide +kernel) (by rw [xB_len9.1]; omega) (xB_fit 34 (by decide) (by decide)) ⟨by omega, by omega⟩ ⟨by omega, by omega⟩ dL_law_172 [] (Nat.le_of_ble_eq_true rfl) hl.1 hL (fun X H locs hT hL => ?_)
    obtain ⟨t1, ht1⟩ : ∃ t, t = t0 ++ xB 34 := ⟨_, rfl⟩
    rw [← ht1] at hT
    have hlen1 : t1.length ≤ 69 := by rw [ht1, List.length_append, xB_len9.1]; omega
    refine lv_bipush (v := nI 97) hx.1 hx.2.1 dL_law_175 (by decide) ?_
    refine lv_iload hx.1 hx.2.1 dL_law_177 (lv_at hl 1 rfl) ?_
    refine lv_iadd hx.1 hx.2.1 dL_law_179 ?_
    rw [nI_add]
    refine lv_i2c hx.1 hx.2.1 dL_law_180 (chc_z (97 + r) (by omega)) ?_
    refine L_apC hx hV hT (k := 97 + r) (by omega) (by omega) ⟨by omega, by omega⟩ ⟨by omega, by omega⟩ dL_law_181 [] (Nat.le_of_ble_eq_true rfl) hl.1 hL (fun X H locs hT hL => ?_)
    obtain ⟨t2, ht2⟩ : ∃ t, t = t1 ++ [nI (97 + r)] := ⟨_, rfl⟩
    rw [← ht2] at hT
    have hlen2 : t2.length ≤ 70 := by rw [ht2, List.length_append]; show t1.length + 1 ≤ _; omega
    refine lv_bipush (v := nI 32) hx.1 hx.2.1 dL_law_184 (by decide) ?_
    refine L_apC hx hV hT (k := 32) (by omega) (by omega) ⟨by omega, by omega⟩ ⟨by omega, by omega⟩ dL_law_186 [] (Nat.le_of_ble_eq_true rfl) hl.1 hL (fun X H locs hT hL => ?_)
    obtain ⟨t3, ht3⟩ : ∃ t, t = t2 ++ [nI 32] := ⟨_, rfl⟩
    rw [← ht3] at hT
    have hlen3 : t3.length ≤ 71 := by rw [ht3, List.length_append]; show t2.length + 1 ≤ _; omega
    refine lv_aload_n hx.1 hx.2.1 dL_law_189 rfl (lv_at hl 4 rfl) ?_
    refine L_getR hx hL (a := 300) (b := 301) 0 fc10 (by decide +kernel) (xst_la (Nat.le_refl _) ⟨by decide, by decide⟩) (by decide +kernel) rfl ⟨rfl, rfl, rfl⟩ g545 dL_law_190 ?_
    refine lv_iload hx.1 hx.2.1 dL_law_193 (lv_at hl 1 rfl) ?_
    refine L_iald hx hL (a := 301) (i := r) rfl (xst_la (Nat.le_refl _) ⟨by decide, by decide⟩) (by decide +kernel) (by show r < 5; omega) (by decide +kernel) dL_law_195 ?_
    have ev : cm z4 301 r = nI br := by show oI (z4 301 (r : Int)) = _; rw [v1, hbr, oI_n]
    rw [ev]
    refine L_apI hx hV hT (k := br) hFD (by omega) (by omega) ⟨by omega, by omega⟩ ⟨by omega, by omega⟩ dL_law_196 [] (Nat.le_of_ble_eq_true rfl) hl.1 hL (fun X H locs hT hL => ?_)
    obtain ⟨t4, ht4⟩ : ∃ t, t = t3 ++ dgI br := ⟨_, rfl⟩
    rw [← ht4] at hT
    have hlen4 : t4.length ≤ 73 := by rw [ht4, List.length_append]; have := dgI_le br; omega
    refine lv_bipush (v := nI 32) hx.1 hx.2.1 dL_law_199 (by decide) ?_
    refine L_apC hx hV hT (k := 32) (by omega) (by omega) ⟨by omega, by omega⟩ ⟨by omega, by omega⟩ dL_law_201 [] (Nat.le_of_ble_eq_true rfl) hl.1 hL (fun X H locs hT hL => ?_)
    obtain ⟨t5, ht5⟩ : ∃ t, t = t4 ++ [nI 32] := ⟨_, rfl⟩
    rw [← ht5] at hT
    have hlen5 : t5.length ≤ 74 := by rw [ht5, List.length_append]; show t4.length + 1 ≤ _; omega
    refine lv_aload_n hx.1 hx.2.1 dL_law_204 rfl (lv_at hl 4 rfl) ?_
    refine L_getR hx hL (a := 300) (b := 302) 1 fc10 (by decide +kernel) (xst_la (Nat.le_refl _) ⟨by decide, by decide⟩) (by decide +kernel) rfl ⟨rfl, rfl, rfl⟩ g546 dL_law_205 ?_
    refine lv_iload hx.1 hx.2.1 dL_law_208 (lv_at hl 1 rfl) ?_
    refine L_iald hx hL (a := 302) (i := r) rfl (xst_la (Nat.le_refl _) ⟨by decide, by decide⟩) (by decide +kernel) (by show r < 5; omega) (by decide +kernel) dL_law_210 ?_
    have ev : cm z4 302 r = nI ea := by show oI (z4 302 (r : Int)) = _; rw [v2, hea, oI_n]
    rw [ev]
    refine L_apI hx hV hT (k := ea) hFD (by omega) (by omega) ⟨by omega, by omega⟩ ⟨by omega, by omega⟩ dL_law_211 [] (Nat.le_of_ble_eq_true rfl) hl.1 hL (fun X H locs hT hL => ?_)
    obtain ⟨t6, ht6⟩ : ∃ t, t = t5 ++ dgI ea := ⟨_, rfl⟩
    rw [← ht6] at hT
    have hlen6 : t6.length ≤ 76 := by rw [ht6, List.length_append]; have := dgI_le ea; omega
    refine lv_bipush (v := nI 32) hx.1 hx.2.1 dL_law_214 (by decide) ?_
    refine L_apC hx hV hT (k := 32) (by omega) (by omega) ⟨by omega, by omega⟩ ⟨by omega, by omega⟩ dL_law_216 [] (Nat.le_of_ble_eq_true rfl) hl.1 hL (fun X H locs hT hL => ?_)
    obtain ⟨t7, ht7⟩ : ∃ t, t = t6 ++ [nI 32] := ⟨_, rfl⟩
    rw [← ht7] at hT
    have hlen7 : t7.length ≤ 77 := by rw [ht7, List.length_append]; show t6.length + 1 ≤ _; omega
    refine lv_aload_n hx.1 hx.2.1 dL_law_219 rfl (lv_at hl 4 rfl) ?_
    refine L_getR hx hL (a := 300) (b := 303) 2 fc10 (by decide +kernel) (xst_la (Nat.le_refl _) ⟨by decide, by decide⟩) (by decide +kernel) rfl ⟨rfl, rfl, rfl⟩ g547 dL_law_220 ?_
    refine lv_iload hx.1 hx.2.1 dL_law_223 (lv_at hl 1 rfl) ?_
    refine L_iald hx hL (a := 303) (i := r) rfl (xst_la (Nat.le_refl _) ⟨by decide, by decide⟩) (by decide +kernel) (by show r < 5; omega) (by decide +kernel) dL_law_225 ?_
    have ev : cm z4 303 r = nI fe := by show oI (z4 303 (r : Int)) = _; rw [v3, hfe, oI_n]
    rw [ev]
    refine L_apI hx hV hT (k := fe) hFD (by omega) (by omega) ⟨by omega, by omega⟩ ⟨by omega, by omega⟩ dL_law_226 [] (Nat.le_of_ble_eq_true rfl) hl.1 hL (fun X H locs hT hL => ?_)
    obtain ⟨t8, ht8⟩ : ∃ t, t = t7 ++ dgI fe := ⟨_, rfl⟩
    rw [← ht8] at hT
    have hlen8 : t8.length ≤ 79 := by rw [ht8, List.length_append]; have := dgI_le fe; omega
    refine lv_bipush (v := nI 32) hx.1 hx.2.1 dL_law_229 (by decide) ?_
    refine L_apC hx hV hT (k := 32) (by omega) (by omega) ⟨by omega, by omega⟩ ⟨by omega, by omega⟩ dL_law_231 [] (Nat.le_of_ble_eq_true rfl) hl.1 hL (fun X H locs hT hL => ?_)
    obtain ⟨t9, ht9⟩ : ∃ t, t = t8 ++ [nI 32] := ⟨_, rfl⟩
    rw [← ht9] at hT
    have hlen9 : t9.length ≤ 80 := by rw [ht9, List.length_append]; show t8.length + 1 ≤ _; omega
    refine lv_aload_n hx.1 hx.2.1 dL_law_234 rfl (lv_at hl 4 rfl) ?_
    refine L_getR hx hL (a := 300) (b := 304) 3 fc10 (by decide +kernel) (xst_la (Nat.le_refl _) ⟨by decide, by decide⟩) (by decide +kernel) rfl ⟨rfl, rfl, rfl⟩ g548 dL_law_235 ?_
    refine lv_iload hx.1 hx.2.1 dL_law_238 (lv_at hl 1 rfl) ?_
    refine L_iald hx hL (a := 304) (i := r) rfl (xst_la (Nat.le_refl _) ⟨by decide, by decide⟩) (by decide +kernel) (by show r < 5; omega) (by decide +kernel) dL_law_240 ?_
    have ev : cm z4 304 r = nI pu := by show oI (z4 304 (r : Int)) = _; rw [v4, hpu, oI_n]
    rw [ev]
    refine L_apI hx hV hT (k := pu) hFD (by omega) (by omega) ⟨by omega, by omega⟩ ⟨by omega, by omega⟩ dL_law_241 [] (Nat.le_of_ble_eq_true rfl) hl.1 hL (fun X H locs hT hL => ?_)
    obtain ⟨t10, ht10⟩ : ∃ t, t = t9 ++ dgI pu := ⟨_, rfl⟩
    rw [← ht10] at hT
    have hlen10 : t10.length ≤ 82 := by rw [ht10, List.length_append]; have := dgI_le pu; omega
    refine lv_bipush (v := nI 59) hx.1 hx.2.1 dL_law_244 (by decide) ?_
    refine L_apC hx hV hT (k := 59) (by omega) (by omega) ⟨by omega, by omega⟩ ⟨by omega, by omega⟩ dL_law_246 [] (Nat.le_of_ble_eq_true rfl) hl.1 hL (fun X H locs hT hL => ?_)
    obtain ⟨t11, ht11⟩ : ∃ t, t = t10 ++ [nI 59] := ⟨_, rfl⟩
    rw [← ht11] at hT
    have hlen11 : t11.length ≤ 83 := by rw [ht11, List.length_append]; show t10.length + 1 ≤ _; omega
    refine lv_pop hx.1 hx.2.1 dL_law_249 rfl ?_
    refine lv_iinc (k := 1) (lv' := [(5, .int (nI (r + 1))), (6, .int (oI (Czi L xs (1 + r)))), (4, .ref b), (3, x3), (2, .ref (ad 300)), (1, .ref (ad 0)), (0, .ref sc)]) hx.1 hx.2.1 dL_law_250 hl rfl (nI_1 r) (by decide) rfl (fun ls hl => ?_)
    refine lv_goto (tgt := 86) hx.1 hx.2.1 dL_law_253 (by decide) ?_
    have eT : t11 = oLz (txz (rfL d (r + 1))) := by
      have e1 : rfL d (r + 1) = rfL d r ++ [(0, (r : Int), tb d r, te d r, tf d r, tp d r)] := rfl
      have e2 : txz [((0 : Int), (r : Int), tb d r, te d r, tf d r, tp d r)] = bRf (r : Int) (tb d r) (te d r) (tf d r) (tp d r) := List.append_nil _
      rw [e1, txz_app, e2, oLz_app, hbr, hea, hfe, hpu, oLz_rf (x := r) (br := br) (ea := ea) (fe := fe) (pu := pu) (by omega), ht11, ht10, ht9, ht8, ht7, ht6, ht5, ht4, ht3, ht2, ht1, ht0]
      simp only [List.append_assoc]
    rw [eT] at hT
    refine W.widen (k := c0 + 11 * (r + 1)) (n := s0 + 7700 * (r + 1)) (by omega) (by omega) ?_
    exact ih (r + 1) (by omega) z4 X H locs ls hz4 hT hL (lv_sub hl [0, 2, 3, 4, 5, 6] rfl)
end RF
