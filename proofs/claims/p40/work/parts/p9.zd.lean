/-! ===== the law's entry: what the statement gives of Strings, statics and classes ===== -/
def F9 : List Cond := flatC (Jvm.Cond.and given_1 narrow_1)
def szP : List Nat := [231, 375, 384, 393, 404, 416, 430, 452, 496, 536, 577, 609, 642, 687, 728, 758, 782, 806, 832, 860]
def szW : List Nat := [259, 359, 404, 431, 433, 434, 739, 775, 816, 828, 832, 833, 880, 921, 1066, 1322, 1323, 1324, 1325, 1326]
def xSd (j : Nat) : String × Nat × String × Nat := xStr.getD j ("", 0, "", 0)
def njS (j : Nat) : Nat := (xSd j).2.2.2
def jxS (i : Nat) : Nat := xStr.findIdx (fun q => q.2.2.2 == i)
def tmS (j : Nat) : Term := Jvm.Term.string (xSd j).1 (xSd j).2.1
def tmV (j : Nat) : Term := Jvm.Term.field (tmS j) "java/lang/String" "value" "[B"
def strC (j : Nat) : List Cond := [Cond.exactly (tmS j) "java/lang/String", Cond.eq (.field (tmS j) "java/lang/String" "coder" "B") (.int 0), Cond.arrayOf (tmV j) .byte, Cond.eq (.length (tmV j)) (.int (Int32.ofNat (xB (njS j)).length))] ++ (List.range (xB (njS j)).length).map (fun k => Cond.eq (.elem (tmV j) (.int (Int32.ofNat k))) (.int ((xB (njS j)).getD k 0)))
set_option maxRecDepth 100000 in
theorem strC_at : ∀ j, j < 20 → (F9.drop (szP.getD j 0)).take (4 + (xB (njS j)).length) = strC j := by decide +kernel
theorem strC_in {j : Nat} (hj : j < 20) : ∀ w ∈ strC j, w ∈ F9 := by
  intro w hw
  rw [← strC_at j hj] at hw
  exact List.mem_of_mem_drop (List.mem_of_mem_take hw)
set_option maxRecDepth 100000 in
theorem strW_at : ∀ j, j < 20 → lw_tbl[szW.getD j 0]? = some (Cond.stringRef (xSd j).1 (xSd j).2.1 (xSd j).2.2.1) := by decide +kernel
theorem xStr_ix : ∀ q ∈ xStr, jxS q.2.2.2 < 20 ∧ xSd (jxS q.2.2.2) = q := by decide +kernel
theorem jxS_ok : ∀ i, i < 39 → hasS i = true → jxS i < 20 ∧ njS (jxS i) = i := by decide +kernel
theorem jxS_nj : ∀ j, j < 20 → jxS (njS j) = j ∧ njS j < 39 := by decide +kernel
theorem f9_in (i : Nat) {w : Cond} (h : F9[i]? = some w) : w ∈ F9 := List.mem_of_getElem? h
theorem lw_at (i : Nat) {w : Cond} (h : lw_tbl[i]? = some w) : w ∈ lw_tbl := List.mem_of_getElem? h
theorem xB_len8 : ∀ j, j < 20 → (xB (njS j)).length ≤ 1000 := by decide +kernel
/-- the Strings' places -/
theorem str_places {args : Array Value} {s : State} {A : Nat → Prop} (hf : ∀ w ∈ F9, w.before args s = true) (hA : ∀ a : Nat, a < s.heap.size → ¬ A a) : ∃ ad : Nat → Nat, XS ad (fun _ => 0) A s s.heap ∧ ∀ j, j < 20 → (tmS j).eval args s none [] s = some (.ref (ad (sx (njS j)))) := by
  have hl : ∀ j, j < 20 → (xB (njS j)).length < 2 ^ 31 := fun j hj => by have := xB_len8 j hj; omega
  have h0 : ∀ j : Nat, ∃ q : Nat × Nat, j < 20 → (tmS j).eval args s none [] s = some (.ref q.1) ∧ va_O "java/lang/String" q.1 A s s.heap ∧ va_OF "java/lang/String" "coder" "B" (.int 0) q.1 A s s.heap ∧ va_OF "java/lang/String" "value" "[B" (.ref q.2) q.1 A s s.heap ∧ va_T .byte q.2 (xB (njS j)).length (fun k => .int ((xB (njS j)).getD k 0)) A s s.heap := by
    intro i
    by_cases hi : i < 20
    · have hm : ∀ w ∈ strC i, w.before args s = true := fun w hw => hf w (strC_in hi w hw)
      have hex := hm (Cond.exactly (tmS i) "java/lang/String") (List.mem_append_left _ (List.mem_of_getElem? (i := 0) rfl))
      have hco := hm (Cond.eq (.field (tmS i) "java/lang/String" "coder" "B") (.int 0)) (List.mem_append_left _ (List.mem_of_getElem? (i := 1) rfl))
      have har := hm (Cond.arrayOf (tmV i) .byte) (List.mem_append_left _ (List.mem_of_getElem? (i := 2) rfl))
      have hle := hm (Cond.eq (.length (tmV i)) (.int (Int32.ofNat (xB (njS i)).length))) (List.mem_append_left _ (List.mem_of_getElem? (i := 3) rfl))
      have hel : ∀ j : Nat, j < (xB (njS i)).length → (Cond.eq (.elem (tmV i) (.int (Int32.ofNat j))) (.int ((xB (njS i)).getD j 0))).before args s = true := fun j hj => hm _ (List.mem_append_right _ (List.mem_map.mpr ⟨j, List.mem_range.mpr hj, rfl⟩))
      obtain ⟨a, c, cA, kA, q1, q2, q3, q4, q5, q6, -⟩ := Cond.exactly_spec (args := args) (first := s) (o := none) (s := s) (idx := []) (t := tmS i) (cls := "java/lang/String") hex
      obtain ⟨t, ht, hT⟩ := va_Tof (f := fun j => .int ((xB (njS i)).getD j 0)) (A := A) (hl i hi) har (va_eqt hle) (fun j hj => va_eqt (hel j hj)) hA
      exact ⟨(a, t), fun _ => ⟨q1, ⟨cA, q3, q5, by rw [q6]; exact q2, hA a (Array.getElem?_eq_some_iff.mp q3).1⟩, vk_OFof q1 (va_eqt hco) hA, vk_OFof q1 ht hA, hT⟩⟩
    · exact ⟨(0, 0), fun h => absurd h hi⟩
  obtain ⟨g, hg⟩ := Classical.axiomOfChoice h0
  refine ⟨fun a => if a < 3000 then (g (jxS (a - 2000))).1 else (g (jxS (a - 3000))).2, fun i hi => ?_, fun j hj => ?_⟩
  · have h9 := hasS_lt hi
    obtain ⟨j1, j2⟩ := jxS_ok i h9 hi
    have e1 : (if sx i < 3000 then (g (jxS (sx i - 2000))).1 else (g (jxS (sx i - 3000))).2) = (g (jxS i)).1 := by
      rw [if_pos (by show 2000 + i < 3000; omega), show sx i - 2000 = i by show 2000 + i - 2000 = i; omega]
    have e2 : (if sv i < 3000 then (g (jxS (sv i - 2000))).1 else (g (jxS (sv i - 3000))).2) = (g (jxS i)).2 := by
      rw [if_neg (by show ¬ 3000 + i < 3000; omega), show sv i - 3000 = i by show 3000 + i - 3000 = i; omega]
    dsimp only
    rw [e1, e2]
    have h8 := (hg (jxS i) j1).2
    rw [j2] at h8
    exact h8
  · obtain ⟨j1, j2⟩ := jxS_nj j hj
    dsimp only
    rw [if_pos (by show 2000 + njS j < 3000; omega), show sx (njS j) - 2000 = njS j by show 2000 + njS j - 2000 = njS j; omega, j1]
    exact (hg j hj).1
theorem XE_start {args : Array Value} {s : State} {A : Nat → Prop} (hf : ∀ w ∈ F9, w.before args s = true) (hts : ∀ w ∈ lw_tbl, w.before args s = true) (hA : ∀ a : Nat, a < s.heap.size → ¬ A a) : ∃ ad : Nat → Nat, XE ad (fun _ => 0) A s s.heap := by
  obtain ⟨ad, h1, h2⟩ := str_places hf hA
  have htG : ∀ w ∈ Gw, w.before args s = true := fun w h => hts w (gw_lw w h)
  refine ⟨ad, h1, fun q hq => ?_, ⟨va_Nw.of rfl (hts _ (lw_at 943 (by decide +kernel))), va_Nw.of rfl (hts _ (lw_at 1075 (by decide +kernel))), fun y hy => ?_, fun c hc => ?_⟩, ?_, ?_, ?_, ?_⟩
  · obtain ⟨q1, q2⟩ := xStr_ix q hq
    have h3 := h2 (jxS q.2.2.2) q1
    have h4 := hts _ (lw_at _ (strW_at (jxS q.2.2.2) q1))
    have e9 : njS (jxS q.2.2.2) = q.2.2.2 := by unfold njS; rw [q2]
    unfold tmS at h3
    rw [e9, q2] at h3
    rw [q2] at h4
    exact vk_R.of h4 h3
  · unfold xDecl at hy
    simp only [List.mem_cons, List.not_mem_nil, or_false] at hy
    rcases hy with rfl | rfl | rfl | rfl | rfl | rfl
    · exact va_Nw.of rfl (hts _ (lw_at 701 (by decide +kernel)))
    · exact va_Nw.of rfl (hts _ (lw_at 702 (by decide +kernel)))
    · exact va_Nw.of rfl (hts _ (lw_at 703 (by decide +kernel)))
    · exact va_Nw.of rfl (hts _ (lw_at 704 (by decide +kernel)))
    · exact va_Nw.of rfl (hts _ (lw_at 705 (by decide +kernel)))
    · exact va_Nw.of rfl (hts _ (lw_at 706 (by decide +kernel)))
  · unfold xExn at hc
    simp only [List.mem_cons, List.not_mem_nil, or_false] at hc
    rcases hc with rfl | rfl | rfl
    · exact va_Nw.of rfl (hts _ (lw_at 700 (by decide +kernel)))
    · exact va_Nw.of rfl (hts _ (lw_at 809 (by decide +kernel)))
    · exact va_Nw.of rfl (hts _ (lw_at 768 (by decide +kernel)))
  · exact vx_Zqof (hts _ (lw_at 725 (by decide +kernel))) (htG _ g48) (hf _ (f9_in 9 (by decide +kernel))) hA
  · exact vx_Zqof (hts _ (lw_at 727 (by decide +kernel))) (htG _ g48) (hf _ (f9_in 10 (by decide +kernel))) hA
  · exact va_Zof (hts _ (lw_at 273 (by decide +kernel))) (htG _ g36) (va_eqt (hf _ (f9_in 4 (by decide +kernel)))) hA
  · exact va_Zqof (hts _ (lw_at 289 (by decide +kernel))) (htG _ g38) (hf _ (f9_in 5 (by decide +kernel))) hA
def tmOne : Term := Jvm.Term.static "java/lang/Integer" "DigitOnes" "[B"
set_option maxRecDepth 100000 in
theorem digOne_at : ((F9.drop 14).take 100) = (List.range 100).map (fun j => Cond.eq (.elem tmOne (.int (Int32.ofNat j))) (.int (nI (48 + j % 10)))) := by decide +kernel
def tmTen : Term := Jvm.Term.static "java/lang/Integer" "DigitTens" "[B"
set_option maxRecDepth 100000 in
theorem digTen_at : ((F9.drop 117).take 100) = (List.range 100).map (fun j => Cond.eq (.elem tmTen (.int (Int32.ofNat j))) (.int (nI (48 + j / 10)))) := by decide +kernel
theorem FD_start {args : Array Value} {s : State} {A : Nat → Prop} (hf : ∀ w ∈ F9, w.before args s = true) (hts : ∀ w ∈ lw_tbl, w.before args s = true) (hA : ∀ a : Nat, a < s.heap.size → ¬ A a) : ∃ d1 d2 : Nat, FD d1 d2 A s s.heap := by
  have htG : ∀ w ∈ Gw, w.before args s = true := fun w h => hts w (gw_lw w h)
  have m1 : ∀ j : Nat, j < 100 → (Cond.eq (.elem tmOne (.int (Int32.ofNat j))) (.int (nI (48 + j % 10)))).before args s = true := fun j hj => hf _ (List.mem_of_mem_drop (List.mem_of_mem_take (by rw [digOne_at]; exact List.mem_map.mpr ⟨j, List.mem_range.mpr hj, rfl⟩)))
  have m2 : ∀ j : Nat, j < 100 → (Cond.eq (.elem tmTen (.int (Int32.ofNat j))) (.int (nI (48 + j / 10)))).before args s = true := fun j hj => hf _ (List.mem_of_mem_drop (List.mem_of_mem_take (by rw [digTen_at]; exact List.mem_map.mpr ⟨j, List.mem_range.mpr hj, rfl⟩)))
  obtain ⟨d1, e1, h1⟩ := va_Tof (tm := tmOne) (ty := .byte) (N := 100) (f := fun j => .int (nI (48 + j % 10))) (A := A) (by decide) (hf _ (f9_in 12 (by decide +kernel))) (va_eqt (hf _ (f9_in 13 (by decide +kernel)))) (fun j hj => va_eqt (m1 j hj)) hA
  obtain ⟨d2, e2, h2⟩ := va_Tof (tm := tmTen) (ty := .byte) (N := 100) (f := fun j => .int (nI (48 + j / 10))) (A := A) (by decide) (hf _ (f9_in 115 (by decide +kernel))) (va_eqt (hf _ (f9_in 116 (by decide +kernel)))) (fun j hj => va_eqt (m2 j hj)) hA
  exact ⟨d1, d2, va_Zof (hts _ (lw_at 1254 (by decide +kernel))) (htG _ g47) e1 hA, h1, va_Zof (hts _ (lw_at 1256 (by decide +kernel))) (htG _ g47) e2 hA, h2⟩
theorem PVs_start {args : Array Value} {s : State} (hts : ∀ w ∈ lw_tbl, w.before args s = true) : PVs s := by
  refine ⟨fun y hy => ?_, va_Nw.of rfl (hts _ (lw_at 1168 (by decide +kernel)))⟩
  unfold xPri at hy
  simp only [List.mem_cons, List.not_mem_nil, or_false] at hy
  rcases hy with rfl | rfl | rfl | rfl
  · exact va_tabs rfl rfl (hts _ (lw_at 1144 (by decide +kernel)))
  · exact va_tabs rfl rfl (hts _ (lw_at 1148 (by decide +kernel)))
  · exact va_tabs rfl rfl (hts _ (lw_at 1194 (by decide +kernel)))
  · exact va_tabs rfl rfl (hts _ (lw_at 1198 (by decide +kernel)))
