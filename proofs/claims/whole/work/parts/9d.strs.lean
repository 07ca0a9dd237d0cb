/-! ===== the law's entry: what the statement gives of Strings, statics and classes ===== -/
theorem gi135 : (Cond.instantiable "WhistlePosts" 10) ∈ Gw := gw_in 135 (by decide +kernel) (by decide +kernel)
theorem gi1306 : (Cond.instantiable "WhistlePostsModel" 28) ∈ Gw := gw_in 1306 (by decide +kernel) (by decide +kernel)
def F9 : List Cond := flatC (Jvm.Cond.and given_1 narrow_1)
def szP : List Nat := [333, 364, 396, 418, 440, 468, 501, 538, 563, 317, 348, 285, 63, 247, 255, 262, 270, 278, 207, 215, 222, 230, 238, 625, 634, 643, 608, 617, 653, 662, 670, 679, 688, 584]
def szW : List Nat := [1078, 1200, 1205, 1215, 1235, 1243, 1252, 1279, 1304, 1048, 1104, 978, 351, 659, 661, 662, 663, 664, 451, 496, 523, 525, 526, 1536, 1537, 1538, 1477, 1506, 1569, 1570, 1571, 1572, 1573, 1315]
def tmS (i : Nat) : Term := Jvm.Term.string (xStr.getD i ("", 0, "", 0)).1 (xStr.getD i ("", 0, "", 0)).2.1
def tmV (i : Nat) : Term := Jvm.Term.field (tmS i) "java/lang/String" "value" "[B"
def strC (i : Nat) : List Cond := [Cond.exactly (tmS i) "java/lang/String", Cond.eq (.field (tmS i) "java/lang/String" "coder" "B") (.int 0), Cond.arrayOf (tmV i) .byte, Cond.eq (.length (tmV i)) (.int (Int32.ofNat (xB i).length))] ++ (List.range (xB i).length).map (fun j => Cond.eq (.elem (tmV i) (.int (Int32.ofNat j))) (.int ((xB i).getD j 0)))
set_option maxRecDepth 100000 in
theorem strC_at : ∀ i, i < 34 → (F9.drop (szP.getD i 0)).take (4 + (xB i).length) = strC i := by decide +kernel
theorem strC_in {i : Nat} (hi : i < 34) : ∀ w ∈ strC i, w ∈ F9 := by
  intro w hw
  rw [← strC_at i hi] at hw
  exact List.mem_of_mem_drop (List.mem_of_mem_take hw)
set_option maxRecDepth 100000 in
theorem strW_at : ∀ i, i < 34 → lw_tbl[szW.getD i 0]? = some (Cond.stringRef (xStr.getD i ("", 0, "", 0)).1 (xStr.getD i ("", 0, "", 0)).2.1 (xStr.getD i ("", 0, "", 0)).2.2.1) := by decide +kernel
theorem xStr_ix : ∀ q ∈ xStr, q.2.2.2 < 34 ∧ xStr.getD q.2.2.2 ("", 0, "", 0) = q := by decide +kernel
theorem f9_in (i : Nat) {w : Cond} (h : F9[i]? = some w) : w ∈ F9 := List.mem_of_getElem? h
theorem lw_at (i : Nat) {w : Cond} (h : lw_tbl[i]? = some w) : w ∈ lw_tbl := List.mem_of_getElem? h
/-- the Strings' places -/
theorem str_places {args : Array Value} {s : State} {A : Nat → Prop} (hf : ∀ w ∈ F9, w.before args s = true) (hA : ∀ a : Nat, a < s.heap.size → ¬ A a) : ∃ ad : Nat → Nat, XS ad (fun _ => 0) A s s.heap ∧ ∀ i, i < 34 → (tmS i).eval args s none [] s = some (.ref (ad (sx i))) := by
  have hl : ∀ i, i < 34 → (xB i).length < 2 ^ 31 := fun i hi => by have := (xB_lenz i hi).2.2; omega
  have h0 : ∀ i : Nat, ∃ q : Nat × Nat, i < 34 → (tmS i).eval args s none [] s = some (.ref q.1) ∧ va_O "java/lang/String" q.1 A s s.heap ∧ va_OF "java/lang/String" "coder" "B" (.int 0) q.1 A s s.heap ∧ va_OF "java/lang/String" "value" "[B" (.ref q.2) q.1 A s s.heap ∧ va_T .byte q.2 (xB i).length (fun j => .int ((xB i).getD j 0)) A s s.heap := by
    intro i
    by_cases hi : i < 34
    · have hm : ∀ w ∈ strC i, w.before args s = true := fun w hw => hf w (strC_in hi w hw)
      have hex := hm (Cond.exactly (tmS i) "java/lang/String") (List.mem_append_left _ (List.mem_of_getElem? (i := 0) rfl))
      have hco := hm (Cond.eq (.field (tmS i) "java/lang/String" "coder" "B") (.int 0)) (List.mem_append_left _ (List.mem_of_getElem? (i := 1) rfl))
      have har := hm (Cond.arrayOf (tmV i) .byte) (List.mem_append_left _ (List.mem_of_getElem? (i := 2) rfl))
      have hle := hm (Cond.eq (.length (tmV i)) (.int (Int32.ofNat (xB i).length))) (List.mem_append_left _ (List.mem_of_getElem? (i := 3) rfl))
      have hel : ∀ j : Nat, j < (xB i).length → (Cond.eq (.elem (tmV i) (.int (Int32.ofNat j))) (.int ((xB i).getD j 0))).before args s = true := fun j hj => hm _ (List.mem_append_right _ (List.mem_map.mpr ⟨j, List.mem_range.mpr hj, rfl⟩))
      obtain ⟨a, c, cA, kA, q1, q2, q3, q4, q5, q6, -⟩ := Cond.exactly_spec (args := args) (first := s) (o := none) (s := s) (idx := []) (t := tmS i) (cls := "java/lang/String") hex
      obtain ⟨t, ht, hT⟩ := va_Tof (f := fun j => .int ((xB i).getD j 0)) (A := A) (hl i hi) har (va_eqt hle) (fun j hj => va_eqt (hel j hj)) hA
      exact ⟨(a, t), fun _ => ⟨q1, ⟨cA, q3, q5, by rw [q6]; exact q2, hA a (Array.getElem?_eq_some_iff.mp q3).1⟩, vk_OFof q1 (va_eqt hco) hA, vk_OFof q1 ht hA, hT⟩⟩
    · exact ⟨(0, 0), fun h => absurd h hi⟩
  obtain ⟨g, hg⟩ := Classical.axiomOfChoice h0
  refine ⟨fun a => if a < 400 then (g (a - 300)).1 else (g (a - 400)).2, fun i hi => ?_, fun i hi => ?_⟩
  · have e1 : (if sx i < 400 then (g (sx i - 300)).1 else (g (sx i - 400)).2) = (g i).1 := by
      rw [if_pos (by show 300 + i < 400; omega), show sx i - 300 = i by show 300 + i - 300 = i; omega]
    have e2 : (if sv i < 400 then (g (sv i - 300)).1 else (g (sv i - 400)).2) = (g i).2 := by
      rw [if_neg (by show ¬ 400 + i < 400; omega), show sv i - 400 = i by show 400 + i - 400 = i; omega]
    dsimp only
    rw [e1, e2]
    exact (hg i hi).2
  · dsimp only
    rw [if_pos (by show 300 + i < 400; omega), show sx i - 300 = i by show 300 + i - 300 = i; omega]
    exact (hg i hi).1
theorem XE_start {args : Array Value} {s : State} {A : Nat → Prop} (hf : ∀ w ∈ F9, w.before args s = true) (hts : ∀ w ∈ lw_tbl, w.before args s = true) (hA : ∀ a : Nat, a < s.heap.size → ¬ A a) : ∃ ad : Nat → Nat, XE ad (fun _ => 0) A s s.heap := by
  obtain ⟨ad, h1, h2⟩ := str_places hf hA
  have htG : ∀ w ∈ Gw, w.before args s = true := fun w h => hts w (gw_lw w h)
  refine ⟨ad, h1, fun q hq => ?_, ⟨va_Nw.of rfl (hts _ (lw_at 752 (by decide +kernel))), va_Nw.of rfl (hts _ (lw_at 1113 (by decide +kernel))), fun y hy => ?_, fun c hc => ?_⟩, ?_, ?_, ?_, ?_⟩
  · obtain ⟨q1, q2⟩ := xStr_ix q hq
    have h3 := h2 q.2.2.2 q1
    have h4 := hts _ (lw_at _ (strW_at q.2.2.2 q1))
    unfold tmS at h3
    rw [q2] at h3 h4
    exact vk_R.of h4 h3
  · unfold xDecl at hy
    simp only [List.mem_cons, List.not_mem_nil, or_false] at hy
    rcases hy with rfl | rfl | rfl | rfl | rfl | rfl
    · exact va_Nw.of rfl (hts _ (lw_at 939 (by decide +kernel)))
    · exact va_Nw.of rfl (hts _ (lw_at 940 (by decide +kernel)))
    · exact va_Nw.of rfl (hts _ (lw_at 941 (by decide +kernel)))
    · exact va_Nw.of rfl (hts _ (lw_at 942 (by decide +kernel)))
    · exact va_Nw.of rfl (hts _ (lw_at 943 (by decide +kernel)))
    · exact va_Nw.of rfl (hts _ (lw_at 944 (by decide +kernel)))
  · unfold xExn at hc
    simp only [List.mem_cons, List.not_mem_nil, or_false] at hc
    rcases hc with rfl | rfl | rfl | rfl
    · exact va_Nw.of rfl (hts _ (lw_at 1041 (by decide +kernel)))
    · exact va_Nw.of rfl (hts _ (lw_at 938 (by decide +kernel)))
    · exact va_Nw.of rfl (hts _ (lw_at 1208 (by decide +kernel)))
    · exact va_Nw.of rfl (hts _ (lw_at 1272 (by decide +kernel)))
  · exact vx_Zqof (hts _ (lw_at 963 (by decide +kernel))) (htG _ g125) (hf _ (f9_in 9 (by decide +kernel))) hA
  · exact vx_Zqof (hts _ (lw_at 965 (by decide +kernel))) (htG _ g125) (hf _ (f9_in 10 (by decide +kernel))) hA
  · exact va_Zof (hts _ (lw_at 365 (by decide +kernel))) (htG _ g117) (va_eqt (hf _ (f9_in 4 (by decide +kernel)))) hA
  · exact va_Zqof (hts _ (lw_at 381 (by decide +kernel))) (htG _ g119) (hf _ (f9_in 5 (by decide +kernel))) hA
theorem XNc_start {args : Array Value} {s : State} (hf : ∀ w ∈ F9, w.before args s = true) : XNc s := ⟨va_Nc.of (hf _ (f9_in 34 (by decide +kernel))), va_Nc.of (hf _ (f9_in 35 (by decide +kernel))), va_Nc.of (hf _ (f9_in 22 (by decide +kernel)))⟩
theorem arr_start {args : Array Value} {s : State} {ty : FieldType} (hp : ∀ n, ty ≠ .object n) (h : (Cond.arrayClass ty).before args s = true) : ∃ cA : ClassId, ArrOfT s cA ty ∧ va_RA s cA ty := by
  obtain ⟨cA, kA, comp, h1, h2, h3⟩ := Cond.arrayClass_spec h
  refine ⟨cA, fun n z => ⟨fun k h => (by cases h), kA, h2, comp, h3⟩, ?_⟩
  cases ty with
  | object n => exact absurd rfl (hp n)
  | _ => exact h1
theorem arrq_start {args : Array Value} {s : State} (h : (Cond.arrayOver (.object "WhistlePosts$Post")).before args s = true) : ∃ cA : ClassId, ArrOfT s cA (.object "WhistlePosts$Post") ∧ va_RA s cA (.object "WhistlePosts$Post") := by
  obtain ⟨comp, cA, kA, h1, -, h2, h3, h4⟩ := Cond.arrayOver_spec h
  exact ⟨cA, fun n z => ⟨fun k h => (by cases h), kA, h2, comp, h3⟩, kA, comp, h2, h3, h1, h4⟩
/-- the classes and the array classes, as the tables have them -/
theorem K_start {args : Array Value} {s : State} (hts : ∀ w ∈ lw_tbl, w.before args s = true) : ∃ (D : va_G) (aT : Nat → ClassId), va_K D vwCl (tysA aT) s := by
  have htG : ∀ w ∈ Gw, w.before args s = true := fun w h => hts w (gw_lw w h)
  have kn : ∀ {ci N n : Nat} {C : String} {Tt : u_T}, fcl ci C Tt N → (Cond.instantiable C n).before args s = true → ∃ (cC : ClassId) (iS : Nat → Nat), u_Kn s C Tt N cC iS := fun fc hi => u_known htG fc.2.1 hi
  obtain ⟨c0, i0, h0⟩ := kn fc0 (htG _ gi143)
  obtain ⟨c1, i1, h1⟩ := kn fc1 (htG _ gi264)
  obtain ⟨c2, i2, h2⟩ := kn fc2 (htG _ gi157)
  obtain ⟨c3, i3, h3⟩ := kn fc3 (htG _ gi179)
  obtain ⟨c4, i4, h4⟩ := kn fc4 (htG _ gi329)
  obtain ⟨c5, i5, h5⟩ := kn fc5 (htG _ gi316)
  obtain ⟨c6, i6, h6⟩ := kn fc6 (htG _ gi163)
  obtain ⟨c7, i7, h7⟩ := kn fc7 (htG _ gi283)
  obtain ⟨c8, i8, h8⟩ := kn fc8 (htG _ gi135)
  obtain ⟨c9, i9, h9⟩ := kn fc9 (htG _ gi1306)
  obtain ⟨ca, ha⟩ := arr_start (ty := .int) (fun _ h => by cases h) (htG _ gi155)
  obtain ⟨cb, hb⟩ := arr_start (ty := .byte) (fun _ h => by cases h) (htG _ gi619)
  obtain ⟨cz, hz⟩ := arr_start (ty := .boolean) (fun _ h => by cases h) (htG _ gi1417)
  obtain ⟨cp, hp⟩ := arrq_start (hts _ (lw_at 270 (by decide +kernel)))
  refine ⟨(fun k => [c0, c1, c2, c3, c4, c5, c6, c7, c8, c9].getD k c0, fun k => [i0, i1, i2, i3, i4, i5, i6, i7, i8, i9].getD k i0), fun k => [ca, cb, cz, cp].getD k ca, ?_, ?_⟩
  · intro k q hq
    match k, hq with
    | 0, hq => cases hq; exact h0
    | 1, hq => cases hq; exact h1
    | 2, hq => cases hq; exact h2
    | 3, hq => cases hq; exact h3
    | 4, hq => cases hq; exact h4
    | 5, hq => cases hq; exact h5
    | 6, hq => cases hq; exact h6
    | 7, hq => cases hq; exact h7
    | 8, hq => cases hq; exact h8
    | 9, hq => cases hq; exact h9
    | k + 10, hq => simp [vwCl] at hq
  · intro k q hq
    match k, hq with
    | 0, hq => cases hq; exact ha
    | 1, hq => cases hq; exact hb
    | 2, hq => cases hq; exact hz
    | 3, hq => cases hq; exact hp
    | k + 4, hq => simp [tysA] at hq
