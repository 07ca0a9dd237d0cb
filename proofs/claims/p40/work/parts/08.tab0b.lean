/-! ===== String.length and String.charAt of the constants ===== -/
section
variable {T : Type} {x : Cx} {cv : T → aO} {Qf : T → State → Prop} {own : String} {cc : ByteArray} {nL dp mc j pc : Nat} {ret : Option FieldType} {L : List (Nat × Value)} {st : List Value} {w : aW} {X Y : Option T}
theorem E_nret (hx : CxOK x own cc nL dp mc ret) {v : Int32} {r : T} (ty : FieldType) (d : decode cc pc = .ok (.ireturn, 1)) (hr : ret = some ty) (hn : narrow ty (.int v) = .int v) (hc : cv r = (.inl (some (.int v)), w)) (hj : j ≤ mc) : En x cv mc j pc L [.int v] w (some r) := by
  intro t ht H locs ls hP hS hl
  cases ht
  refine Qm_ret (v := some (.int v)) hx (by rw [hc]) (by rw [hc]; exact hP) hS hj (fun h1 h2 => W.zret (v := v) hx.ex hx.bs (by rw [hx.rt]; exact hr) hn h1 h2 d (hlocks := hx.lk))
theorem E_sval (hx : CxOK x own cc nL dp mc ret) {i ix : Nat} (hi : hasS i = true) (g : Cond.fieldLink own ix "java/lang/String" "value" "[B" ∈ Gw) (d : decode cc pc = .ok (.getfield ix, 3)) (kk : EnQ x Qf j (pc + 3) L (.ref (sv i) :: st) w X) : EnQ x Qf j pc L (.ref (sx i) :: st) w X :=
  fun t ht H locs ls hP hS hl => vk_getf (ref := "java/lang/String") hx.ex hx.bs (hx.xe.1 i hi).2.2.1 hS hx.ow (hx.ts _ g) (fun _ h => h) d (kk t ht H locs ls hP hS hl)
theorem E_scod (hx : CxOK x own cc nL dp mc ret) {i ix : Nat} (hi : hasS i = true) (g : Cond.fieldLink own ix "java/lang/String" "coder" "B" ∈ Gw) (d : decode cc pc = .ok (.getfield ix, 3)) (kk : EnQ x Qf j (pc + 3) L (.int 0 :: st) w X) : EnQ x Qf j pc L (.ref (sx i) :: st) w X :=
  fun t ht H locs ls hP hS hl => vk_getf (ref := "java/lang/String") hx.ex hx.bs (hx.xe.1 i hi).2.1 hS hx.ow (hx.ts _ g) (fun _ h => h) d (kk t ht H locs ls hP hS hl)
theorem E_slen (hx : CxOK x own cc nL dp mc ret) {i : Nat} (hi : hasS i = true) (d : decode cc pc = .ok (.arraylength, 1)) (kk : EnQ x Qf j (pc + 1) L (.int (Int32.ofNat (xB i).length) :: st) w X) : EnQ x Qf j pc L (.ref (sv i) :: st) w X :=
  fun t ht H locs ls hP hS hl => va_tlen hx.ex hx.bs (hx.xe.1 i hi).2.2.2 hS rfl d (kk t ht H locs ls hP hS hl)
theorem E_sbal (hx : CxOK x own cc nL dp mc ret) {i : Nat} {k : Int32} (hi : hasS i = true) (d : decode cc pc = .ok (.baload, 1)) (kk : EnQ x Qf j (pc + 1) L (.int ((xB i).getD k.toNatClampNeg 0) :: st) w X) : EnQ x Qf j pc L (.int k :: .ref (sv i) :: st) w (gd (inb k (xB i).length) X) :=
  E_gd fun hk t ht H locs ls hP hS hl => va_tb (f := fun q => .int ((xB i).getD q 0)) hx.ex hx.bs (hx.xe.1 i hi).2.2.2 hS hk rfl d (kk t ht H locs ls hP hS hl)
theorem E_scmp (hx : CxOK x own cc nL dp mc ret) {ix : Nat} (g : Cond.fieldLink own ix "java/lang/String" "COMPACT_STRINGS" "Z" ∈ Gw) (d : decode cc pc = .ok (.getstatic ix, 3)) (kk : EnQ x Qf j (pc + 3) L (.int 1 :: st) w X) : EnQ x Qf j pc L st w X :=
  fun t ht H locs ls hP hS hl => va_gets (ref := "java/lang/String") hx.ex hx.bs hx.xe.2.2.2.2.2.1 hS hx.ow (hx.ts _ g) (fun _ h => h) d (kk t ht H locs ls hP hS hl)
/-- a call on a String constant -/
theorem E_callStr {T2 : Type} {X2 : Option T2} {cv2 : T2 → aO} {K : T2 → Option T} (hx : CxOK x own cc nL dp mc ret) {y : MethodName} {cc2 : ByteArray} {nL2 dp2 mc2 ix n : Nat} {ret2 : Option FieldType} {i : Nat} (hi : hasS i = true) (As : List Value) (st : List Value) {sk : List Value}
    (hE : Ev y cc2 nL2 ret2 dp2 mc2 cv2 (.ref (sx i) :: As) w X2) (hm : VMet y "java/lang/String" cc2 nL2 ret2 n) (g : Cond.methodLink own ix y ∈ Gw) (d : decode cc pc = .ok (.invokevirtual ix, 3)) (hs : sk = As.reverse ++ .ref (sx i) :: st) (hn : As.length = n) (hst : (st.map fun v => v.category).sum ≤ 8) (hdp : dp2 + 1 ≤ dp) (hj : j + mc2 ≤ mc)
    (kk : ∀ r2, X2 = some r2 → ∀ v, (cv2 r2).1 = .inl v → EnQ x Qf (j + mc2) (pc + 3) L (v.toList ++ st) (cv2 r2).2 (K r2))
    (kx : ∀ r2, X2 = some r2 → ∀ E, (cv2 r2).1 = .inr E → ∀ r, K r2 = some r → Qf r = Qm x mc (cv2 r2)) : EnQ x Qf j pc L sk w (X2.bind K) := by
  intro t ht H locs ls hP hS hl
  subst hs
  obtain ⟨r2, h2, h3⟩ := Option.bind_eq_some_iff.mp ht
  obtain ⟨m1, m2, m3, m4, m5, m6, m7⟩ := hm
  have hM := hE r2 h2 (xl x) hx.tr (xD x) (xad x) (xaT x) (xN x) (xaV x) H.size
  have hsk : ((As.reverse ++ .ref (sx i) :: st).map (cvv (xad x))) = (As.map (cvv (xad x))).reverse ++ .ref (xad x (sx i)) :: st.map (cvv (xad x)) := by
    rw [List.map_append, List.map_reverse]; rfl
  have hO : ∃ cell : Cell, H[xad x (sx i)]? = some cell ∧ cell.vm.isStatics = false ∧ (xs x).vm.findClass "java/lang/String" = some cell.cls := by
    obtain ⟨cell, c1, c2, c3, -⟩ := va_O.kept (hx.xe.1 i hi).1 hS.2.1
    exact ⟨cell, c1, c2, c3⟩
  have hr := vx_runV (p := xp x) (e := xe x) (R := xRm x) (below := xb x) (meth := xme x) (H := H) (locs := locs) (cells := j) (slots := 6 * j) (b := xad x (sx i)) (As := As.map (cvv (xad x))) (rest := st.map (cvv (xad x))) (C := "java/lang/String") (own := own) (index := ix) (n := n) (g := F0 (xm x) pc ls ((As.reverse ++ .ref (sx i) :: st).map (cvv (xad x)))) (S := (⟨hx.ex, hx.bs, hx.ml, hx.ow, hx.ts⟩ : CallFix (xp x) (xm x) (xc x) cc nL (xs x) (xa x) Gw own)) hM
    (cw := ⟨⟨rfl, rfl, (rmd_room hx hdp m7).1, (rmd_room hx (mc2 := mc2) hdp m7).2, Gw_ws hx m4, List.mem_cons_self, hx.ts _ m4, hx.ts _ m3, m5, hx_par m6, hx.ts _ g⟩, hx.ts _ m1, hx.ts _ m2⟩)
    ⟨PcE_blind, hO, fun U hU hW => PcE_at hx hP hS (.ref (sx i) :: As) hU hW⟩
    rfl (by rw [List.length_map]; exact hn) (by show ls.size = nL; rw [← hx.ml]; exact hl.1) hsk (by rw [cvv_cats]; exact (show 2 * 0 + _ ≤ 8 by omega)) d (rmd_cells hx hj)
  refine E_run hx hP hr hS hj (fun v hv H1 locs1 hP1 hS1 => ?_) (fun E hE1 => kx r2 h2 E hE1 t h3)
  have h9 := kk r2 h2 v hv t h3 H1 locs1 ls hP1 hS1 hl
  have e9 : (v.toList ++ st).map (cvv (xad x)) = (v.map (cvv (xad x))).toList ++ st.map (cvv (xad x)) := by
    rw [List.map_append]; cases v <;> rfl
  rw [e9] at h9
  exact h9
end
theorem vm_scoder : VMet yJ0_coder_7d493 "java/lang/String" cJ0_coder_7d493 1 (some .byte) 0 := ⟨g269, g270, g36, g271, ⟨by decide +kernel, by decide +kernel⟩, by decide +kernel, Nat.le_of_ble_eq_true rfl⟩
theorem vm_slength : VMet yJ0_length_8abf5 "java/lang/String" cJ0_length_8abf5 1 (some .int) 0 := ⟨g265, g266, g36, g267, ⟨by decide +kernel, by decide +kernel⟩, by decide +kernel, Nat.le_of_ble_eq_true rfl⟩
theorem vm_slatin : VMet yJ0_isLatin1_aae02 "java/lang/String" cJ0_isLatin1_aae02 1 (some .boolean) 0 := ⟨g279, g280, g36, g281, ⟨by decide +kernel, by decide +kernel⟩, by decide +kernel, Nat.le_of_ble_eq_true rfl⟩
theorem vm_scharAt : VMet yJ0_charAt_5068e "java/lang/String" cJ0_charAt_5068e 2 (some .char) 1 := ⟨g275, g276, g36, g277, ⟨by decide +kernel, by decide +kernel⟩, by decide +kernel, Nat.le_of_ble_eq_true rfl⟩
theorem sm_lchar : SMet yJ1_charAt_3b067 cJ1_charAt_3b067 2 (some .char) 2 := ⟨g283, g37, g284, ⟨by decide +kernel, by decide +kernel⟩, by decide +kernel, Nat.le_of_ble_eq_true rfl⟩
theorem sm_schk : SMet yJ0_checkIndex_df160 cJ0_checkIndex_df160 2 none 2 := ⟨g286, g36, g287, ⟨by decide +kernel, by decide +kernel⟩, by decide +kernel, Nat.le_of_ble_eq_true rfl⟩
theorem sm_pchk : SMet yJ3_checkIndex_8e157 cJ3_checkIndex_8e157 3 (some .int) 3 := ⟨g291, g38, g292, ⟨by decide +kernel, by decide +kernel⟩, by decide +kernel, Nat.le_of_ble_eq_true rfl⟩
theorem ev_scoder {i : Nat} (hi : hasS i = true) (w : aW) : Ev yJ0_coder_7d493 cJ0_coder_7d493 1 (some .byte) 0 0 (cvI w) [.ref (sx i)] w (some 0) := by
  refine Ev.of (own := "java/lang/String") (by decide +kernel) rfl (Nat.le_of_ble_eq_true rfl) (fun x hx => ?_)
  show En x (cvI w) 0 0 0 [(0, .ref (sx i))] [] w _
  refine E_scmp (pc := 0) hx g272 dJ0_coder_7d493_0 ?_
  have e : (some (0 : Int32)) = if (1 : Int32) = 0 then none else some 0 := by rw [if_neg (by decide)]
  rw [e]
  refine E_if_eq (pc := 3) hx 13 dJ0_coder_7d493_3 rfl E_none ?_
  refine E_aload_n (pc := 6) hx 0 dJ0_coder_7d493_6 rfl rfl ?_
  refine E_scod (pc := 7) hx hi g1312 dJ0_coder_7d493_7 ?_
  refine E_goto (pc := 10) hx 14 dJ0_coder_7d493_10 rfl ?_
  exact E_nret (pc := 14) hx .byte dJ0_coder_7d493_14 rfl (by decide +kernel) rfl (Nat.le_of_ble_eq_true rfl)
theorem ev_slatin {i : Nat} (hi : hasS i = true) (w : aW) : Ev yJ0_isLatin1_aae02 cJ0_isLatin1_aae02 1 (some .boolean) 0 0 (cvI w) [.ref (sx i)] w (some 1) := by
  refine Ev.of (own := "java/lang/String") (by decide +kernel) rfl (Nat.le_of_ble_eq_true rfl) (fun x hx => ?_)
  show En x (cvI w) 0 0 0 [(0, .ref (sx i))] [] w _
  refine E_scmp (pc := 0) hx g272 dJ0_isLatin1_aae02_0 ?_
  have e : (some (1 : Int32)) = if (1 : Int32) = 0 then none else some 1 := by rw [if_neg (by decide)]
  rw [e]
  refine E_if_eq (pc := 3) hx 17 dJ0_isLatin1_aae02_3 rfl E_none ?_
  refine E_aload_n (pc := 6) hx 0 dJ0_isLatin1_aae02_6 rfl rfl ?_
  refine E_scod (pc := 7) hx hi g1312 dJ0_isLatin1_aae02_7 ?_
  have e2 : (some (1 : Int32)) = if (0 : Int32) = 0 then some 1 else none := by rw [if_pos rfl]
  rw [e2]
  refine E_if_ne (pc := 10) hx 17 dJ0_isLatin1_aae02_10 rfl E_none ?_
  refine E_iconst (pc := 13) hx 1 dJ0_isLatin1_aae02_13 (by decide +kernel) ?_
  refine E_goto (pc := 14) hx 18 dJ0_isLatin1_aae02_14 rfl ?_
  exact E_nret (pc := 18) hx .boolean dJ0_isLatin1_aae02_18 rfl (by decide +kernel) rfl (Nat.le_of_ble_eq_true rfl)
theorem ev_slength {i : Nat} (hi : hasS i = true) (w : aW) : Ev yJ0_length_8abf5 cJ0_length_8abf5 1 (some .int) 1 0 (cvI w) [.ref (sx i)] w (some (Int32.ofNat (xB i).length >>> ((0 : Int32) &&& 31))) := by
  refine Ev.of (own := "java/lang/String") (by decide +kernel) rfl (Nat.le_of_ble_eq_true rfl) (fun x hx => ?_)
  show En x (cvI w) 0 0 0 [(0, .ref (sx i))] [] w _
  refine E_aload_n (pc := 0) hx 0 dJ0_length_8abf5_0 rfl rfl ?_
  refine E_sval (pc := 1) hx hi g1311 dJ0_length_8abf5_1 ?_
  refine E_slen (pc := 4) hx hi dJ0_length_8abf5_4 ?_
  refine E_aload_n (pc := 5) hx 0 dJ0_length_8abf5_5 rfl rfl ?_
  refine E_callStr (pc := 6) (X2 := some (0 : Int32)) (K := fun _ => some (Int32.ofNat (xB i).length >>> ((0 : Int32) &&& 31))) hx hi [] [.int (Int32.ofNat (xB i).length)] (ev_scoder hi w) vm_scoder g268 dJ0_length_8abf5_6 rfl rfl (Nat.le_of_ble_eq_true rfl) (Nat.le_of_ble_eq_true rfl) (Nat.le_of_ble_eq_true rfl) (fun r2 h2 v hv => ?_) (fun r2 h2 E hE => ?_)
  · cases h2
    cases hv
    refine E_ishr (pc := 9) hx dJ0_length_8abf5_9 ?_
    exact E_iret (pc := 10) hx dJ0_length_8abf5_10 rfl rfl (Nat.le_of_ble_eq_true rfl)
  · cases hE
/-- Preconditions.checkIndex, the index in its range -/
theorem ev_pchk (a b : Int32) (z : Value) (hz : z.category = 1) (w : aW) : Ev yJ3_checkIndex_8e157 cJ3_checkIndex_8e157 3 (some .int) 0 0 (cvI w) [.int a, .int b, z] w (if a < 0 then none else if a < b then some a else none) := by
  refine Ev.of (own := "jdk/internal/util/Preconditions") (by decide +kernel) rfl (by
    show (lg_sl [.int a, .int b, z]).length ≤ 3
    cases z <;> first | exact Nat.le_of_ble_eq_true rfl | exact absurd hz (show ¬ (2 : Nat) = 1 by decide)) (fun x hx => ?_)
  show En x (cvI w) 0 0 0 [(0, .int a), (1, .int b), (2, z)] [] w _
  refine E_iload_n (pc := 0) hx 0 dJ3_checkIndex_8e157_0 rfl rfl ?_
  refine E_if_lt (pc := 1) hx 9 dJ3_checkIndex_8e157_1 rfl E_none ?_
  refine E_iload_n (pc := 4) hx 0 dJ3_checkIndex_8e157_4 rfl rfl ?_
  refine E_iload_n (pc := 5) hx 1 dJ3_checkIndex_8e157_5 rfl rfl ?_
  refine E_icmp_lt (pc := 6) hx 16 dJ3_checkIndex_8e157_6 rfl ?_ E_none
  refine E_iload_n (pc := 16) hx 0 dJ3_checkIndex_8e157_16 rfl rfl ?_
  exact E_iret (pc := 17) hx dJ3_checkIndex_8e157_17 rfl rfl (Nat.le_of_ble_eq_true rfl)

/-! ===== a reference that is no cell of the world ===== -/
def adx (ad : Nat → Nat) (t : Nat) : Nat → Nat := fun a => if a = 1099511627776 then t else ad a
theorem adx_ne {ad : Nat → Nat} {t a : Nat} (h : ¬ a = 1099511627776) : adx ad t a = ad a := if_neg h
theorem getD_orz {A : Type} (l : List A) (n : Nat) (d : A) : l.getD n d = d ∨ l.getD n d ∈ l := by
  rw [List.getD_eq_getElem?_getD]
  cases h : l[n]? with
  | none => exact Or.inl rfl
  | some v => exact Or.inr (List.mem_of_getElem? h)
theorem shT_bdz : ∀ q ∈ shT, ∀ z ∈ q.2.2, z < 1099511627776 := by decide +kernel
theorem shR_bdz (a k : Nat) : shR a k < 1099511627776 := by
  unfold shR
  rcases getD_orz shT a (9, 0, []) with h | h
  · rw [h]
    show ([] : List Nat).getD k 0 < 1099511627776
    rw [List.getD_nil]
    decide
  · rcases getD_orz (shT.getD a (9, 0, [])).2.2 k 0 with h2 | h2
    · rw [h2]; decide
    · exact shT_bdz _ h _ h2
theorem shR_adx {ad : Nat → Nat} {t a k : Nat} : adx ad t (shR a k) = ad (shR a k) := adx_ne (Nat.ne_of_lt (shR_bdz a k))
theorem cve_adx {ad : Nat → Nat} {t : Nat} {aT : Nat → ClassId} {w : aW} {a : Nat} : cve (adx ad t) aT w a = cve ad aT w a := by
  have h : ∀ v : Int32, adx ad t v.toNatClampNeg = ad v.toNatClampNeg := fun v => adx_ne (by have := Int32.toNatClampNeg_lt v; omega)
  unfold cve fvv r5
  simp only [shR_adx, h]
theorem cn_bd {N i : Nat} (hN : N ≤ 800) (h : i < N) : ¬ cn i = 1099511627776 := by unfold cn; split <;> omega
theorem ex_bd {N a : Nat} (hN : N ≤ 800) (h : xst N a) : ¬ a = 1099511627776 := by unfold xst at h; omega
theorem conc_adx {ad : Nat → Nat} {t N : Nat} {aT : Nat → ClassId} {w : aW} (hN : N ≤ 800) : conc (adx ad t) aT N w = conc ad aT N w := by
  unfold conc
  refine List.map_congr_left fun i hi => ?_
  rw [cve_adx, adx_ne (cn_bd hN (List.mem_range.mp hi))]
theorem aA_adx {ad : Nat → Nat} {t N sz : Nat} (hN : N ≤ 800) : aA (adx ad t) N sz = aA ad N sz := by
  funext q
  unfold aA
  refine propext ⟨fun h => h.imp (fun ⟨a, a1, a2⟩ => ⟨a, a1, by rw [a2, adx_ne (ex_bd hN a1)]⟩) id, fun h => h.imp (fun ⟨a, a1, a2⟩ => ⟨a, a1, by rw [a2, adx_ne (ex_bd hN a1)]⟩) id⟩
theorem AdOK.adx {ad : Nat → Nat} {t N sz : Nat} (hN : N ≤ 800) (h : AdOK ad N sz) : AdOK (adx ad t) N sz := by
  refine ⟨fun a b a1 b1 e => ?_, fun a a1 => ?_⟩
  · rw [adx_ne (ex_bd hN a1), adx_ne (ex_bd hN b1)] at e
    exact h.1 a b a1 b1 e
  · rw [adx_ne (ex_bd hN a1)]
    exact h.2 a a1
theorem xStr_bdz : ∀ q ∈ xStr, q.2.2.2 < 39 := by decide +kernel
theorem hasS_lt {i : Nat} (h : hasS i = true) : i < 39 := by
  obtain ⟨q, q1, q2⟩ := List.any_eq_true.mp h
  have := xStr_bdz q q1
  have : q.2.2.2 = i := by simpa using q2
  omega
theorem XE.adx {ad adV : Nat → Nat} {t : Nat} {A : Nat → Prop} {U : State} {H : Heap} (h : XE ad adV A U H) : XE (adx ad t) adV A U H := by
  obtain ⟨h1, h2, h3⟩ := h
  refine ⟨fun i hi => ?_, fun q hq => ?_, h3⟩
  · have hi2 := hasS_lt hi
    rw [adx_ne (show ¬ sx i = 1099511627776 by show ¬ 2000 + i = 1099511627776; omega), adx_ne (show ¬ sv i = 1099511627776 by show ¬ 3000 + i = 1099511627776; omega)]
    exact h1 i hi
  · have := xStr_bdz q hq
    rw [adx_ne (show ¬ sx q.2.2.2 = 1099511627776 by show ¬ 2000 + q.2.2.2 = 1099511627776; omega)]
    exact h2 q hq
section
variable {T : Type} {x : Cx} {cv : T → aO} {Qf : T → State → Prop} {own : String} {cc : ByteArray} {nL dp mc j pc : Nat} {ret : Option FieldType} {L : List (Nat × Value)} {st : List Value} {w : aW} {X Y : Option T}
theorem E_chk (hx : CxOK x "java/lang/String" cc nL dp mc ret) {a b : Int32} (d0 : decode cc pc = .ok (.getstatic 1053, 3)) (d3 : decode cc (pc + 3) = .ok (.invokestatic 1059, 3)) (hst : (st.map fun v => v.category).sum ≤ 8) (hdp : 0 + 1 ≤ dp) (hj : j + 0 ≤ mc) (kk : EnQ x Qf j (pc + 6) L (.int a :: st) w X) : EnQ x Qf j pc L (.int b :: .int a :: st) w (if a < 0 then none else if a < b then X else none) := by
  intro t ht H locs ls hP hS hl
  have hab : ¬ a < 0 ∧ a < b ∧ X = some t := by
    by_cases c1 : a < 0
    · rw [if_pos c1] at ht; cases ht
    · rw [if_neg c1] at ht
      by_cases c2 : a < b
      · rw [if_pos c2] at ht; exact ⟨c1, c2, ht⟩
      · rw [if_neg c2] at ht; cases ht
  obtain ⟨c1, c2, hX⟩ := hab
  have core : ∀ (q : Nat) (z : Value), z.category = 1 → va_Z "jdk/internal/util/Preconditions" "SIOOBE_FORMATTER" "Ljava/util/function/BiFunction;" (cvv (adx (xad x) q) z) (xA x) (xs x) (xs x).heap →
      W (xp x) (xl x) (xe x) (xRm x) (xs x) (xm x) (xa x) (xb x) (xme x) (xc x) H locs j (6 * j) (Qf t) (F0 (xm x) pc ls ((.int b :: .int a :: st).map (cvv (xad x)))) := by
    intro q z hz hZ
    refine va_gets (ref := "jdk/internal/util/Preconditions") hx.ex hx.bs hZ hS hx.ow (hx.ts _ g288) (fun _ h => h) d0 ?_
    obtain ⟨m1, m3, m4, m5, m6, m7⟩ := sm_pchk
    have hM := ev_pchk a b z hz w a (by rw [if_neg c1, if_pos c2]) (xl x) hx.tr (xD x) (adx (xad x) q) (xaT x) (xN x) (xaV x) H.size
    have h8 := hx.n8
    have hQ : QcE (xD x) (adx (xad x) q) (xaT x) (xN x) (aA (xad x) (xN x) H.size) [] (cvI w a) = QcE (xD x) (xad x) (xaT x) (xN x) (aA (xad x) (xN x) H.size) [] (cvI w a) := by
      funext As s0 o u
      unfold QcE
      rw [conc_adx h8]
      refine propext ⟨fun ⟨⟨v, hv, ho⟩, h⟩ => ⟨⟨v, hv, ?_⟩, h⟩, fun ⟨⟨v, hv, ho⟩, h⟩ => ⟨⟨v, hv, ?_⟩, h⟩⟩
      · have e : some (Value.int a) = v := Sum.inl.inj hv
        subst e
        exact ho
      · have e : some (Value.int a) = v := Sum.inl.inj hv
        subst e
        exact ho
    have hXc : XcE (xD x) (adx (xad x) q) (xaT x) (xN x) (aA (xad x) (xN x) H.size) [] (cvI w a) = XcE (xD x) (xad x) (xaT x) (xN x) (aA (xad x) (xN x) H.size) [] (cvI w a) := by
      unfold XcE
      simp only [conc_adx h8]
    rw [aA_adx h8, hQ, hXc] at hM
    have hPc : ∀ U : State, U.heap = H → (xs x).WarmedH U.vm → PcE (xD x) (adx (xad x) q) (xaT x) (xN x) (xaV x) H.size [.int a, .int b, z] w (([.int a, .int b, z] : List Value).map (cvv (adx (xad x) q))).toArray U := by
      intro U hU hW
      obtain ⟨-, p2, p3, p4, p5, p6⟩ := PcE_at hx hP hS [] hU hW
      exact ⟨rfl, p2, by rw [conc_adx h8]; exact p3, p4, ⟨p5.1, p5.2.adx h8⟩, by rw [aA_adx h8]; exact p6.adx⟩
    have hr := vx_runS (p := xp x) (e := xe x) (R := xRm x) (below := xb x) (meth := xme x) (H := H) (locs := locs) (cells := j) (slots := 6 * j) (As := ([.int a, .int b, z] : List Value).map (cvv (adx (xad x) q))) (rest := st.map (cvv (xad x))) (own := "java/lang/String") (index := 1059) (n := 3) (g := F0 (xm x) (pc + 3) ls (cvv (adx (xad x) q) z :: .int b :: .int a :: st.map (cvv (xad x)))) (S := (⟨hx.ex, hx.bs, hx.ml, hx.ow, hx.ts⟩ : CallFix (xp x) (xm x) (xc x) cc nL (xs x) (xa x) Gw "java/lang/String")) hM
      (cw := ⟨⟨rfl, rfl, (rmd_room hx hdp m7).1, (rmd_room hx (mc2 := 0) hdp m7).2, Gw_ws hx m4, List.mem_cons_self, hx.ts _ m4, hx.ts _ m3, m5, hx_par m6, hx.ts _ g290⟩, hx.ts _ m1⟩)
      ⟨PcE_blind, hPc⟩
      rfl rfl (by show ls.size = nL; rw [← hx.ml]; exact hl.1) rfl (by rw [cvv_cats]; exact (show 2 * 0 + _ ≤ 8 by omega)) d3 (rmd_cells hx hj)
    refine E_run hx hP hr hS hj (fun v hv H1 locs1 hP1 hS1 => ?_) (fun E hE1 => nomatch hE1)
    have e : some (Value.int a) = v := Sum.inl.inj hv
    subst e
    exact kk t hX H1 locs1 ls hP1 hS1 hl
  rcases hx.xe.2.2.2.2.2.2 with hZ | ⟨q, hZ⟩
  · exact core 0 .null rfl hZ
  · refine core q (.ref 1099511627776) rfl ?_
    have e : cvv (adx (xad x) q) (.ref 1099511627776) = .ref q := by
      show Value.ref (adx (xad x) q 1099511627776) = _
      unfold adx
      rw [if_pos rfl]
    rw [e]
    exact hZ
end
theorem ev_schk (a b : Int32) (w : aW) : Ev yJ0_checkIndex_df160 cJ0_checkIndex_df160 2 none 1 0 cvV [.int a, .int b] w (if a < 0 then none else if a < b then some w else none) := by
  refine Ev.of (own := "java/lang/String") (by decide +kernel) rfl (Nat.le_of_ble_eq_true rfl) (fun x hx => ?_)
  show En x cvV 0 0 0 [(0, .int a), (1, .int b)] [] w _
  refine E_iload_n (pc := 0) hx 0 dJ0_checkIndex_df160_0 rfl rfl ?_
  refine E_iload_n (pc := 1) hx 1 dJ0_checkIndex_df160_1 rfl rfl ?_
  refine E_chk (pc := 2) hx dJ0_checkIndex_df160_2 dJ0_checkIndex_df160_5 (Nat.le_of_ble_eq_true rfl) (Nat.le_of_ble_eq_true rfl) (Nat.le_of_ble_eq_true rfl) ?_
  refine E_pop (pc := 8) hx dJ0_checkIndex_df160_8 rfl ?_
  exact E_vret (pc := 9) hx dJ0_checkIndex_df160_9 rfl rfl (Nat.le_of_ble_eq_true rfl)
theorem xB_chz : ∀ i, hasS i = true → ∀ c ∈ xB i, i2c (c &&& 255) = c ∧ narrow .char (.int c) = .int c := by
  have h : ∀ i, i < 39 → ∀ c ∈ xB i, i2c (c &&& 255) = c ∧ c.toUInt32.toUInt16.toUInt32.toInt32 = c := by decide +kernel
  exact fun i hi c hc => ⟨(h i (hasS_lt hi) c hc).1, congrArg Value.int (h i (hasS_lt hi) c hc).2⟩
theorem inb_mem {i : Nat} {k : Int32} (h : inb k (xB i).length) : (xB i).getD k.toNatClampNeg 0 ∈ xB i := by
  have hlt : k.toNatClampNeg < (xB i).length := by
    rcases Nat.lt_or_ge k.toNatClampNeg (xB i).length with c | c
    · exact c
    · exact absurd (Or.inr c) h
  rw [List.getD_eq_getElem?_getD, List.getElem?_eq_getElem hlt]
  exact List.getElem_mem hlt
theorem ev_lchar {i : Nat} (hi : hasS i = true) (k : Int32) (w : aW) : Ev yJ1_charAt_3b067 cJ1_charAt_3b067 2 (some .char) 2 0 (cvI w) [.ref (sv i), .int k] w ((if k < 0 then none else if k < Int32.ofNat (xB i).length then some w else none).bind (fun _ => gd (inb k (xB i).length) (some ((xB i).getD k.toNatClampNeg 0)))) := by
  refine Ev.of (own := "java/lang/StringLatin1") (by decide +kernel) rfl (Nat.le_of_ble_eq_true rfl) (fun x hx => ?_)
  show En x (cvI w) 0 0 0 [(0, .ref (sv i)), (1, .int k)] [] w _
  refine E_iload_n (pc := 0) hx 1 dJ1_charAt_3b067_0 rfl rfl ?_
  refine E_aload_n (pc := 1) hx 0 dJ1_charAt_3b067_1 rfl rfl ?_
  refine E_slen (pc := 2) hx hi dJ1_charAt_3b067_2 ?_
  refine E_callS (pc := 3) hx [.int k, .int (Int32.ofNat (xB i).length)] [] (ev_schk k (Int32.ofNat (xB i).length) w) sm_schk g285 dJ1_charAt_3b067_3 rfl rfl (Nat.le_of_ble_eq_true rfl) (Nat.le_of_ble_eq_true rfl) (Nat.le_of_ble_eq_true rfl) (fun r2 h2 v hv => ?_) (fun r2 h2 E hE => ?_)
  · cases hv
    have hw : r2 = w := by
      split at h2
      · cases h2
      · split at h2
        · exact (Option.some.inj h2).symm
        · cases h2
    subst hw
    refine E_aload_n (pc := 6) hx 0 dJ1_charAt_3b067_6 rfl rfl ?_
    refine E_iload_n (pc := 7) hx 1 dJ1_charAt_3b067_7 rfl rfl ?_
    have e : gd (inb k (xB i).length) (some ((xB i).getD k.toNatClampNeg 0)) = gd (inb k (xB i).length) (gd (inb k (xB i).length) (some ((xB i).getD k.toNatClampNeg 0))) := by
      unfold gd
      split <;> rfl
    show En x (cvI r2) 0 0 8 _ _ r2 (gd (inb k (xB i).length) (some ((xB i).getD k.toNatClampNeg 0)))
    rw [e]
    refine E_sbal (pc := 8) hx hi dJ1_charAt_3b067_8 ?_
    refine E_sipush (pc := 9) hx 255 dJ1_charAt_3b067_9 (by decide +kernel) ?_
    refine E_iand (pc := 12) hx dJ1_charAt_3b067_12 ?_
    refine E_i2c (pc := 13) hx dJ1_charAt_3b067_13 ?_
    refine E_gd fun hk => ?_
    obtain ⟨z1, z2⟩ := xB_chz i hi _ (inb_mem hk)
    rw [z1]
    exact E_nret (pc := 14) hx .char dJ1_charAt_3b067_14 rfl z2 rfl (Nat.le_of_ble_eq_true rfl)
  · cases hE
theorem ev_scharAt {i : Nat} (hi : hasS i = true) (k : Int32) (w : aW) : Ev yJ0_charAt_5068e cJ0_charAt_5068e 2 (some .char) 3 0 (cvI w) [.ref (sx i), .int k] w ((if k < 0 then none else if k < Int32.ofNat (xB i).length then some w else none).bind (fun _ => gd (inb k (xB i).length) (some ((xB i).getD k.toNatClampNeg 0)))) := by
  refine Ev.of (own := "java/lang/String") (by decide +kernel) rfl (Nat.le_of_ble_eq_true rfl) (fun x hx => ?_)
  show En x (cvI w) 0 0 0 [(0, .ref (sx i)), (1, .int k)] [] w _
  obtain ⟨Z, hZ⟩ : ∃ Z : Option Int32, Z = ((if k < 0 then none else if k < Int32.ofNat (xB i).length then some w else none).bind (fun _ => gd (inb k (xB i).length) (some ((xB i).getD k.toNatClampNeg 0)))) := ⟨_, rfl⟩
  rw [← hZ]
  have hin : ∀ r, Z = some r → r ∈ xB i := by
    intro r hr
    rw [hZ] at hr
    obtain ⟨w1, h1, h2⟩ := Option.bind_eq_some_iff.mp hr
    unfold gd at h2
    split at h2
    · rename_i c
      cases h2
      exact inb_mem c
    · cases h2
  have hE := ev_lchar hi k w
  rw [← hZ] at hE
  refine E_aload_n (pc := 0) hx 0 dJ0_charAt_5068e_0 rfl rfl ?_
  refine E_callStr (pc := 1) (X2 := some (1 : Int32)) (K := fun _ => Z) hx hi [] [] (ev_slatin hi w) vm_slatin g278 dJ0_charAt_5068e_1 rfl rfl (Nat.le_of_ble_eq_true rfl) (Nat.le_of_ble_eq_true rfl) (Nat.le_of_ble_eq_true rfl) (fun r2 h2 v hv => ?_) (fun r2 h2 E hE => ?_)
  · cases h2
    cases hv
    have e : Z = if (1 : Int32) = 0 then none else Z := by rw [if_neg (by decide)]
    show En x (cvI w) 0 0 4 _ [.int 1] w Z
    rw [e]
    refine E_if_eq (pc := 4) hx 16 dJ0_charAt_5068e_4 rfl E_none ?_
    refine E_aload_n (pc := 7) hx 0 dJ0_charAt_5068e_7 rfl rfl ?_
    refine E_sval (pc := 8) hx hi g1311 dJ0_charAt_5068e_8 ?_
    refine E_iload_n (pc := 11) hx 1 dJ0_charAt_5068e_11 rfl rfl ?_
    have e3 : Z = Z.bind some := by cases Z <;> rfl
    rw [e3]
    refine E_callS (pc := 12) hx [.ref (sv i), .int k] [] hE sm_lchar g282 dJ0_charAt_5068e_12 rfl rfl (Nat.le_of_ble_eq_true rfl) (Nat.le_of_ble_eq_true rfl) (Nat.le_of_ble_eq_true rfl) (fun r2 h2 v hv => ?_) (fun r2 h2 E hE => ?_)
    · cases hv
      exact E_nret (pc := 15) hx .char dJ0_charAt_5068e_15 rfl (xB_chz i hi _ (hin r2 h2)).2 rfl (Nat.le_of_ble_eq_true rfl)
    · cases hE
  · cases hE
theorem xB_lenz : ∀ i, hasS i = true → Int32.ofNat (xB i).length >>> ((0 : Int32) &&& 31) = oI (xB i).length ∧ Int32.ofNat (xB i).length = oI (xB i).length ∧ (xB i).length ≤ 1000 := by
  have h : ∀ i, i < 39 → Int32.ofNat (xB i).length >>> ((0 : Int32) &&& 31) = oI (xB i).length ∧ Int32.ofNat (xB i).length = oI (xB i).length ∧ (xB i).length ≤ 1000 := by decide +kernel
  exact fun i hi => h i (hasS_lt hi)
section
variable {T : Type} {x : Cx} {cv : T → aO} {Qf : T → State → Prop} {own : String} {cc : ByteArray} {nL dp mc j pc : Nat} {ret : Option FieldType} {L : List (Nat × Value)} {st : List Value} {w : aW} {X Y : Option T}
theorem I_strlen (hx : CxOK x own cc nL dp mc ret) {m : aW} {s ix : Nat} {K : Int → Option T} (st : List Value) (g : Cond.methodLink own ix yJ0_length_8abf5 ∈ Gw) (d : decode cc pc = .ok (.invokevirtual ix, 3)) (hst : (st.map fun v => v.category).sum ≤ 8) (hdp : 6 ≤ dp) (hj : j ≤ mc) (kk : ∀ v : Int, EnQ x Qf j (pc + 3) L (.int (oI v) :: st) m (K v)) : EnQ x Qf j pc L (.ref (sx s) :: st) m ((f_strlen s).bind K) := by
  by_cases h : hasS s = true
  · have e : (f_strlen s).bind K = (some (Int32.ofNat (xB s).length >>> ((0 : Int32) &&& 31))).bind (fun _ => K (xB s).length) := by
      unfold f_strlen gd
      rw [if_pos h]
      rfl
    rw [e]
    refine E_callStr hx h [] st (ev_slength h m) vm_slength g d rfl rfl hst (by omega) hj (fun r2 h2 v hv => ?_) (fun r2 h2 E hE => ?_)
    · cases h2
      cases hv
      show EnQ x Qf j (pc + 3) L (.int (Int32.ofNat (xB s).length >>> ((0 : Int32) &&& 31)) :: st) m (K (xB s).length)
      rw [(xB_lenz s h).1]
      exact kk _
    · cases hE
  · unfold f_strlen gd
    rw [if_neg h]
    exact E_none
theorem I_strchr (hx : CxOK x own cc nL dp mc ret) {m : aW} {s ix : Nat} {k : Int} {K : Int → Option T} (st : List Value) (g : Cond.methodLink own ix yJ0_charAt_5068e ∈ Gw) (d : decode cc pc = .ok (.invokevirtual ix, 3)) (hst : (st.map fun v => v.category).sum ≤ 8) (hdp : 6 ≤ dp) (hj : j ≤ mc) (kk : ∀ v : Int, EnQ x Qf j (pc + 3) L (.int (oI v) :: st) m (K v)) : EnQ x Qf j pc L (.int (oI k) :: .ref (sx s) :: st) m ((f_strchr s k).bind K) := by
  by_cases h : hasS s = true
  · by_cases hk : inI k (xB s).length
    · obtain ⟨l1, l2, l3⟩ := xB_lenz s h
      have hrk : rg k := by have := hk.1; have := hk.2; omega
      have n1 : (oI k).toNatClampNeg = k.toNat := oI_nat hrk
      have a1 : ¬ oI k < 0 := by rw [oI_lt0 hrk]; have := hk.1; omega
      have a2 : oI k < Int32.ofNat (xB s).length := by rw [l2, oI_lt hrk (by omega)]; exact hk.2
      have a3 : inb (oI k) (xB s).length := by
        rintro (z | z)
        · exact a1 z
        · rw [n1] at z; have := hk.1; have := hk.2; omega
      have e : (f_strchr s k).bind K = ((if oI k < 0 then none else if oI k < Int32.ofNat (xB s).length then some m else none).bind (fun _ => gd (inb (oI k) (xB s).length) (some ((xB s).getD (oI k).toNatClampNeg 0)))).bind (fun _ => K ((xB s).getD k.toNat 0).toInt) := by
        unfold f_strchr gd
        rw [if_pos h, if_pos hk, if_neg a1, if_pos a2]
        show K _ = (if inb (oI k) (xB s).length then some ((xB s).getD (oI k).toNatClampNeg 0) else none).bind _
        rw [if_pos a3]
        rfl
      rw [e]
      refine E_callStr hx h [.int (oI k)] st (ev_scharAt h (oI k) m) vm_scharAt g d rfl rfl hst (by omega) hj (fun r2 h2 v hv => ?_) (fun r2 h2 E hE => ?_)
      · cases hv
        have hr2 : r2 = (xB s).getD k.toNat 0 := by
          unfold gd at h2
          rw [if_neg a1, if_pos a2, if_pos a3, n1] at h2
          exact (Option.some.inj h2).symm
        subst hr2
        show EnQ x Qf j (pc + 3) L (.int ((xB s).getD k.toNat 0) :: st) m (K ((xB s).getD k.toNat 0).toInt)
        have := kk ((xB s).getD k.toNat 0).toInt
        rw [oI_of] at this
        exact this
      · cases hE
    · unfold f_strchr gd
      rw [if_pos h, if_neg hk]
      exact E_none
  · unfold f_strchr gd
    rw [if_neg h]
    exact E_none
end
