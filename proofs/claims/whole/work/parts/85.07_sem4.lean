/-! ===== the same in the world of the class alone: 07.sem4 ===== -/
section Calls2
variable {p : Program} {l : Launch} {e : Env} {R : Room} {s : State} {m : MethodId} {args : Array Value} {below : List Frame} {meth : Method} {c : Code} {locs : List Loc} {cells slots : Nat} {T : State}
end Calls2
section Calls3
variable {p : Program} {l : Launch} {e : Env} {R : Room} {s : State} {m : MethodId} {args : Array Value} {below : List Frame} {meth : Method} {c : Code} {H : Heap} {locs : List Loc} {cells slots : Nat}
variable {y : MethodName} {bytes cc : ByteArray} {maxL nL mc ms n index : Nat} {ret : Option FieldType} {ws : List Cond} {rm : Room} {Pc : Array Value → State → Prop} {Qc : Array Value → State → Outcome → State → Prop} {XC : String → State → State → Prop} {free : Addr → Prop} {Ts : List Cond} {own C host : String} {b : Addr} {As rest : List Value} {g : JFrame}
end Calls3
theorem PcE_blind_k {D : va_G} {ad : Nat → Nat} {aT : Nat → ClassId} {adV : Nat → Nat} {sz : Nat} {avs : List Value} {w : aW} : FrameBlind (PcE_k D ad aT adV sz avs w) := by
  intro a U g mk q
  obtain ⟨q0, q1, qP, qK, qA, qX⟩ := q
  exact ⟨q0, q1, qP, va_K.moved (u := U) (U := U.calling g mk a) (Vm.Alike.refl U.vm) qK, qA, XE.warm (s := U) (U := U.calling g mk a) (State.WarmedH.refl U) qX⟩
theorem AdOK_k.mono {ad : Nat → Nat} {sz sz' : Nat} (h : AdOK_k ad sz) (hz : sz ≤ sz') : AdOK_k ad sz' := ⟨h.1, fun a ha => Nat.lt_of_lt_of_le (h.2 a ha) hz⟩
section Calls4
variable {T : Type} {x : Cx} {cv : T → aO} {own : String} {cc : ByteArray} {nL dp mc j pc : Nat} {ret : Option FieldType} {L : List (Nat × Value)} {st : List Value} {w : aW}
theorem PcE_at_k (hx : CxOK_k x own cc nL dp mc ret) {H : Heap} {locs : List Loc} (hP : va_P (xD x) vwCl (conc_k (xad x) (xaT x) w) H) (hS : va_S (xA_k x) (xs x).heap H locs) (avs : List Value) {U : State} (hU : U.heap = H) (hW : (xs x).WarmedH U.vm) :
    PcE_k (xD x) (xad x) (xaT x) (xaV x) H.size avs w ((avs.map (cvv (xad x))).toArray) U := by
  refine ⟨rfl, by rw [hU], by rw [hU]; exact hP, va_K.moved hW.alike hx.kk, hx.ad.mono hS.1, ?_⟩
  rw [hU]
  exact ((hx.xe.kept hS.2.1).narrow fun q hq => hq.elim Or.inl (fun h => Or.inr (Nat.le_trans hS.1 h))).warm hW
theorem E_run_k {r r2 : aO} {mc2 : Nat} {H : Heap} {locs : List Loc} {ls : Array Slot} {st0 rest : List Value} {As : Array Value} (hx : CxOK_k x own cc nL dp mc ret)
    (hr : vx_Run (xp x) (xl x) (xe x) (xRm x) (xs x) (xm x) (xa x) (xb x) (xme x) (xc x) H locs j (6 * j) mc2 (6 * mc2) (F0 (xm x) pc ls st0) rest (QcE_k (xD x) (xad x) (xaT x) r2 As) (XcE_k (xD x) (xad x) (xaT x) r2) (aA_k (xad x) H.size)) (hS : va_S (xA_k x) (xs x).heap H locs) (hj : j + mc2 ≤ mc)
    (kk : ∀ v, r2.1 = .inl v → ∀ (H1 : Heap) (locs1 : List Loc), va_P (xD x) vwCl (conc_k (xad x) (xaT x) r2.2) H1 → va_S (xA_k x) (xs x).heap H1 locs1 → W (xp x) (xl x) (xe x) (xRm x) (xs x) (xm x) (xa x) (xb x) (xme x) (xc x) H1 locs1 (j + mc2) (6 * (j + mc2)) (Qm_k x mc r) (F0 (xm x) (pc + 3) ls ((v.map (cvv (xad x))).toList ++ rest)))
    (kx : ∀ E, r2.1 = .inr E → r = r2) : W (xp x) (xl x) (xe x) (xRm x) (xs x) (xm x) (xa x) (xb x) (xme x) (xc x) H locs j (6 * j) (Qm_k x mc r) (F0 (xm x) pc ls st0) := by
  intro U hU X
  have hA : ∀ q, q < H.size → aA_k (xad x) H.size q → xA_k x q := fun q h1 h2 => h2.elim Or.inl (fun h => absurd h (Nat.not_le.mpr h1))
  have hf : ∀ q, aA_k (xad x) H.size q → xA_k x q := fun q h => h.elim Or.inl (fun h => Or.inr (Nat.le_trans hS.1 h))
  rcases hr U hU X with ⟨v, st₀, t, T', Lc, h0, X', hL, e1, e2, ⟨⟨v2, hv2, ho⟩, hP, hF⟩, sp⟩ | ⟨q, st₀, t, T', Lc, E, ce, h0, X', hL, e1, e2, ⟨hE, hP, hF⟩, hce, hcv, hcl, sp⟩
  · cases ho
    rw [h0] at hF
    obtain ⟨k1, k2, k3⟩ := vx_keep h0 e1 hS hA hf hL hF
    obtain ⟨t2, a1, b1⟩ := kk v2 hv2 T'.heap (locs ++ Lc) (by rw [e1]; exact hP) k3 T' rfl (by rw [Nat.mul_add]; exact X')
    exact ⟨t2, sp t2 a1, b1⟩
  · rw [h0] at hF
    obtain ⟨k1, k2, k3⟩ := vx_keep h0 e1 hS hA hf hL hF
    have e9 := kx E hE
    subst e9
    obtain ⟨t2, a1, b1⟩ := vx_out (Qc := QcE_k (xD x) (xad x) (xaT x) r) (XC := XcE_k (xD x) (xad x) (xaT x) r) (below := xb x) (free := xA_k x) (pc := pc) (ls := ls) (rest := rest) (E := E) (q := q) (mc := mc) (ms := 6 * mc) (s := xs x) (fun z hz => (hx.nx z hz).elim) hx.lk (H := T'.heap) (by rw [e1]; exact hce) hcv hcl
      (fun t9 h9 _ => ⟨hE, by rw [h9, e1]; exact hP, k3.F h9⟩) k3.2.2 (Nat.le_trans (Nat.le_refl _) hj) (by rw [← Nat.mul_add]; exact Nat.mul_le_mul_left 6 hj) T' rfl X'
    exact ⟨t2, sp.trans a1, b1⟩
theorem Gw_ws_k (hx : CxOK_k x own cc nL dp mc ret) {y : MethodName} {cc2 : ByteArray} {nL2 : Nat} {ret2 : Option FieldType} (hc : Cond.code y cc2 nL2 ret2 ∈ Gw) : ∀ w ∈ (Cond.code y cc2 nL2 ret2 :: Gw), ∀ (a' : Array Value) (U : State), (xs x).WarmedH U.vm → w.before a' U = true := by
  intro v hv a' U hW
  have h : v ∈ Gw := by
    rcases List.mem_cons.mp hv with h | h
    · rw [h]; exact hc
    · exact h
  exact word_at hW (good_of_word (gw_good v h)) (hx.ts v h)
theorem rmd_room_k (hx : CxOK_k x own cc nL dp mc ret) {dp2 mc2 nL2 : Nat} (hd : dp2 + 1 ≤ dp) (hn : nL2 ≤ 20) : (rmd dp2 mc2).frames + 1 ≤ (xRm x).frames ∧ 8 + (nL2 + 11) + (rmd dp2 mc2).locals ≤ (xRm x).locals := by
  rw [hx.rm]
  exact ⟨hd, by show 8 + (nL2 + 11) + 39 * dp2 ≤ 39 * dp; omega⟩
theorem rmd_cells_k (hx : CxOK_k x own cc nL dp mc ret) {mc2 : Nat} (hj : j + mc2 ≤ mc) : j + mc2 ≤ (xRm x).cells ∧ 6 * j + 6 * mc2 ≤ (xRm x).slots := by
  rw [hx.rm]
  exact ⟨hj, by show 6 * j + 6 * mc2 ≤ 6 * mc; omega⟩
theorem E_callV_k {T2 : Type} {X2 : Option T2} {cv2 : T2 → aO} {K : T2 → Option T} (hx : CxOK_k x own cc nL dp mc ret) {y : MethodName} {C : String} {cc2 : ByteArray} {nL2 dp2 mc2 ix n : Nat} {ret2 : Option FieldType} {ci N : Nat} {Tt : u_T} {b : Nat} (As : List Value) (st : List Value) {sk : List Value}
    (hE : Ev_k y cc2 nL2 ret2 dp2 mc2 cv2 (.ref b :: As) w X2) (hm : VMet y C cc2 nL2 ret2 n) (fc : fcl ci C Tt N) (hb : shK_k b = 10 + ci) (g : Cond.methodLink own ix y ∈ Gw) (d : decode cc pc = .ok (.invokevirtual ix, 3)) (hs : sk = As.reverse ++ .ref b :: st) (hn : As.length = n) (hst : (st.map fun v => v.category).sum ≤ 8) (hdp : dp2 + 1 ≤ dp) (hj : j + mc2 ≤ mc)
    (kk : ∀ r2, X2 = some r2 → ∀ v, (cv2 r2).1 = .inl v → En_k x cv mc (j + mc2) (pc + 3) L (v.toList ++ st) (cv2 r2).2 (K r2))
    (kx : ∀ r2, X2 = some r2 → ∀ E, (cv2 r2).1 = .inr E → ∀ r, K r2 = some r → cv r = cv2 r2) : En_k x cv mc j pc L sk w (X2.bind K) := by
  intro t ht H locs ls hP hS hl
  subst hs
  obtain ⟨r2, h2, h3⟩ := Option.bind_eq_some_iff.mp ht
  obtain ⟨m1, m2, m3, m4, m5, m6, m7⟩ := hm
  have hM := hE r2 h2 (xl x) hx.tr (xD x) (xad x) (xaT x) (xaV x) H.size
  have hsk : ((As.reverse ++ .ref b :: st).map (cvv (xad x))) = (As.map (cvv (xad x))).reverse ++ .ref (xad x b) :: st.map (cvv (xad x)) := by
    rw [List.map_append, List.map_reverse]; rfl
  have hr := vx_runV (p := xp x) (e := xe x) (R := xRm x) (below := xb x) (meth := xme x) (H := H) (locs := locs) (cells := j) (slots := 6 * j) (b := xad x b) (As := As.map (cvv (xad x))) (rest := st.map (cvv (xad x))) (C := C) (own := own) (index := ix) (n := n) (g := F0 (xm x) pc ls ((As.reverse ++ .ref b :: st).map (cvv (xad x)))) (S := (⟨hx.ex, hx.bs, hx.ml, hx.ow, hx.ts⟩ : CallFix (xp x) (xm x) (xc x) cc nL (xs x) (xa x) Gw own)) hM
    (cw := ⟨⟨rfl, rfl, (rmd_room_k hx hdp m7).1, (rmd_room_k hx (mc2 := mc2) hdp m7).2, Gw_ws_k hx m4, List.mem_cons_self, hx.ts _ m4, hx.ts _ m3, m5, hx_par m6, hx.ts _ g⟩, hx.ts _ m1, hx.ts _ m2⟩)
    ⟨PcE_blind_k, va_recv hx.kk hP fc.1 (q0 := b) (ci := ci) (a := xad x b) (by rw [conc_get_k (shK_lt_k hb (by omega)), cve_obj_k hb]), fun U hU hW => PcE_at_k hx hP hS (.ref b :: As) hU hW⟩
    rfl (by rw [List.length_map]; exact hn) (by show ls.size = nL; rw [← hx.ml]; exact hl.1) hsk (by rw [cvv_cats]; exact (show 2 * 0 + _ ≤ 8 by omega)) d (rmd_cells_k hx hj)
  refine E_run_k hx hr hS hj (fun v hv H1 locs1 hP1 hS1 => ?_) (fun E hE1 => kx r2 h2 E hE1 t h3)
  have h9 := kk r2 h2 v hv t h3 H1 locs1 ls hP1 hS1 hl
  have e9 : (v.toList ++ st).map (cvv (xad x)) = (v.map (cvv (xad x))).toList ++ st.map (cvv (xad x)) := by
    rw [List.map_append]; cases v <;> rfl
  rw [e9] at h9
  exact h9
theorem E_callS_k {T2 : Type} {X2 : Option T2} {cv2 : T2 → aO} {K : T2 → Option T} (hx : CxOK_k x own cc nL dp mc ret) {y : MethodName} {cc2 : ByteArray} {nL2 dp2 mc2 ix n : Nat} {ret2 : Option FieldType} (As : List Value) (st : List Value) {sk : List Value}
    (hE : Ev_k y cc2 nL2 ret2 dp2 mc2 cv2 As w X2) (hm : SMet y cc2 nL2 ret2 n) (g : Cond.methodLink own ix y ∈ Gw) (d : decode cc pc = .ok (.invokestatic ix, 3)) (hs : sk = As.reverse ++ st) (hn : As.length = n) (hst : (st.map fun v => v.category).sum ≤ 8) (hdp : dp2 + 1 ≤ dp) (hj : j + mc2 ≤ mc)
    (kk : ∀ r2, X2 = some r2 → ∀ v, (cv2 r2).1 = .inl v → En_k x cv mc (j + mc2) (pc + 3) L (v.toList ++ st) (cv2 r2).2 (K r2))
    (kx : ∀ r2, X2 = some r2 → ∀ E, (cv2 r2).1 = .inr E → ∀ r, K r2 = some r → cv r = cv2 r2) : En_k x cv mc j pc L sk w (X2.bind K) := by
  intro t ht H locs ls hP hS hl
  subst hs
  obtain ⟨r2, h2, h3⟩ := Option.bind_eq_some_iff.mp ht
  obtain ⟨m1, m3, m4, m5, m6, m7⟩ := hm
  have hM := hE r2 h2 (xl x) hx.tr (xD x) (xad x) (xaT x) (xaV x) H.size
  have hsk : ((As.reverse ++ st).map (cvv (xad x))) = (As.map (cvv (xad x))).reverse ++ st.map (cvv (xad x)) := by
    rw [List.map_append, List.map_reverse]
  have hr := vx_runS (p := xp x) (e := xe x) (R := xRm x) (below := xb x) (meth := xme x) (H := H) (locs := locs) (cells := j) (slots := 6 * j) (As := As.map (cvv (xad x))) (rest := st.map (cvv (xad x))) (own := own) (index := ix) (n := n) (g := F0 (xm x) pc ls ((As.reverse ++ st).map (cvv (xad x)))) (S := (⟨hx.ex, hx.bs, hx.ml, hx.ow, hx.ts⟩ : CallFix (xp x) (xm x) (xc x) cc nL (xs x) (xa x) Gw own)) hM
    (cw := ⟨⟨rfl, rfl, (rmd_room_k hx hdp m7).1, (rmd_room_k hx (mc2 := mc2) hdp m7).2, Gw_ws_k hx m4, List.mem_cons_self, hx.ts _ m4, hx.ts _ m3, m5, hx_par m6, hx.ts _ g⟩, hx.ts _ m1⟩)
    ⟨PcE_blind_k, fun U hU hW => PcE_at_k hx hP hS As hU hW⟩
    rfl (by rw [List.length_map]; exact hn) (by show ls.size = nL; rw [← hx.ml]; exact hl.1) hsk (by rw [cvv_cats]; exact (show 2 * 0 + _ ≤ 8 by omega)) d (rmd_cells_k hx hj)
  refine E_run_k hx hr hS hj (fun v hv H1 locs1 hP1 hS1 => ?_) (fun E hE1 => kx r2 h2 E hE1 t h3)
  have h9 := kk r2 h2 v hv t h3 H1 locs1 ls hP1 hS1 hl
  have e9 : (v.toList ++ st).map (cvv (xad x)) = (v.map (cvv (xad x))).toList ++ st.map (cvv (xad x)) := by
    rw [List.map_append]; cases v <;> rfl
  rw [e9] at h9
  exact h9
end Calls4
