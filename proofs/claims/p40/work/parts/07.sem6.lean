/-! ===== throws of the class ===== -/
abbrev xUp : List String := ["java/lang/RuntimeException", "java/lang/Exception"]
def xBad (cls : String) : List Cond := Cond.castable cls cls :: xDecl.map Cond.declares
def xthr (cls : String) (ik ic : Nat) : Prop := cls ∈ xExn ∧ Bundle.fit cls = true ∧ (∀ v ∈ (vx_atS "WhistlePosts" ic cls xUp).filter goodWord, v ∈ Gw) ∧ (∀ v ∈ (vx_atS "WhistlePosts" ic cls xUp).filter (fun v => !goodWord v), v ∈ xBad cls) ∧ (∀ v ∈ Cond.classLink "WhistlePosts" ik cls :: Cond.initialized cls :: vx_atS "WhistlePosts" ic cls xUp, vx_ot v = true) ∧ Cond.classLink "WhistlePosts" ik cls ∈ Gw ∧ Cond.initialized cls ∈ Gw
theorem xthr.of {cls : String} {ik ic : Nat} (h1 : cls ∈ xExn) (h2 : Bundle.fit cls = true) (h3 : ∀ v ∈ (vx_atS "WhistlePosts" ic cls xUp).filter goodWord, v ∈ lw_tbl) (h4 : ∀ v ∈ (vx_atS "WhistlePosts" ic cls xUp).filter (fun v => !goodWord v), v ∈ xBad cls) (h5 : ∀ v ∈ Cond.classLink "WhistlePosts" ik cls :: Cond.initialized cls :: vx_atS "WhistlePosts" ic cls xUp, vx_ot v = true) (h6 : Cond.classLink "WhistlePosts" ik cls ∈ Gw) (h7 : Cond.initialized cls ∈ Gw) : xthr cls ik ic :=
  ⟨h1, h2, fun v hv => List.mem_filter.mpr ⟨h3 v hv, (List.mem_filter.mp hv).2⟩, h4, h5, h6, h7⟩
section Thr
variable {T : Type} {x : Cx} {cv : T → aO} {cc : ByteArray} {nL dp mc j pc : Nat} {ret : Option FieldType} {L : List (Nat × Value)} {st : List Value} {w : aW} {X Y : Option T}
theorem xthr.hat {own : String} (hx : CxOK x own cc nL dp mc ret) {cls : String} {ik ic : Nat} (h : xthr cls ik ic) : ∀ v ∈ vx_atS "WhistlePosts" ic cls xUp, v.before (xa x) (xs x) = true := by
  refine vx_hat (B := xBad cls) (fun v hv => hx.ts v (h.2.2.1 v hv)) h.2.2.2.1 (fun v hv => ?_)
  rcases List.mem_cons.mp hv with rfl | hv
  · exact va_Nw.use rfl (hx.xe.2.2.1.2.2.2 cls h.1)
  · obtain ⟨y, hy, rfl⟩ := List.mem_map.mp hv
    exact va_Nw.use rfl (hx.xe.2.2.1.2.2.1 y hy)
theorem E_thr (hx : CxOK x "WhistlePosts" cc nL dp mc ret) {cls text : String} {ik is ic i : Nat} {r : T} (h : xthr cls ik ic) (hs : ("WhistlePosts", is, text, i) ∈ xStr) (d0 : decode cc pc = .ok (.new ik, 3)) (d3 : decode cc (pc + 3) = .ok (.dup, 1)) (d4 : decode cc (pc + 4) = .ok (.ldc is, 2)) (d6 : decode cc (pc + 6) = .ok (.invokespecial ic, 3)) (d9 : decode cc (pc + 9) = .ok (.athrow, 1)) (hdp : 6 ≤ dp) (hst : (st.map fun v => v.category).sum ≤ 8) (hj : j + 1 ≤ mc) (hc : cv r = (.inr cls, w)) : En x cv mc j pc L st w (some r) := by
  intro t ht H locs ls hP hS hl
  cases ht
  have hz := hx.xe.2.2.2
  refine vx_throwS (A := xA x) hx.ex hx.bs hx.tr hx.ow h.2.1 (names := xUp) (by decide) (hx.ts _ h.2.2.2.2.2.1) (hx.ts _ h.2.2.2.2.2.2) (hx.xe.2.1 _ hs) (h.hat hx) h.2.2.2.2.1 hz.1 hz.2.1 hS hl.1 d0 d3 d4 d6 d9 (fun z hz => (hx.nx z hz).elim) (by rw [hx.rm]; show 2 + 3 < dp; omega) (by rw [hx.rm, cvv_cats]; show _ + (13 * (2 + 1) + 43) ≤ 39 * dp; omega) (by rw [hx.rm]; exact hj) (by rw [hx.rm]; show 6 * j + 6 ≤ 6 * mc; omega) hx.lk ?_ hS.2.2 hj (by omega)
  intro u _ hu1 hu2
  refine ⟨by rw [hc], ?_, Nat.le_trans hS.1 hu1, fun q h1 h2 => by rw [hu2 q (Nat.lt_of_lt_of_le h1 hS.1)]; exact hS.2.1 q h1 h2⟩
  rw [hc]
  exact ⟨hP.1.kept (fun k q hk => hu2 q.1 (hP.1 k q hk).lt), hP.2⟩
theorem E_thrw (hx : CxOK x "WhistlePosts" cc nL dp mc ret) {cls text : String} {ik is ic i : Nat} {r : T} (h : xthr cls ik ic) (hs : ("WhistlePosts", is, text, i) ∈ xStr) (d0 : decode cc pc = .ok (.new ik, 3)) (d3 : decode cc (pc + 3) = .ok (.dup, 1)) (d4 : decode cc (pc + 4) = .ok (.ldc_w is, 3)) (d7 : decode cc (pc + 7) = .ok (.invokespecial ic, 3)) (d10 : decode cc (pc + 10) = .ok (.athrow, 1)) (hdp : 6 ≤ dp) (hst : (st.map fun v => v.category).sum ≤ 8) (hj : j + 1 ≤ mc) (hc : cv r = (.inr cls, w)) : En x cv mc j pc L st w (some r) := by
  intro t ht H locs ls hP hS hl
  cases ht
  have hz := hx.xe.2.2.2
  refine vx_throwSW (A := xA x) hx.ex hx.bs hx.tr hx.ow h.2.1 (names := xUp) (by decide) (hx.ts _ h.2.2.2.2.2.1) (hx.ts _ h.2.2.2.2.2.2) (hx.xe.2.1 _ hs) (h.hat hx) h.2.2.2.2.1 hz.1 hz.2.1 hS hl.1 d0 d3 d4 d7 d10 (fun z hz => (hx.nx z hz).elim) (by rw [hx.rm]; show 2 + 3 < dp; omega) (by rw [hx.rm, cvv_cats]; show _ + (13 * (2 + 1) + 43) ≤ 39 * dp; omega) (by rw [hx.rm]; exact hj) (by rw [hx.rm]; show 6 * j + 6 ≤ 6 * mc; omega) hx.lk ?_ hS.2.2 hj (by omega)
  intro u _ hu1 hu2
  refine ⟨by rw [hc], ?_, Nat.le_trans hS.1 hu1, fun q h1 h2 => by rw [hu2 q (Nat.lt_of_lt_of_le h1 hS.1)]; exact hS.2.1 q h1 h2⟩
  rw [hc]
  exact ⟨hP.1.kept (fun k q hk => hu2 q.1 (hP.1 k q hk).lt), hP.2⟩
end Thr
