/-! ===== the same in the world of the class alone: 07.sem6 ===== -/
theorem xthr_k.of {cls : String} {ik ic : Nat} (h1 : cls ∈ xExn) (h2 : Bundle.fit cls = true) (h3 : ∀ v ∈ (vx_atS "WhistlePosts" ic cls xUp).filter goodWord, v ∈ lw_tbl) (h4 : ∀ v ∈ (vx_atS "WhistlePosts" ic cls xUp).filter (fun v => !goodWord v), v ∈ xBad cls) (h5 : ∀ v ∈ Cond.classLink "WhistlePosts" ik cls :: Cond.initialized cls :: vx_atS "WhistlePosts" ic cls xUp, vx_ot v = true) (h6 : Cond.classLink "WhistlePosts" ik cls ∈ Gw) (h7 : Cond.initialized cls ∈ Gw) : xthr cls ik ic :=
  ⟨h1, h2, fun v hv => List.mem_filter.mpr ⟨h3 v hv, (List.mem_filter.mp hv).2⟩, h4, h5, h6, h7⟩
section Thr
variable {T : Type} {x : Cx} {cv : T → aO} {cc : ByteArray} {nL dp mc j pc : Nat} {ret : Option FieldType} {L : List (Nat × Value)} {st : List Value} {w : aW} {X Y : Option T}
end Thr
