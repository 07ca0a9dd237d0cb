/-! ===== the law's body: the text is told ===== -/
theorem Sx.swap {D : va_G} {A : Nat → Prop} {H0 H : Heap} {w1 w2 : va_W} {locs : List Loc} (h : Sx D A H0 (w1 ++ w2) H locs) : Sx D A H0 (w2 ++ w1) H locs := by
  obtain ⟨hP, hD, hS⟩ := h
  refine ⟨?_, ?_, hS⟩
  · rw [va_P_mem] at hP ⊢
    intro q hq
    refine hP q (List.mem_append.mpr ((List.mem_append.mp hq).symm))
  · refine va_D_of ?_ (fun q hq => ?_)
    · have h1 := va_D_nd hD
      rw [List.map_append] at h1 ⊢
      exact (List.perm_append_comm.nodup_iff).mp h1
    · rcases List.mem_append.mp hq with h1 | h1
      · obtain ⟨i, hi⟩ := List.getElem?_of_mem h1
        exact hD.2 (w1.length + i) q (by rw [List.getElem?_append_right (Nat.le_add_right _ _), Nat.add_sub_cancel_left]; exact hi)
      · obtain ⟨i, hi⟩ := List.getElem?_of_mem h1
        exact hD.2 i q (by rw [List.getElem?_append_left (List.getElem?_eq_some_iff.mp hi).1]; exact hi)
section LT
variable {p : Program} {l : Launch} {e : Env} {R : Room} {s : State} {m : MethodId} {args : Array Value} {below : List Frame} {meth : Method} {c : Code} {H H0 : Heap} {locs : List Loc} {cells slots : Nat} {Q : State → Prop}
variable {D : va_G} {ad adV : Nat → Nat} {aT : Nat → ClassId} {N : Nat} {A : Nat → Prop} {z : aI} {w : aW} {X : va_W} {own : String} {cc : ByteArray} {nL pc : Nat} {ls : Array Slot} {cB : ClassId} {ret : Option FieldType} {rest : List Value}
/-- a String of the world, seen as one that stays -/
theorem FS_of (hB : BxC p s m args meth c own cc nL ret D cB A) {ws : va_W} (hS : Sx D A s.heap ws H locs) {q a n : Nat} {g : Nat → Int32} (q0 q1 : Nat) (h0 : ws[q0]? = some (q, .inr (0, [.ref a, .int 0, .int 0, .int 0]))) (h1 : ws[q1]? = some (a, .inl (cB, n, .inl g))) {A2 : Nat → Prop} (hA : ¬ A2 q ∧ ¬ A2 a) {bs : List Int32} (hn : bs.length = n) (hg : ∀ j, j < n → g j = bs.getD j 0) : FS q a bs A2 s H := by
  obtain ⟨r, hr, cell, e1, e2, e3, e4⟩ := hS.1 q0 _ h0
  have hr2 : r = (RJ0, TJ0, 4) := Option.some.inj (hr.symm.trans rfl)
  subst hr2
  have hK := hB.2.2.2.2.2.2.2.1.1 0 (RJ0, TJ0, 4) rfl
  obtain ⟨hsl, hfc, kC, hkC, hkind⟩ := hK
  have fld : ∀ k, k < 4 → ∀ v, vp_V [.ref a, .int 0, .int 0, .int 0] k = v → va_OF (TJ0 k).1 (TJ0 k).2.1 (TJ0 k).2.2.1 v q A2 s H := by
    intro k hk v hv
    obtain ⟨cf, kf, fi, f, hi, hs⟩ := hsl k hk
    refine ⟨cf, kf, fi, f, cell, hi, (u_facts hfc hkC (u_lays hB.2.2.2.2.1 fcS hk) hi).1, e1, (by rw [e3]; intro h; cases h), ?_, hA.1⟩
    rw [hs, ← hv]
    exact e4 k hk
  refine ⟨⟨cell, e1, by rw [e3]; rfl, by rw [e2]; exact hfc, hA.1⟩, fld 1 (by decide) _ rfl, fld 0 (by decide) _ rfl, ?_⟩
  obtain ⟨ca, c1, c2, c3, c4, c5, c6, c7⟩ := B_T hB hS q1 h1 hA.2
  subst hn
  exact ⟨ca, c1, c2, c3, c4, c5, fun j hj => by rw [c6 j hj]; show some (Value.int (g j)) = some (Value.int (bs.getD j 0)); rw [hg j hj], c7⟩
theorem L_ldcW (hx : LxC p l s m args meth c own cc nL D aT [(cB, .byte)] ad adV A) {ix : Nat} {tx : String} (i : Nat) (h : (own, ix, tx, i) ∈ xStr) (d : decode cc pc = .ok (.ldc_w ix, 3)) (kk : W p l e R s m args below meth c H locs cells slots Q (F0 m (pc + 3) ls (.ref (ad (sx i)) :: rest))) : W p l e R s m args below meth c H locs cells slots Q (F0 m pc ls rest) := by
  intro T hT X0
  obtain ⟨t, a1, b1⟩ := kk T hT X0
  have hZ := hx.2.2.2.2.2.2.2.2.1.2.1 _ h
  exact ⟨t, X0.ldcStringW hx.1 hx.2.2.2.1 (text := tx) (a := ad (sx i)) hZ.1 hZ.2 (g := F0 m pc ls rest) rfl (by rw [hx.2.1]; exact d) t a1, b1⟩
theorem L_told (hx : LxC p l s m args meth c RL cc nL D aT [(cB, .byte)] ad adV A) (hV : PVs s) {q a : Nat} {bs : List Int32} {g : Nat → Int32} (hL : Lx D ad aT N A s.heap (cm z) (wST cB q a bs.length g) H locs) (hg : ∀ j, j < bs.length → g j = bs.getD j 0) (hb : Byz bs) (h0 : z 1 1 = 0) (hR : 10 ≤ R.frames ∧ 400 ≤ R.locals) (hcs : cells + 20 ≤ R.cells ∧ slots + 100 ≤ R.slots) (d : decode cc pc = .ok (.invokestatic 264, 3)) (st : List Value) (hst : (st.map fun v => v.category).sum ≤ 8) (hls : ls.size = nL)
    (kk : ∀ (z1 : aI) (H1 : Heap) (locs1 : List Loc), ToE z z1 bs → Lx D ad aT N A s.heap (cm z1) [] H1 locs1 → W p l e R s m args below meth c H1 locs1 (cells + 20) (slots + 100) Q (F0 m (pc + 3) ls st)) : W p l e R s m args below meth c H locs cells slots Q (F0 m pc ls (.ref q :: .ref (ad 0) :: st)) := by
  have hB := bx_of hx hV
  have hS := hL.sx.swap
  obtain ⟨q1, q2, q3, q4, q5, q6, q7, q8, q9, q10⟩ := id hx
  have hNA : ∀ (k : Nat) (y : Nat × va_E), (wST cB q a bs.length g)[k]? = some y → ¬ va_A (conc ad aT N (cm z)) H.size y.1 := by
    intro k y hk
    have hk2 : (wST cB q a bs.length g ++ conc ad aT N (cm z))[k]? = some y := by rw [List.getElem?_append_left (List.getElem?_eq_some_iff.mp hk).1]; exact hk
    have hlt := (hS.1 k y hk2).lt
    have hkl := (List.getElem?_eq_some_iff.mp hk).1
    rintro (⟨j, e9, hj⟩ | hj)
    · have h9 := hS.2.1.1 k ((wST cB q a bs.length g).length + j) y (y.1, e9) hk2 (by rw [List.getElem?_append_right (Nat.le_add_right _ _), Nat.add_sub_cancel_left]; exact hj) rfl
      omega
    · omega
  have hF : FTo D aT ad adV q a bs (va_A (conc ad aT N (cm z)) H.size) s H := ⟨⟨q8.1.sub (tys' := tysA aT) [0, 1, 2] rfl, q8.2⟩, (q9.kept hL.2.2.2.1).narrow (Bsub hS q10), FS_of hB hS 0 1 rfl rfl ⟨hNA 0 _ rfl, hNA 1 _ rfl⟩ rfl hg⟩
  refine B_run (wr := wST cB q a bs.length g) (wc := conc ad aT N (cm z)) (va_runS (As := [.ref (ad 0), .ref q]) (rest := st) (n := 2) ⟨q1, q2, q3, q4, q5⟩ (ct_told l q7 D aT ad adV cB hb hL.1.2.2 hL.1.2.1 h0) ⟨⟨rfl, rfl, hR.1, by show 8 + (5 + 11) + 39 * 9 ≤ _; omega, B_ws q5 g656, List.mem_cons_self, q5 _ g656, q5 _ g26, ⟨by decide +kernel, by decide +kernel⟩, hx_par (by decide +kernel), q5 _ g654⟩, q5 _ g655⟩ ⟨BcP_blind FTo_ok, fun U hU hW => B_at FTo_ok hB.2.2.2.2.2.2.2.1 hB.2.2.2.2.2.2.2.2.2.1 hV q10 hS hF [.ref (ad 0), .ref q] hU hW⟩ rfl rfl hls rfl (by show 2 * 0 + _ ≤ 8; omega) d hcs) hS q10 (fun v w1 H1 locs1 hp hS1 => ?_)
  obtain ⟨rfl, z1, hz, rfl⟩ := hp
  refine kk z1 H1 locs1 hz ?_
  have h9 : nW (cm z1) = N := nW_of (w := cm z) (by funext k; show oI (z1 999 k) = oI (z 999 k); rw [hz.2.2.1 999 (by decide) (by decide)]) hL.1.2.1
  have hL1 : Lx D ad aT N A s.heap (cm z1) (wST cB q a bs.length g) H1 locs1 := ⟨⟨hS1.swap.1, h9, hL.1.2.2⟩, hS1.swap.2.1, hS1.2.2⟩
  exact hL1.nil
end LT
