/-! ===== arrays of arrays are made: the law's constructor ===== -/
section KA2
variable {p : Program} {l : Launch} {e : Env} {R : Room} {s : State} {m : MethodId} {args : Array Value} {below : List Frame} {meth : Method} {c : Code} {H : Heap} {locs : List Loc} {cells slots : Nat} {Q : State → Prop}
variable {D : va_G} {aT : Nat → ClassId} {A : Nat → Prop} {ws Y : va_W} {own : String} {cc : ByteArray} {nL pc : Nat} {ls : Array Slot} {rest : List Value}
theorem K_newA (hx : KxC p s m args meth c own cc nL D aT A) (hO : va_AOA .int s) (hS : Sx D A s.heap ws H locs) {n : Int32} {N' ix : Nat} (hn : ¬ n < 0) (hN : n.toNatClampNeg = N') (hbytes : N' * 4 ≤ 536870912) (g : Cond.classLink own ix (FieldType.array .int).toString ∈ Gw) (hj : cells + 1 ≤ R.cells ∧ slots + N' ≤ R.slots) (d : decode cc pc = .ok (.anewarray ix, 3))
    (kk : ∀ (q : Nat) (H1 : Heap), Sx D A s.heap (ws ++ [(q, .inl (aT 2, N', .inr (.inr (.inr (.inr fun _ => none)))))]) H1 locs → W p l e R s m args below meth c H1 locs (cells + 1) (slots + N') Q (F0 m (pc + 3) ls (.ref q :: rest))) : W p l e R s m args below meth c H locs cells slots Q (F0 m pc ls (.int n :: rest)) := by
  obtain ⟨q1, q2, q3, q4, q5, q6, q7, q8, q9, q10, q11⟩ := hx
  obtain ⟨hP, hD, hSS⟩ := hS
  subst hN
  refine W.anewA q1 q2 q4 (q5 _ g) (va_AOA.use hO) rfl d rfl hn hbytes hj.1 hj.2 fun cA kA comp f1 f2 f3 f4 => ?_
  have h2 : s.vm.findClass ("[" ++ (FieldType.array .int).toString) = some (aT 2) := (q9.2 2 (aT 2, .array .int) rfl).2
  have e : cA = aT 2 := Option.some.inj (f1.symm.trans h2)
  subst e
  generalize hH1 : H.push ({ cls := aT 2, slots := Array.replicate n.toNatClampNeg .null, vm := .none } : Cell) = H1
  have z1 : H1.size = H.size + 1 := by rw [← hH1, Array.size_push]
  have e1 : H1[H.size]? = some (arrV (aT 2) n.toNatClampNeg (fun _ => .null)) := by rw [← hH1, Array.getElem?_push_size, ← arrV_new]
  have o1 : ∀ q : Nat, q < H.size → H1[q]? = H[q]? := fun q hq => by rw [← hH1, Array.getElem?_push, if_neg (Nat.ne_of_lt hq)]
  refine kk H.size H1 ⟨(hP.kept (fun k x hx => o1 x.1 ((hP k x hx).lt))).app (fun k x hx => ?_), hD.push hP rfl (q10 _ hSS.1), Nat.le_trans hSS.1 (by omega), fun x h1 h2 => (o1 x (Nat.lt_of_lt_of_le h1 hSS.1)).trans (hSS.2.1 x h1 h2), hSS.2.2⟩
  have hz : k < 1 := (List.getElem?_eq_some_iff.mp hx).1
  rw [show k = 0 by omega] at hx
  cases hx
  show H1[H.size]? = some (vp_cell _ _)
  rw [vp_cell_q]
  exact e1
theorem K_mna (hx : KxC p s m args meth c own cc nL D aT A) (hO : va_AOA .int s) (hS : Sx D A s.heap ws H locs) {ix : Nat} (g : Cond.classLink own ix ("[" ++ (FieldType.array .int).toString) ∈ Gw) (g2 : Cond.arrayClass .int ∈ Gw) (hj : cells + (1 + 5) ≤ R.cells ∧ slots + (5 + 5 * 5) ≤ R.slots) (d : decode cc pc = .ok (.multianewarray ix 2, 4))
    (kk : ∀ (q : Nat) (r : Nat → Nat) (H1 : Heap), Sx D A s.heap (ws ++ (q, .inl (aT 2, 5, .inr (.inr (.inr (.inr fun i => if i < 5 then some (r i) else none))))) :: (List.range 5).map (fun i => (r i, .inl (aT 0, 5, .inl fun _ => 0)))) H1 locs → W p l e R s m args below meth c H1 locs (cells + 1 + 5) (slots + 5 + 5 * 5) Q (F0 m (pc + 4) ls (.ref q :: rest))) : W p l e R s m args below meth c H locs cells slots Q (F0 m pc ls (.int 5 :: .int 5 :: rest)) := by
  obtain ⟨q1, q2, q3, q4, q5, q6, q7, q8, q9, q10, q11⟩ := hx
  obtain ⟨hP, hD, hSS⟩ := hS
  have e0 : ws ++ va_pl [] (fun _ => (.inr (0, []) : va_E)) = ws := List.append_nil ws
  have hcy : s.vm.findClass (FieldType.array .int).toString = some (aT 0) := (q9.2 0 (aT 0, .int) rfl).2
  refine va_mna (X := ws) (L := []) (f := fun _ => .inr (0, [])) (ty := .int) (N' := 5) (K' := 5) (z := (5, .inl fun _ => 0)) q1 q2 q4 (q5 _ g) hO (q5 _ g2) hcy q9 (by rw [e0]; exact hP) (by rw [e0]; exact hD) hSS q10 (by decide) (by decide) (by decide) (by decide) (by decide) (by decide) (by decide) (by decide) (by decide) hj.1 hj.2 (fun c => rfl) d (fun q r cA H1 hr hr2 hK4 hP4 hD4 hS4 => ?_)
  have h2 : s.vm.findClass ("[" ++ (FieldType.array .int).toString) = some (aT 2) := (q9.2 2 (aT 2, .array .int) rfl).2
  have h3 : s.vm.findClass ("[" ++ (FieldType.array .int).toString) = some cA := (hK4.2 3 (cA, .array .int) rfl).2
  have e : cA = aT 2 := Option.some.inj (h3.symm.trans h2)
  subst e
  have er : va_pl ([] ++ (List.range 5).map r) (vr_up (fun _ => (.inr (0, []) : va_E)) ((List.range 5).map r) (.inl (aT 0, (5, .inl fun _ => 0)))) = (List.range 5).map (fun i => (r i, (.inl (aT 0, 5, .inl fun _ => 0) : va_E))) := by
    unfold va_pl
    rw [List.nil_append, List.map_map]
    refine List.map_congr_left fun i hi => ?_
    show (r i, vr_up _ _ _ (r i)) = _
    rw [vr_up_in (List.mem_map.mpr ⟨i, hi, rfl⟩)]
  rw [er, List.append_assoc] at hP4 hD4
  exact kk q r H1 ⟨hP4, hD4, hS4⟩
end KA2
