/-! ===== the law's body: what is beside the fixed cells ===== -/
theorem va_K.cat {D : va_G} {cl : List vw_C} {t1 t2 : List (ClassId × FieldType)} {U : State} (h1 : va_K D cl t1 U) (h2 : va_K D cl t2 U) : va_K D cl (t1 ++ t2) U := by
  refine ⟨h1.1, fun k q hk => ?_⟩
  by_cases c : k < t1.length
  · rw [List.getElem?_append_left c] at hk
    exact h1.2 k q hk
  · rw [List.getElem?_append_right (by omega)] at hk
    exact h2.2 _ q hk
section LZ
variable {p : Program} {l : Launch} {e : Env} {R : Room} {s : State} {m : MethodId} {args : Array Value} {below : List Frame} {meth : Method} {c : Code} {H H0 : Heap} {locs : List Loc} {cells slots : Nat} {Q : State → Prop}
variable {D : va_G} {ad adV : Nat → Nat} {aT : Nat → ClassId} {N : Nat} {A : Nat → Prop} {w : aW} {X : va_W} {tys : List (ClassId × FieldType)} {own : String} {cc : ByteArray} {nL pc : Nat} {ls : Array Slot} {rest : List Value} {cB : ClassId}
theorem bx_of (hx : LxC p l s m args meth c own cc nL D aT [(cB, .byte)] ad adV A) (hV : PVs s) : BxC p s m args meth c own cc nL meth.sig.returnType D cB A := by
  obtain ⟨q1, q2, q3, q4, q5, q6, q7, q8, q9, q10⟩ := hx
  exact ⟨q1, q2, q3, q4, q5, q6, rfl, q8.1.sub (tys' := [(cB, .byte)]) [3] rfl, q10, q9.2.2.2.2.2.1, hV⟩
theorem Lx.sx (h : Lx D ad aT N A H0 w X H locs) : Sx D A H0 (conc ad aT N w ++ X) H locs := ⟨h.1.1, h.2.1, h.2.2⟩
theorem Lx.of {X1 : va_W} {H1 : Heap} {locs1 : List Loc} (h : Lx D ad aT N A H0 w X H locs) (k : Sx D A H0 (conc ad aT N w ++ X1) H1 locs1) : Lx D ad aT N A H0 w X1 H1 locs1 := ⟨⟨k.1, h.1.2⟩, k.2.1, k.2.2⟩
theorem Lx.nil (h : Lx D ad aT N A H0 w X H locs) : Lx D ad aT N A H0 w [] H locs := by
  obtain ⟨⟨hP, hw, hN, h8⟩, hD, hS⟩ := h
  have hl : ∀ (k : Nat) (q : Nat × va_E), (conc ad aT N w ++ [])[k]? = some q → (conc ad aT N w ++ X)[k]? = some q := fun k q hk => by
    rw [List.append_nil] at hk
    rw [List.getElem?_append_left (List.getElem?_eq_some_iff.mp hk).1]
    exact hk
  exact ⟨⟨fun k q hk => hP k q (hl k q hk), hw, hN, h8⟩, ⟨fun i j x y hi hj q => hD.1 i j x y (hl i x hi) (hl j y hj) q, fun k q hk => hD.2 k q (hl k q hk)⟩, hS⟩
theorem L_xld (hx : LxC p l s m args meth c own cc nL D aT tys ad adV A) (hL : Lx D ad aT N A s.heap w X H locs) (k0 : Nat) {q n : Nat} {f : Nat → Int32} (hk : X[k0]? = some (q, .inl (aT 0, n, .inl f))) {i : Nat} {v : Int32} (hv : v = nI i) (hi : i < n) (hn : n ≤ 65536) (d : decode cc pc = .ok (.iaload, 1))
    (kk : W p l e R s m args below meth c H locs cells slots Q (F0 m (pc + 1) ls (.int (f i) :: rest))) : W p l e R s m args below meth c H locs cells slots Q (F0 m pc ls (.int v :: .ref q :: rest)) := by
  subst hv
  refine va_iald hx.1 hx.2.1 hx.2.2.2.2.2.2.2.1.1 hL.1.1 (N + k0) 0 (by rw [cx_r]; exact hk) rfl (vp_in_nI hi (by omega)) d ?_
  rw [nI_clamp (by omega)]
  exact kk
theorem L_xst (hx : LxC p l s m args meth c own cc nL D aT tys ad adV A) (hL : Lx D ad aT N A s.heap w X H locs) (k0 : Nat) {q n : Nat} {f : Nat → Int32} (hk : X[k0]? = some (q, .inl (aT 0, n, .inl f))) {i : Nat} {v x : Int32} (hv : v = nI i) (hi : i < n) (hn : n ≤ 65536) (d : decode cc pc = .ok (.iastore, 1))
    (kk : ∀ (H1 : Heap) (locs1 : List Loc), Lx D ad aT N A s.heap w (X.set k0 (q, .inl (aT 0, n, .inl (upd f i x)))) H1 locs1 → W p l e R s m args below meth c H1 locs1 cells slots Q (F0 m (pc + 1) ls rest)) : W p l e R s m args below meth c H locs cells slots Q (F0 m pc ls (.int x :: .int v :: .ref q :: rest)) := by
  subst hv
  refine va_iast hx.1 hx.2.1 hx.2.2.2.2.2.2.2.1.1 hL.1.1 hL.2.1 hL.2.2 (N + k0) 0 (by rw [cx_r]; exact hk) rfl (vp_in_nI hi (by omega)) d (fun H1 locs1 a1 a2 a3 => ?_)
  rw [nI_clamp (by omega)] at a1 a2
  have e1 : ∀ y, (conc ad aT N w ++ X).set (N + k0) y = conc ad aT N w ++ X.set k0 y := fun y => by
    rw [List.set_append, if_neg (by rw [conc_len]; omega), conc_len, Nat.add_sub_cancel_left]
  rw [e1] at a1 a2
  exact kk H1 locs1 ⟨⟨a1, hL.1.2⟩, a2, a3⟩
theorem L_xnew (hx : LxC p l s m args meth c own cc nL D aT tys ad adV A) (hL : Lx D ad aT N A s.heap w X H locs) {n : Int32} {N' : Nat} (hn : n = nI N') (hN : N' ≤ 65536) (hj : cells + 1 ≤ R.cells ∧ slots + N' ≤ R.slots) (d : decode cc pc = .ok (.newarray .int, 2))
    (kk : ∀ (q : Nat) (H1 : Heap), Lx D ad aT N A s.heap w (X ++ [(q, .inl (aT 0, N', .inl fun _ => 0))]) H1 locs → W p l e R s m args below meth c H1 locs (cells + 1) (slots + N') Q (F0 m (pc + 2) ls (.ref q :: rest))) : W p l e R s m args below meth c H locs cells slots Q (F0 m pc ls (.int n :: rest)) := by
  subst hn
  obtain ⟨q1, q2, q3, q4, q5, q6, q7, q8, q9, q10⟩ := hx
  refine va_newa (atype := .int) (ty := .int) (a0 := (N', .inl fun _ => 0)) q1 q2 (q5 _ gi155) rfl (q8.1.sub (tys' := [(aT 0, .int)]) [0] rfl) hL.1.1 hL.2.1 hL.2.2 q10 (fun _ => rfl) (nI_pos (by omega)) (nI_clamp (by omega)) (by show N' * 4 ≤ _; omega) hj.1 hj.2 d (fun q cA H1 a0 a1 a2 a3 => ?_)
  have h1 := int_ra (fun _ h => by cases h) (a0.2 1 (cA, .int) rfl).2
  have h2 := int_ra (fun _ h => by cases h) (q8.1.2 0 (aT 0, .int) rfl).2
  have e : cA = aT 0 := Option.some.inj (h1.symm.trans h2)
  subst e
  rw [List.append_assoc] at a1 a2
  exact kk q H1 ⟨⟨a1, hL.1.2⟩, a2, a3⟩
end LZ
/-! ===== five words of twenty letters ===== -/
def fA (c : Nat → Nat) : Nat → (Nat → Int32)
  | 0 => fun _ => 0
  | i + 1 => upd (fA c i) (i / 4) ((fA c i (i / 4) <<< ((8 : Int32) &&& 31)) ||| nI (c i))
theorem or_z {x y : Nat} (hx : x < 2 ^ 23) (hy : y < 256) : (nI x <<< ((8 : Int32) &&& 31)) ||| nI y = nI (x * 256 + y) := by
  rw [pk_shlN ((8 : Int32) &&& 31) 8 (by decide) (by omega)]
  have h1 : x * 2 ^ 8 + y = x * 2 ^ 8 ||| y := by
    have := Nat.shiftLeft_add_eq_or_of_lt (i := 8) (b := y) (by omega) x
    rw [Nat.shiftLeft_eq] at this
    exact this
  rw [show x * 256 + y = x * 2 ^ 8 ||| y from h1]
  apply Int32.toBitVec_inj.mp
  apply BitVec.eq_of_toNat_eq
  rw [Int32.toBitVec_or, BitVec.toNat_or, pk_tn (by omega), pk_tn (by omega), pk_tn (by rw [← h1]; omega)]
theorem fA_4 {c : Nat → Nat} (hc : ∀ i, c i < 128) (j : Nat) (hj : j < 5) : fA c 20 j = nI (((c (4 * j) * 256 + c (4 * j + 1)) * 256 + c (4 * j + 2)) * 256 + c (4 * j + 3)) := by
  have h0 := hc (4 * j)
  have h1 := hc (4 * j + 1)
  have h2 := hc (4 * j + 2)
  have h3 := hc (4 * j + 3)
  have key : ((((((((0 : Int32) <<< ((8 : Int32) &&& 31)) ||| nI (c (4 * j))) <<< ((8 : Int32) &&& 31)) ||| nI (c (4 * j + 1))) <<< ((8 : Int32) &&& 31)) ||| nI (c (4 * j + 2))) <<< ((8 : Int32) &&& 31)) ||| nI (c (4 * j + 3)) = nI (((c (4 * j) * 256 + c (4 * j + 1)) * 256 + c (4 * j + 2)) * 256 + c (4 * j + 3)) := by
    rw [← nI_0, or_z (by omega) (by omega), or_z (by omega) (by omega), or_z (by omega) (by omega), or_z (by omega) (by omega), Nat.zero_mul, Nat.zero_add]
  rw [← key]
  rcases (show j = 0 ∨ j = 1 ∨ j = 2 ∨ j = 3 ∨ j = 4 by omega) with rfl | rfl | rfl | rfl | rfl <;> rfl
