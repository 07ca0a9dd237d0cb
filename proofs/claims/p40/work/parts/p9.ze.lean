/-! ===== the classes and the array classes at the law's entry ===== -/
theorem gy537 : (Cond.instantiable "WhistlePostsLaw" 34) ∈ Gw := gw_in 537 (by decide +kernel) (by decide +kernel)
theorem gy57 : (Cond.instantiable "WhistlePosts" 10) ∈ Gw := gw_in 57 (by decide +kernel) (by decide +kernel)
theorem gy59 : (Cond.instanceMethod yX10_init) ∈ Gw := gw_in 59 (by decide +kernel) (by decide +kernel)
theorem gy539 : (Cond.instanceMethod yL_init) ∈ Gw := gw_in 539 (by decide +kernel) (by decide +kernel)
theorem arr_start {args : Array Value} {s : State} {ty : FieldType} (hp : ∀ n, ty ≠ .object n) (h : (Cond.arrayClass ty).before args s = true) : ∃ cA : ClassId, ArrOfT s cA ty ∧ va_RA s cA ty := by
  obtain ⟨cA, kA, comp, h1, h2, h3⟩ := Cond.arrayClass_spec h
  refine ⟨cA, fun n z => ⟨fun k h => (by cases h), kA, h2, comp, h3⟩, ?_⟩
  cases ty with
  | object n => exact absurd rfl (hp n)
  | _ => exact h1
theorem arrq_start {args : Array Value} {s : State} (h : (Cond.arrayOver (.object "WhistlePosts$Post")).before args s = true) : ∃ cA : ClassId, ArrOfT s cA (.object "WhistlePosts$Post") ∧ va_RA s cA (.object "WhistlePosts$Post") := by
  obtain ⟨comp, cA, kA, h1, -, h2, h3, h4⟩ := Cond.arrayOver_spec h
  exact ⟨cA, fun n z => ⟨fun k h => (by cases h), kA, h2, comp, h3⟩, kA, comp, h2, h3, h1, h4⟩
/-- an array of arrays of ints, out of its word -/
def ovIs (comp : ClassId) : Class → Bool := fun x => match x.kind with | .array component _ => component == comp | _ => false
theorem ovIs_bare (vm : Vm) (comp : ClassId) : vm.bare.classes.findIdx? (ovIs comp) = vm.classes.findIdx? (ovIs comp) := va_idx_bare vm comp
theorem ovA_spec {args : Array Value} {first s : State} {o : Option Outcome} {idx : List Nat} {t : FieldType} (h : (Cond.arrayOver (.array t)).holds args first o s idx = true) :
    ∃ comp c k, s.vm.findClass (FieldType.array t).toString = some comp ∧ s.vm.classes.findIdx? (ovIs comp) = some c ∧ s.vm.classes[c]? = some k ∧ k.kind = .array comp (.array t) ∧ s.vm.findClass ("[" ++ (FieldType.array t).toString) = some c := by
  simp only [Cond.holds, Cond.value, beq_iff_eq] at h
  cases hc : s.vm.findClass (FieldType.array t).toString with
  | none => simp [hc] at h
  | some comp =>
    simp only [hc, Option.bind_some, Option.bind_eq_some_iff, Option.map_eq_some_iff] at h
    obtain ⟨c, hi, k, hk, hb⟩ := h
    obtain ⟨hlt, hp, -⟩ := Array.findIdx?_eq_some_iff_getElem.mp hi
    have hkk : s.vm.classes[c] = k := (Array.getElem?_eq_some_iff.mp hk).2
    rw [hkk] at hp
    cases hkind : k.kind with
    | array component ty =>
      rw [hkind] at hb hp
      simp at hb hp
      exact ⟨comp, c, k, rfl, hi, hk, by rw [hkind, hp, hb.1], hb.2⟩
    | _ => rw [hkind] at hb; simp at hb
theorem AOA.moved {t : FieldType} {u U : State} (hvm : u.vm.Alike U.vm) (h : va_AOA t u) : va_AOA t U := by
  obtain ⟨comp, c, k, h1, h2, h3, h4, h5⟩ := ovA_spec h
  obtain ⟨kU, e3, e4⟩ := hvm.2.2 c k h3
  have hi : U.vm.classes.findIdx? (ovIs comp) = some c := by
    rw [← ovIs_bare]
    first | rw [hvm.bare_eq] | rw [← hvm.bare_eq]
    rw [ovIs_bare]
    exact h2
  have f1 : U.vm.findClass (FieldType.array t).toString = some comp := by rw [hvm.findClass]; exact h1
  have f2 : U.vm.findClass ("[" ++ (FieldType.array t).toString) = some c := by rw [hvm.findClass]; exact h5
  have hk : kU.kind = .array comp (.array t) := by rw [e4]; exact h4
  show Cond.value _ _ _ _ _ _ == some true
  have hv : ∀ (a : Array Value) (f : State) (o : Option Outcome) (ix : List Nat), Cond.value a f o U ix (Cond.arrayOver (.array t)) = some true := by
    intro a f o ix
    simp only [Cond.value, f1, Option.bind_some]
    refine (congrArg (fun z : Option Nat => z.bind _) hi).trans ?_
    simp [e3, hk, f2]
  rw [hv]
  rfl
theorem ti_str : "[" ++ (FieldType.int).toString = (FieldType.array .int).toString := by decide +kernel
theorem ia_start {args : Array Value} {s : State} (h : (Cond.arrayClass .int).before args s = true) (h2 : (Cond.arrayOver (.array .int)).before args s = true) : ∃ (cA cZ : ClassId) (kA kE : Class), (ArrOfT s cA .int ∧ va_RA s cA .int) ∧ (ArrOfT s cZ (.array .int) ∧ va_RA s cZ (.array .int)) ∧ s.vm.classes[cZ]? = some kA ∧ kA.kind = .array cA (.array .int) ∧ s.vm.classes[cA]? = some kE := by
  obtain ⟨cA, kE, comp, h1, h3, h4⟩ := Cond.arrayClass_spec h
  obtain ⟨cp, cZ, kA, e1, -, e2, e3, e4⟩ := ovA_spec h2
  rw [← ti_str, h1] at e1
  cases e1
  exact ⟨cA, cZ, kA, kE, ⟨fun n z => ⟨fun k h => (by cases h), kE, h3, comp, h4⟩, h1⟩, ⟨fun n z => ⟨fun k h => (by cases h), kA, e2, cA, e3⟩, e4⟩, e2, e3, h3⟩
theorem K_start {args : Array Value} {s : State} (hts : ∀ w ∈ lw_tbl, w.before args s = true) : ∃ (D : va_G) (aT : Nat → ClassId) (cB : ClassId), va_K D vwCl (tysA aT ++ [(cB, .byte)]) s ∧ RA2 aT s := by
  have htG : ∀ w ∈ Gw, w.before args s = true := fun w h => hts w (gw_lw w h)
  have kn : ∀ {N n : Nat} {C : String} {Tt : u_T}, (∀ w ∈ u_ws C Tt N, w ∈ Gw) → (Cond.instantiable C n).before args s = true → ∃ (cC : ClassId) (iS : Nat → Nat), u_Kn s C Tt N cC iS := fun fc hi => u_known htG fc hi
  obtain ⟨c0, i0, h0⟩ := kn (n := 4) fcS (hts _ (lw_at 1270 (by decide +kernel)))
  obtain ⟨c1, i1, h1⟩ := kn (n := 4) fcB (hts _ (lw_at 1103 (by decide +kernel)))
  obtain ⟨c2, i2, h2⟩ := kn (n := 2) fc0.2.1 (hts _ (lw_at 65 (by decide +kernel)))
  obtain ⟨c3, i3, h3⟩ := kn (n := 3) fc1.2.1 (hts _ (lw_at 178 (by decide +kernel)))
  obtain ⟨c4, i4, h4⟩ := kn (n := 10) fc2.2.1 (hts _ (lw_at 79 (by decide +kernel)))
  obtain ⟨c5, i5, h5⟩ := kn (n := 3) fc3.2.1 (hts _ (lw_at 101 (by decide +kernel)))
  obtain ⟨c6, i6, h6⟩ := kn (n := 4) fc4.2.1 (hts _ (lw_at 239 (by decide +kernel)))
  obtain ⟨c7, i7, h7⟩ := kn (n := 2) fc5.2.1 (hts _ (lw_at 226 (by decide +kernel)))
  obtain ⟨c8, i8, h8⟩ := kn (n := 3) fc6.2.1 (hts _ (lw_at 85 (by decide +kernel)))
  obtain ⟨c9, i9, h9⟩ := kn (n := 7) fc7.2.1 (hts _ (lw_at 197 (by decide +kernel)))
  obtain ⟨c10, i10, h10⟩ := kn (n := 10) fc8.2.1 (hts _ (lw_at 57 (by decide +kernel)))
  obtain ⟨c11, i11, h11⟩ := kn (n := 34) fc10.2.1 (hts _ (lw_at 537 (by decide +kernel)))
  obtain ⟨ca, cz, kA, kE, ha, hz, k1, k2, k3⟩ := ia_start (htG _ gi155) (hts _ (lw_at 543 (by decide +kernel)))
  obtain ⟨cb, hb⟩ := arr_start (ty := .byte) (fun _ h => by cases h) (htG _ gi527)
  obtain ⟨cp, hp⟩ := arrq_start (hts _ (lw_at 184 (by decide +kernel)))
  refine ⟨(fun k => [c0, c1, c2, c3, c4, c5, c6, c7, c8, c9, c10, c11].getD k c0, fun k => [i0, i1, i2, i3, i4, i5, i6, i7, i8, i9, i10, i11].getD k i0), fun k => [ca, cp, cz].getD k ca, cb, ⟨?_, ?_⟩, kA, kE, k1, k2, k3⟩
  · intro k q hq
    match k, hq with
    | 0, hq => cases hq; exact h0
    | 1, hq => cases hq; exact h1
    | 2, hq => cases hq; exact h2
    | 3, hq => cases hq; exact h3
    | 4, hq => cases hq; exact h4
    | 5, hq => cases hq; exact h5
    | 6, hq => cases hq; exact h6
    | 7, hq => cases hq; exact h7
    | 8, hq => cases hq; exact h8
    | 9, hq => cases hq; exact h9
    | 10, hq => cases hq; exact h10
    | 11, hq => cases hq; exact h11
    | k + 12, hq => simp [vwCl] at hq
  · intro k q hq
    match k, hq with
    | 0, hq => cases hq; exact ha
    | 1, hq => cases hq; exact hp
    | 2, hq => cases hq; exact hz
    | 3, hq => cases hq; exact hb
    | k + 4, hq => simp [tysA] at hq
