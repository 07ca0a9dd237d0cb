/-! ===== abstract heaps: the static shape of the class's and the model's objects, the ints in them ===== -/
theorem gw_ws {ws : List Cond} (ps : List Nat) (hp : ws = ps.filterMap (fun i => lw_tbl[i]?)) (h : ws.all goodWord = true) : ∀ w ∈ ws, w ∈ Gw := by
  intro w hw
  have h1 := List.all_eq_true.mp h w hw
  rw [hp] at hw
  obtain ⟨i, -, hi⟩ := List.mem_filterMap.mp hw
  exact gw_in i hi h1
abbrev aW : Type := Nat → Nat → Int32
def aset (w : aW) (a k : Nat) (v : Int32) : aW := fun b => if b = a then upd (w a) k v else w b
def gd {T : Type} (c : Prop) [Decidable c] (X : Option T) : Option T := if c then X else none
def ltw {T : Type} (w : aW) (k : aW → Option T) : Option T := k w
def ltv {T : Type} (v : Int32) (k : Int32 → Option T) : Option T := k v
abbrev inb (i : Int32) (n : Nat) : Prop := ¬ (i < 0 ∨ n ≤ i.toNatClampNeg)
def bi (b : Bool) : Int32 := if b then 1 else 0
def irm (x y : Int32) : Int32 := x - x / y * y
/-- the cells: tag (0 int, 1 byte, 2 boolean, 3 Post array, 10 + class), length, the references by place -/
def shPost (b : Nat) : List (Nat × Nat × List Nat) := [(12, 0, [0, 0, 0, 0, b + 1, b + 3, b + 5, b + 7, b + 9, b + 11]), (16, 0, [0, 0, b + 2]), (0, 80, []), (16, 0, [0, 0, b + 4]), (0, 60, []), (16, 0, [0, 0, b + 6]), (0, 390, []), (16, 0, [0, 0, b + 8]), (0, 3, []), (16, 0, [0, 0, b + 10]), (0, 11, []), (13, 0, [b + 12, b + 14, b + 16]), (16, 0, [0, 0, b + 13]), (0, 100, []), (16, 0, [0, 0, b + 15]), (0, 100, []), (16, 0, [0, 0, b + 17]), (0, 100, [])]
def shT : List (Nat × Nat × List Nat) := [(18, 0, [1, 3, 5, 6, 7, 12, 30, 48, 10]), (10, 0, [2]), (0, 800, []), (10, 0, [4]), (0, 400, []), (17, 0, [1]), (15, 0, [5, 48]), (14, 0, [5, 12, 8]), (16, 0, [0, 0, 9]), (0, 150, []), (11, 0, [11]), (3, 8, [66, 84, 102, 120, 138, 156, 174, 192])] ++ (shPost 12 ++ (shPost 30 ++ (shPost 48 ++ (shPost 66 ++ (shPost 84 ++ (shPost 102 ++ (shPost 120 ++ (shPost 138 ++ (shPost 156 ++ (shPost 174 ++ (shPost 192 ++ ([(19, 0, [211, 212, 213, 214, 0, 0, 0, 215, 0, 216, 217, 0, 218, 0, 0, 0, 0, 0, 0, 0, 0, 0, 219, 0, 220, 221, 222]), (30, 1030, []), (30, 1030, []), (30, 1030, []), (30, 8240, []), (30, 6, []), (30, 10, []), (30, 8, []), (31, 800, []), (30, 360, []), (30, 10, []), (32, 10, []), (31, 300, [])] ++ (List.replicate 77 (9, 0, []) ++ [(20, 0, [301, 302, 303, 304, 305, 306, 307, 313, 319, 320, 321, 322, 323, 324, 325, 326, 327, 328, 329, 330]), (7, 5, []), (7, 5, []), (7, 5, []), (7, 5, []), (7, 5, []), (7, 5, []), (4, 5, [308, 309, 310, 311, 312]), (7, 5, []), (7, 5, []), (7, 5, []), (7, 5, []), (7, 5, []), (4, 5, [314, 315, 316, 317, 318]), (7, 5, []), (7, 5, []), (7, 5, []), (7, 5, []), (7, 5, []), (7, 30, []), (7, 30, []), (7, 30, []), (7, 30, []), (7, 30, []), (7, 30, []), (7, 30, []), (7, 30, []), (7, 30, []), (7, 30, []), (5, 30, []), (5, 30, [])])))))))))))))
/-- how many cells have fixed shapes; those from here on are int arrays whose length is the int at 100 -/
abbrev shN : Nat := 331
def shK (a : Nat) : Nat := (shT.getD a (9, 0, [])).1
def shL (a : Nat) : Nat := (shT.getD a (9, 0, [])).2.1
def shR (a k : Nat) : Nat := (shT.getD a (9, 0, [])).2.2.getD k 0
theorem shT_len : shT.length = 331 := by decide +kernel
theorem shK_lt {a k : Nat} (h : shK a = k) (hk : k ≠ 9) : a < shN := by
  rcases Nat.lt_or_ge a 331 with q | q
  · exact q
  · refine absurd h.symm ?_
    rw [shK, List.getD_eq_getElem?_getD, List.getElem?_eq_none (by rw [shT_len]; exact q)]
    exact hk
def isCl (k : Nat) : Bool := k == 0 || k == 3 || (10 ≤ k && k ≤ 18)
theorem shK_cl {a k : Nat} (h : shK a = k) (hk : isCl k = true) : a < 210 := by
  have h1 : a < 331 := shK_lt h (by rintro rfl; exact absurd hk (by decide))
  have h2 : ∀ a, a < 331 → isCl (shK a) = true → a < 210 := by decide +kernel
  exact h2 a h1 (by rw [h]; exact hk)
theorem shK_ci {a ci : Nat} (h : shK a = 10 + ci) (hc : ci ≤ 8) : a < 210 := shK_cl h (by
  have : ∀ c, c ≤ 8 → isCl (10 + c) = true := by decide
  exact this ci hc)
def isLa (k : Nat) : Bool := k == 4 || k == 5 || k == 7 || k == 20
theorem shK_la {a k : Nat} (h : shK a = k) (hk : isLa k = true) : 300 ≤ a ∧ a < 331 := by
  have h1 : a < 331 := shK_lt h (by rintro rfl; exact absurd hk (by decide))
  have h2 : ∀ a, a < 331 → isLa (shK a) = true → 300 ≤ a := by decide +kernel
  exact ⟨h2 a h1 (by rw [h]; exact hk), h1⟩
/-- a cell's place in the list, a place's cell -/
def ps (a : Nat) : Nat := if a < 210 then a else a - 90
def cn (i : Nat) : Nat := if i < 210 then i else i + 90
def xst (N a : Nat) : Prop := a < 210 ∨ (300 ≤ a ∧ a < N + 90)
theorem ps_lt {N a : Nat} (hN : 210 ≤ N) (h : xst N a) : ps a < N := by unfold ps; unfold xst at h; split <;> omega
theorem cn_ps {N a : Nat} (h : xst N a) : cn (ps a) = a := by unfold cn ps; unfold xst at h; split <;> (try split) <;> omega
theorem cn_ex {N i : Nat} (h : i < N) : xst N (cn i) := by unfold cn xst; split <;> omega
theorem ps_cn (i : Nat) : ps (cn i) = i := by unfold cn ps; split <;> (try split) <;> omega
theorem ps_inj {N a b : Nat} (ha : xst N a) (hb : xst N b) (h : ps a = ps b) : a = b := by rw [← cn_ps ha, ← cn_ps hb, h]
def rfB : Nat → List Bool
  | 0 => [true, false]
  | 1 => [true, false, false]
  | 2 => [false, false, false, false, true, true, true, true, true, true]
  | 3 => [true, true, true]
  | 4 => [true, true, true, false]
  | 5 => [true, true]
  | 6 => [false, false, true]
  | 7 => [true, false, false, false, false, false, false]
  | 8 => [true, true, true, true, true, true, true, true, true, false]
  | 9 => [true, true, true, true, false, false, false, true, false, true, true, false, true, false, false, false, false, false, false, false, false, false, true, false, true, true, true, false]
  | 10 => [true, true, true, true, true, true, true, true, true, true, true, true, true, true, true, true, true, true, true, true, false, false, false, false, false, false, false, false, false, false, false, false, false, false]
  | _ => []
/-- a class's place among the claim's classes -/
def vi (ci : Nat) : Nat := if ci = 10 then 11 else ci + 2
def fvv (ad : Nat → Nat) (w : Nat → Int32) (rs : Nat → Nat) (bs : List Bool) : List Value := bs.mapIdx (fun k b => if b then .ref (ad (rs k)) else .int (w k))
/-- what a row of rows that may be null holds -/
def r5 (ad : Nat → Nat) (f : Nat → Int32) (j : Nat) : Option Nat := if f j = 0 ∨ 30 ≤ j then none else some (ad (f j).toNatClampNeg)
def cve (ad : Nat → Nat) (aT : Nat → ClassId) (w : aW) (a : Nat) : va_E :=
  if 331 ≤ a then .inl (aT 0, (w a 100).toNatClampNeg, .inl (w a))
  else if shK a = 0 ∨ shK a = 7 then .inl (aT 0, shL a, .inl (w a))
  else if shK a = 3 then .inl (aT 1, shL a, .inr (.inr (.inr (.inr fun j => some (ad (shR a j))))))
  else if shK a = 4 then .inl (aT 2, shL a, .inr (.inr (.inr (.inr fun j => some (ad (shR a j))))))
  else if shK a = 5 then .inl (aT 2, shL a, .inr (.inr (.inr (.inr (r5 ad (w a))))))
  else .inr (vi (shK a - 10), fvv ad (w a) (shR a) (rfB (shK a - 10)))
def conc (ad : Nat → Nat) (aT : Nat → ClassId) (N : Nat) (w : aW) : va_W := (List.range N).map fun i => (ad (cn i), cve ad aT w (cn i))
/-- how many cells there are, as the ints have it -/
def nW (w : aW) : Nat := (w 999 0).toNatClampNeg
theorem nW_of {w w1 : aW} {n : Nat} (h : w1 999 = w 999) (hn : nW w = n) : nW w1 = n := by unfold nW at hn ⊢; rw [h]; exact hn
def tysA (aT : Nat → ClassId) : List (ClassId × FieldType) := [(aT 0, .int), (aT 1, .object "WhistlePosts$Post"), (aT 2, .array .int)]
/-- the class of int[][]: its component is that of int[] -/
def RA2 (aT : Nat → ClassId) (U : State) : Prop := ∃ kA kE : Class, U.vm.classes[aT 2]? = some kA ∧ kA.kind = .array (aT 0) (.array .int) ∧ U.vm.classes[aT 0]? = some kE
theorem RA2.moved {aT : Nat → ClassId} {u U : State} (hvm : u.vm.Alike U.vm) (h : RA2 aT u) : RA2 aT U := by
  obtain ⟨kA, kE, h1, h2, h3⟩ := h
  obtain ⟨kA', g1, e1⟩ := hvm.2.2 _ _ h1
  obtain ⟨kE', g2, e2⟩ := hvm.2.2 _ _ h3
  exact ⟨kA', kE', g1, by rw [e1]; exact h2, g2⟩
def KA (D : va_G) (aT : Nat → ClassId) (U : State) : Prop := va_K D vwCl (tysA aT) U ∧ RA2 aT U
theorem KA.moved {D : va_G} {aT : Nat → ClassId} {u U : State} (hvm : u.vm.Alike U.vm) (h : KA D aT u) : KA D aT U := ⟨va_K.moved hvm h.1, h.2.moved hvm⟩
theorem conc_len {ad : Nat → Nat} {aT : Nat → ClassId} {N : Nat} {w : aW} : (conc ad aT N w).length = N := by
  rw [conc, List.length_map, List.length_range]
theorem conc_get {ad : Nat → Nat} {aT : Nat → ClassId} {N : Nat} {w : aW} {a : Nat} (hN : 210 ≤ N) (h : xst N a) : (conc ad aT N w)[ps a]? = some (ad a, cve ad aT w a) := by
  rw [conc, List.getElem?_map, List.getElem?_range (ps_lt hN h), Option.map_some, cn_ps h]
theorem conc_of {ad : Nat → Nat} {aT : Nat → ClassId} {N : Nat} {w : aW} {k : Nat} {q : Nat × va_E} (h : (conc ad aT N w)[k]? = some q) : k < N ∧ q = (ad (cn k), cve ad aT w (cn k)) := by
  rw [conc, List.getElem?_map] at h
  rcases Nat.lt_or_ge k N with q1 | q1
  · rw [List.getElem?_range q1] at h
    exact ⟨q1, (Option.some.inj h).symm⟩
  · rw [List.getElem?_eq_none (by simpa using q1)] at h
    cases h
theorem conc_fst {ad : Nat → Nat} {aT : Nat → ClassId} {N : Nat} {w w2 : aW} {X : va_W} : (conc ad aT N w2 ++ X).map (fun q => q.1) = (conc ad aT N w ++ X).map (fun q => q.1) := by
  rw [List.map_append, List.map_append, conc, conc, List.map_map, List.map_map]
  rfl
theorem cve_ne {ad : Nat → Nat} {aT : Nat → ClassId} {w w1 : aW} {a : Nat} (h : w1 a = w a) : cve ad aT w1 a = cve ad aT w a := by
  unfold cve; rw [h]
theorem conc_set {ad : Nat → Nat} {aT : Nat → ClassId} {N : Nat} {w w1 : aW} {X : va_W} {a : Nat} (hN : 210 ≤ N) (he : xst N a) (h : ∀ b, b ≠ a → w1 b = w b) : (conc ad aT N w ++ X).set (ps a) (ad a, cve ad aT w1 a) = conc ad aT N w1 ++ X := by
  rw [List.set_append, if_pos (by rw [conc_len]; exact ps_lt hN he)]
  congr 1
  apply List.ext_getElem?
  intro i
  rw [List.getElem?_set]
  by_cases e : ps a = i
  · subst e
    simp only [if_true, conc, List.length_map, List.length_range, List.getElem?_map]
    rw [if_pos (ps_lt hN he), List.getElem?_range (ps_lt hN he), Option.map_some, cn_ps he]
  · rw [if_neg e, conc, conc, List.getElem?_map, List.getElem?_map]
    rcases Nat.lt_or_ge i N with q | q
    · rw [List.getElem?_range q]
      show some (ad (cn i), cve ad aT w (cn i)) = some (ad (cn i), cve ad aT w1 (cn i))
      rw [cve_ne (h (cn i) (fun z => e (by rw [← z, ps_cn])))]
    · rw [List.getElem?_eq_none (by simpa using q)]; rfl
theorem aset_ne {w : aW} {a k : Nat} {v : Int32} : ∀ b, b ≠ a → aset w a k v b = w b := fun b h => if_neg h
theorem aset_eq {w : aW} {a k : Nat} {v : Int32} : aset w a k v a = upd (w a) k v := if_pos rfl
theorem cve_arr {ad : Nat → Nat} {aT : Nat → ClassId} {w : aW} {a k : Nat} (h : shK a = k) (hk : k = 0 ∨ k = 7) : cve ad aT w a = .inl (aT 0, shL a, .inl (w a)) := by
  subst h
  have h1 : a < 331 := shK_lt rfl (by omega)
  rw [cve, if_neg (by omega), if_pos hk]
theorem cve_ref {ad : Nat → Nat} {aT : Nat → ClassId} {w : aW} {a : Nat} (h : shK a = 3) : cve ad aT w a = .inl (aT 1, shL a, .inr (.inr (.inr (.inr fun j => some (ad (shR a j)))))) := by
  have h1 : a < 331 := shK_lt h (by omega)
  rw [cve, if_neg (by omega), if_neg (by omega), if_pos h]
theorem cve_ref4 {ad : Nat → Nat} {aT : Nat → ClassId} {w : aW} {a : Nat} (h : shK a = 4) : cve ad aT w a = .inl (aT 2, shL a, .inr (.inr (.inr (.inr fun j => some (ad (shR a j)))))) := by
  have h1 : a < 331 := shK_lt h (by omega)
  rw [cve, if_neg (by omega), if_neg (by omega), if_neg (by omega), if_pos h]
theorem cve_ref5 {ad : Nat → Nat} {aT : Nat → ClassId} {w : aW} {a : Nat} (h : shK a = 5) : cve ad aT w a = .inl (aT 2, shL a, .inr (.inr (.inr (.inr (r5 ad (w a)))))) := by
  have h1 : a < 331 := shK_lt h (by omega)
  rw [cve, if_neg (by omega), if_neg (by omega), if_neg (by omega), if_neg (by omega), if_pos h]
theorem cve_dyn {ad : Nat → Nat} {aT : Nat → ClassId} {w : aW} {a : Nat} (h : 331 ≤ a) : cve ad aT w a = .inl (aT 0, (w a 100).toNatClampNeg, .inl (w a)) := by
  rw [cve, if_pos h]
theorem cve_obj {ad : Nat → Nat} {aT : Nat → ClassId} {w : aW} {a ci : Nat} (h : shK a = 10 + ci) : cve ad aT w a = .inr (vi ci, fvv ad (w a) (shR a) (rfB ci)) := by
  have h1 : a < 331 := shK_lt h (by omega)
  rw [cve, if_neg (by omega), if_neg (by omega), if_neg (by omega), if_neg (by omega), if_neg (by omega), h, Nat.add_sub_cancel_left]
theorem fvv_int {ad : Nat → Nat} {w : Nat → Int32} {rs : Nat → Nat} {bs : List Bool} {k : Nat} (h : bs[k]? = some false) : (fvv ad w rs bs)[k]? = some (.int (w k)) := by
  rw [fvv, List.getElem?_mapIdx, h]; rfl
theorem fvv_ref {ad : Nat → Nat} {w : Nat → Int32} {rs : Nat → Nat} {bs : List Bool} {k : Nat} (h : bs[k]? = some true) : (fvv ad w rs bs)[k]? = some (.ref (ad (rs k))) := by
  rw [fvv, List.getElem?_mapIdx, h]; rfl
theorem fvv_set {ad : Nat → Nat} {w : Nat → Int32} {rs : Nat → Nat} {bs : List Bool} {k : Nat} {v : Int32} (h : bs[k]? = some false) : (fvv ad w rs bs).set k (.int v) = fvv ad (upd w k v) rs bs := by
  apply List.ext_getElem?
  intro i
  rw [List.getElem?_set, fvv, fvv, List.length_mapIdx, List.getElem?_mapIdx, List.getElem?_mapIdx]
  by_cases e : k = i
  · subst e
    have hl := (List.getElem?_eq_some_iff.mp h).1
    rw [if_pos rfl, if_pos hl, h]
    simp [upd]
  · rw [if_neg e]
    have h2 : upd w k v i = w i := if_neg (fun z => e z.symm)
    rw [h2]
theorem fvv_len {ad : Nat → Nat} {w : Nat → Int32} {rs : Nat → Nat} {bs : List Bool} : (fvv ad w rs bs).length = bs.length := List.length_mapIdx
/-- values: references by their places -/
def cvv (ad : Nat → Nat) : Value → Value
  | .ref a => .ref (ad a)
  | v => v
def cvq (ad : Nat → Nat) (q : Nat × Value) : Nat × Value := (q.1, cvv ad q.2)
theorem cvv_cat {ad : Nat → Nat} {v : Value} : (cvv ad v).category = v.category := by cases v <;> rfl
/-- where a method may write -/
def aA (ad : Nat → Nat) (N sz : Nat) : Nat → Prop := fun q => (∃ a, xst N a ∧ q = ad a) ∨ sz ≤ q
def AdOK (ad : Nat → Nat) (N sz : Nat) : Prop := (∀ a b, xst N a → xst N b → ad a = ad b → a = b) ∧ ∀ a, xst N a → ad a < sz
theorem conc_D {ad : Nat → Nat} {N sz sz' : Nat} (hN : 210 ≤ N) (h : AdOK ad N sz') (aT : Nat → ClassId) (w : aW) : va_D (aA ad N sz) (conc ad aT N w) := by
  refine ⟨fun i j p q hi hj e => ?_, fun k q hk => ?_⟩
  · obtain ⟨h1, rfl⟩ := conc_of hi
    obtain ⟨h2, rfl⟩ := conc_of hj
    have := h.1 _ _ (cn_ex h1) (cn_ex h2) e
    rw [← ps_cn i, ← ps_cn j, this]
  · obtain ⟨h1, rfl⟩ := conc_of hk
    exact Or.inl ⟨_, cn_ex h1, rfl⟩
theorem va_D_fst {A : Nat → Prop} {ws ws' : va_W} (h : va_D A ws) (e : ws'.map (fun q => q.1) = ws.map (fun q => q.1)) : va_D A ws' := by
  have key : ∀ (k : Nat) (q : Nat × va_E), ws'[k]? = some q → ∃ e', ws[k]? = some (q.1, e') := by
    intro k q hq
    have h1 : (ws'.map (fun q => q.1))[k]? = some q.1 := by rw [List.getElem?_map, hq]; rfl
    rw [e, List.getElem?_map] at h1
    cases hc : ws[k]? with
    | none => rw [hc] at h1; cases h1
    | some q2 =>
      rw [hc] at h1
      have h2 : q2.1 = q.1 := Option.some.inj h1
      exact ⟨q2.2, by rw [← h2]⟩
  refine ⟨fun i j p q hi hj hpq => ?_, fun k q hk => ?_⟩
  · obtain ⟨a, ha⟩ := key i p hi
    obtain ⟨b, hb⟩ := key j q hj
    exact h.1 i j _ _ ha hb hpq
  · obtain ⟨a, ha⟩ := key k q hk
    have h9 := h.2 k (q.1, a) ha
    exact h9
/-! ===== what else a method finds: Strings, statics ===== -/
/-- the String constants: class, entry, text, place -/
def xStr : List (String × Nat × String × Nat) := [("WhistlePosts", 70, "roof tower 4 2 1 30;roof barn 2 0 2 20;roof mill 3 5 0 9;roof inn 8 1 3 40;way tower barn 4;way barn mill 6;way tower mill 9;way mill inn 3;", 12), ("WhistlePosts$Setup", 54, "roof", 18), ("WhistlePosts$Setup", 63, "way", 19), ("WhistlePosts$Tokens", 59, "wind", 20), ("WhistlePosts$Tokens", 65, "dusk", 21), ("WhistlePosts$Tokens", 67, "again", 22), ("WhistlePosts", 333, "no such roof", 9), ("WhistlePosts", 298, "there is no way between the roofs", 6), ("WhistlePosts", 268, "sender and goal are the same", 1), ("WhistlePosts", 337, "a number is out of its range", 11), ("WhistlePosts", 275, "a digit is no note", 2), ("WhistlePosts", 279, "there are 30 tunes", 3), ("WhistlePosts", 290, "the purse would be above 9999", 5), ("WhistlePosts", 288, "time would be above 9999", 4), ("WhistlePosts", 335, "no such tune", 10), ("WhistlePostsLaw", 240, "roof ", 34), ("WhistlePostsLaw", 252, "way ", 35), ("WhistlePostsLaw", 254, "wind ", 36), ("WhistlePostsLaw", 256, ";dusk ", 37), ("WhistlePostsLaw", 258, ";again ", 38)]
/-- texts by number; those that this claim has -/
def xTx : List String := ["no such way", "sender and goal are the same", "a digit is no note", "there are 30 tunes", "time would be above 9999", "the purse would be above 9999", "there is no way between the roofs", "nothing can be undone", "no state is saved", "no such roof", "no such tune", "a number is out of its range", "roof tower 4 2 1 30;roof barn 2 0 2 20;roof mill 3 5 0 9;roof inn 8 1 3 40;way tower barn 4;way barn mill 6;way tower mill 9;way mill inn 3;", "send", "ask", "tick", "give", "cut", "roof", "way", "wind", "dusk", "again", "wind", "dusk", "again", "roof", "way", "send", "ask", "tick", "give", "cut", "tower barn mill inn ", "roof ", "way ", "wind ", ";dusk ", ";again "]
def hasS (i : Nat) : Bool := xStr.any (fun q => q.2.2.2 == i)
/-- the place of a String among the references -/
abbrev sx (i : Nat) : Nat := 2000 + i
/-- the place of its byte array -/
abbrev sv (i : Nat) : Nat := 3000 + i
/-- a String's bytes -/
def xB (i : Nat) : List Int32 := ((xTx.getD i "").toList).map (fun ch => Int32.ofNat ch.toNat)
def XS (ad adV : Nat → Nat) (A : Nat → Prop) (U : State) (H : Heap) : Prop := ∀ i, hasS i = true → va_O "java/lang/String" (ad (sx i)) A U H ∧ va_OF "java/lang/String" "coder" "B" (.int 0) (ad (sx i)) A U H ∧ va_OF "java/lang/String" "value" "[B" (.ref (ad (sv i))) (ad (sx i)) A U H ∧ va_T .byte (ad (sv i)) (xB i).length (fun j => .int ((xB i).getD j 0)) A U H
def XR (ad : Nat → Nat) (U : State) : Prop := ∀ q ∈ xStr, vk_R q.1 q.2.1 q.2.2.1 (ad (sx q.2.2.2)) U
/-- the classes of what is thrown, and the words of throws that no rule keeps -/
def xDecl : List MethodName := [⟨"java/lang/RuntimeException", "<init>", "()V"⟩, ⟨"java/lang/RuntimeException", "<init>", "(Ljava/lang/String;)V"⟩, ⟨"java/lang/Exception", "<init>", "()V"⟩, ⟨"java/lang/Exception", "<init>", "(Ljava/lang/String;)V"⟩, ⟨"java/lang/Throwable", "<init>", "()V"⟩, ⟨"java/lang/Throwable", "<init>", "(Ljava/lang/String;)V"⟩]
def xExn : List String := ["java/lang/IndexOutOfBoundsException", "java/lang/IllegalArgumentException", "java/lang/IllegalStateException"]
def XN (U : State) : Prop := va_Nw (.methodLinkNest "WhistlePosts$Ticks" 66 yX10_noteOf "WhistlePosts") U ∧ va_Nw (.methodLinkNest "WhistlePosts$Post" 136 yX10_noteOf "WhistlePosts") U ∧ (∀ y ∈ xDecl, va_Nw (.declares y) U) ∧ ∀ c ∈ xExn, va_Nw (.castable c c) U
def XZ (A : Nat → Prop) (U : State) (H : Heap) : Prop := vx_Zq Bundle.tN "UNASSIGNED_STACK" Bundle.steD A U H ∧ vx_Zq Bundle.tN "SUPPRESSED_SENTINEL" Bundle.listD A U H ∧ va_Z "java/lang/String" "COMPACT_STRINGS" "Z" (.int 1) A U H ∧ va_Zq "jdk/internal/util/Preconditions" "SIOOBE_FORMATTER" "Ljava/util/function/BiFunction;" A U H
def XE (ad adV : Nat → Nat) (A : Nat → Prop) (U : State) (H : Heap) : Prop := XS ad adV A U H ∧ XR ad U ∧ XN U ∧ XZ A U H
theorem XE.kept {ad adV : Nat → Nat} {A : Nat → Prop} {U : State} {H H1 : Heap} (h : XE ad adV A U H) (hq : ∀ a : Nat, a < H.size → ¬ A a → H1[a]? = H[a]?) : XE ad adV A U H1 := by
  obtain ⟨h1, h2, h3, h4, h5, h6, h7⟩ := h
  exact ⟨fun i hi => ⟨(h1 i hi).1.kept hq, (h1 i hi).2.1.kept hq, (h1 i hi).2.2.1.kept hq, (h1 i hi).2.2.2.kept hq⟩, h2, h3, h4.kept hq, h5.kept hq, va_Z.kept h6 hq, va_Zq.kept h7 hq⟩
theorem XE.narrow {ad adV : Nat → Nat} {A B : Nat → Prop} {U : State} {H : Heap} (h : XE ad adV A U H) (hAB : ∀ q, B q → A q) : XE ad adV B U H := by
  obtain ⟨h1, h2, h3, h4, h5, h6, h7⟩ := h
  exact ⟨fun i hi => ⟨(h1 i hi).1.narrow hAB, (h1 i hi).2.1.narrow hAB, (h1 i hi).2.2.1.narrow hAB, (h1 i hi).2.2.2.narrow hAB⟩, h2, h3, h4.narrow hAB, h5.narrow hAB, va_Z.narrow h6 hAB, va_Zq.narrow h7 hAB⟩
theorem XE.warm {ad adV : Nat → Nat} {A : Nat → Prop} {s U : State} {H : Heap} (hW : s.WarmedH U.vm) (h : XE ad adV A s H) : XE ad adV A U H := by
  obtain ⟨h1, h2, h3, h4, h5, h6, h7⟩ := h
  have hvm := hW.alike
  exact ⟨fun i hi => ⟨va_O.moved hvm (h1 i hi).1, va_OF.moved hvm (h1 i hi).2.1, va_OF.moved hvm (h1 i hi).2.2.1, va_T.moved hvm (h1 i hi).2.2.2⟩, fun q hq => (h2 q hq).warm hW, ⟨va_Nw.warmM hW h3.1, va_Nw.warmM hW h3.2.1, fun y hy => va_Nw.warmD hW (h3.2.2.1 y hy), fun c hc => va_Nw.warmC hW (h3.2.2.2 c hc)⟩, vx_Zq.moved hvm h4, vx_Zq.moved hvm h5, va_Z.moved hvm h6, va_Zq.moved hvm h7⟩
