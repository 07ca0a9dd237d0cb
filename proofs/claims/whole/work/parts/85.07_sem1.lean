/-! ===== the same in the world of the class alone: 07.sem1 ===== -/
abbrev shN_k : Nat := 210
def shK_k (a : Nat) : Nat := if a < 210 then shK a else 9
theorem shK_lt_k {a k : Nat} (h : shK_k a = k) (hk : k ≠ 9) : a < shN_k := by
  unfold shK_k at h
  split at h
  · assumption
  · exact absurd h.symm hk
def cve_k (ad : Nat → Nat) (aT : Nat → ClassId) (w : aW) (a : Nat) : va_E :=
  if shK_k a < 3 then .inl (aT (shK_k a), shL a, .inl (w a))
  else if shK_k a = 3 then .inl (aT 3, shL a, .inr (.inr (.inr (.inr fun j => some (ad (shR a j))))))
  else .inr (shK_k a - 10, fvv ad (w a) (shR a) (rfB (shK_k a - 10)))
def conc_k (ad : Nat → Nat) (aT : Nat → ClassId) (w : aW) : va_W := (List.range shN_k).map fun a => (ad a, cve_k ad aT w a)
theorem conc_get_k {ad : Nat → Nat} {aT : Nat → ClassId} {w : aW} {a : Nat} (h : a < shN_k) : (conc_k ad aT w)[a]? = some (ad a, cve_k ad aT w a) := by
  rw [conc_k, List.getElem?_map, List.getElem?_range h]; rfl
theorem conc_of_k {ad : Nat → Nat} {aT : Nat → ClassId} {w : aW} {k : Nat} {q : Nat × va_E} (h : (conc_k ad aT w)[k]? = some q) : k < shN_k ∧ q = (ad k, cve_k ad aT w k) := by
  rw [conc_k, List.getElem?_map] at h
  rcases Nat.lt_or_ge k shN_k with q1 | q1
  · rw [List.getElem?_range q1] at h
    exact ⟨q1, (Option.some.inj h).symm⟩
  · rw [List.getElem?_eq_none (by simpa using q1)] at h
    cases h
theorem conc_set_k {ad : Nat → Nat} {aT : Nat → ClassId} {w w1 : aW} {a : Nat} (h : ∀ b, b ≠ a → w1 b = w b) : (conc_k ad aT w).set a (ad a, cve_k ad aT w1 a) = conc_k ad aT w1 := by
  apply List.ext_getElem?
  intro i
  rw [List.getElem?_set]
  by_cases e : a = i
  · subst e
    simp only [if_true, conc_k, List.length_map, List.length_range, List.getElem?_map]
    by_cases q : a < shN_k
    · rw [if_pos q, List.getElem?_range q]; rfl
    · rw [if_neg q, List.getElem?_eq_none (by simpa using Nat.le_of_not_lt q)]; rfl
  · rw [if_neg e, conc_k, conc_k, List.getElem?_map, List.getElem?_map]
    rcases Nat.lt_or_ge i shN_k with q | q
    · rw [List.getElem?_range q]
      show some (ad i, cve_k ad aT w i) = some (ad i, cve_k ad aT w1 i)
      rw [cve_k, cve_k, h i (fun z => e z.symm)]
    · rw [List.getElem?_eq_none (by simpa using q)]; rfl
theorem cve_arr_k {ad : Nat → Nat} {aT : Nat → ClassId} {w : aW} {a k : Nat} (h : shK_k a = k) (hk : k < 3) : cve_k ad aT w a = .inl (aT k, shL a, .inl (w a)) := by
  subst h; rw [cve_k, if_pos hk]
theorem cve_obj_k {ad : Nat → Nat} {aT : Nat → ClassId} {w : aW} {a ci : Nat} (h : shK_k a = 10 + ci) : cve_k ad aT w a = .inr (ci, fvv ad (w a) (shR a) (rfB ci)) := by
  rw [cve_k, if_neg (by omega), if_neg (by omega), h, Nat.add_sub_cancel_left]
def aA_k (ad : Nat → Nat) (sz : Nat) : Nat → Prop := fun q => (∃ a, a < shN_k ∧ q = ad a) ∨ sz ≤ q
def AdOK_k (ad : Nat → Nat) (sz : Nat) : Prop := (∀ a b, a < shN_k → b < shN_k → ad a = ad b → a = b) ∧ ∀ a, a < shN_k → ad a < sz
theorem conc_D_k {ad : Nat → Nat} {sz sz' : Nat} (h : AdOK_k ad sz') (aT : Nat → ClassId) (w : aW) : va_D (aA_k ad sz) (conc_k ad aT w) := by
  refine ⟨fun i j p q hi hj e => ?_, fun k q hk => ?_⟩
  · obtain ⟨h1, rfl⟩ := conc_of_k hi
    obtain ⟨h2, rfl⟩ := conc_of_k hj
    exact h.1 i j h1 h2 e
  · obtain ⟨h1, rfl⟩ := conc_of_k hk
    exact Or.inl ⟨k, h1, rfl⟩
