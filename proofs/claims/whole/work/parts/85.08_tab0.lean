/-! ===== the same in the world of the class alone: 08.tab0 ===== -/
theorem kt_of_k (ci k tg : Nat) (h : ∀ a, a < 210 → shK_k a = 10 + ci → shK_k (shR a k) = tg) {a : Nat} (ha : shK_k a = 10 + ci) : shK_k (shR a k) = tg := h a (shK_lt_k ha (by omega)) ha
section
variable {T : Type} {x : Cx} {cv : T → aO} {own : String} {cc : ByteArray} {nL dp mc j pc : Nat} {ret : Option FieldType} {L : List (Nat × Value)} {st : List Value} {w : aW} {X Y : Option T}
end
