/-! ===== the roads: the class lays them ===== -/
theorem TOK.lay {w w2 : aI} {b : Nat} (h : TOK w b) (he : ∀ a, ¬ a = b + 13 → ¬ a = b + 15 → ¬ a = b + 17 → w2 a = w a) : TOK w2 b := by
  unfold TOK at h ⊢
  rw [he (b + 1) (by omega) (by omega) (by omega), he (b + 3) (by omega) (by omega) (by omega), he (b + 5) (by omega) (by omega) (by omega), he (b + 7) (by omega) (by omega) (by omega), he (b + 9) (by omega) (by omega) (by omega), he (b + 12) (by omega) (by omega) (by omega), he (b + 14) (by omega) (by omega) (by omega), he (b + 16) (by omega) (by omega) (by omega)]
  exact h
theorem rs_min (f : Row) (k v : Int) : (if f k ≤ v then f else rs f k v) = rs f k (min (f k) v) := by
  split
  · rename_i c
    funext j
    by_cases e : j = k
    · rw [e, rs_self]; omega
    · rw [rs_ne e]
  · rename_i c
    rw [show min (f k) v = v by omega]
theorem c_short {F : Nat} {b : Nat} (hP : Pb b) {w : aI} (hK : TOK w b) {x y v : Int} (hx : 0 ≤ x ∧ x < 10) (hy : 0 ≤ y ∧ y < 10) (hv : rg v) (hr : rg (w (b + 15) (10 * x + y))) :
    f_X3_shorten F (b + 11) x y v w = some (stc w (b + 15) (rs (w (b + 15)) (10 * x + y) (min (w (b + 15) (10 * x + y)) v))) := by
  unfold f_X3_shorten
  rw [pr1 hP, getM hP hK hx hy, bs, gd_t ⟨hv, hr⟩, ← rs_min]
  split
  · rw [stc_self]
  · rw [putM hP hK hx hy, bs]
theorem c_clearTo {F t c L : Nat} {v : Int} {w : aI} (hF : 1000 ≤ F) (h1 : shR t 2 = c) (h2 : shL c = L) (hL : L ≤ 400) : f_X7_clearTo F t v w = some (stc w c (fun j => if 0 ≤ j ∧ j < L then v else w c j)) := by
  have key : ∀ (n i : Nat), (i : Int) ≤ L → (L : Int) - i < n → f_X7_clearTo_b2 F t v n i (stc w c (fun j => if 0 ≤ j ∧ j < i then v else w c j)) = some (stc w c (fun j => if 0 ≤ j ∧ j < L then v else w c j)) := by
    intro n
    induction n with
    | zero => intro i i1 i2; omega
    | succ n ih =>
      intro i i1 i2
      show f_X7_clearTo_b2_b F t v (f_X7_clearTo_b2 F t v n) _ _ = _
      unfold f_X7_clearTo_b2_b
      rw [gd_t (by omega), h1, h2]
      by_cases c2 : (L : Int) ≤ i
      · have e : i = L := by omega
        rw [if_pos c2, e]
      · rw [if_neg c2, gd_t (by omega), ltm, is_stc, stc_stc, stc_eq]
        have := ih (i + 1) (by omega) (by omega)
        have e : rs (fun j => if 0 ≤ j ∧ j < (i : Int) then v else w c j) i v = fun j => if 0 ≤ j ∧ j < ((i + 1 : Nat) : Int) then v else w c j := by
          funext j
          by_cases e : j = i
          · rw [e, rs_self, if_pos (by omega)]
          · rw [rs_ne e]
            by_cases e2 : 0 ≤ j ∧ j < (i : Int)
            · rw [if_pos e2, if_pos (by omega)]
            · rw [if_neg e2, if_neg (by omega)]
        rw [e]
        exact this
  have := key F 0 (by omega) (by omega)
  have e : (fun j : Int => if 0 ≤ j ∧ j < ((0 : Nat) : Int) then v else w c j) = w c := by
    funext j; rw [if_neg (by omega)]
  rw [e, stc_self] at this
  exact this
section Lay
variable {F : Nat} {b c : Nat} {r : Row}
/-- no way is laid yet -/
theorem c_layNone {w : aI} (hF : 1000 ≤ F) (hP : Pb b) (hK : TOK w b) (hc : ¬ c = b + 13 ∧ ¬ c = b + 15 ∧ ¬ c = b + 17) (h1 : w c 1 = r 0) (b0 : 2 ≤ r 0 ∧ r 0 ≤ 10) :
    ∃ w2, f_X3_layNone F (b + 11) c w = some w2 ∧ (∀ a, ¬ a = b + 13 → ¬ a = b + 15 → ¬ a = b + 17 → w2 a = w a) ∧ (∀ j, 0 ≤ j → j < 100 → w2 (b + 13) j = -1 ∧ w2 (b + 17) j = -1) ∧ ∀ x y, (0 ≤ x ∧ x < r 0) → (0 ≤ y ∧ y < r 0) → w2 (b + 15) (10 * x + y) = if x = y then 0 else 9999 := by
  unfold f_X3_layNone
  rw [pr0 hP, pr1 hP, pr2 hP, c_clearTo hF (ptF hP) (plF hP) (by omega), bs, c_clearTo hF (ptM hP) (plM hP) (by omega), bs, c_clearTo hF (ptN hP) (plN hP) (by omega), bs]
  obtain ⟨z, hz⟩ : ∃ z, z = stc (stc (stc w (b + 13) (fun j => if 0 ≤ j ∧ j < ((100 : Nat) : Int) then -1 else w (b + 13) j)) (b + 15) (fun j => if 0 ≤ j ∧ j < ((100 : Nat) : Int) then 9999 else stc w (b + 13) (fun j => if 0 ≤ j ∧ j < ((100 : Nat) : Int) then -1 else w (b + 13) j) (b + 15) j)) (b + 17) (fun j => if 0 ≤ j ∧ j < ((100 : Nat) : Int) then -1 else stc (stc w (b + 13) (fun j => if 0 ≤ j ∧ j < ((100 : Nat) : Int) then -1 else w (b + 13) j)) (b + 15) (fun j => if 0 ≤ j ∧ j < ((100 : Nat) : Int) then 9999 else stc w (b + 13) (fun j => if 0 ≤ j ∧ j < ((100 : Nat) : Int) then -1 else w (b + 13) j) (b + 15) j) (b + 17) j) := ⟨_, rfl⟩
  rw [← hz]
  have z0 : ∀ a, ¬ a = b + 13 → ¬ a = b + 15 → ¬ a = b + 17 → z a = w a := fun a a1 a2 a3 => by rw [hz, stc_ne a3, stc_ne a2, stc_ne a1]
  have z13 : ∀ j, 0 ≤ j → j < 100 → z (b + 13) j = -1 := fun j j0 j1 => by rw [hz, stc_ne (by omega), stc_ne (by omega), stc_eq, if_pos (by omega)]
  have z15 : ∀ j, 0 ≤ j → j < 100 → z (b + 15) j = 9999 := fun j j0 j1 => by rw [hz, stc_ne (by omega), stc_eq, if_pos (by omega)]
  have z17 : ∀ j, 0 ≤ j → j < 100 → z (b + 17) j = -1 := fun j j0 j1 => by rw [hz, stc_eq, if_pos (by omega)]
  clear hz
  have K2 := hK.lay z0
  have key : ∀ (n : Nat) (v : Int) (f : Int → Int), 0 ≤ v → v ≤ r 0 → r 0 - v < n → (∀ x y, (0 ≤ x ∧ x < r 0) → (0 ≤ y ∧ y < r 0) → f (10 * x + y) = if x = y ∧ x < v then 0 else 9999) →
      ∃ f2, f_X3_layNone_b28 F (b + 11) c n v (stc z (b + 15) f) = some (stc z (b + 15) f2) ∧ ∀ x y, (0 ≤ x ∧ x < r 0) → (0 ≤ y ∧ y < r 0) → f2 (10 * x + y) = if x = y then 0 else 9999 := by
    intro n
    induction n with
    | zero => intro v f v0 v1 v2; omega
    | succ n ih =>
      intro v f v0 v1 v2 hf
      show ∃ f2, f_X3_layNone_b28_b F (b + 11) c (f_X3_layNone_b28 F (b + 11) c n) _ _ = _ ∧ _
      unfold f_X3_layNone_b28_b
      rw [stc_ne hc.2.1, z0 c hc.1 hc.2.1 hc.2.2, h1, gd_t (by omega)]
      by_cases c2 : r 0 ≤ v
      · rw [if_pos c2]
        refine ⟨f, rfl, fun x y hx hy => ?_⟩
        rw [hf x y hx hy]
        by_cases e : x = y
        · rw [if_pos e, if_pos ⟨e, by omega⟩]
        · rw [if_neg e, if_neg (fun q => e q.1)]
      · rw [if_neg c2, pr1 hP, putM hP (K2.stc (by omega)) (by omega) (by omega), bs, stc_stc, stc_eq]
        refine ih (v + 1) _ (by omega) (by omega) (by omega) (fun x y hx hy => ?_)
        by_cases e : 10 * x + y = 10 * v + v
        · rw [rs_eq e, if_pos (by omega)]
        · rw [rs_ne e, hf x y hx hy]
          by_cases e2 : x = y ∧ x < v
          · rw [if_pos e2, if_pos (by omega)]
          · rw [if_neg e2, if_neg (by omega)]
  obtain ⟨f2, e1, e2⟩ := key F 0 (z (b + 15)) (by omega) (by omega) (by omega) (fun x y hx hy => by
    rw [z15 _ (by omega) (by omega), if_neg (by omega)])
  rw [stc_self] at e1
  refine ⟨_, e1, fun a a1 a2 a3 => ?_, fun j j0 j1 => ?_, fun x y hx hy => ?_⟩
  · rw [stc_ne a2, z0 a a1 a2 a3]
  · rw [stc_ne (by omega), stc_ne (by omega)]; exact ⟨z13 j j0 j1, z17 j j0 j1⟩
  · rw [stc_eq]; exact e2 x y hx hy
/-- the sums of single ways -/
def sumN (r : Row) (n : Nat) (x y : Int) : Int := if x = y then 0 else if farN r n x y = -1 then 9999 else farN r n x y
theorem c_layWays {w : aI} (hP : Pb b) (hK : TOK w b) (hc : ¬ c = b + 13 ∧ ¬ c = b + 15 ∧ ¬ c = b + 17) (hPc : Pb c) (hKc : TOK w c) (hc4 : ¬ c + 4 = b + 13 ∧ ¬ c + 4 = b + 15 ∧ ¬ c + 4 = b + 17) (hct : ∀ w2 : aI, (∀ a, ¬ a = b + 13 → ¬ a = b + 15 → ¬ a = b + 17 → w2 a = w a) → TOK w2 c)
    (h2 : w c 2 = r 1) (hRW : RepW w c r) (b0 : 2 ≤ r 0 ∧ r 0 ≤ 10) (b1 : 0 ≤ r 1 ∧ r 1 ≤ 20) (hw : Ww r) :
    ∀ (n i : Nat) (w1 : aI), (i : Int) ≤ r 1 → r 1 - i < n → (∀ a, ¬ a = b + 13 → ¬ a = b + 15 → ¬ a = b + 17 → w1 a = w a) → (∀ j, 0 ≤ j → j < 100 → w1 (b + 17) j = -1) →
      (∀ x y, (0 ≤ x ∧ x < r 0) → (0 ≤ y ∧ y < 10) → w1 (b + 13) (10 * x + y) = farN r i x y) → (∀ x y, (0 ≤ x ∧ x < r 0) → (0 ≤ y ∧ y < r 0) → w1 (b + 15) (10 * x + y) = sumN r i x y) →
      ∃ w2, f_X3_lay_b7 F (b + 11) c n i w1 = f_X3_lay_b54 F (b + 11) c F 0 w2 ∧ (∀ a, ¬ a = b + 13 → ¬ a = b + 15 → ¬ a = b + 17 → w2 a = w a) ∧ (∀ j, 0 ≤ j → j < 100 → w2 (b + 17) j = -1) ∧
        (∀ x y, (0 ≤ x ∧ x < r 0) → (0 ≤ y ∧ y < 10) → w2 (b + 13) (10 * x + y) = farB r x y) ∧ (∀ x y, (0 ≤ x ∧ x < r 0) → (0 ≤ y ∧ y < r 0) → w2 (b + 15) (10 * x + y) = sumN r (r 1).toNat x y) := by
  intro n
  induction n with
  | zero => intro i w1 i1 i2; omega
  | succ n ih =>
    intro i w1 i1 i2 f0 f17 f13 f15
    show ∃ w2, f_X3_lay_b7_b F (b + 11) c (f_X3_lay_b7 F (b + 11) c n) _ _ = _ ∧ _
    unfold f_X3_lay_b7_b
    rw [f0 c hc.1 hc.2.1 hc.2.2, h2, gd_t (by omega)]
    by_cases c2 : r 1 ≤ i
    · have e : i = (r 1).toNat := by omega
      rw [if_pos c2]
      subst e
      exact ⟨w1, rfl, f0, f17, f13, f15⟩
    · obtain ⟨g0, g1, g2⟩ := hRW i (by omega) (by omega)
      have a := hw.1 i (by omega) (by omega)
      have hgt : ∀ k : Int, 0 ≤ k → k < 3 → f_X7_get F (c + 3) i k w1 = some (w (c + 4) (3 * i + k)) := fun k k0 k1 => by
        rw [getW hPc (hct w1 f0) (by omega) (by omega), f0 (c + 4) hc4.1 hc4.2.1 hc4.2.2]
      have K1 : TOK w1 b := hK.lay f0
      rw [if_neg c2, pf5 hPc, hgt 0 (by omega) (by omega), bs, hgt 1 (by omega) (by omega), bs, hgt 2 (by omega) (by omega), bs, Int.add_zero, g0, g1, g2]
      obtain ⟨A, hA⟩ : ∃ A, A = r (160 + 3 * (i : Int)) := ⟨_, rfl⟩
      obtain ⟨B, hB⟩ : ∃ B, B = r (160 + 3 * (i : Int) + 1) := ⟨_, rfl⟩
      obtain ⟨V, hV⟩ : ∃ V, V = r (160 + 3 * (i : Int) + 2) := ⟨_, rfl⟩
      have eAB : En2 r i A B := Or.inl ⟨hA.symm, hB.symm⟩
      have eN : ∀ x y, En2 r i x y → (x = A ∧ y = B) ∨ (x = B ∧ y = A) := fun x y e => by
        rcases e with ⟨e1, e2⟩ | ⟨e1, e2⟩
        · left; omega
        · right; omega
      rw [← hA, ← hB, ← hV] at a ⊢
      have KF : ∀ f, TOK (stc w1 (b + 13) f) b := fun f => K1.stc (by omega)
      have KM : ∀ f g, TOK (stc (stc w1 (b + 13) f) (b + 15) g) b := fun f g => (KF f).stc (by omega)
      have hl : f_X3_layWay F (b + 11) A B V w1 = some (stc (stc w1 (b + 13) (rs (rs (w1 (b + 13)) (10 * A + B) V) (10 * B + A) V)) (b + 15) (rs (rs (w1 (b + 15)) (10 * A + B) V) (10 * B + A) V)) := by
        unfold f_X3_layWay
        rw [pr0 hP, pr1 hP, putF hP K1 (by omega) (by omega), bs, putF hP (KF _) (by omega) (by omega), bs, stc_stc, stc_eq, putM hP (KF _) (by omega) (by omega), bs, putM hP (KM _ _) (by omega) (by omega), bs, stc_stc, stc_eq, stc_ne (by omega)]
      rw [hl, bs]
      refine ih (i + 1) _ (by omega) (by omega) (fun q a1 a2 a3 => ?_) (fun j j0 j1 => ?_) (fun x y hx hy => ?_) (fun x y hx hy => ?_)
      · rw [stc_ne a2, stc_ne a1, f0 q a1 a2 a3]
      · rw [stc_ne (by omega), stc_ne (by omega), f17 j j0 j1]
      · rw [stc_ne (by omega), stc_eq]
        by_cases e : En2 r i x y
        · rw [farN_yes hw (by omega) e, ← hV]
          rcases eN x y e with ⟨e1, e2⟩ | ⟨e1, e2⟩
          · rw [e1, e2, rs_ne (by omega), rs_self]
          · rw [e1, e2, rs_self]
        · have n1 : ¬ (x = A ∧ y = B) := fun q => e (by rw [q.1, q.2]; exact eAB)
          have n2 : ¬ (x = B ∧ y = A) := fun q => e (by rw [q.1, q.2]; exact eAB.sym)
          rw [farN_no hw (by omega) e, rs_ne (by omega), rs_ne (by omega), f13 x y hx hy]
      · rw [stc_eq]
        by_cases e : En2 r i x y
        · have n0 := (e.rg hw (by omega) (by omega)).2.2.1
          unfold sumN
          rw [farN_yes hw (by omega) e, ← hV, if_neg n0, if_neg (by omega)]
          rcases eN x y e with ⟨e1, e2⟩ | ⟨e1, e2⟩
          · rw [e1, e2, rs_ne (by omega), rs_self]
          · rw [e1, e2, rs_self]
        · have n1 : ¬ (x = A ∧ y = B) := fun q => e (by rw [q.1, q.2]; exact eAB)
          have n2 : ¬ (x = B ∧ y = A) := fun q => e (by rw [q.1, q.2]; exact eAB.sym)
          have e9 : sumN r (i + 1) x y = sumN r i x y := by
            unfold sumN
            rw [farN_no hw (by omega) e]
          rw [e9, rs_ne (by omega), rs_ne (by omega), f15 x y hx hy]
end Lay
