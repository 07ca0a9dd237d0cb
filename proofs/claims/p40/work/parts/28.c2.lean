/-! ===== the class: what a tick writes ===== -/
theorem c_raised {F : Nat} {n : Int → Int} {w : aI} {j : Int} (h : N7 n) (j0 : 0 ≤ j) (j1 : j < 8) : f_X8_raised F (pk n) j w = some (pk (fun k => if k = j then (n j + 1) % 8 else n k)) := by
  have hb := pk_bd h
  have hn := h j j0 j1
  obtain ⟨a0, a1, a2, a3, a4, a5, a6, a7⟩ := h.all
  unfold f_X8_raised
  rw [lti, c_noteOf h j0 j1, bs, lti, gd_t (by omega), gd_t (by omega), andI_7 (by omega)]
  congr 1
  have hv : 0 ≤ (n j + 1) % 8 ∧ (n j + 1) % 8 ≤ 7 := by omega
  have hj : j = 0 ∨ j = 1 ∨ j = 2 ∨ j = 3 ∨ j = 4 ∨ j = 5 ∨ j = 6 ∨ j = 7 := by omega
  rcases hj with hj | hj | hj | hj | hj | hj | hj | hj
  · subst hj
    have e := raise_int (p := pk n) (v := (n 0 + 1) % 8) 0 (by decide) hb hv (by decide) (by decide)
    have e2 : orI (andI (pk n) (xorI (shl 7 (3 * 0)) (-1))) (shl ((n 0 + 1) % 8) (3 * 0)) = _ := e
    rw [e2]
    simp only [Nat.reduceAdd, Int.reducePow, pk, Int.reduceEq, reduceIte]
    omega
  · subst hj
    have e := raise_int (p := pk n) (v := (n 1 + 1) % 8) 3 (by decide) hb hv (by decide) (by decide)
    have e2 : orI (andI (pk n) (xorI (shl 7 (3 * 1)) (-1))) (shl ((n 1 + 1) % 8) (3 * 1)) = _ := e
    rw [e2]
    simp only [Nat.reduceAdd, Int.reducePow, pk, Int.reduceEq, reduceIte]
    omega
  · subst hj
    have e := raise_int (p := pk n) (v := (n 2 + 1) % 8) 6 (by decide) hb hv (by decide) (by decide)
    have e2 : orI (andI (pk n) (xorI (shl 7 (3 * 2)) (-1))) (shl ((n 2 + 1) % 8) (3 * 2)) = _ := e
    rw [e2]
    simp only [Nat.reduceAdd, Int.reducePow, pk, Int.reduceEq, reduceIte]
    omega
  · subst hj
    have e := raise_int (p := pk n) (v := (n 3 + 1) % 8) 9 (by decide) hb hv (by decide) (by decide)
    have e2 : orI (andI (pk n) (xorI (shl 7 (3 * 3)) (-1))) (shl ((n 3 + 1) % 8) (3 * 3)) = _ := e
    rw [e2]
    simp only [Nat.reduceAdd, Int.reducePow, pk, Int.reduceEq, reduceIte]
    omega
  · subst hj
    have e := raise_int (p := pk n) (v := (n 4 + 1) % 8) 12 (by decide) hb hv (by decide) (by decide)
    have e2 : orI (andI (pk n) (xorI (shl 7 (3 * 4)) (-1))) (shl ((n 4 + 1) % 8) (3 * 4)) = _ := e
    rw [e2]
    simp only [Nat.reduceAdd, Int.reducePow, pk, Int.reduceEq, reduceIte]
    omega
  · subst hj
    have e := raise_int (p := pk n) (v := (n 5 + 1) % 8) 15 (by decide) hb hv (by decide) (by decide)
    have e2 : orI (andI (pk n) (xorI (shl 7 (3 * 5)) (-1))) (shl ((n 5 + 1) % 8) (3 * 5)) = _ := e
    rw [e2]
    simp only [Nat.reduceAdd, Int.reducePow, pk, Int.reduceEq, reduceIte]
    omega
  · subst hj
    have e := raise_int (p := pk n) (v := (n 6 + 1) % 8) 18 (by decide) hb hv (by decide) (by decide)
    have e2 : orI (andI (pk n) (xorI (shl 7 (3 * 6)) (-1))) (shl ((n 6 + 1) % 8) (3 * 6)) = _ := e
    rw [e2]
    simp only [Nat.reduceAdd, Int.reducePow, pk, Int.reduceEq, reduceIte]
    omega
  · subst hj
    have e := raise_int (p := pk n) (v := (n 7 + 1) % 8) 21 (by decide) hb hv (by decide) (by decide)
    have e2 : orI (andI (pk n) (xorI (shl 7 (3 * 7)) (-1))) (shl ((n 7 + 1) % 8) (3 * 7)) = _ := e
    rw [e2]
    simp only [Nat.reduceAdd, Int.reducePow, pk, Int.reduceEq, reduceIte]
    omega
def tka (n : Int → Int) : Nat → Int
  | 0 => 0
  | k + 1 => tka n k * 8 + n k
theorem tka_bd {n : Int → Int} (h : N7 n) : ∀ k : Nat, k ≤ 8 → 0 ≤ tka n k ∧ tka n k < 8 ^ k := by
  intro k
  induction k with
  | zero => intro _; exact ⟨Int.le_refl _, (by decide : (0 : Int) < 1)⟩
  | succ k ih =>
    intro hk
    have a := ih (by omega)
    have b := h k (by omega) (by omega)
    rw [tka, Int.pow_succ]
    omega
theorem c_turned {F : Nat} {n : Int → Int} {w : aI} {N : Int} (hF : 100 ≤ F) (h : N7 n) (hN : 0 ≤ N ∧ N ≤ 8) : f_X8_turned F (pk n) N w = some (tka n N.toNat) := by
  have key : ∀ (m v : Nat), (v : Int) ≤ N → N - v < m → f_X8_turned_b4 F (pk n) N w m (tka n v) v = some (tka n N.toNat) := by
    intro m
    induction m with
    | zero => intro v v1 v2; omega
    | succ m ih =>
      intro v v1 v2
      show f_X8_turned_b4_b F (pk n) N w (f_X8_turned_b4 F (pk n) N w m) _ _ = _
      unfold f_X8_turned_b4_b
      rw [gd_t (by omega)]
      by_cases c : N ≤ v
      · have e : v = N.toNat := by omega
        rw [if_pos c, ← e]
      · rw [if_neg c, c_noteOf h (by omega) (by omega), bs, lti]
        have hb := tka_bd h v (by omega)
        have hp : (8 : Int) ^ v ≤ 8 ^ 7 := by
          have h1 : (8 : Nat) ^ v ≤ 8 ^ 7 := Nat.pow_le_pow_right (by decide) (by omega)
          have e1 : ((8 : Int) ^ v) = ((8 ^ v : Nat) : Int) := by rw [Int.natCast_pow]; rfl
          rw [e1]
          have e2 : ((8 : Int) ^ 7) = ((8 ^ 7 : Nat) : Int) := by decide
          rw [e2]
          omega
        have hp7 : (8 : Int) ^ 7 = 2097152 := by decide
        have hn := h v (by omega) (by omega)
        have e : orI (shl (tka n v) 3) (n v) = tka n (v + 1) := by
          have := orI_shl (a := tka n v) (d := n v) 3 (by decide) hb.1 (by show _ * 8 < _; omega) ⟨hn.1, by show _ < (8 : Int); omega⟩
          exact this
        rw [e]
        exact ih (v + 1) (by omega) (by omega)
  exact key F 0 (by omega) (by omega)
theorem tka_pk {n : Int → Int} {N : Int} (hN : 1 ≤ N ∧ N ≤ 8) : tka n N.toNat = pk (fun j => if j < N then n (N - 1 - j) else 0) := by
  have hj : N = 1 ∨ N = 2 ∨ N = 3 ∨ N = 4 ∨ N = 5 ∨ N = 6 ∨ N = 7 ∨ N = 8 := by omega
  rcases hj with hj | hj | hj | hj | hj | hj | hj | hj
  · subst hj
    show ((0 : Int) * 8 + n 0) = _
    simp only [pk, Int.reduceLT, reduceIte, Int.reduceSub]
    omega
  · subst hj
    show (((0 : Int) * 8 + n 0) * 8 + n 1) = _
    simp only [pk, Int.reduceLT, reduceIte, Int.reduceSub]
    omega
  · subst hj
    show ((((0 : Int) * 8 + n 0) * 8 + n 1) * 8 + n 2) = _
    simp only [pk, Int.reduceLT, reduceIte, Int.reduceSub]
    omega
  · subst hj
    show (((((0 : Int) * 8 + n 0) * 8 + n 1) * 8 + n 2) * 8 + n 3) = _
    simp only [pk, Int.reduceLT, reduceIte, Int.reduceSub]
    omega
  · subst hj
    show ((((((0 : Int) * 8 + n 0) * 8 + n 1) * 8 + n 2) * 8 + n 3) * 8 + n 4) = _
    simp only [pk, Int.reduceLT, reduceIte, Int.reduceSub]
    omega
  · subst hj
    show (((((((0 : Int) * 8 + n 0) * 8 + n 1) * 8 + n 2) * 8 + n 3) * 8 + n 4) * 8 + n 5) = _
    simp only [pk, Int.reduceLT, reduceIte, Int.reduceSub]
    omega
  · subst hj
    show ((((((((0 : Int) * 8 + n 0) * 8 + n 1) * 8 + n 2) * 8 + n 3) * 8 + n 4) * 8 + n 5) * 8 + n 6) = _
    simp only [pk, Int.reduceLT, reduceIte, Int.reduceSub]
    omega
  · subst hj
    show (((((((((0 : Int) * 8 + n 0) * 8 + n 1) * 8 + n 2) * 8 + n 3) * 8 + n 4) * 8 + n 5) * 8 + n 6) * 8 + n 7) = _
    simp only [pk, Int.reduceLT, reduceIte, Int.reduceSub]
    omega
