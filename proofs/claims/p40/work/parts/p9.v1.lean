/-! ===== the class takes twenty bytes; and forgets some ===== -/
def W4 (c : Int → Int) (j : Int) : Int := ((c (4 * j) * 256 + c (4 * j + 1)) * 256 + c (4 * j + 2)) * 256 + c (4 * j + 3)
theorem W4_rg {c : Int → Int} {j : Int} (h : ∀ i, 0 ≤ i → i < 20 → 0 ≤ c i ∧ c i ≤ 127) (hj : 0 ≤ j ∧ j < 5) : 0 ≤ W4 c j ∧ W4 c j ≤ 2147483647 := by
  have h0 := h (4 * j) (by omega) (by omega)
  have h1 := h (4 * j + 1) (by omega) (by omega)
  have h2 := h (4 * j + 2) (by omega) (by omega)
  have h3 := h (4 * j + 3) (by omega) (by omega)
  unfold W4
  omega
theorem addB_2 (w : aI) (b : Int) : addB w b 2 = rs (w 2) (w 1 1) b := by unfold addB; rw [is_ne (by decide), is_eq]
theorem addB4_2 {w : aI} {c : Int → Int} {j : Int} (h : ∀ i, 0 ≤ i → i < 20 → 0 ≤ c i ∧ c i ≤ 127) (hj : 0 ≤ j ∧ j < 5) (k : Int) : addB4 w (W4 c j) 2 k = if w 1 1 ≤ k ∧ k < w 1 1 + 4 then c (4 * j + (k - w 1 1)) else w 2 k := by
  have h0 := h (4 * j) (by omega) (by omega)
  have h1 := h (4 * j + 1) (by omega) (by omega)
  have h2 := h (4 * j + 2) (by omega) (by omega)
  have h3 := h (4 * j + 3) (by omega) (by omega)
  have e0 : W4 c j / 16777216 % 256 = c (4 * j) := by unfold W4; omega
  have e1 : W4 c j / 65536 % 256 = c (4 * j + 1) := by unfold W4; omega
  have e2 : W4 c j / 256 % 256 = c (4 * j + 2) := by unfold W4; omega
  have e3 : W4 c j % 256 = c (4 * j + 3) := by unfold W4; omega
  unfold addB4
  rw [e0, e1, e2, e3]
  simp only [addB_2, addB_n, rs_def]
  by_cases k3 : k = w 1 1 + 1 + 1 + 1
  · rw [if_pos k3, if_pos (by omega)]; congr 1; omega
  rw [if_neg k3]
  by_cases k2 : k = w 1 1 + 1 + 1
  · rw [if_pos k2, if_pos (by omega)]; congr 1; omega
  rw [if_neg k2]
  by_cases k1 : k = w 1 1 + 1
  · rw [if_pos k1, if_pos (by omega)]; congr 1; omega
  rw [if_neg k1]
  by_cases k0 : k = w 1 1
  · rw [if_pos k0, if_pos (by omega)]; congr 1; omega
  rw [if_neg k0, if_neg (by omega)]
theorem k_append {F : Nat} (hF : 10 ≤ F) {w : aI} {c : Int → Int} (h : ∀ i, 0 ≤ i → i < 20 → 0 ≤ c i ∧ c i ≤ 127) (hn : 0 ≤ w 1 1 ∧ w 1 1 ≤ 780) : ∃ z, f_X10_appendInput F 0 (W4 c 0) (W4 c 1) (W4 c 2) (W4 c 3) (W4 c 4) w = some (w 1 1 + 20, z) ∧ z 1 1 = w 1 1 + 20 ∧ (∀ k, z 2 k = if w 1 1 ≤ k ∧ k < w 1 1 + 20 then c (k - w 1 1) else w 2 k) ∧ (∀ a, ¬ a = 1 → ¬ a = 2 → z a = w a) ∧ ∀ k, ¬ k = 1 → z 1 k = w 1 k := by
  have r := fun j hj => W4_rg (c := c) (j := j) h hj
  have r0 := r 0 (by decide)
  have r1 := r 1 (by decide)
  have r2 := r 2 (by decide)
  have r3 := r 3 (by decide)
  have r4 := r 4 (by decide)
  have b1 : ∀ (w : aI) (p k : Int), ¬ k = 1 → addB4 w p 1 k = w 1 k := fun w p k hk => by
    have a1 : ∀ (w : aI) (b : Int), addB w b 1 k = w 1 k := fun w b => by unfold addB; rw [is_eq, rs_ne hk, is_ne (by decide)]
    unfold addB4
    rw [a1, a1, a1, a1]
  unfold f_X10_appendInput f_X0_size
  rw [k0, bs, gd_t (by omega), if_pos (by omega), c_four hF (by omega) (by omega), bs, c_four hF (by omega) (by rw [addB4_n]; omega), bs, c_four hF (by omega) (by rw [addB4_n, addB4_n]; omega), bs, c_four hF (by omega) (by rw [addB4_n, addB4_n, addB4_n]; omega), bs, c_four hF (by omega) (by rw [addB4_n, addB4_n, addB4_n, addB4_n]; omega), bs, bs]
  have un : addB4 (addB4 (addB4 (addB4 (addB4 w (W4 c 0)) (W4 c 1)) (W4 c 2)) (W4 c 3)) (W4 c 4) 1 1 = w 1 1 + 20 := by rw [addB4_n, addB4_n, addB4_n, addB4_n, addB4_n]; omega
  refine ⟨_, by rw [un], un, fun k => ?_, fun a a0 a1 => by rw [addB4_o a0 a1, addB4_o a0 a1, addB4_o a0 a1, addB4_o a0 a1, addB4_o a0 a1], fun k hk => by rw [b1 _ _ _ hk, b1 _ _ _ hk, b1 _ _ _ hk, b1 _ _ _ hk, b1 _ _ _ hk]⟩
  rw [addB4_2 h (by decide), addB4_2 h (by decide), addB4_2 h (by decide), addB4_2 h (by decide), addB4_2 h (by decide), addB4_n, addB4_n, addB4_n, addB4_n]
  by_cases c4 : w 1 1 + 4 + 4 + 4 + 4 ≤ k ∧ k < w 1 1 + 4 + 4 + 4 + 4 + 4
  · rw [if_pos c4, if_pos (by omega)]; congr 1; omega
  rw [if_neg c4]
  by_cases c3 : w 1 1 + 4 + 4 + 4 ≤ k ∧ k < w 1 1 + 4 + 4 + 4 + 4
  · rw [if_pos c3, if_pos (by omega)]; congr 1; omega
  rw [if_neg c3]
  by_cases c2 : w 1 1 + 4 + 4 ≤ k ∧ k < w 1 1 + 4 + 4 + 4
  · rw [if_pos c2, if_pos (by omega)]; congr 1; omega
  rw [if_neg c2]
  by_cases c1 : w 1 1 + 4 ≤ k ∧ k < w 1 1 + 4 + 4
  · rw [if_pos c1, if_pos (by omega)]; congr 1; omega
  rw [if_neg c1]
  by_cases c0 : w 1 1 ≤ k ∧ k < w 1 1 + 4
  · rw [if_pos c0, if_pos (by omega)]; congr 1; omega
  rw [if_neg c0, if_neg (by omega)]
theorem k_trunc {F : Nat} {w : aI} {p : Int} (hp : 0 ≤ p ∧ p ≤ w 1 1) (h : w 1 1 ≤ 800) : f_X10_truncateInput F 0 p w = some (true, iset w 1 1 p) := by
  unfold f_X10_truncateInput f_X0_cutTo
  rw [k0, gd_t (by omega), if_neg (by omega), gd_t (by omega), if_pos hp.2, ltm, bk]
