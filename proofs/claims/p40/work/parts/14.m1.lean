/-! ===== the reference's functions, evaluated: leaves ===== -/
def stc (w : aI) (a : Nat) (f : Int → Int) : aI := fun b => if b = a then f else w b
theorem stc_eq (w : aI) (a : Nat) (f : Int → Int) : stc w a f a = f := if_pos rfl
theorem stc_ne {w : aI} {a b : Nat} {f : Int → Int} (h : ¬ b = a) : stc w a f b = w b := if_neg h
theorem stc_stc (w : aI) (a : Nat) (f g : Int → Int) : stc (stc w a f) a g = stc w a g := by
  funext b; unfold stc; split <;> rfl
theorem stc_self (w : aI) (a : Nat) : stc w a (w a) = w := by
  funext b; unfold stc; split
  · rename_i h; rw [h]
  · rfl
theorem is_stc (w : aI) (a : Nat) (k v : Int) : iset w a k v = stc w a (rs (w a) k v) := by
  funext b; unfold stc; split
  · rename_i h; subst h; exact is_eq w b k v
  · rename_i h; exact is_ne h
theorem m_t (F : Nat) (i : Int) (w : aI) : f_X11_t F i w = some (220 + 27 * i) := rfl
theorem m_r (F : Nat) (i : Int) (w : aI) : f_X11_r F i w = some (25 + 13 * i) := rfl
theorem m_w (F : Nat) (i : Int) (w : aI) : f_X11_w F i w = some (160 + 3 * i) := rfl
theorem m_one (F : Nat) {v : Int} (w : aI) (h : v = 0 ∨ v = 1) : f_X11_one F v w = some v := by
  rcases h with rfl | rfl <;> rfl
theorem m_counts (F : Nat) {k : Int} (v : Int) (w : aI) (h : 0 ≤ k ∧ k ≤ 10) : f_X11_counts F 210 k v w = some (stc w 211 (rs (w 211) (10 + k) (w 211 (10 + k) + v))) := by
  simp (disch := omega) only [f_X11_counts, ltI, ltM, m0, n0, gd_t, is_stc]
theorem m_barsOf (F : Nat) {n : Int} (w : aI) (h : 0 ≤ n ∧ n ≤ 8) : f_X11_barsOf F 210 n w = some ((n + 3) / 4) := by
  simp (disch := omega) only [f_X11_barsOf, gd_t, td]
theorem m_bars (F : Nat) {i : Int} (w : aI) (hi : 0 ≤ i ∧ i < 30) (h : 1 ≤ w 211 (220 + 27 * i + 2) ∧ w 211 (220 + 27 * i + 2) ≤ 8) : f_X11_bars F 210 i w = some (bar (w 211) i) := by
  simp (disch := omega) only [f_X11_bars, m_t, bs, m0, n0, gd_t, m_barsOf, bar]
theorem m_hears (F : Nat) (hF : 100 ≤ F) {i : Int} (w : aI) (hi : 0 ≤ i ∧ i < 30) : f_X11_hearsAsSent F 210 i w = some (stc w 211 (hearT (w 211) i)) := by
  have key : ∀ (n : Nat) (v : Int), 0 ≤ v → v ≤ 8 → 8 - v < n → f_X11_hearsAsSent_b2 F 210 i n v (stc w 211 (fun k => if 220 + 27 * i + 19 ≤ k ∧ k < 220 + 27 * i + 19 + v then w 211 (k - 8) else w 211 k)) = some (stc w 211 (hearT (w 211) i)) := by
    intro n
    induction n with
    | zero => intro v h0 h1 h2; omega
    | succ n ih =>
      intro v h0 h1 h2
      show f_X11_hearsAsSent_b2_b F 210 i (f_X11_hearsAsSent_b2 F 210 i n) v _ = _
      unfold f_X11_hearsAsSent_b2_b
      by_cases q : 8 ≤ v
      · simp (disch := omega) only [gd_t, if_pos]
        have e : v = 8 := by omega
        subst e
        congr 2
        funext k
        exact ite_iff (by omega)
      · simp (disch := omega) only [gd_t, if_neg, m_t, bs, m0, n0, ltM, stc_eq, is_stc, stc_stc]
        have h9 := ih (v + 1) (by omega) (by omega) (by omega)
        rw [← h9]
        congr 2
        funext k
        unfold rs
        by_cases e : k = 220 + 27 * i + 19 + v
        · subst e
          simp (disch := omega) only [if_pos, if_neg]
          exact congrArg (w 211) (by omega)
        · by_cases e2 : 220 + 27 * i + 19 ≤ k ∧ k < 220 + 27 * i + 19 + v
          · simp (disch := omega) only [if_pos, if_neg]
          · simp (disch := omega) only [if_neg]
  have h9 := key F 0 (by omega) (by omega) (by omega)
  rw [← h9]
  show f_X11_hearsAsSent_b2 F 210 i F 0 w = _
  congr 1
  rw [← stc_self w 211]
  congr 1
  · rw [stc_self]
  · funext k
    rw [if_neg (by omega), stc_self]
theorem m_unlike (F : Nat) (hF : 100 ≤ F) {i : Int} (w : aI) (hi : 0 ≤ i ∧ i < 30) (h : 1 ≤ w 211 (220 + 27 * i + 2) ∧ w 211 (220 + 27 * i + 2) ≤ 8) (h7 : ∀ k, 220 + 27 * i + 11 ≤ k → k < 220 + 27 * i + 27 → 0 ≤ w 211 k ∧ w 211 k ≤ 7) : f_X11_unlike F 210 i w = some (unl (w 211) i) := by
  have key : ∀ (n : Nat) (v : Nat), (v : Int) ≤ w 211 (220 + 27 * i + 2) → w 211 (220 + 27 * i + 2) - v < n → f_X11_unlike_b4 F 210 i w n (cnt (fun j => !decide (w 211 (220 + 27 * i + 11 + j) = w 211 (220 + 27 * i + 19 + j))) v) v = some (unl (w 211) i) := by
    intro n
    induction n with
    | zero => intro v h1 h2; omega
    | succ n ih =>
      intro v h1 h2
      show f_X11_unlike_b4_b F 210 i w (f_X11_unlike_b4 F 210 i w n) _ v = _
      unfold f_X11_unlike_b4_b
      by_cases q : w 211 (220 + 27 * i + 2) ≤ v
      · simp (disch := omega) only [m_t, bs, m0, n0, gd_t, if_pos]
        have e : v = (w 211 (220 + 27 * i + 2)).toNat := by omega
        rw [unl, ← e]
      · have ha := h7 (220 + 27 * i + 11 + v) (by omega) (by omega)
        have hb := h7 (220 + 27 * i + 19 + v) (by omega) (by omega)
        simp (disch := omega) only [m_t, bs, m0, n0, gd_t, if_neg, m_one, ltI]
        have h9 := ih (v + 1) (by omega) (by omega)
        rw [cnt] at h9
        have e : ((v + 1 : Nat) : Int) = (v : Int) + 1 := by omega
        rw [e] at h9
        split
        · rename_i q2
          rw [← h9]
          simp only [q2, decide_true, Bool.not_true, bI]
          rfl
        · rename_i q2
          rw [← h9]
          simp only [q2, decide_false, Bool.not_false, bI]
          rfl
  exact key F 0 (by omega) (by omega)
