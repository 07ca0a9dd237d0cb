/-! ===== wrong notes on a way ===== -/
def wrF (r : Row) (l v : Int) (x y : Int) : Int := wrg r v (farB r x y) y l
theorem wrF_bd {r : Row} {l v x y : Int} (hl : 0 ≤ l ∧ l ≤ 8) : 0 ≤ wrF r l v x y ∧ wrF r l v x y ≤ 8 := by
  have := wrg_bd (r := r) (wind := v) (far := farB r x y) (x := y) (n := l) hl.1
  unfold wrF
  omega
theorem c_wr9 {F : Nat} {w : aI} {r : Row} {p1 g l u : Int} (hN : Rep w 12 r) (hW : WF r) (hg : 0 ≤ g ∧ g < r 0) (hl : 1 ≤ l ∧ l ≤ 8) (hu : 0 ≤ u ∧ u ≤ 9) : ∀ (m n : Nat) (x v : Int) (k : Nat), m < n → m + k ≤ 10 → (0 ≤ x ∧ x < r 0) → ¬ dist r (-1) g x = -1 → rank r g x ≤ m → f_X6_wrongNotesOn_b9 F 12 p1 g l u w n v x k = some (v + psum (wrF r l u) r g m x) := by
  obtain ⟨b0, b1, -⟩ := hW.1
  intro m
  induction m with
  | zero =>
    intro n x v k hn hk hx hd hr
    obtain ⟨n, rfl⟩ : ∃ j, n = j + 1 := ⟨n - 1, by omega⟩
    have e := rank_0 hW hx hg hd (by omega)
    show f_X6_wrongNotesOn_b9_b F 12 p1 g l u w (f_X6_wrongNotesOn_b9 F 12 p1 g l u w n) _ _ _ = _
    unfold f_X6_wrongNotesOn_b9_b
    rw [gd_t (by omega), show psum (wrF r l u) r g 0 x = 0 from rfl, Int.add_zero]
    by_cases c : (10 : Int) ≤ k
    · rw [if_pos c]
    · rw [if_neg c, gd_t (by omega), if_pos e]
  | succ m ih =>
    intro n x v k hn hk hx hd hr
    obtain ⟨n, rfl⟩ : ∃ j, n = j + 1 := ⟨n - 1, by omega⟩
    show f_X6_wrongNotesOn_b9_b F 12 p1 g l u w (f_X6_wrongNotesOn_b9 F 12 p1 g l u w n) _ _ _ = _
    unfold f_X6_wrongNotesOn_b9_b psum
    rw [gd_t (by omega), if_neg (by omega), gd_t (by omega)]
    by_cases c : x = g
    · rw [if_pos c, if_pos c, Int.add_zero]
    · obtain ⟨s1, s2, s3⟩ := rank_step hW hx hg c hd
      obtain ⟨i, i0, i1, -, -, -, -, n4, -⟩ := nxt_ok b0 hW.2.2.1 b1.1 (isd b0 b1 hW.2.2.1 (by omega) hg) hx.1 hx.2 c hd
      have hfw := (hW.2.2.1.1 i i0 i1).2.2.2
      have he := (hW.2.1 _ s1.1 s1.2).2.2.2.1
      have hn2 := ih n (nxt r x g) (v + wrF r l u x (nxt r x g)) (k + 1) (by omega) (by omega) s1 s2 (by omega)
      rw [if_neg c, if_neg c, c_nxt P12 hN b0.2 hx hg, bs, gd_t (by omega), if_neg (by omega), pf9 P12, pr0 P12, getF P12 hN.1.1 (by omega) (by omega), bs, (hN.2.2.2.2.2.2 x (nxt r x g) hx.1 hx.2 s1.1 (by omega)).1, c_wrong P12 hN b0.2 s1 hu (by omega) (by omega) he, bs, lti, ← Int.add_assoc]
      exact hn2
