/-! ===== the reference: the next roof, the tune that goes first ===== -/
theorem m_ends (F : Nat) {i x : Int} (w : aI) (hi : 0 ≤ i ∧ i < 20) (hx : rg x) (h1 : rg (w 211 (160 + 3 * i)) ∧ rg (w 211 (160 + 3 * i + 1))) : f_X11_ends F 210 i x w = some (decide (w 211 (160 + 3 * i) = x ∨ w 211 (160 + 3 * i + 1) = x)) := by
  unfold f_X11_ends
  simp (disch := omega) only [m_w, bs, m0, n0, gd_t]
  by_cases c : w 211 (160 + 3 * i) = x
  · rw [if_pos c, decide_eq_true (Or.inl c)]
  · rw [if_neg c]
    by_cases c2 : w 211 (160 + 3 * i + 1) = x
    · rw [if_pos c2, decide_eq_true (Or.inr c2)]
    · rw [if_neg c2, decide_eq_false (by omega)]
def Mt (r : Row) (q : Int → Int) (x j y : Int) : Prop := En2 r j x y ∧ ¬ q y = -1 ∧ q y + r (160 + 3 * j + 2) = q x
def MtI (r : Row) (q : Int → Int) (x i best : Int) : Prop :=
  (best = -1 ∧ ∀ j y, 0 ≤ j → j < i → ¬ Mt r q x j y) ∨ ((0 ≤ best ∧ best < 10) ∧ (∃ j, 0 ≤ j ∧ j < i ∧ Mt r q x j best) ∧ ∀ j y, 0 ≤ j → j < i → Mt r q x j y → best ≤ y)
theorem MtI.no {r : Row} {q : Int → Int} {x i best : Int} (h : MtI r q x i best) (hn : ∀ y, ¬ Mt r q x i y) : MtI r q x (i + 1) best := by
  rcases h with ⟨h1, h2⟩ | ⟨h0, ⟨j, j0, j1, h1⟩, h2⟩
  · refine Or.inl ⟨h1, fun j y j0 j1 => ?_⟩
    by_cases c : j = i
    · subst c; exact hn y
    · exact h2 j y j0 (by omega)
  · refine Or.inr ⟨h0, ⟨j, j0, by omega, h1⟩, fun j y j0 j1 h => ?_⟩
    by_cases c : j = i
    · subst c; exact absurd h (hn y)
    · exact h2 j y j0 (by omega) h
theorem Mt.uni {r : Row} {q : Int → Int} {x j y z : Int} (h : Mt r q x j y) (k : En2 r j x z) (hd : ¬ r (160 + 3 * j) = r (160 + 3 * j + 1)) : y = z := by
  rcases h.1 with ⟨a, b⟩ | ⟨a, b⟩ <;> rcases k with ⟨c, d⟩ | ⟨c, d⟩ <;> omega
theorem MtI.yes {r : Row} {q : Int → Int} {x i best y : Int} (h : MtI r q x i best) (h0 : 0 ≤ i) (hy : 0 ≤ y ∧ y < 10) (hm : Mt r q x i y) (hd : ¬ r (160 + 3 * i) = r (160 + 3 * i + 1)) : MtI r q x (i + 1) (if best = -1 ∨ y < best then y else best) := by
  rcases h with ⟨h1, h2⟩ | ⟨h3, ⟨j, j0, j1, h1⟩, h2⟩
  · rw [if_pos (Or.inl h1)]
    refine Or.inr ⟨hy, ⟨i, h0, by omega, hm⟩, fun j z j0 j1 h => ?_⟩
    by_cases c : j = i
    · subst c; rw [h.uni hm.1 hd]; exact Int.le_refl _
    · exact absurd h (h2 j z j0 (by omega))
  · by_cases c : y < best
    · rw [if_pos (Or.inr c)]
      refine Or.inr ⟨hy, ⟨i, h0, by omega, hm⟩, fun j z j0 j1 h => ?_⟩
      by_cases c : j = i
      · subst c; rw [h.uni hm.1 hd]; exact Int.le_refl _
      · have := h2 j z j0 (by omega) h
        omega
    · rw [if_neg (by omega)]
      refine Or.inr ⟨h3, ⟨j, j0, by omega, h1⟩, fun j z j0 j1 h => ?_⟩
      by_cases c : j = i
      · subst c; rw [h.uni hm.1 hd]; omega
      · exact h2 j z j0 (by omega) h
theorem m_next_loop {F : Nat} {w : aI} {x g : Int} (hb : 2 ≤ w 211 0 ∧ w 211 0 ≤ 10) (h1 : 0 ≤ w 211 1 ∧ w 211 1 ≤ 20) (hw : Ww (w 211)) (hx : 0 ≤ x ∧ x < w 211 0) (hq : ∀ y, 0 ≤ y → y < 10 → -1 ≤ w 216 y ∧ w 216 y ≤ 1000) (hxq : ¬ w 216 x = -1) :
    ∀ (n : Nat) (i best : Int), 0 ≤ i → i ≤ w 211 1 → w 211 1 - i < n → MtI (w 211) (w 216) x i best → ∃ b, f_X11_nextTo_b22 F 210 x g n best i w = some (b, w) ∧ MtI (w 211) (w 216) x (w 211 1) b := by
  intro n
  induction n with
  | zero => intro i best i0 i1 i2; omega
  | succ n ih =>
    intro i best i0 i1 i2 hI
    show ∃ b, f_X11_nextTo_b22_b F 210 x g (f_X11_nextTo_b22 F 210 x g n) best i w = _ ∧ _
    unfold f_X11_nextTo_b22_b
    by_cases c : w 211 1 ≤ i
    · simp (disch := omega) only [m0, n0, gd_t, if_pos]
      have e : i = w 211 1 := by omega
      exact ⟨best, rfl, by rw [← e]; exact hI⟩
    · have a := hw.1 i i0 (by omega)
      have rb : rg best := by
        rcases hI with ⟨e, -⟩ | ⟨e, -⟩ <;> omega
      simp (disch := omega) only [m0, n0, gd_t, if_neg, m_ends, bs]
      by_cases c1 : w 211 (160 + 3 * i) = x ∨ w 211 (160 + 3 * i + 1) = x
      · rw [if_pos (decide_eq_true c1)]
        obtain ⟨y, hy⟩ : ∃ y, En2 (w 211) i x y := by
          rcases c1 with c1 | c1
          · exact ⟨_, Or.inl ⟨c1, rfl⟩⟩
          · exact ⟨_, Or.inr ⟨rfl, c1⟩⟩
        have yr : 0 ≤ y ∧ y < w 211 0 := by rcases hy with ⟨e1, e2⟩ | ⟨e1, e2⟩ <;> omega
        have yq := hq y yr.1 (by omega)
        have xq := hq x hx.1 (by omega)
        rw [m_other F w (by omega) hy, bs]
        simp (disch := omega) only [m9, n9, gd_t, m_w, bs]
        by_cases c2 : w 216 y = -1
        · rw [if_pos c2]
          unfold f_X11_nextTo_b99 f_X11_nextTo_b100
          rw [gd_t (by decide), if_pos rfl]
          exact ih (i + 1) best (by omega) (by omega) (by omega) (hI.no fun z hz => hz.2.1 (by rw [hz.uni hy a.2.2.1]; exact c2))
        · rw [if_neg c2]
          by_cases c3 : w 216 y + w 211 (160 + 3 * i + 2) = w 216 x
          · rw [if_pos c3]
            unfold f_X11_nextTo_b100
            rw [gd_t (by decide), if_neg (by decide)]
            have hy2 := hI.yes i0 (by omega) ⟨hy, c2, c3⟩ a.2.2.1
            simp (disch := omega) only [gd_t]
            by_cases c4 : best = -1
            · rw [if_pos c4]
              rw [if_pos (Or.inl c4)] at hy2
              exact ih (i + 1) y (by omega) (by omega) (by omega) hy2
            · rw [if_neg c4]
              by_cases c5 : best ≤ y
              · rw [if_pos c5]
                rw [if_neg (by omega)] at hy2
                exact ih (i + 1) best (by omega) (by omega) (by omega) hy2
              · rw [if_neg c5]
                rw [if_pos (by omega)] at hy2
                exact ih (i + 1) y (by omega) (by omega) (by omega) hy2
          · rw [if_neg c3]
            unfold f_X11_nextTo_b99 f_X11_nextTo_b100
            rw [gd_t (by decide), if_pos rfl]
            exact ih (i + 1) best (by omega) (by omega) (by omega) (hI.no fun z hz => c3 (by rw [← hz.uni hy a.2.2.1]; exact hz.2.2))
      · rw [if_neg (by rw [decide_eq_true_iff]; exact c1)]
        exact ih (i + 1) best (by omega) (by omega) (by omega) (hI.no fun z hz => c1 (by rcases hz.1 with ⟨e1, e2⟩ | ⟨e1, e2⟩ <;> omega))
theorem MtI.nx {r : Row} {q : Int → Int} {x g b : Int} (hb : 2 ≤ r 0 ∧ r 0 ≤ 10) (h1 : 0 ≤ r 1 ∧ r 1 ≤ 20) (hw : Ww r) (hq : IsDist r (-1) g q) (hx : 0 ≤ x ∧ x < r 0) (hg : 0 ≤ g ∧ g < r 0) (hxg : ¬ x = g) (hd : ¬ q x = -1) (h : MtI r q x (r 1) b) : b = nxt r x g := by
  have hd0 : ∀ y, 0 ≤ y → y < r 0 → dist r (-1) g y = q y := fun y y0 y1 => dist_of hw hq y0 y1
  obtain ⟨i, i0, i1, e, nr, n1, n2, n3, n4⟩ := nxt_ok hb hw h1.1 (isd hb h1 hw (by omega) hg) hx.1 hx.2 hxg (by rw [hd0 x hx.1 hx.2]; exact hd)
  rw [hd0 x hx.1 hx.2] at n2 n4
  rw [hd0 _ nr.1 nr.2] at n1 n2
  have hm : Mt r q x i (nxt r x g) := ⟨e, n1, by omega⟩
  rcases h with ⟨-, h2⟩ | ⟨h0, ⟨j, j0, j1, m1⟩, h2⟩
  · exact absurd hm (h2 i _ i0 i1)
  · have l1 := h2 i _ i0 i1 hm
    have a := hw.1 j j0 j1
    have br : 0 ≤ b ∧ b < r 0 := by rcases m1.1 with ⟨e1, e2⟩ | ⟨e1, e2⟩ <;> omega
    by_cases c : b < nxt r x g
    · have := n4 b br.1 c
      rw [hd0 b br.1 br.2, farB_of hw h1.1 j0 j1 m1.1] at this
      exact absurd ⟨by omega, m1.2.1, by have := m1.2.2; omega⟩ this
    · omega
theorem m_nextTo {F : Nat} {w : aI} {x g : Int} (hF : 10010 ≤ F) (hb : 2 ≤ w 211 0 ∧ w 211 0 ≤ 10) (h1 : 0 ≤ w 211 1 ∧ w 211 1 ≤ 20) (hw : Ww (w 211)) (hx : 0 ≤ x ∧ x < w 211 0) (hg : 0 ≤ g ∧ g < w 211 0) : ∃ q, f_X11_nextTo F 210 x g w = some (nxt (w 211) x g, stc w 216 q) := by
  unfold f_X11_nextTo
  rw [gd_t (by omega)]
  by_cases c : x = g
  · rw [if_pos c, nxt_no (Or.inl c)]
    exact ⟨w 216, by rw [stc_self]⟩
  · rw [if_neg c]
    obtain ⟨q, e, hq, hbd⟩ := m_sumTo hF hb h1 hw hx hg
    rw [e, bj]
    have dx := dist_of hw hq hx.1 hx.2
    have bx := hbd x hx.1 (by omega)
    rw [gd_t (by omega)]
    by_cases c2 : dist (w 211) (-1) g x = -1
    · rw [if_pos c2, nxt_no (Or.inr c2)]
      exact ⟨q, rfl⟩
    · rw [if_neg c2]
      have er : stc w 216 q 211 = w 211 := stc_ne (by decide)
      have eq : stc w 216 q 216 = q := stc_eq _ _ _
      obtain ⟨b, e2, hb2⟩ := m_next_loop (F := F) (g := g) (w := stc w 216 q) (x := x) (by rw [er]; exact hb) (by rw [er]; exact h1) (by rw [er]; exact hw) (by rw [er]; exact hx) (fun y y0 y1 => by rw [eq]; have := hbd y y0 y1; omega) (by rw [eq]; omega) F 0 (-1) (by omega) (by rw [er]; omega) (by rw [er]; omega) (Or.inl ⟨rfl, fun j y j0 j1 => by omega⟩)
      rw [e2]
      rw [er, eq] at hb2
      rw [hb2.nx hb h1 hw hq hx hg c (by omega)]
      exact ⟨q, rfl⟩
