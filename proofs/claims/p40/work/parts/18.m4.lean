/-! ===== the reference: what waits, who goes first, whistling ===== -/
theorem m_wayB {F : Nat} {w : aI} (hF : 100 ≤ F) {a b : Int} (h1 : 0 ≤ w 211 1 ∧ w 211 1 ≤ 20) (hr : ∀ j, 0 ≤ j → j < w 211 1 → rg (w 211 (160 + 3 * j)) ∧ rg (w 211 (160 + 3 * j + 1))) (ha : rg a) (hb : rg b) : f_X11_wayBetween F 210 a b w = some (wayB (w 211) a b) := by
  have key : ∀ (n : Nat) (i : Int), 0 ≤ i → i ≤ w 211 1 → w 211 1 - i < n → (∀ j, 0 ≤ j → j < i → decide (¬ a = b ∧ (w 211 (160 + 3 * j) = a ∨ w 211 (160 + 3 * j + 1) = a) ∧ (w 211 (160 + 3 * j) = b ∨ w 211 (160 + 3 * j + 1) = b)) = false) → f_X11_wayBetween_b2 F 210 a b w n i = some (wayB (w 211) a b) := by
    intro n
    induction n with
    | zero => intro i i0 i1 i2; omega
    | succ n ih =>
      intro i i0 i1 i2 hno
      show f_X11_wayBetween_b2_b F 210 a b w (f_X11_wayBetween_b2 F 210 a b w n) i = _
      unfold f_X11_wayBetween_b2_b
      by_cases c : w 211 1 ≤ i
      · simp (disch := omega) only [m0, n0, gd_t, if_pos]
        unfold wayB
        rw [ff_none fun j j0 j1 => hno j j0 (by omega)]
      · obtain ⟨r1, r2⟩ := hr i (by omega) (by omega)
        simp (disch := omega) only [m0, n0, gd_t, if_neg, m_ends, bs]
        have nx : decide (¬ a = b ∧ (w 211 (160 + 3 * i) = a ∨ w 211 (160 + 3 * i + 1) = a) ∧ (w 211 (160 + 3 * i) = b ∨ w 211 (160 + 3 * i + 1) = b)) = false → f_X11_wayBetween_b2 F 210 a b w n (i + 1) = some (wayB (w 211) a b) := fun h => ih (i + 1) (by omega) (by omega) (by omega) fun j j0 j1 => by
          by_cases e : j = i
          · subst e; exact h
          · exact hno j j0 (by omega)
        by_cases c1 : a = b
        · rw [if_pos c1]
          exact nx (decide_eq_false fun h => h.1 c1)
        · rw [if_neg c1]
          by_cases c2 : w 211 (160 + 3 * i) = a ∨ w 211 (160 + 3 * i + 1) = a
          · rw [if_pos (decide_eq_true c2)]
            by_cases c3 : w 211 (160 + 3 * i) = b ∨ w 211 (160 + 3 * i + 1) = b
            · rw [if_pos (decide_eq_true c3)]
              unfold wayB
              rw [ff_at i0 (decide_eq_true ⟨c1, c2, c3⟩) hno (by omega)]
            · rw [if_neg (by rw [decide_eq_true_iff]; exact c3)]
              exact nx (decide_eq_false fun h => c3 h.2.2)
          · rw [if_neg (by rw [decide_eq_true_iff]; exact c2)]
            exact nx (decide_eq_false fun h => c2 h.2.1)
  exact key F 0 (by omega) (by omega) (by omega) (fun j j0 j1 => by omega)
theorem m_waits {F : Nat} {w : aI} {i x : Int} (hi : 0 ≤ i ∧ i < 30) (hx : rg x) (h3 : rg (w 211 (220 + 27 * i + 3))) (h4 : rg (w 211 (220 + 27 * i + 4))) : f_X11_waitsAt F 210 i x w = some (waits (w 211) i x) := by
  unfold f_X11_waitsAt waits
  simp (disch := omega) only [m_t, bs, m0, n0, gd_t]
  by_cases c : w 211 (220 + 27 * i + 3) = 0
  · rw [if_pos c]
    by_cases c2 : w 211 (220 + 27 * i + 4) = x
    · rw [if_pos c2, decide_eq_true ⟨c, c2⟩]
    · rw [if_neg c2, decide_eq_false (fun h => c2 h.2)]
  · rw [if_neg c, decide_eq_false (fun h => c h.1)]
theorem m_busy {F : Nat} {w : aI} {x t : Int} (hx : 0 ≤ x ∧ x < 10) (ht : rg t) (h : rg (w 211 (25 + 13 * x + 11))) : f_X11_isBusy F 210 x t w = some (busy (w 211) x t) := by
  unfold f_X11_isBusy busy
  simp (disch := omega) only [m_r, bs, m0, n0, gd_t]
  by_cases c : w 211 (25 + 13 * x + 11) ≤ t
  · rw [if_pos c, decide_eq_false (by omega)]
  · rw [if_neg c, decide_eq_true (by omega)]
theorem m_fee {F : Nat} {w : aI} {i x : Int} (hi : 0 ≤ i ∧ i < 30) (hx : 0 ≤ x ∧ x < 10) (h : 1 ≤ w 211 (220 + 27 * i + 2) ∧ w 211 (220 + 27 * i + 2) ≤ 8) : f_X11_feeAt F 210 i x w = some (feeA (w 211) i x) := by
  unfold f_X11_feeAt feeA
  simp (disch := omega) only [m_r, bs, m0, n0, gd_t, m_bars]
theorem m_purse {F : Nat} {w : aI} {i : Int} (hi : 0 ≤ i ∧ i < 30) (h : 0 ≤ w 211 (220 + 27 * i) ∧ w 211 (220 + 27 * i) < 10) : f_X11_purseFor F 210 i w = some (pur (w 211) i) := by
  unfold f_X11_purseFor pur
  simp (disch := omega) only [m_t, m_r, bs, m0, n0, gd_t, Int.add_zero]
noncomputable def fstep (r : Row) (x : Int) : Int → Int → Int := fun i best => if waits r i x = true ∧ (best = -1 ∨ bar r best < bar r i) ∧ feeA r i x ≤ pur r i ∧ ¬ nxt r x (r (220 + 27 * i + 1)) = -1 then i else best
theorem firstG_eq (r : Row) (x : Int) : firstG r x = itr (fstep r x) (-1) (r 2).toNat := rfl
theorem fstep_rg (r : Row) (x : Int) : ∀ n : Nat, -1 ≤ itr (fstep r x) (-1) n ∧ itr (fstep r x) (-1) n < n ∨ itr (fstep r x) (-1) n = -1 := by
  intro n
  induction n with
  | zero => exact Or.inr rfl
  | succ n ih =>
    rw [itr]
    unfold fstep
    split
    · exact Or.inl ⟨by omega, by omega⟩
    · rcases ih with ih | ih
      · exact Or.inl ⟨ih.1, by unfold fstep at ih; omega⟩
      · exact Or.inr ih
theorem fee_bd {r : Row} {i x : Int} (hb : Wb r) (hr : Wr r) (ht : Wt r) (hi : 0 ≤ i ∧ i < r 2) (hx : 0 ≤ x ∧ x < r 0) : (0 ≤ feeA r i x ∧ feeA r i x ≤ 18) ∧ (1 ≤ bar r i ∧ bar r i ≤ 2) := by
  have a := (hr x hx.1 hx.2).2.2.2.2.1
  have b := (ht i hi.1 hi.2).2.2.2.1
  have c : 1 ≤ bar r i ∧ bar r i ≤ 2 := by unfold bar; omega
  refine ⟨?_, c⟩
  unfold feeA
  have h : bar r i = 1 ∨ bar r i = 2 := by omega
  rcases h with h | h <;> rw [h] <;> omega
theorem pur_bd {r : Row} {i : Int} (hb : Wb r) (hr : Wr r) (ht : Wt r) (hi : 0 ≤ i ∧ i < r 2) : 0 ≤ pur r i ∧ pur r i ≤ 9999 + 18 * r 3 := by
  have b := (ht i hi.1 hi.2).1
  exact (hr _ b.1 b.2).2.2.2.2.2.1
theorem m_first_loop {F : Nat} {w : aI} {x : Int} (hF : 10010 ≤ F) (hb : Wb (w 211)) (hr : Wr (w 211)) (hw : Ww (w 211)) (ht : Wt (w 211)) (hx : 0 ≤ x ∧ x < w 211 0) :
    ∀ (n i : Nat) (q : Int → Int), (i : Int) ≤ w 211 2 → w 211 2 - i < n → ∃ q', f_X11_firstAt_b4 F 210 x n (itr (fstep (w 211) x) (-1) i) i (stc w 216 q) = some (firstG (w 211) x, stc w 216 q') := by
  intro n
  induction n with
  | zero => intro i q i1 i2; omega
  | succ n ih =>
    intro i q i1 i2
    obtain ⟨b0, b1, b2, b3, b4, b5, b6⟩ := hb
    show ∃ q', f_X11_firstAt_b4_b F 210 x (f_X11_firstAt_b4 F 210 x n) _ _ _ = _
    unfold f_X11_firstAt_b4_b
    have er : ∀ q, stc w 216 q 211 = w 211 := fun q => stc_ne (by decide)
    by_cases c : w 211 2 ≤ i
    · simp (disch := omega) only [m0, n0, er, gd_t, if_pos]
      have e : i = (w 211 2).toNat := by omega
      rw [firstG_eq, ← e]
      exact ⟨q, rfl⟩
    · have y := ht i (by omega) (by omega)
      obtain ⟨y0, y1, y2, y3, y4, y5, y6, y7, y8, y9, y10, y11, y12, y13, y14, y15⟩ := y
      have nx : ∀ q, ∃ q', f_X11_firstAt_b4 F 210 x n (itr (fstep (w 211) x) (-1) (i + 1)) ((i : Int) + 1) (stc w 216 q) = some (firstG (w 211) x, stc w 216 q') := fun q => ih (i + 1) q (by omega) (by omega)
      have hs : itr (fstep (w 211) x) (-1) (i + 1) = fstep (w 211) x i (itr (fstep (w 211) x) (-1) i) := rfl
      have rb := fstep_rg (w 211) x i
      rw [hs] at nx
      generalize itr (fstep (w 211) x) (-1) i = best at nx rb ⊢
      simp (disch := omega) only [m0, n0, er, gd_t, if_neg]
      rw [m_waits (w := stc w 216 q) (by omega) (by omega) (by rw [er]; omega) (by rw [er]; omega), bs, er]
      by_cases c1 : waits (w 211) i x = true
      · rw [if_pos c1]
        have k44 : (best = -1 ∨ bar (w 211) best < bar (w 211) i) → ∃ q', f_X11_firstAt_b44 F 210 x (f_X11_firstAt_b4 F 210 x n) best i (stc w 216 q) = some (firstG (w 211) x, stc w 216 q') := by
          intro hc
          unfold f_X11_firstAt_b44
          have pb := pur_bd (i := i) ⟨b0, b1, b2, b3, b4, b5, b6⟩ hr ht (by omega)
          have fb := (fee_bd (i := i) (x := x) ⟨b0, b1, b2, b3, b4, b5, b6⟩ hr ht (by omega) hx).1
          rw [m_purse (w := stc w 216 q) (by omega) (by rw [er]; omega), bs, m_fee (w := stc w 216 q) (by omega) (by omega) (by rw [er]; omega), bs, er]
          rw [gd_t (by omega)]
          by_cases c2 : pur (w 211) i < feeA (w 211) i x
          · rw [if_pos c2]
            unfold f_X11_firstAt_b82 f_X11_firstAt_b83
            rw [gd_t (by decide), if_pos rfl]
            have h := nx q
            unfold fstep at h
            rw [if_neg (by omega)] at h
            exact h
          · rw [if_neg c2]
            simp (disch := omega) only [m_t, bs, m0, n0, er, gd_t]
            obtain ⟨q1, e1⟩ := m_nextTo (F := F) (w := stc w 216 q) (x := x) (g := w 211 (220 + 27 * (i : Int) + 1)) hF (by rw [er]; exact b0) (by rw [er]; exact b1) (by rw [er]; exact hw) (by rw [er]; exact hx) (by rw [er]; exact y1)
            rw [e1, bj, er, stc_stc]
            have nr : rg (nxt (w 211) x (w 211 (220 + 27 * (i : Int) + 1))) := by
              unfold nxt
              split
              · decide
              · rcases ff_spec (fun y => decide (¬ farB (w 211) x y = -1 ∧ ¬ dist (w 211) (-1) (w 211 (220 + 27 * (i : Int) + 1)) y = -1 ∧ farB (w 211) x y + dist (w 211) (-1) (w 211 (220 + 27 * (i : Int) + 1)) y = dist (w 211) (-1) (w 211 (220 + 27 * (i : Int) + 1)) x)) 10 with ⟨e, -⟩ | ⟨e, e2, -⟩ <;> omega
            rw [gd_t nr]
            by_cases c3 : nxt (w 211) x (w 211 (220 + 27 * (i : Int) + 1)) = -1
            · rw [if_pos c3]
              unfold f_X11_firstAt_b82 f_X11_firstAt_b83
              rw [gd_t (by decide), if_pos rfl]
              have h := nx q1
              unfold fstep at h
              rw [if_neg (fun z => z.2.2.2 c3)] at h
              exact h
            · rw [if_neg c3]
              unfold f_X11_firstAt_b83
              rw [gd_t (by decide), if_neg (by decide)]
              have h := nx q1
              unfold fstep at h
              rw [if_pos ⟨c1, hc, by omega, c3⟩] at h
              exact h
        by_cases c4 : best = -1
        · rw [if_pos c4]
          exact k44 (Or.inl c4)
        · rw [if_neg c4]
          have yb := (ht best (by omega) (by omega)).2.2.2.1
          rw [m_bars F (stc w 216 q) (by omega) (by rw [er]; omega), bs, m_bars F (stc w 216 q) (by omega) (by rw [er]; omega), bs, er]
          have x1 := (fee_bd (i := i) (x := x) ⟨b0, b1, b2, b3, b4, b5, b6⟩ hr ht (by omega) hx).2
          have x2 := (fee_bd (i := best) (x := x) ⟨b0, b1, b2, b3, b4, b5, b6⟩ hr ht (by omega) hx).2
          rw [gd_t (by omega)]
          by_cases c5 : bar (w 211) best < bar (w 211) i
          · rw [if_pos c5]
            exact k44 (Or.inr c5)
          · rw [if_neg c5]
            have h := nx q
            unfold fstep at h
            rw [if_neg (by omega)] at h
            exact h
      · rw [if_neg c1]
        have h := nx q
        unfold fstep at h
        rw [if_neg (fun z => c1 z.1)] at h
        exact h
theorem m_firstAt {F : Nat} {w : aI} {x : Int} (hF : 10010 ≤ F) (hb : Wb (w 211)) (hr : Wr (w 211)) (hw : Ww (w 211)) (ht : Wt (w 211)) (hx : 0 ≤ x ∧ x < w 211 0) : ∃ q, f_X11_firstAt F 210 x w = some (firstG (w 211) x, stc w 216 q) := by
  obtain ⟨q, h⟩ := m_first_loop hF hb hr hw ht hx F 0 (w 216) (by have := hb.2.2.1; omega) (by have := hb.2.2.1; omega)
  rw [stc_self] at h
  exact ⟨q, h⟩
