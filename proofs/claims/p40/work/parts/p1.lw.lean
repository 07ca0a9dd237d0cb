/-! ===== the law's own numbers against a row ===== -/
theorem lf0 : shR 300 0 = 301 := by decide +kernel
theorem lf1 : shR 300 1 = 302 := by decide +kernel
theorem lf2 : shR 300 2 = 303 := by decide +kernel
theorem lf3 : shR 300 3 = 304 := by decide +kernel
theorem lf4 : shR 300 4 = 305 := by decide +kernel
theorem lf5 : shR 300 5 = 306 := by decide +kernel
theorem lf6 : shR 300 6 = 307 := by decide +kernel
theorem lf7 : shR 300 7 = 313 := by decide +kernel
theorem lf8 : shR 300 8 = 319 := by decide +kernel
theorem lf9 : shR 300 9 = 320 := by decide +kernel
theorem lf10 : shR 300 10 = 321 := by decide +kernel
theorem lf11 : shR 300 11 = 322 := by decide +kernel
theorem lf12 : shR 300 12 = 323 := by decide +kernel
theorem lf13 : shR 300 13 = 324 := by decide +kernel
theorem lf14 : shR 300 14 = 325 := by decide +kernel
theorem lf15 : shR 300 15 = 326 := by decide +kernel
theorem lf16 : shR 300 16 = 327 := by decide +kernel
theorem lf17 : shR 300 17 = 328 := by decide +kernel
theorem lf18 : shR 300 18 = 329 := by decide +kernel
theorem lf19 : shR 300 19 = 330 := by decide +kernel
theorem ll5 : shL 301 = 5 ∧ shL 302 = 5 ∧ shL 303 = 5 ∧ shL 304 = 5 ∧ shL 305 = 5 ∧ shL 306 = 5 ∧ shL 307 = 5 ∧ shL 313 = 5 := by decide +kernel
theorem ll30 : shL 319 = 30 ∧ shL 320 = 30 ∧ shL 321 = 30 ∧ shL 322 = 30 ∧ shL 323 = 30 ∧ shL 324 = 30 ∧ shL 325 = 30 ∧ shL 326 = 30 ∧ shL 327 = 30 ∧ shL 328 = 30 ∧ shL 329 = 30 ∧ shL 330 = 30 := by decide +kernel
theorem lway {x : Int} (h : 0 ≤ x ∧ x < 5) : shR 307 x.toNat = 308 + x.toNat ∧ shL (308 + x.toNat) = 5 := by
  have : ∀ n, n < 5 → shR 307 n = 308 + n ∧ shL (308 + n) = 5 := by decide +kernel
  exact this _ (by omega)
theorem lsum {x : Int} (h : 0 ≤ x ∧ x < 5) : shR 313 x.toNat = 314 + x.toNat ∧ shL (314 + x.toNat) = 5 := by
  have : ∀ n, n < 5 → shR 313 n = 314 + n ∧ shL (314 + n) = 5 := by decide +kernel
  exact this _ (by omega)
def LwA (w : aI) (r : Row) : Prop := w 300 20 = r 0 ∧ w 300 21 = r 2 ∧ w 300 22 = r 3 ∧ w 300 23 = r 4 ∧ w 300 24 = r 5 ∧ w 300 25 = r 6 ∧ w 300 26 = r 12 ∧ w 300 27 = r 14 ∧ w 300 28 = r 15 ∧ w 300 29 = r 16 ∧ w 300 30 = r 17 ∧ w 300 31 = r 18 ∧ w 300 32 = r 19 ∧ w 300 33 = r 13 ∧ ∀ t, r 2 ≤ t → t < 30 → w 325 t = 0 ∧ w 326 t = 0
def LwX (w : aI) (r : Row) : Prop := ∀ x, 0 ≤ x → x < r 0 → w 301 x = r (25 + 13 * x + 7) ∧ w 302 x = r (25 + 13 * x + 8) ∧ w 303 x = r (25 + 13 * x + 9) ∧ w 304 x = r (25 + 13 * x + 10) ∧ w 305 x = r (25 + 13 * x + 11) ∧ w 306 x = r (25 + 13 * x + 12)
def LwW (w : aI) (r : Row) : Prop := ∀ x y, 0 ≤ x → x < r 0 → 0 ≤ y → y < r 0 → w (308 + x.toNat) y = (if farB r x y = -1 then 0 else farB r x y)
def LwS (w : aI) (r : Row) : Prop := ∀ x y, 0 ≤ x → x < r 0 → 0 ≤ y → y < r 0 → w (314 + x.toNat) y = (if dist r (-1) y x = -1 then 9999 else dist r (-1) y x)
def LwT1 (w : aI) (r : Row) (t : Int) : Prop := (w 319 t = r (220 + 27 * t) ∧ w 320 t = r (220 + 27 * t + 1) ∧ w 321 t = r (220 + 27 * t + 3) ∧ w 322 t = r (220 + 27 * t + 4) ∧ w 325 t = r (220 + 27 * t + 8) ∧ w 326 t = r (220 + 27 * t + 9) ∧ w 327 t = r (220 + 27 * t + 7) ∧ w 328 t = r (220 + 27 * t + 6)) ∧ (r (220 + 27 * t + 3) = 1 → w 323 t = r (220 + 27 * t + 5) ∧ w 324 t = r (220 + 27 * t + 10)) ∧ (¬ r (220 + 27 * t + 3) = 1 → r (220 + 27 * t + 5) = -1)
def LwT (w : aI) (r : Row) : Prop := ∀ t, 0 ≤ t → t < r 2 → LwT1 w r t
def LwN1 (w : aI) (r : Row) (t : Int) : Prop := w (331 + 2 * t.toNat) 100 = r (220 + 27 * t + 2) ∧ w (332 + 2 * t.toNat) 100 = r (220 + 27 * t + 2) ∧ ∀ k, 0 ≤ k → k < r (220 + 27 * t + 2) → w (331 + 2 * t.toNat) k = r (220 + 27 * t + 11 + k) ∧ w (332 + 2 * t.toNat) k = r (220 + 27 * t + 19 + k)
def LwN (w : aI) (r : Row) : Prop := ∀ t, 0 ≤ t → t < r 2 → LwN1 w r t
def LwD (w : aI) (r : Row) : Prop := w 999 0 = 241 + 2 * r 2 ∧ ∀ k, 0 ≤ k → k < 30 → w 329 k = (if k < r 2 then 331 + 2 * k else 0) ∧ w 330 k = (if k < r 2 then 332 + 2 * k else 0)
def LwR (w : aI) (r : Row) : Prop := r 0 ≤ 5 ∧ LwA w r ∧ LwX w r ∧ LwW w r ∧ LwS w r ∧ LwT w r ∧ LwN w r ∧ LwD w r
section LP
variable {F : Nat} {w : aI} {r : Row}
theorem LwD.n9 (h : LwD w r) (b : 0 ≤ r 2 ∧ r 2 ≤ 30) : 241 ≤ w 999 0 ∧ w 999 0 ≤ 800 := by rw [h.1]; omega
theorem LwD.olds (h : LwD w r) (b : 0 ≤ r 2 ∧ r 2 ≤ 30) : olds w := by
  intro k hk
  obtain ⟨h1, h2⟩ := h.2 k (by omega) (by omega)
  rw [h1, h2, h.1]
  split <;> omega
theorem LwD.snt (h : LwD w r) (b : 0 ≤ r 2 ∧ r 2 ≤ 30) {t : Int} (ht : 0 ≤ t ∧ t < r 2) : (inI t (shL 329) ∧ 331 ≤ w 329 t ∧ w 329 t < w 999 0 + 90 ∧ w 999 0 ≤ 800) ∧ (w 329 t).toNat = 331 + 2 * t.toNat := by
  have h1 := (h.2 t ht.1 (by omega)).1
  have h2 := ll30.2.2.2.2.2.2.2.2.2.2.1
  rw [if_pos ht.2] at h1
  rw [h1, h.1, h2]
  refine ⟨⟨⟨by omega, by omega⟩, by omega, by omega, by omega⟩, by omega⟩
theorem LwD.hrd (h : LwD w r) (b : 0 ≤ r 2 ∧ r 2 ≤ 30) {t : Int} (ht : 0 ≤ t ∧ t < r 2) : (inI t (shL 330) ∧ 331 ≤ w 330 t ∧ w 330 t < w 999 0 + 90 ∧ w 999 0 ≤ 800) ∧ (w 330 t).toNat = 332 + 2 * t.toNat := by
  have h1 := (h.2 t ht.1 (by omega)).2
  have h2 := ll30.2.2.2.2.2.2.2.2.2.2.2
  rw [if_pos ht.2] at h1
  rw [h1, h.1, h2]
  refine ⟨⟨⟨by omega, by omega⟩, by omega, by omega, by omega⟩, by omega⟩
theorem l_bars (h : LwR w r) (hW : WF r) {t : Int} (ht : 0 ≤ t ∧ t < r 2) : f_L_bars F 300 t w = some (bar r t) := by
  obtain ⟨h0, hA, hX, hw, hS, hT, hN, hD⟩ := h
  have b2 := hW.1.2.2.1
  obtain ⟨g1, g2⟩ := hD.snt b2 ht
  obtain ⟨n1, n2, n3⟩ := hN t ht.1 ht.2
  obtain ⟨y0, y1, y2, y3, -⟩ := hW.2.2.2.1 t ht.1 ht.2
  unfold f_L_bars
  rw [lf18, gd_t (hD.n9 b2), gd_t g1, g2, n1, gd_t (by omega), gd_t (by omega), td 4 (by omega)]
  rfl
theorem l_isRight (hF : 100 ≤ F) (h : LwR w r) (b2 : 0 ≤ r 2 ∧ r 2 ≤ 30) {t : Int} (ht : 0 ≤ t ∧ t < r 2) (y3 : 1 ≤ r (220 + 27 * t + 2) ∧ r (220 + 27 * t + 2) ≤ 8) (y12 : ∀ k, 220 + 27 * t + 11 ≤ k → k < 220 + 27 * t + 27 → 0 ≤ r k ∧ r k ≤ 7) : f_L_isRight F 300 t w = some (decide (unl r t = 0)) := by
  obtain ⟨h0, hA, hX, hw, hS, hT, hN, hD⟩ := h
  obtain ⟨g1, g2⟩ := hD.snt b2 ht
  obtain ⟨g3, g4⟩ := hD.hrd b2 ht
  obtain ⟨n1, n2, n3⟩ := hN t ht.1 ht.2
  have key : ∀ (n : Nat) (k : Int), 0 ≤ k → k ≤ r (220 + 27 * t + 2) → r (220 + 27 * t + 2) - k < n → (∀ j, 0 ≤ j → j < k → r (220 + 27 * t + 11 + j) = r (220 + 27 * t + 19 + j)) → f_L_isRight_b2 F 300 t w n k = some (decide (unl r t = 0)) := by
    intro n
    induction n with
    | zero => intro k k0 k1 k2; omega
    | succ n ih =>
      intro k k0 k1 k2 hk
      show f_L_isRight_b2_b F 300 t w (f_L_isRight_b2 F 300 t w n) k = _
      unfold f_L_isRight_b2_b
      rw [lf18, lf19, gd_t g1, g2, n1, gd_t (by omega), gd_t (by omega)]
      by_cases c : r (220 + 27 * t + 2) ≤ k
      · rw [if_pos c, decide_eq_true]
        refine cnt_all0 fun j j0 j1 => ?_
        rw [hk j j0 (by omega)]
        simp
      · obtain ⟨a1, a2⟩ := n3 k k0 (by omega)
        rw [if_neg c, gd_t g1, gd_t (by omega), gd_t g3, g4, n2, gd_t (by omega), a1, a2]
        have z1 := y12 (220 + 27 * t + 11 + k) (by omega) (by omega)
        have z2 := y12 (220 + 27 * t + 19 + k) (by omega) (by omega)
        rw [gd_t (by omega)]
        by_cases c2 : r (220 + 27 * t + 11 + k) = r (220 + 27 * t + 19 + k)
        · rw [if_pos c2]
          refine ih (k + 1) (by omega) (by omega) (by omega) (fun j j0 j1 => ?_)
          by_cases e : j = k
          · subst e; exact c2
          · exact hk j j0 (by omega)
        · rw [if_neg c2, decide_eq_false]
          intro hu
          have := cnt_zero hu k k0 (by omega)
          simp at this
          exact c2 this
  unfold f_L_isRight
  rw [gd_t (hD.n9 b2)]
  exact key F 0 (by omega) (by omega) (by omega) (fun j j0 j1 => by omega)
theorem l_resets (h : LwR w r) (b2 : 0 ≤ r 2 ∧ r 2 ≤ 30) {t : Int} (ht : 0 ≤ t ∧ t < r 2) (y3 : 1 ≤ r (220 + 27 * t + 2) ∧ r (220 + 27 * t + 2) ≤ 8) (y12 : ∀ k, 220 + 27 * t + 11 ≤ k → k < 220 + 27 * t + 27 → 0 ≤ r k ∧ r k ≤ 7) : f_L_resets F 300 t w = some (icpy w (331 + 2 * t.toNat) (332 + 2 * t.toNat) (r (220 + 27 * t + 2))) := by
  obtain ⟨h0, hA, hX, hw, hS, hT, hN, hD⟩ := h
  obtain ⟨g1, g2⟩ := hD.snt b2 ht
  obtain ⟨g3, g4⟩ := hD.hrd b2 ht
  obtain ⟨n1, n2, n3⟩ := hN t ht.1 ht.2
  unfold f_L_resets
  rw [lf18, lf19, gd_t (hD.n9 b2), gd_t g1, gd_t g3, gd_t g1, g2, g4, n1, n2, gd_t (by omega), gd_t (by omega)]
  rfl
theorem l_nextz (hF : 100 ≤ F) (h0 : r 0 ≤ 5) (hA1 : w 300 20 = r 0) (hw : LwW w r) (hS : LwS w r) (h9 : 241 ≤ w 999 0 ∧ w 999 0 ≤ 800) (hW : WF r) {x g : Int} (hx : 0 ≤ x ∧ x < r 0) (hg : 0 ≤ g ∧ g < r 0) : f_L_next F 300 x g w = some (nxt r x g) := by
  have b0 := hW.1.1
  have b1 := hW.1.2.1
  have b2 := hW.1.2.2.1
  have hWw := hW.2.2.1
  have hd := isd b0 b1 hWw (W := -1) (by decide) hg
  obtain ⟨q1, q2⟩ := lway (x := x) (by omega)
  obtain ⟨q3, q4⟩ := lsum (x := x) (by omega)
  have l7 := ll5.2.2.2.2.2.2.1
  have l8 := ll5.2.2.2.2.2.2.2
  have s1 := hS x g hx.1 hx.2 hg.1 hg.2
  have dbd := fun z (hz : 0 ≤ z ∧ z < r 0) => dist_bd b0 b1 hWw (W := -1) (by decide) hg hz
  have key : ∀ (n : Nat) (k : Int), 0 ≤ k → k ≤ r 0 → r 0 - k < n → (∀ y, 0 ≤ y → y < k → ¬ (¬ farB r x y = -1 ∧ ¬ dist r (-1) g y = -1 ∧ farB r x y + dist r (-1) g y = dist r (-1) g x)) → f_L_next_b2 F 300 x g w n k = some (nxt r x g) := by
    intro n
    induction n with
    | zero => intro k k0 k1 k2; omega
    | succ n ih =>
      intro k k0 k1 k2 hk
      show f_L_next_b2_b F 300 x g w (f_L_next_b2 F 300 x g w n) k = _
      unfold f_L_next_b2_b
      rw [hA1, gd_t (by omega)]
      by_cases c : r 0 ≤ k
      · rw [if_pos c]
        by_cases c3 : x = g ∨ dist r (-1) g x = -1
        · rw [nxt_no c3]
        · obtain ⟨i, i0, i1, e1, e2, e3, e4, e5, -⟩ := nxt_ok b0 hWw b1.1 hd hx.1 hx.2 (fun z => c3 (Or.inl z)) (fun z => c3 (Or.inr z))
          have hf := hWw.1 i i0 i1
          exact absurd ⟨by omega, e3, by omega⟩ (hk _ e2.1 (by omega))
      · rw [if_neg c, gd_t (by omega)]
        by_cases c2 : x = g
        · rw [if_pos c2, nxt_no (Or.inl c2)]
        · rw [if_neg c2, lf7, lf6, l7, l8, q3, q4, q1, q2, gd_t (by omega), gd_t (by omega), s1]
          by_cases c3 : dist r (-1) g x = -1
          · rw [if_pos c3, gd_t (by decide), if_pos (by decide), nxt_no (Or.inr c3)]
          · have u1 := dbd x hx
            have w1 := hw x k hx.1 hx.2 k0 (by omega)
            obtain ⟨q5, q6⟩ := lsum (x := k) (by omega)
            have s2 := hS k g k0 (by omega) hg.1 hg.2
            have u3 := dbd k (by omega)
            rw [if_neg c3, gd_t (by omega), if_neg (by omega), gd_t (by omega), gd_t (by omega), w1, q5, q6, s2]
            have j9 : farB r x k = -1 ∨ (1 ≤ farB r x k ∧ farB r x k ≤ 9) := by
              by_cases cf : farB r x k = -1
              · exact Or.inl cf
              · obtain ⟨i, i0, i1, f1, f2, -⟩ := farB_en hWw b1.1 cf
                have := hWw.1 i i0 i1
                exact Or.inr (by omega)
            by_cases cf : farB r x k = -1
            · rw [if_pos cf, gd_t (by decide), if_pos (by decide)]
              exact ih (k + 1) (by omega) (by omega) (by omega) (fun y y0 y1 => by
                by_cases e : y = k
                · subst e; exact fun z => z.1 cf
                · exact hk y y0 (by omega))
            · rw [if_neg cf, gd_t (by omega), if_neg (by omega), gd_t (by omega), gd_t (by omega), gd_t (by omega), gd_t (by omega), gd_t (by omega), gd_t (by omega)]
              by_cases cd : dist r (-1) g k = -1
              · rw [if_pos cd, gd_t (by omega), if_neg (by omega)]
                exact ih (k + 1) (by omega) (by omega) (by omega) (fun y y0 y1 => by
                  by_cases e : y = k
                  · subst e; exact fun z => z.2.1 cd
                  · exact hk y y0 (by omega))
              · rw [if_neg cd, gd_t (by omega)]
                by_cases c5 : farB r x k + dist r (-1) g k = dist r (-1) g x
                · rw [if_pos c5]
                  congr 1
                  unfold nxt
                  rw [if_neg (fun z => z.elim c2 c3)]
                  exact (ff_at k0 (decide_eq_true ⟨cf, cd, c5⟩) (fun i i0 i1 => decide_eq_false (hk i i0 i1)) (by omega)).symm
                · rw [if_neg c5]
                  exact ih (k + 1) (by omega) (by omega) (by omega) (fun y y0 y1 => by
                    by_cases e : y = k
                    · subst e; exact fun z => c5 z.2.2
                    · exact hk y y0 (by omega))
  unfold f_L_next
  rw [gd_t h9]
  exact key F 0 (by omega) (by omega) (by omega) (fun y y0 y1 => by omega)
theorem l_next (hF : 100 ≤ F) (h : LwR w r) (hW : WF r) {x g : Int} (hx : 0 ≤ x ∧ x < r 0) (hg : 0 ≤ g ∧ g < r 0) : f_L_next F 300 x g w = some (nxt r x g) := l_nextz hF h.1 h.2.1.1 h.2.2.2.1 h.2.2.2.2.1 (h.2.2.2.2.2.2.2.n9 hW.1.2.2.1) hW hx hg
theorem l_first (hF : 100 ≤ F) (h : LwR w r) (hW : WF r) {x : Int} (hx : 0 ≤ x ∧ x < r 0) : f_L_first F 300 x w = some (firstG r x) := by
  have h' := h
  obtain ⟨h0, hA, hX, hw, hS, hT, hN, hD⟩ := h
  have b0 := hW.1.1
  have b2 := hW.1.2.2.1
  have l30 := ll30
  have l5 := ll5
  have key : ∀ (n : Nat) (k best : Int), 0 ≤ k → k ≤ r 2 → r 2 - k < n → (best = -1 ∨ (0 ≤ best ∧ best < k)) → best = itr (fun i best => if waits r i x = true ∧ (best = -1 ∨ bar r best < bar r i) ∧ feeA r i x ≤ pur r i ∧ ¬ nxt r x (r (220 + 27 * i + 1)) = -1 then i else best) (-1) k.toNat → f_L_first_b4 F 300 x w n best k = some (firstG r x) := by
    intro n
    induction n with
    | zero => intro k best k0 k1 k2; omega
    | succ n ih =>
      intro k best k0 k1 k2 hb he
      show f_L_first_b4_b F 300 x w (f_L_first_b4 F 300 x w n) best k = _
      unfold f_L_first_b4_b
      rw [hA.2.1, gd_t (by omega)]
      by_cases c : r 2 ≤ k
      · rw [if_pos c]
        have : k = r 2 := by omega
        subst this
        rw [he]; rfl
      · have hk : 0 ≤ k ∧ k < r 2 := by omega
        obtain ⟨⟨t1, t2, t3, t4, -⟩, -⟩ := hT k hk.1 hk.2
        obtain ⟨y0, y1, y2, y3, y4, y5, -⟩ := hW.2.2.2.1 k hk.1 hk.2
        have step : itr (fun i best => if waits r i x = true ∧ (best = -1 ∨ bar r best < bar r i) ∧ feeA r i x ≤ pur r i ∧ ¬ nxt r x (r (220 + 27 * i + 1)) = -1 then i else best) (-1) (k + 1).toNat = if waits r k x = true ∧ (best = -1 ∨ bar r best < bar r k) ∧ feeA r k x ≤ pur r k ∧ ¬ nxt r x (r (220 + 27 * k + 1)) = -1 then k else best := by
          have e : (k + 1).toNat = k.toNat + 1 := by omega
          rw [e]
          show (if waits r ((k.toNat : Nat) : Int) x = true ∧ _ then _ else _) = _
          rw [← he, Int.toNat_of_nonneg k0]
        have go : ∀ b2 : Int, (b2 = -1 ∨ (0 ≤ b2 ∧ b2 < k + 1)) → b2 = (if waits r k x = true ∧ (best = -1 ∨ bar r best < bar r k) ∧ feeA r k x ≤ pur r k ∧ ¬ nxt r x (r (220 + 27 * k + 1)) = -1 then k else best) → f_L_first_b4 F 300 x w n b2 (k + 1) = some (firstG r x) := fun b2 h1 h2 => ih (k + 1) b2 (by omega) (by omega) (by omega) h1 (by rw [h2, step])
        have hx1 := hX x hx.1 hx.2
        have hs1 := hX (r (220 + 27 * k)) y0.1 y0.2
        have px := hW.2.1 x hx.1 hx.2
        have ps := hW.2.1 (r (220 + 27 * k)) y0.1 y0.2
        have b3 := hW.1.2.2.2.1.2
        have ps3 := ps.2.2.2.2.2.1
        rw [if_neg c, lf10, lf11, lf9, lf8, lf3, lf2, l30.2.2.1, l30.2.2.2.1, l30.2.1, l30.1, l5.2.2.2.1, l5.2.2.1, gd_t (by omega), t3, t4, t2, t1, gd_t (by omega)]
        by_cases c1 : r (220 + 27 * k + 3) = 0
        · rw [if_pos c1, gd_t (by omega), gd_t (by omega)]
          by_cases c2 : r (220 + 27 * k + 4) = x
          · have wt : waits r k x = true := decide_eq_true ⟨c1, c2⟩
            rw [if_pos c2, gd_t (by omega), l_next hF h' hW hx y1, bs]
            have hn1 := nxt_rg r x (r (220 + 27 * k + 1))
            rw [gd_t (by omega)]
            by_cases c3 : nxt r x (r (220 + 27 * k + 1)) < 0
            · rw [if_pos c3]
              exact go best (by omega) (by rw [if_neg (fun z => z.2.2.2 (by omega))])
            · rw [if_neg c3, gd_t (by omega), gd_t (by omega), gd_t (by omega), l_bars h' hW hk, bs, hs1.2.2.2.1, hx1.2.2.1]
              have hbk : 1 ≤ bar r k ∧ bar r k ≤ 2 := by unfold bar; omega
              have hfe : 0 ≤ r (25 + 13 * x + 9) * bar r k ∧ r (25 + 13 * x + 9) * bar r k ≤ 18 := by
                refine ⟨Int.mul_nonneg px.2.2.2.2.1.1 (by omega), ?_⟩
                have := Int.mul_le_mul px.2.2.2.2.1.2 hbk.2 (by omega) (by decide)
                omega
              rw [gd_t (by omega)]
              by_cases c4 : r (25 + 13 * x + 9) * bar r k ≤ r (25 + 13 * r (220 + 27 * k) + 10)
              · rw [if_pos c4, gd_t (by omega)]
                by_cases c5 : best < 0
                · rw [if_pos c5]
                  exact go k (by omega) (by rw [if_pos ⟨wt, Or.inl (by omega), c4, by omega⟩])
                · have hb' : 0 ≤ best ∧ best < r 2 := by omega
                  have yb := (hW.2.2.2.1 best hb'.1 hb'.2).2.2.2.1
                  have hbb : 1 ≤ bar r best ∧ bar r best ≤ 2 := by unfold bar; omega
                  rw [if_neg c5, bs, l_bars h' hW hb', bs, gd_t (by omega)]
                  by_cases c6 : bar r k ≤ bar r best
                  · rw [if_pos c6]
                    exact go best (by omega) (by rw [if_neg (fun z => by rcases z.2.1 with q | q <;> omega)])
                  · rw [if_neg c6]
                    exact go k (by omega) (by rw [if_pos ⟨wt, Or.inr (by omega), c4, by omega⟩])
              · rw [if_neg c4]
                exact go best (by omega) (by rw [if_neg (fun z => c4 z.2.2.1)])
          · rw [if_neg c2]
            exact go best (by omega) (by rw [if_neg (fun z => c2 (of_decide_eq_true z.1).2)])
        · rw [if_neg c1]
          exact go best (by omega) (by rw [if_neg (fun z => c1 (of_decide_eq_true z.1).1)])
  unfold f_L_first
  rw [gd_t (hD.n9 b2)]
  exact key F 0 (-1) (by omega) (by omega) (by omega) (Or.inl rfl) rfl
/-- the sums of the law's square while they are reckoned -/
def MixL (R : Int) (S T : Int → Int → Int) (x y : Int) (w : aI) : Prop := ∀ p q : Int, (0 ≤ p ∧ p < R) → (0 ≤ q ∧ q < R) → w (314 + p.toNat) q = if p < x ∨ (p = x ∧ q < y) then T p q else S p q
def frL (w w2 : aI) : Prop := ∀ a, (a < 314 ∨ 319 ≤ a) → w2 a = w a
theorem frL.rf (w : aI) : frL w w := fun _ _ => rfl
theorem frL.trans {w w2 w3 : aI} (h : frL w w2) (k : frL w2 w3) : frL w w3 := fun a ha => (k a ha).trans (h a ha)
theorem frL.is {w : aI} {x : Int} (hx : 0 ≤ x ∧ x < 5) (k v : Int) : frL w (iset w (314 + x.toNat) k v) := fun a ha => is_ne (by omega)
theorem l_fw96 {k76 : Int → aI → Option aI} {k86 : Int → Int → aI → Option aI} {R : Int} {S : Int → Int → Int} {k : Int} (hR : 2 ≤ R ∧ R ≤ 5) (hS : ∀ x y, (0 ≤ x ∧ x < R) → (0 ≤ y ∧ y < R) → 0 ≤ S x y ∧ S x y ≤ 9999) (hk : 0 ≤ k ∧ k < R) (hkk : S k k = 0) {x : Int} (hx : 0 ≤ x ∧ x < R) :
    ∀ (n : Nat) (y : Int) (w : aI), w 300 20 = R → 0 ≤ y → y ≤ R → R - y < n → MixL R S (fwT S k) x y w → ∃ w2, f_L_reckon_b96 F 300 k76 k86 n k x y w = k86 k (x + 1) w2 ∧ MixL R S (fwT S k) (x + 1) 0 w2 ∧ frL w w2 := by
  intro n
  induction n with
  | zero => intro y w hw y0 y1 y2; omega
  | succ n ih =>
    intro y w hw y0 y1 y2 hf
    show ∃ w2, f_L_reckon_b96_b F 300 k76 k86 (f_L_reckon_b96 F 300 k76 k86 n) _ _ _ _ = _ ∧ _
    unfold f_L_reckon_b96_b
    rw [hw, gd_t (by omega)]
    by_cases c2 : R ≤ y
    · rw [if_pos c2]
      refine ⟨w, rfl, fun p q hp hq => ?_, frL.rf w⟩
      rw [hf p q hp hq, ite_iff (show (p < x ∨ (p = x ∧ q < y)) ↔ (p < x + 1 ∨ (p = x + 1 ∧ q < 0)) by omega)]
    · have a1 := hS x k hx hk
      have a2 := hS k y hk (by omega)
      have a3 := hS x y hx (by omega)
      have e1 : w (314 + x.toNat) k = S x k := by
        rw [hf x k hx hk]
        split
        · rw [fwT_at]; omega
        · rfl
      have e2 : w (314 + k.toNat) y = S k y := by
        rw [hf k y hk (by omega)]
        split
        · rw [fwT_at]; omega
        · rfl
      have e3 : w (314 + x.toNat) y = S x y := by
        rw [hf x y hx (by omega), if_neg (by omega)]
      obtain ⟨q1, q2⟩ := lsum (x := x) (by omega)
      obtain ⟨q3, q4⟩ := lsum (x := k) (by omega)
      have l8 := ll5.2.2.2.2.2.2.2
      rw [if_neg c2, lf7, l8, q1, q2, q3, q4, gd_t (by omega), gd_t (by omega), gd_t (by omega), gd_t (by omega), gd_t (by omega), gd_t (by omega), gd_t (by omega), e1, e2, e3, gd_t (by omega), gd_t (by omega)]
      show ∃ w2, f_L_reckon_b96 F 300 k76 k86 n k x (y + 1) (iset w (314 + x.toNat) y (min (S x y) (S x k + S k y))) = _ ∧ _
      obtain ⟨w2, g1, g2, g3⟩ := ih (y + 1) (iset w (314 + x.toNat) y (min (S x y) (S x k + S k y))) (by rw [is_ne (by omega)]; exact hw) (by omega) (by omega) (by omega) (fun p q hp hq => by
        by_cases e : p = x
        · subst e
          rw [is_eq]
          by_cases e9 : q = y
          · subst e9
            rw [rs_self, if_pos (by omega)]
            rfl
          · rw [rs_ne e9, hf p q hp hq, ite_iff (show (p < p ∨ (p = p ∧ q < y)) ↔ (p < p ∨ (p = p ∧ q < y + 1)) by omega)]
        · rw [is_ne (by omega), hf p q hp hq, ite_iff (show (p < x ∨ (p = x ∧ q < y)) ↔ (p < x ∨ (p = x ∧ q < y + 1)) by omega)])
      exact ⟨w2, g1, g2, (frL.is (by omega) _ _).trans g3⟩
theorem l_fw86 (hF : 100 ≤ F) {k76 : Int → aI → Option aI} {R : Int} {S : Int → Int → Int} {k : Int} (hR : 2 ≤ R ∧ R ≤ 5) (hS : ∀ x y, (0 ≤ x ∧ x < R) → (0 ≤ y ∧ y < R) → 0 ≤ S x y ∧ S x y ≤ 9999) (hk : 0 ≤ k ∧ k < R) (hkk : S k k = 0) :
    ∀ (n : Nat) (x : Int) (w : aI), w 300 20 = R → 0 ≤ x → x ≤ R → R - x < n → MixL R S (fwT S k) x 0 w → ∃ w2, f_L_reckon_b86 F 300 k76 n k x w = k76 (k + 1) w2 ∧ (∀ p q, (0 ≤ p ∧ p < R) → (0 ≤ q ∧ q < R) → w2 (314 + p.toNat) q = fwT S k p q) ∧ frL w w2 := by
  intro n
  induction n with
  | zero => intro x w hw x0 x1 x2; omega
  | succ n ih =>
    intro x w hw x0 x1 x2 hf
    show ∃ w2, f_L_reckon_b86_b F 300 k76 (f_L_reckon_b86 F 300 k76 n) _ _ _ = _ ∧ _
    unfold f_L_reckon_b86_b
    rw [hw, gd_t (by omega)]
    by_cases c2 : R ≤ x
    · rw [if_pos c2]
      refine ⟨w, rfl, fun p q hp hq => ?_, frL.rf w⟩
      rw [hf p q hp hq, if_pos (by omega)]
    · rw [if_neg c2]
      obtain ⟨w2, e1, e2, e3⟩ := l_fw96 (F := F) (k76 := k76) (k86 := f_L_reckon_b86 F 300 k76 n) hR hS hk hkk (x := x) (by omega) F 0 w hw (by omega) (by omega) (by omega) hf
      rw [e1]
      obtain ⟨w3, g1, g2, g3⟩ := ih (x + 1) w2 (by rw [e3 300 (by omega)]; exact hw) (by omega) (by omega) (by omega) e2
      exact ⟨w3, g1, g2, e3.trans g3⟩
theorem l_fw76 (hF : 100 ≤ F) {r : Row} (b0 : 2 ≤ r 0 ∧ r 0 ≤ 5) (b1 : 0 ≤ r 1 ∧ r 1 ≤ 20) (hw : Ww r) :
    ∀ (n : Nat) (k : Int) (w : aI) (S : Int → Int → Int), w 300 20 = r 0 → 0 ≤ k → k ≤ r 0 → r 0 - k < n → (∀ p q, (0 ≤ p ∧ p < r 0) → (0 ≤ q ∧ q < r 0) → w (314 + p.toNat) q = S p q) → FwOK r S → FwT r S k → ∃ w2, f_L_reckon_b76 F 300 n k w = some w2 ∧ LwS w2 r ∧ frL w w2 := by
  intro n
  induction n with
  | zero => intro k w S hr k0 k1 k2; omega
  | succ n ih =>
    intro k w S hr k0 k1 k2 hf hS hT
    show ∃ w2, f_L_reckon_b76_b F 300 (f_L_reckon_b76 F 300 n) _ _ = _ ∧ _
    unfold f_L_reckon_b76_b
    rw [hr, gd_t (by omega)]
    by_cases c2 : r 0 ≤ k
    · have e : k = r 0 := by omega
      subst e
      rw [if_pos c2]
      refine ⟨w, rfl, fun x y x0 x1 y0 y1 => ?_, frL.rf w⟩
      rw [hf x y ⟨x0, x1⟩ ⟨y0, y1⟩, fw_fin (by omega) b1 hw hS hT ⟨x0, x1⟩ ⟨y0, y1⟩]
    · rw [if_neg c2]
      obtain ⟨w2, e1, e2, e3⟩ := l_fw86 (F := F) (k76 := f_L_reckon_b76 F 300 n) hF b0 hS.1 (k := k) (by omega) (hS.2.1 k (by omega)) F 0 w hr (by omega) (by omega) (by omega) (fun p q hp hq => by
        rw [hf p q hp hq, if_neg (by omega)])
      rw [e1]
      obtain ⟨w3, g1, g2, g3⟩ := ih (k + 1) w2 (fwT S k) (by rw [e3 300 (by omega)]; exact hr) (by omega) (by omega) (by omega) e2 (fw_ok (by omega) b1 hw hS (by omega)) (fw_t hS (by omega) hT)
      exact ⟨w3, g1, g2, e3.trans g3⟩
/-- what the law's square begins with -/
def sum0 (r : Row) (x y : Int) : Int := if x = y then 0 else if farB r x y = -1 then 9999 else farB r x y
theorem farB_19 {r : Row} (b1 : 0 ≤ r 1) (hw : Ww r) (x y : Int) : farB r x y = -1 ∨ (1 ≤ farB r x y ∧ farB r x y ≤ 9) := by
  by_cases cf : farB r x y = -1
  · exact Or.inl cf
  · obtain ⟨i, i0, i1, f1, f2, -⟩ := farB_en hw b1 cf
    have := hw.1 i i0 i1
    exact Or.inr (by omega)
theorem sum0_ok {r : Row} (b0 : 2 ≤ r 0 ∧ r 0 ≤ 5) (b1 : 0 ≤ r 1 ∧ r 1 ≤ 20) (hw : Ww r) : FwOK r (sum0 r) := by
  refine ⟨fun x y hx hy => ?_, fun x hx => if_pos rfl, fun x y hx hy => ?_, fun i x y i0 i1 e => ?_⟩
  · have := farB_19 b1.1 hw x y
    unfold sum0
    split
    · omega
    · split <;> omega
  · unfold sum0
    by_cases c : x = y
    · subst c
      rw [if_pos rfl, dist_0 (by omega) b1 hw (by decide) hx]
      exact Or.inr (by decide)
    · rw [if_neg c]
      by_cases cf : farB r x y = -1
      · rw [if_pos cf]; exact Or.inl rfl
      · rw [if_neg cf]
        obtain ⟨i, i0, i1, f1, f2, -⟩ := farB_en hw b1.1 cf
        have := dist_edge (r := r) (by omega) b1 hw (W := -1) (by decide) i0 i1 (by omega) f1
        exact Or.inr ⟨this.1, by omega⟩
  · have h := En2.rg hw i0 i1 e
    have hf := farB_of hw b1.1 i0 i1 e
    unfold sum0
    rw [if_neg h.2.2.1, hf, if_neg (by omega)]
    exact Int.le_refl _
theorem l_in12 (hF : 100 ≤ F) {r : Row} {k2 : Int → aI → Option aI} (b0 : 2 ≤ r 0 ∧ r 0 ≤ 5) (b1 : 0 ≤ r 1 ∧ r 1 ≤ 20) (hWw : Ww r) {x : Int} (hx : 0 ≤ x ∧ x < r 0) :
    ∀ (n : Nat) (y : Int) (w : aI), w 300 20 = r 0 → LwW w r → 0 ≤ y → y ≤ r 0 → r 0 - y < n → (∀ p q, (0 ≤ p ∧ p < r 0) → (0 ≤ q ∧ q < r 0) → (p < x ∨ (p = x ∧ q < y)) → w (314 + p.toNat) q = sum0 r p q) → ∃ w2, f_L_reckon_b12 F 300 k2 n x y w = k2 (x + 1) w2 ∧ (∀ p q, (0 ≤ p ∧ p < r 0) → (0 ≤ q ∧ q < r 0) → p < x + 1 → w2 (314 + p.toNat) q = sum0 r p q) ∧ frL w w2 := by
  intro n
  induction n with
  | zero => intro y w hr hW y0 y1 y2; omega
  | succ n ih =>
    intro y w hr hW y0 y1 y2 hf
    show ∃ w2, f_L_reckon_b12_b F 300 k2 (f_L_reckon_b12 F 300 k2 n) _ _ _ = _ ∧ _
    unfold f_L_reckon_b12_b
    rw [hr, gd_t (by omega)]
    by_cases c2 : r 0 ≤ y
    · rw [if_pos c2]
      exact ⟨w, rfl, fun p q hp hq hpx => hf p q hp hq (by omega), frL.rf w⟩
    · obtain ⟨q1, q2⟩ := lsum (x := x) (by omega)
      obtain ⟨q3, q4⟩ := lway (x := x) (by omega)
      have l7 := ll5.2.2.2.2.2.2.1
      have l8 := ll5.2.2.2.2.2.2.2
      have hway := hW x y hx.1 hx.2 y0 (by omega)
      have go : ∀ v, v = sum0 r x y → ∃ w2, f_L_reckon_b12 F 300 k2 n x (y + 1) (iset w (314 + x.toNat) y v) = k2 (x + 1) w2 ∧ (∀ p q, (0 ≤ p ∧ p < r 0) → (0 ≤ q ∧ q < r 0) → p < x + 1 → w2 (314 + p.toNat) q = sum0 r p q) ∧ frL w w2 := by
        intro v hv
        obtain ⟨w3, g1, g2, g3⟩ := ih (y + 1) (iset w (314 + x.toNat) y v) (by rw [is_ne (by omega)]; exact hr) (fun a b a0 a1 c0 c1 => by rw [is_ne (by omega)]; exact hW a b a0 a1 c0 c1) (by omega) (by omega) (by omega) (fun p q hp hq hpq => by
          by_cases e : p = x
          · subst e
            rw [is_eq]
            by_cases e9 : q = y
            · subst e9; rw [rs_self]; exact hv
            · rw [rs_ne e9]; exact hf p q hp hq (by omega)
          · rw [is_ne (by omega)]; exact hf p q hp hq (by omega))
        exact ⟨w3, g1, g2, (frL.is (by omega) _ _).trans g3⟩
      have f9 := farB_19 b1.1 hWw x y
      rw [if_neg c2, lf7, lf6, l7, l8, q1, q2, q3, q4, gd_t (by omega), gd_t (by omega)]
      by_cases c3 : x = y
      · rw [if_pos c3, gd_t (by omega)]
        exact go 0 (by unfold sum0; rw [if_pos c3])
      · rw [if_neg c3, gd_t (by omega), gd_t (by omega), hway]
        by_cases cf : farB r x y = -1
        · rw [if_pos cf, gd_t (by decide), if_pos (by decide), gd_t (by omega)]
          exact go 9999 (by unfold sum0; rw [if_neg c3, if_pos cf])
        · rw [if_neg cf, gd_t (by omega), if_neg (by omega), gd_t (by omega), gd_t (by omega), gd_t (by omega)]
          exact go (farB r x y) (by unfold sum0; rw [if_neg c3, if_neg cf])
theorem l_in2 (hF : 100 ≤ F) {r : Row} (b0 : 2 ≤ r 0 ∧ r 0 ≤ 5) (b1 : 0 ≤ r 1 ∧ r 1 ≤ 20) (hWw : Ww r) :
    ∀ (n : Nat) (x : Int) (w : aI), w 300 20 = r 0 → LwW w r → 0 ≤ x → x ≤ r 0 → r 0 - x < n → (∀ p q, (0 ≤ p ∧ p < r 0) → (0 ≤ q ∧ q < r 0) → p < x → w (314 + p.toNat) q = sum0 r p q) → ∃ w2, f_L_reckon_b2 F 300 n x w = some w2 ∧ LwS w2 r ∧ frL w w2 := by
  intro n
  induction n with
  | zero => intro x w hr hW x0 x1 x2; omega
  | succ n ih =>
    intro x w hr hW x0 x1 x2 hf
    show ∃ w2, f_L_reckon_b2_b F 300 (f_L_reckon_b2 F 300 n) _ _ = _ ∧ _
    unfold f_L_reckon_b2_b
    rw [hr, gd_t (by omega)]
    by_cases c2 : r 0 ≤ x
    · rw [if_pos c2]
      exact l_fw76 hF b0 b1 hWw F 0 w (sum0 r) hr (by omega) (by omega) (by omega) (fun p q hp hq => hf p q hp hq (by omega)) (sum0_ok b0 b1 hWw) (fun j j0 j1 => by omega)
    · rw [if_neg c2]
      obtain ⟨w2, e1, e2, e3⟩ := l_in12 (F := F) (k2 := f_L_reckon_b2 F 300 n) hF b0 b1 hWw (x := x) (by omega) F 0 w hr hW (by omega) (by omega) (by omega) (fun p q hp hq h => hf p q hp hq (by omega))
      rw [e1]
      obtain ⟨w3, g1, g2, g3⟩ := ih (x + 1) w2 (by rw [e3 300 (by omega)]; exact hr) (fun a b a0 a1 c0 c1 => by rw [e3 _ (by omega)]; exact hW a b a0 a1 c0 c1) (by omega) (by omega) (by omega) (fun p q hp hq hpx => e2 p q hp hq hpx)
      exact ⟨w3, g1, g2, e3.trans g3⟩
/-- the law reckons its sums -/
theorem l_reckon (hF : 100 ≤ F) {r : Row} (b0 : 2 ≤ r 0 ∧ r 0 ≤ 5) (b1 : 0 ≤ r 1 ∧ r 1 ≤ 20) (hWw : Ww r) (h9 : 241 ≤ w 999 0 ∧ w 999 0 ≤ 800) (hr : w 300 20 = r 0) (hW : LwW w r) : ∃ w2, f_L_reckon F 300 w = some w2 ∧ LwS w2 r ∧ frL w w2 := by
  unfold f_L_reckon
  rw [gd_t h9]
  exact l_in2 hF b0 b1 hWw F 0 w hr hW (by omega) (by omega) (by omega) (fun p q hp hq h => by omega)
end LP
