/-! ===== counts on both sides ===== -/
section Counts
variable {F : Nat} {w : aI}
theorem m_those {s : Int} (hF : 100 ≤ F) (hW : WF (w 211)) (hs : rg s) : f_X11_those F 210 s w = some (cnt (fun i => decide (w 211 (220 + 27 * i + 3) = s)) (w 211 2).toNat) := by
  have b2 := hW.1.2.2.1
  have key : ∀ (n i : Nat), (i : Int) ≤ w 211 2 → w 211 2 - i < n → f_X11_those_b4 F 210 s w n (cnt (fun i => decide (w 211 (220 + 27 * i + 3) = s)) i) i = some (cnt (fun i => decide (w 211 (220 + 27 * i + 3) = s)) (w 211 2).toNat) := by
    intro n
    induction n with
    | zero => intro i i1 i2; omega
    | succ n ih =>
      intro i i1 i2
      show f_X11_those_b4_b F 210 s w (f_X11_those_b4 F 210 s w n) _ _ = _
      unfold f_X11_those_b4_b
      rw [m0, n0, gd_t (by omega), gd_t (by omega)]
      by_cases c : w 211 2 ≤ i
      · have e : i = (w 211 2).toNat := by omega
        rw [if_pos c, ← e]
      · have y := (hW.2.2.2.1 i (by omega) (by omega)).2.2.2.2.1
        have nx : f_X11_those_b4 F 210 s w n (cnt (fun i => decide (w 211 (220 + 27 * i + 3) = s)) i + bI (decide (w 211 (220 + 27 * (i : Int) + 3) = s))) ((i : Int) + 1) = _ := ih (i + 1) (by omega) (by omega)
        rw [if_neg c, m_t, bs, gd_t (by omega), gd_t (by omega)]
        by_cases c2 : w 211 (220 + 27 * (i : Int) + 3) = s
        · rw [if_pos c2, m_one F w (Or.inr rfl), bs, lti]
          rw [decide_eq_true c2] at nx
          exact nx
        · rw [if_neg c2, m_one F w (Or.inl rfl), bs, lti]
          rw [decide_eq_false c2] at nx
          exact nx
  exact key F 0 (by omega) (by omega)
theorem c_tunesIn {b : Nat} {r : Row} {s : Int} (hF : 100 ≤ F) (hP : Pb b) (h : Rep w b r) (hW : WF r) (hs : rg s) : f_X2_tunesIn F b s w = some (cnt (fun i => decide (r (220 + 27 * i + 3) = s)) (r 2).toNat) := by
  have b2 := hW.1.2.2.1
  have key : ∀ (n i : Nat), (i : Int) ≤ r 2 → r 2 - i < n → f_X2_tunesIn_b4 F b s w n (cnt (fun i => decide (r (220 + 27 * i + 3) = s)) i) i = some (cnt (fun i => decide (r (220 + 27 * i + 3) = s)) (r 2).toNat) := by
    intro n
    induction n with
    | zero => intro i i1 i2; omega
    | succ n ih =>
      intro i i1 i2
      show f_X2_tunesIn_b4_b F b s w (f_X2_tunesIn_b4 F b s w n) _ _ = _
      unfold f_X2_tunesIn_b4_b
      rw [h.1.2.2.2.2, gd_t (by omega)]
      by_cases c : r 2 ≤ i
      · have e : i = (r 2).toNat := by omega
        rw [if_pos c, ← e]
      · have y := (hW.2.2.2.1 i (by omega) (by omega)).2.2.2.2.1
        have nx : f_X2_tunesIn_b4 F b s w n (cnt (fun i => decide (r (220 + 27 * i + 3) = s)) i + bI (decide (r (220 + 27 * (i : Int) + 3) = s))) ((i : Int) + 1) = _ := ih (i + 1) (by omega) (by omega)
        rw [if_neg c, pf6 hP, c_tune hP h b2 (by omega) (by omega), bs, gd_t (by omega)]
        by_cases c2 : r (220 + 27 * (i : Int) + 3) = s
        · rw [if_pos c2]
          rw [decide_eq_true c2] at nx
          exact nx
        · rw [if_neg c2]
          rw [decide_eq_false c2, show bI false = 0 from rfl, Int.add_zero] at nx
          exact nx
  exact key F 0 (by omega) (by omega)
theorem m_busyMany (hF : 100 ≤ F) (hW : WF (w 211)) : f_X11_busyMany F 210 w = some (cnt (fun x => busy (w 211) x (w 211 3)) (w 211 0).toNat) := by
  obtain ⟨b0, b1, b2, b3, -⟩ := hW.1
  have key : ∀ (n i : Nat), (i : Int) ≤ w 211 0 → w 211 0 - i < n → f_X11_busyMany_b4 F 210 w n (cnt (fun x => busy (w 211) x (w 211 3)) i) i = some (cnt (fun x => busy (w 211) x (w 211 3)) (w 211 0).toNat) := by
    intro n
    induction n with
    | zero => intro i i1 i2; omega
    | succ n ih =>
      intro i i1 i2
      show f_X11_busyMany_b4_b F 210 w (f_X11_busyMany_b4 F 210 w n) _ _ = _
      unfold f_X11_busyMany_b4_b
      rw [m0, n0, gd_t (by omega), gd_t (by omega)]
      by_cases c : w 211 0 ≤ i
      · have e : i = (w 211 0).toNat := by omega
        rw [if_pos c, ← e]
      · have x6 := (hW.2.1 i (by omega) (by omega)).2.2.2.2.2.2
        have nx : f_X11_busyMany_b4 F 210 w n (cnt (fun x => busy (w 211) x (w 211 3)) i + bI (busy (w 211) i (w 211 3))) ((i : Int) + 1) = _ := ih (i + 1) (by omega) (by omega)
        rw [if_neg c, gd_t (by omega), m_busy (by omega) (by omega) (by omega), bs, m_one F w (by cases busy (w 211) i (w 211 3) <;> simp [bI]), bs, lti]
        exact nx
  exact key F 0 (by omega) (by omega)
theorem c_busyWhistlers {b : Nat} {r : Row} (hF : 100 ≤ F) (hP : Pb b) (h : Rep w b r) (hW : WF r) : f_X2_busyWhistlers F b w = some (cnt (fun x => busy r x (r 3)) (r 0).toNat) := by
  obtain ⟨b0, b1, b2, b3, -⟩ := hW.1
  have key : ∀ (n i : Nat), (i : Int) ≤ r 0 → r 0 - i < n → f_X2_busyWhistlers_b4 F b w n (cnt (fun x => busy r x (r 3)) i) i = some (cnt (fun x => busy r x (r 3)) (r 0).toNat) := by
    intro n
    induction n with
    | zero => intro i i1 i2; omega
    | succ n ih =>
      intro i i1 i2
      show f_X2_busyWhistlers_b4_b F b w (f_X2_busyWhistlers_b4 F b w n) _ _ = _
      unfold f_X2_busyWhistlers_b4_b
      rw [h.1.2.2.1, gd_t (by omega)]
      by_cases c : r 0 ≤ i
      · have e : i = (r 0).toNat := by omega
        rw [if_pos c, ← e]
      · have x6 := (hW.2.1 i (by omega) (by omega)).2.2.2.2.2.2
        have nx : f_X2_busyWhistlers_b4 F b w n (cnt (fun x => busy r x (r 3)) i + bI (busy r i (r 3))) ((i : Int) + 1) = _ := ih (i + 1) (by omega) (by omega)
        rw [if_neg c, h.1.2.1, c_busy hP h b0.2 (by omega) (by omega) (by omega), bs]
        cases e : busy r i (r 3) with
        | true => rw [e] at nx; exact nx
        | false => rw [e, show bI false = 0 from rfl, Int.add_zero] at nx; exact nx
  exact key F 0 (by omega) (by omega)
theorem m_purses (hF : 100 ≤ F) (hW : WF (w 211)) : f_X11_purses F 210 w = some (sm (fun x => w 211 (25 + 13 * x + 10)) (w 211 0).toNat) := by
  obtain ⟨b0, -⟩ := hW.1
  have key : ∀ (n i : Nat), (i : Int) ≤ w 211 0 → w 211 0 - i < n → f_X11_purses_b4 F 210 w n (sm (fun x => w 211 (25 + 13 * x + 10)) i) i = some (sm (fun x => w 211 (25 + 13 * x + 10)) (w 211 0).toNat) := by
    intro n
    induction n with
    | zero => intro i i1 i2; omega
    | succ n ih =>
      intro i i1 i2
      show f_X11_purses_b4_b F 210 w (f_X11_purses_b4 F 210 w n) _ _ = _
      unfold f_X11_purses_b4_b
      rw [m0, n0, gd_t (by omega), gd_t (by omega)]
      by_cases c : w 211 0 ≤ i
      · have e : i = (w 211 0).toNat := by omega
        rw [if_pos c, ← e]
      · rw [if_neg c, m_r, bs, gd_t (by omega), lti]
        exact ih (i + 1) (by omega) (by omega)
  exact key F 0 (by omega) (by omega)
theorem c_purses {b : Nat} {r : Row} (hF : 100 ≤ F) (hP : Pb b) (h : Rep w b r) (hW : WF r) : f_X2_pursesTogether F b w = some (sm (fun x => r (25 + 13 * x + 10)) (r 0).toNat) := by
  obtain ⟨b0, -⟩ := hW.1
  have key : ∀ (n i : Nat), (i : Int) ≤ r 0 → r 0 - i < n → f_X2_pursesTogether_b4 F b w n (sm (fun x => r (25 + 13 * x + 10)) i) i = some (sm (fun x => r (25 + 13 * x + 10)) (r 0).toNat) := by
    intro n
    induction n with
    | zero => intro i i1 i2; omega
    | succ n ih =>
      intro i i1 i2
      show f_X2_pursesTogether_b4_b F b w (f_X2_pursesTogether_b4 F b w n) _ _ = _
      unfold f_X2_pursesTogether_b4_b
      rw [h.1.2.2.1, gd_t (by omega)]
      by_cases c : r 0 ≤ i
      · have e : i = (r 0).toNat := by omega
        rw [if_pos c, ← e]
      · rw [if_neg c, pf4 hP, c_roof hP h b0.2 (by omega) (by omega), bs, lti, show 25 + 13 * (i : Int) + 7 + 3 = 25 + 13 * (i : Int) + 10 by omega]
        exact ih (i + 1) (by omega) (by omega)
  exact key F 0 (by omega) (by omega)
theorem m_waitingMany {x : Int} (hF : 100 ≤ F) (hW : WF (w 211)) (hx : rg x) : f_X11_waitingMany F 210 x w = some (cnt (fun i => waits (w 211) i x) (w 211 2).toNat) := by
  obtain ⟨b0, b1, b2, b3, -⟩ := hW.1
  have key : ∀ (n i : Nat), (i : Int) ≤ w 211 2 → w 211 2 - i < n → f_X11_waitingMany_b4 F 210 x w n (cnt (fun i => waits (w 211) i x) i) i = some (cnt (fun i => waits (w 211) i x) (w 211 2).toNat) := by
    intro n
    induction n with
    | zero => intro i i1 i2; omega
    | succ n ih =>
      intro i i1 i2
      show f_X11_waitingMany_b4_b F 210 x w (f_X11_waitingMany_b4 F 210 x w n) _ _ = _
      unfold f_X11_waitingMany_b4_b
      rw [m0, n0, gd_t (by omega), gd_t (by omega)]
      by_cases c : w 211 2 ≤ i
      · have e : i = (w 211 2).toNat := by omega
        rw [if_pos c, ← e]
      · obtain ⟨y0, y1, y2, y3, y4, y5, -⟩ := hW.2.2.2.1 i (by omega) (by omega)
        have nx : f_X11_waitingMany_b4 F 210 x w n (cnt (fun i => waits (w 211) i x) i + bI (waits (w 211) i x)) ((i : Int) + 1) = _ := ih (i + 1) (by omega) (by omega)
        rw [if_neg c, m_waits (by omega) hx (by omega) (by omega), bs, m_one F w (by cases waits (w 211) i x <;> simp [bI]), bs, lti]
        exact nx
  exact key F 0 (by omega) (by omega)
theorem c_tunesAt {b : Nat} {r : Row} {x : Int} (hF : 100 ≤ F) (hP : Pb b) (h : Rep w b r) (hW : WF r) (hx : rg x) : f_X2_tunesAt F b x w = some (cnt (fun i => waits r i x) (r 2).toNat) := by
  obtain ⟨b0, b1, b2, b3, -⟩ := hW.1
  have key : ∀ (n i : Nat), (i : Int) ≤ r 2 → r 2 - i < n → f_X2_tunesAt_b4 F b x w n (cnt (fun i => waits r i x) i) i = some (cnt (fun i => waits r i x) (r 2).toNat) := by
    intro n
    induction n with
    | zero => intro i i1 i2; omega
    | succ n ih =>
      intro i i1 i2
      show f_X2_tunesAt_b4_b F b x w (f_X2_tunesAt_b4 F b x w n) _ _ = _
      unfold f_X2_tunesAt_b4_b
      rw [h.1.2.2.2.2, gd_t (by omega)]
      by_cases c : r 2 ≤ i
      · have e : i = (r 2).toNat := by omega
        rw [if_pos c, ← e]
      · obtain ⟨y0, y1, y2, y3, y4, y5, -⟩ := hW.2.2.2.1 i (by omega) (by omega)
        have nx : f_X2_tunesAt_b4 F b x w n (cnt (fun i => waits r i x) i + bI (waits r i x)) ((i : Int) + 1) = _ := ih (i + 1) (by omega) (by omega)
        rw [if_neg c, c_waits hP h b2 (by omega) hx (by omega) (by omega), bs]
        cases e : waits r i x with
        | true => rw [e] at nx; exact nx
        | false => rw [e, show bI false = 0 from rfl, Int.add_zero] at nx; exact nx
  exact key F 0 (by omega) (by omega)
theorem m_waysAt {x : Int} (hF : 100 ≤ F) (hW : WF (w 211)) (hx : rg x) : f_X11_waysAt F 210 x w = some (cnt (fun i => decide (w 211 (160 + 3 * i) = x ∨ w 211 (160 + 3 * i + 1) = x)) (w 211 1).toNat) := by
  obtain ⟨b0, b1, b2, b3, -⟩ := hW.1
  have key : ∀ (n i : Nat), (i : Int) ≤ w 211 1 → w 211 1 - i < n → f_X11_waysAt_b4 F 210 x w n (cnt (fun i => decide (w 211 (160 + 3 * i) = x ∨ w 211 (160 + 3 * i + 1) = x)) i) i = some (cnt (fun i => decide (w 211 (160 + 3 * i) = x ∨ w 211 (160 + 3 * i + 1) = x)) (w 211 1).toNat) := by
    intro n
    induction n with
    | zero => intro i i1 i2; omega
    | succ n ih =>
      intro i i1 i2
      show f_X11_waysAt_b4_b F 210 x w (f_X11_waysAt_b4 F 210 x w n) _ _ = _
      unfold f_X11_waysAt_b4_b
      rw [m0, n0, gd_t (by omega), gd_t (by omega)]
      by_cases c : w 211 1 ≤ i
      · have e : i = (w 211 1).toNat := by omega
        rw [if_pos c, ← e]
      · have a := hW.2.2.1.1 i (by omega) (by omega)
        have nx : f_X11_waysAt_b4 F 210 x w n (cnt (fun i => decide (w 211 (160 + 3 * i) = x ∨ w 211 (160 + 3 * i + 1) = x)) i + bI (decide (w 211 (160 + 3 * (i : Int)) = x ∨ w 211 (160 + 3 * (i : Int) + 1) = x))) ((i : Int) + 1) = _ := ih (i + 1) (by omega) (by omega)
        rw [if_neg c, m_ends F w (by omega) hx (by omega), bs, m_one F w (by cases decide (w 211 (160 + 3 * (i : Int)) = x ∨ w 211 (160 + 3 * (i : Int) + 1) = x) <;> simp [bI]), bs, lti]
        exact nx
  exact key F 0 (by omega) (by omega)
theorem c_way {b : Nat} {r : Row} {i k : Int} (hP : Pb b) (h : Rep w b r) (h1 : 0 ≤ r 1 ∧ r 1 ≤ 20) (hi : 0 ≤ i ∧ i < r 1) (hk : 0 ≤ k ∧ k < 3) : f_X7_get F (b + 3) i k w = some (r (160 + 3 * i + k)) := by
  obtain ⟨a0, a1, a2⟩ := h.2.2.2.2.1 i hi.1 hi.2
  rw [getW hP h.1.1 (by omega) (by omega)]
  have hk' : k = 0 ∨ k = 1 ∨ k = 2 := by omega
  rcases hk' with e | e | e <;> subst e
  · rw [Int.add_zero, Int.add_zero, a0]
  · rw [a1]
  · rw [a2]
theorem c_across {b : Nat} {r : Row} {i x : Int} (hP : Pb b) (h : Rep w b r) (hW : WF r) (hi : 0 ≤ i ∧ i < r 1) (hx : rg x) : f_X2_acrossFrom F b x i w = some (if r (160 + 3 * i) = x then r (160 + 3 * i + 1) else if r (160 + 3 * i + 1) = x then r (160 + 3 * i) else -1) := by
  obtain ⟨b0, b1, b2, b3, -⟩ := hW.1
  have a := hW.2.2.1.1 i hi.1 hi.2
  have e0 := c_way (F := F) hP h (k := 0) b1 hi (by omega)
  rw [Int.add_zero] at e0
  unfold f_X2_acrossFrom
  rw [pf5 hP, e0, bs, c_way hP h b1 hi (by omega), bs, gd_t (by omega)]
  by_cases c : r (160 + 3 * i) = x
  · rw [if_pos c, if_pos c]
  · rw [if_neg c, if_neg c, gd_t (by omega)]
    by_cases c2 : r (160 + 3 * i + 1) = x
    · rw [if_pos c2, if_pos c2]
    · rw [if_neg c2, if_neg c2]
theorem c_waysAt {b : Nat} {r : Row} {x : Int} (hF : 100 ≤ F) (hP : Pb b) (h : Rep w b r) (hW : WF r) (hx : rg x) : f_X2_waysAt F b x w = some (cnt (fun i => decide (r (160 + 3 * i) = x ∨ r (160 + 3 * i + 1) = x)) (r 1).toNat) := by
  obtain ⟨b0, b1, b2, b3, -⟩ := hW.1
  have key : ∀ (n i : Nat), (i : Int) ≤ r 1 → r 1 - i < n → f_X2_waysAt_b4 F b x w n (cnt (fun i => decide (r (160 + 3 * i) = x ∨ r (160 + 3 * i + 1) = x)) i) i = some (cnt (fun i => decide (r (160 + 3 * i) = x ∨ r (160 + 3 * i + 1) = x)) (r 1).toNat) := by
    intro n
    induction n with
    | zero => intro i i1 i2; omega
    | succ n ih =>
      intro i i1 i2
      show f_X2_waysAt_b4_b F b x w (f_X2_waysAt_b4 F b x w n) _ _ = _
      unfold f_X2_waysAt_b4_b
      rw [h.1.2.2.2.1, gd_t (by omega)]
      by_cases c : r 1 ≤ i
      · have e : i = (r 1).toNat := by omega
        rw [if_pos c, ← e]
      · have a := hW.2.2.1.1 i (by omega) (by omega)
        have nx : f_X2_waysAt_b4 F b x w n (cnt (fun i => decide (r (160 + 3 * i) = x ∨ r (160 + 3 * i + 1) = x)) i + bI (decide (r (160 + 3 * (i : Int)) = x ∨ r (160 + 3 * (i : Int) + 1) = x))) ((i : Int) + 1) = _ := ih (i + 1) (by omega) (by omega)
        rw [if_neg c, c_across hP h hW (by omega) hx, bs]
        by_cases c2 : r (160 + 3 * (i : Int)) = x ∨ r (160 + 3 * (i : Int) + 1) = x
        · rw [decide_eq_true c2] at nx
          have e : ¬ (if r (160 + 3 * (i : Int)) = x then r (160 + 3 * (i : Int) + 1) else if r (160 + 3 * (i : Int) + 1) = x then r (160 + 3 * (i : Int)) else -1) = -1 ∧ rg (if r (160 + 3 * (i : Int)) = x then r (160 + 3 * (i : Int) + 1) else if r (160 + 3 * (i : Int) + 1) = x then r (160 + 3 * (i : Int)) else -1) := by
            split
            · omega
            · split
              · omega
              · omega
          rw [gd_t e.2, if_neg e.1]
          exact nx
        · rw [decide_eq_false c2, show bI false = 0 from rfl, Int.add_zero] at nx
          rw [if_neg (fun z => c2 (Or.inl z)), if_neg (fun z => c2 (Or.inr z)), gd_t (by decide), if_pos rfl]
          exact nx
  exact key F 0 (by omega) (by omega)
theorem c_unlike {b : Nat} {r : Row} {i : Int} (hF : 100 ≤ F) (hP : Pb b) (h : Rep w b r) (hW : WF r) (hi : 0 ≤ i ∧ i < r 2) : f_X2_notesUnlikeSent F b i w = some (unl r i) := by
  obtain ⟨b0, b1, b2, b3, -⟩ := hW.1
  obtain ⟨y0, y1, y2, y3, y4, y5, y6, y7, y8, y9, y10, y11, y12, y13, y14, y15⟩ := hW.2.2.2.1 i hi.1 hi.2
  obtain ⟨hN1, hN2⟩ := tuneN7 y12
  have h8 : cnt (fun j => !decide (r (220 + 27 * i + 11 + j) = r (220 + 27 * i + 19 + j))) 8 = unl r i := by
    unfold unl
    have step : ∀ m : Nat, (r (220 + 27 * i + 2)).toNat + m ≤ 8 → cnt (fun j => !decide (r (220 + 27 * i + 11 + j) = r (220 + 27 * i + 19 + j))) ((r (220 + 27 * i + 2)).toNat + m) = cnt (fun j => !decide (r (220 + 27 * i + 11 + j) = r (220 + 27 * i + 19 + j))) (r (220 + 27 * i + 2)).toNat := by
      intro m
      induction m with
      | zero => intro _; rfl
      | succ m ih =>
        intro hm
        have z := y13 (((r (220 + 27 * i + 2)).toNat + m : Nat) : Int) (by omega) (by omega)
        rw [← Nat.add_assoc, cnt, ih (by omega), z.1, z.2, show bI (!decide ((0 : Int) = 0)) = 0 from rfl, Int.add_zero]
    have := step (8 - (r (220 + 27 * i + 2)).toNat) (by omega)
    rw [show (r (220 + 27 * i + 2)).toNat + (8 - (r (220 + 27 * i + 2)).toNat) = 8 by omega] at this
    exact this
  have key : ∀ (n v : Nat), v ≤ 8 → 8 - v < n → f_X2_notesUnlikeSent_b28 F b i w n (cnt (fun j => !decide (r (220 + 27 * i + 11 + j) = r (220 + 27 * i + 19 + j))) v) (pk (fun j => r (220 + 27 * i + 11 + j))) (pk (fun j => r (220 + 27 * i + 19 + j))) v = some (unl r i) := by
    intro n
    induction n with
    | zero => intro v v1 v2; omega
    | succ n ih =>
      intro v v1 v2
      show f_X2_notesUnlikeSent_b28_b F b i w (f_X2_notesUnlikeSent_b28 F b i w n) _ _ _ _ = _
      unfold f_X2_notesUnlikeSent_b28_b
      rw [gd_t (by omega)]
      by_cases c : 8 ≤ (v : Int)
      · have e : v = 8 := by omega
        rw [if_pos c, e, h8]
      · have n1 := hN1 v (by omega) (by omega)
        have n2 := hN2 v (by omega) (by omega)
        dsimp only at n1 n2
        have nx : f_X2_notesUnlikeSent_b28 F b i w n (cnt (fun j => !decide (r (220 + 27 * i + 11 + j) = r (220 + 27 * i + 19 + j))) v + bI (!decide (r (220 + 27 * i + 11 + (v : Int)) = r (220 + 27 * i + 19 + (v : Int))))) (pk (fun j => r (220 + 27 * i + 11 + j))) (pk (fun j => r (220 + 27 * i + 19 + j))) ((v : Int) + 1) = _ := ih (v + 1) (by omega) (by omega)
        rw [if_neg c, c_noteOf hN1 (by omega) (by omega), bs, c_noteOf hN2 (by omega) (by omega), bs, gd_t (by omega)]
        by_cases c2 : r (220 + 27 * i + 11 + (v : Int)) = r (220 + 27 * i + 19 + (v : Int))
        · rw [decide_eq_true c2, show bI (!true) = 0 from rfl, Int.add_zero] at nx
          rw [if_pos c2]
          exact nx
        · rw [decide_eq_false c2] at nx
          rw [if_neg c2]
          exact nx
  unfold f_X2_notesUnlikeSent
  rw [pf6 hP, c_tune9 hP h b2 hi, bs, c_tune10 hP h b2 hi, bs]
  exact key F 0 (by omega) (by omega)
end Counts
