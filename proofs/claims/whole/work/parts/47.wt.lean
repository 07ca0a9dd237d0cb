/-! ===== the tunes that wait, in their order ===== -/
def wbar (r : Row) (x b : Int) (i : Int) : Bool := waits r i x && decide (bar r i = b)
def place (r : Row) (x i : Int) : Int := if bar r i = 2 then cnt (wbar r x 2) i.toNat else cnt (wbar r x 2) (r 2).toNat + cnt (wbar r x 1) i.toNat
theorem cnt_mono (p : Int → Bool) {m n : Nat} (h : m ≤ n) : cnt p m ≤ cnt p n := by
  induction n with
  | zero => have : m = 0 := by omega
            subst this; exact Int.le_refl _
  | succ n ih =>
    by_cases c : m = n + 1
    · subst c; exact Int.le_refl _
    · have := ih (by omega)
      rw [cnt]
      have : 0 ≤ bI (p n) := by cases p n <;> decide
      omega
theorem cnt_split {p q s : Int → Bool} : ∀ {n : Nat}, (∀ i : Int, 0 ≤ i → i < n → bI (p i) = bI (q i) + bI (s i)) → cnt p n = cnt q n + cnt s n := by
  intro n; induction n with
  | zero => intro _; rfl
  | succ n ih => intro h; rw [cnt, cnt, cnt, ih (fun i h0 h1 => h i h0 (by omega)), h n (by omega) (by omega)]; omega
theorem cnt_below {q : Int → Bool} {i : Int} (h0 : 0 ≤ i) : ∀ {n : Nat}, i ≤ n → cnt (fun j => q j && decide (j < i)) n = cnt q i.toNat := by
  intro n; induction n with
  | zero => intro h
            have : i.toNat = 0 := by omega
            rw [this]; rfl
  | succ n ih =>
    intro h
    by_cases c : i = ((n + 1 : Nat) : Int)
    · have e : i.toNat = n + 1 := by omega
      rw [e]
      refine cnt_congr fun j j0 j1 => ?_
      rw [decide_eq_true (by omega), Bool.and_true]
    · rw [cnt, ih (by omega), decide_eq_false (by omega), Bool.and_false]
      show _ + 0 = _
      omega
def befo (r : Row) (x i : Int) (j : Int) : Bool := waits r j x && (decide (bar r i < bar r j) || (decide (bar r j = bar r i) && decide (j < i)))
theorem bar_12 {r : Row} {i : Int} (hW : WF r) (hi : 0 ≤ i ∧ i < r 2) : bar r i = 1 ∨ bar r i = 2 := by
  have := (hW.2.2.2.1 i hi.1 hi.2).2.2.2.1
  unfold bar
  omega
theorem place_eq {r : Row} {x i : Int} (hW : WF r) (hi : 0 ≤ i ∧ i < r 2) : cnt (befo r x i) (r 2).toNat = place r x i := by
  unfold place
  rcases bar_12 hW hi with e | e
  · rw [if_neg (by omega), ← cnt_below (q := wbar r x 1) (i := i) hi.1 (n := (r 2).toNat) (by omega)]
    refine cnt_split fun j j0 j1 => ?_
    unfold befo wbar
    rw [e]
    rcases bar_12 hW (i := j) (by omega) with e2 | e2
    · rw [e2]
      cases waits r j x <;> cases decide (j < i) <;> decide
    · rw [e2]
      cases waits r j x <;> cases decide (j < i) <;> decide
  · rw [if_pos e, ← cnt_below (q := wbar r x 2) (i := i) hi.1 (n := (r 2).toNat) (by omega)]
    refine cnt_congr fun j j0 j1 => ?_
    unfold befo wbar
    rw [e]
    rcases bar_12 hW (i := j) (by omega) with e2 | e2
    · rw [e2]
      cases waits r j x <;> cases decide (j < i) <;> decide
    · rw [e2]
      cases waits r j x <;> cases decide (j < i) <;> decide
theorem m_placeOf {F : Nat} {w : aI} {x i : Int} (hF : 100 ≤ F) (hW : WF (w 211)) (hi : 0 ≤ i ∧ i < w 211 2) (hx : rg x) : f_X11_placeOf F 210 i x w = some (place (w 211) x i) := by
  rw [← place_eq hW hi]
  have b2 := hW.1.2.2.1
  have b0 := hW.1.1
  have yi := (hW.2.2.2.1 i hi.1 hi.2).2.2.2.1
  have key : ∀ (n k : Nat), (k : Int) ≤ w 211 2 → w 211 2 - k < n → f_X11_placeOf_b5 F 210 i x w n (cnt (befo (w 211) x i) k) k = some (cnt (befo (w 211) x i) (w 211 2).toNat) := by
    intro n
    induction n with
    | zero => intro k k1 k2; omega
    | succ n ih =>
      intro k k1 k2
      show f_X11_placeOf_b5_b F 210 i x w (f_X11_placeOf_b5 F 210 i x w n) _ _ = _
      unfold f_X11_placeOf_b5_b
      rw [m0, n0, gd_t (by omega), gd_t (by omega)]
      by_cases c : w 211 2 ≤ k
      · have e : k = (w 211 2).toNat := by omega
        rw [if_pos c, ← e]
      · obtain ⟨y0, y1, y2, y3, y4, y5, -⟩ := hW.2.2.2.1 k (by omega) (by omega)
        have hn := ih (k + 1) (by omega) (by omega)
        have ec : cnt (befo (w 211) x i) (k + 1) = cnt (befo (w 211) x i) k + bI (befo (w 211) x i k) := rfl
        have ek : ((k + 1 : Nat) : Int) = (k : Int) + 1 := rfl
        rw [ec, ek] at hn
        have z1 : bI true = 1 := rfl
        have z0 : bI false = 0 := rfl
        rw [if_neg c, m_bars F w (by omega) y3, bs, m_bars F w (by omega) yi, bs, lti, m_waits (by omega) hx (by omega) (by omega), bs]
        have e1 := bar_12 hW hi
        have e2 := bar_12 hW (i := k) (by omega)
        cases hw : waits (w 211) k x
        · have hb : befo (w 211) x i k = false := by unfold befo; rw [hw]; rfl
          rw [hb, z0] at hn
          rw [if_neg (by decide), m_one F w (Or.inl rfl), bs, lti]; exact hn
        · rw [if_pos rfl, gd_t (by omega)]
          by_cases d1 : 0 < bar (w 211) k - bar (w 211) i
          · have hb : befo (w 211) x i k = true := by unfold befo; rw [hw, decide_eq_true (show bar (w 211) i < bar (w 211) k by omega)]; rfl
            rw [hb, z1] at hn
            unfold f_X11_placeOf_b57
            rw [if_pos d1, m_one F w (Or.inr rfl), bs, lti]; exact hn
          · rw [if_neg d1]
            by_cases d2 : bar (w 211) k - bar (w 211) i = 0
            · rw [if_pos d2, gd_t (by omega)]
              by_cases d3 : i ≤ k
              · have hb : befo (w 211) x i k = false := by unfold befo; rw [hw, decide_eq_false (show ¬ bar (w 211) i < bar (w 211) k by omega), decide_eq_false (show ¬ (k : Int) < i by omega), Bool.and_false]; rfl
                rw [hb, z0] at hn
                rw [if_pos d3, m_one F w (Or.inl rfl), bs, lti]; exact hn
              · have hb : befo (w 211) x i k = true := by unfold befo; rw [hw, decide_eq_true (show bar (w 211) k = bar (w 211) i by omega), decide_eq_true (show (k : Int) < i by omega), Bool.and_true, Bool.or_true]; rfl
                rw [hb, z1] at hn
                unfold f_X11_placeOf_b57
                rw [if_neg d3, m_one F w (Or.inr rfl), bs, lti]; exact hn
            · have hb : befo (w 211) x i k = false := by unfold befo; rw [hw, decide_eq_false (show ¬ bar (w 211) i < bar (w 211) k by omega), decide_eq_false (show ¬ bar (w 211) k = bar (w 211) i by omega)]; rfl
              rw [hb, z0] at hn
              rw [if_neg d2, m_one F w (Or.inl rfl), bs, lti]; exact hn
  exact key F 0 (by omega) (by omega)
