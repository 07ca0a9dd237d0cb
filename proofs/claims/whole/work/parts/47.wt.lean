/-! ===== the tunes that wait, in their order ===== -/
def wbar (r : Row) (x b : Int) (i : Int) : Bool := waits r i x && decide (bar r i = b)
def place (r : Row) (x i : Int) : Int := if bar r i = 2 then cnt (wbar r x 2) i.toNat else cnt (wbar r x 2) (r 2).toNat + cnt (wbar r x 1) i.toNat
theorem cnt_mono (p : Int → Bool) {m n : Nat} (h : m ≤ n) : cnt p m ≤ cnt p n := by
  induction n with
  | zero => have : m = 0 := by omega
            subst this; exact Int.le_refl _
  | succ n ih =>
    by_cases c : m = n + 1
    · subst c; exact Int.le_refl _
    · have := ih (by omega)
      rw [cnt]
      have : 0 ≤ bI (p n) := by cases p n <;> decide
      omega
theorem cnt_split {p q s : Int → Bool} : ∀ {n : Nat}, (∀ i : Int, 0 ≤ i → i < n → bI (p i) = bI (q i) + bI (s i)) → cnt p n = cnt q n + cnt s n := by
  intro n; induction n with
  | zero => intro _; rfl
  | succ n ih => intro h; rw [cnt, cnt, cnt, ih (fun i h0 h1 => h i h0 (by omega)), h n (by omega) (by omega)]; omega
theorem cnt_below {q : Int → Bool} {i : Int} (h0 : 0 ≤ i) : ∀ {n : Nat}, i ≤ n → cnt (fun j => q j && decide (j < i)) n = cnt q i.toNat := by
  intro n; induction n with
  | zero => intro h
            have : i.toNat = 0 := by omega
            rw [this]; rfl
  | succ n ih =>
    intro h
    by_cases c : i = ((n + 1 : Nat) : Int)
    · have e : i.toNat = n + 1 := by omega
      rw [e]
      refine cnt_congr fun j j0 j1 => ?_
      rw [decide_eq_true (by omega), Bool.and_true]
    · rw [cnt, ih (by omega), decide_eq_false (by omega), Bool.and_false]
      show _ + 0 = _
      omega
def befo (r : Row) (x i : Int) (j : Int) : Bool := waits r j x && (decide (bar r i < bar r j) || (decide (bar r j = bar r i) && decide (j < i)))
theorem bar_12 {r : Row} {i : Int} (hW : WF r) (hi : 0 ≤ i ∧ i < r 2) : bar r i = 1 ∨ bar r i = 2 := by
  have := (hW.2.2.2.1 i hi.1 hi.2).2.2.2.1
  unfold bar
  omega
theorem place_eq {r : Row} {x i : Int} (hW : WF r) (hi : 0 ≤ i ∧ i < r 2) : cnt (befo r x i) (r 2).toNat = place r x i := by
  unfold place
  rcases bar_12 hW hi with e | e
  · rw [if_neg (by omega), ← cnt_below (q := wbar r x 1) (i := i) hi.1 (n := (r 2).toNat) (by omega)]
    refine cnt_split fun j j0 j1 => ?_
    unfold befo wbar
    rw [e]
    rcases bar_12 hW (i := j) (by omega) with e2 | e2
    · rw [e2]
      cases waits r j x <;> cases decide (j < i) <;> decide
    · rw [e2]
      cases waits r j x <;> cases decide (j < i) <;> decide
  · rw [if_pos e, ← cnt_below (q := wbar r x 2) (i := i) hi.1 (n := (r 2).toNat) (by omega)]
    refine cnt_congr fun j j0 j1 => ?_
    unfold befo wbar
    rw [e]
    rcases bar_12 hW (i := j) (by omega) with e2 | e2
    · rw [e2]
      cases waits r j x <;> cases decide (j < i) <;> decide
    · rw [e2]
      cases waits r j x <;> cases decide (j < i) <;> decide
theorem m_placeOf {F : Nat} {w : aI} {x i : Int} (hF : 100 ≤ F) (hW : WF (w 211)) (hi : 0 ≤ i ∧ i < w 211 2) (hx : rg x) : f_X11_placeOf F 210 i x w = some (place (w 211) x i) := by
  rw [← place_eq hW hi]
  have b2 := hW.1.2.2.1
  have b0 := hW.1.1
  have yi := (hW.2.2.2.1 i hi.1 hi.2).2.2.2.1
  have key : ∀ (n k : Nat), (k : Int) ≤ w 211 2 → w 211 2 - k < n → f_X11_placeOf_b5 F 210 i x w n (cnt (befo (w 211) x i) k) k = some (cnt (befo (w 211) x i) (w 211 2).toNat) := by
    intro n
    induction n with
    | zero => intro k k1 k2; omega
    | succ n ih =>
      intro k k1 k2
      show f_X11_placeOf_b5_b F 210 i x w (f_X11_placeOf_b5 F 210 i x w n) _ _ = _
      unfold f_X11_placeOf_b5_b
      rw [m0, n0, gd_t (by omega), gd_t (by omega)]
      by_cases c : w 211 2 ≤ k
      · have e : k = (w 211 2).toNat := by omega
        rw [if_pos c, ← e]
      · obtain ⟨y0, y1, y2, y3, y4, y5, -⟩ := hW.2.2.2.1 k (by omega) (by omega)
        have hn := ih (k + 1) (by omega) (by omega)
        have ec : cnt (befo (w 211) x i) (k + 1) = cnt (befo (w 211) x i) k + bI (befo (w 211) x i k) := rfl
        have ek : ((k + 1 : Nat) : Int) = (k : Int) + 1 := rfl
        rw [ec, ek] at hn
        have z1 : bI true = 1 := rfl
        have z0 : bI false = 0 := rfl
        rw [if_neg c, m_bars F w (by omega) y3, bs, m_bars F w (by omega) yi, bs, lti, m_waits (by omega) hx (by omega) (by omega), bs]
        have e1 := bar_12 hW hi
        have e2 := bar_12 hW (i := k) (by omega)
        cases hw : waits (w 211) k x
        · have hb : befo (w 211) x i k = false := by unfold befo; rw [hw]; rfl
          rw [hb, z0] at hn
          rw [if_neg (by decide), m_one F w (Or.inl rfl), bs, lti]; exact hn
        · rw [if_pos rfl, gd_t (by omega)]
          by_cases d1 : 0 < bar (w 211) k - bar (w 211) i
          · have hb : befo (w 211) x i k = true := by unfold befo; rw [hw, decide_eq_true (show bar (w 211) i < bar (w 211) k by omega)]; rfl
            rw [hb, z1] at hn
            unfold f_X11_placeOf_b57
            rw [if_pos d1, m_one F w (Or.inr rfl), bs, lti]; exact hn
          · rw [if_neg d1]
            by_cases d2 : bar (w 211) k - bar (w 211) i = 0
            · rw [if_pos d2, gd_t (by omega)]
              by_cases d3 : i ≤ k
              · have hb : befo (w 211) x i k = false := by unfold befo; rw [hw, decide_eq_false (show ¬ bar (w 211) i < bar (w 211) k by omega), decide_eq_false (show ¬ (k : Int) < i by omega), Bool.and_false]; rfl
                rw [hb, z0] at hn
                rw [if_pos d3, m_one F w (Or.inl rfl), bs, lti]; exact hn
              · have hb : befo (w 211) x i k = true := by unfold befo; rw [hw, decide_eq_true (show bar (w 211) k = bar (w 211) i by omega), decide_eq_true (show (k : Int) < i by omega), Bool.and_true, Bool.or_true]; rfl
                rw [hb, z1] at hn
                unfold f_X11_placeOf_b57
                rw [if_neg d3, m_one F w (Or.inr rfl), bs, lti]; exact hn
            · have hb : befo (w 211) x i k = false := by unfold befo; rw [hw, decide_eq_false (show ¬ bar (w 211) i < bar (w 211) k by omega), decide_eq_false (show ¬ bar (w 211) k = bar (w 211) i by omega)]; rfl
              rw [hb, z0] at hn
              rw [if_neg d2, m_one F w (Or.inl rfl), bs, lti]; exact hn
  exact key F 0 (by omega) (by omega)
def wtg (r : Row) (x p : Int) (i : Int) : Bool := waits r i x && decide (place r x i = p)
/-- the class's search among those of b bars, c gone before -/
def hit (r : Row) (x b c p : Int) (i : Int) : Bool := wbar r x b i && decide (c + cnt (wbar r x b) i.toNat = p)
theorem c_wt13 {F : Nat} {w : aI} {r : Row} {x p b c : Int} (k5 : Int → Int → Option Int) (hN : Rep w 12 r) (hW : WF r) (hx : rg x) (hp : rg p) (hb : b = 1 ∨ b = 2) (hc : 0 ≤ c ∧ c ≤ 30) :
    ∀ (n k : Nat), (k : Int) ≤ r 2 → r 2 - k < n → (∀ i : Int, 0 ≤ i → i < k → hit r x b c p i = false) → f_X2_waitingAt_b13 F 12 x p w k5 n (c + cnt (wbar r x b) k) b k = if ff (hit r x b c p) (r 2).toNat = -1 then k5 (c + cnt (wbar r x b) (r 2).toNat) (b + -1) else some (ff (hit r x b c p) (r 2).toNat) := by
  have b2 := hW.1.2.2.1
  have b0 := hW.1.1
  intro n
  induction n with
  | zero => intro k k1 k2; omega
  | succ n ih =>
    intro k k1 k2 hh
    show f_X2_waitingAt_b13_b F 12 x p w k5 (f_X2_waitingAt_b13 F 12 x p w k5 n) _ _ _ = _
    unfold f_X2_waitingAt_b13_b
    rw [hN.1.2.2.2.2, gd_t (by omega)]
    by_cases ce : r 2 ≤ k
    · have e : k = (r 2).toNat := by omega
      rw [if_pos ce, ← e, ff_none hh, if_pos rfl]
    · obtain ⟨y0, y1, y2, y3, y4, y5, -⟩ := hW.2.2.2.1 k (by omega) (by omega)
      have e2 := bar_12 hW (i := k) (by omega)
      have hcn := cnt_le (wbar r x b) k
      have hn := ih (k + 1) (by omega) (by omega)
      have ec : cnt (wbar r x b) (k + 1) = cnt (wbar r x b) k + bI (wbar r x b k) := rfl
      have ek : ((k + 1 : Nat) : Int) = (k : Int) + 1 := rfl
      rw [ec, ek] at hn
      have z1 : bI true = 1 := rfl
      have z0 : bI false = 0 := rfl
      have next : hit r x b c p k = false → ∀ i : Int, 0 ≤ i → i < (k : Int) + 1 → hit r x b c p i = false := fun h i i0 i1 => by
        by_cases e : i = k
        · rw [e]; exact h
        · exact hh i i0 (by omega)
      have kt : ((k : Int)).toNat = k := Int.toNat_natCast k
      rw [if_neg ce, c_waits P12 hN b2 (by omega) hx (by omega) (by omega), bs]
      cases hw : waits r k x
      · have hb1 : wbar r x b k = false := by unfold wbar; rw [hw]; rfl
        have hb2 : hit r x b c p k = false := by unfold hit; rw [hb1]; rfl
        rw [hb1, z0, Int.add_zero] at hn
        rw [if_neg (by decide)]; exact hn (next hb2)
      · rw [if_pos rfl, c_bars P12 hN b2 (by omega) y3, bs, gd_t (by omega)]
        by_cases d1 : bar r k = b
        · have hb1 : wbar r x b k = true := by unfold wbar; rw [hw, decide_eq_true d1]; rfl
          rw [if_pos d1, gd_t ⟨by unfold rg; omega, hp⟩]
          by_cases d2 : c + cnt (wbar r x b) k = p
          · have hb2 : hit r x b c p k = true := by unfold hit; rw [hb1, kt, decide_eq_true d2]; rfl
            rw [if_pos d2, ff_at (k := k) (by omega) hb2 hh (by omega), if_neg (by omega)]
          · have hb2 : hit r x b c p k = false := by unfold hit; rw [hb1, kt, decide_eq_false d2]; rfl
            rw [hb1, z1, ← Int.add_assoc] at hn
            rw [if_neg d2]; exact hn (next hb2)
        · have hb1 : wbar r x b k = false := by unfold wbar; rw [hw, decide_eq_false d1]; rfl
          have hb2 : hit r x b c p k = false := by unfold hit; rw [hb1]; rfl
          rw [hb1, z0, Int.add_zero] at hn
          rw [if_neg d1]; exact hn (next hb2)
theorem wt_eq {r : Row} {x p : Int} (hW : WF r) : ff (wtg r x p) (r 2).toNat = if ff (hit r x 2 0 p) (r 2).toNat = -1 then ff (hit r x 1 (cnt (wbar r x 2) (r 2).toNat) p) (r 2).toNat else ff (hit r x 2 0 p) (r 2).toNat := by
  have b2 := hW.1.2.2.1
  rcases ff_spec (hit r x 2 0 p) (r 2).toNat with ⟨e, h⟩ | ⟨h1, h2, h3, h4⟩
  · rw [if_pos e]
    refine ff_congr fun i i0 i1 => ?_
    have hi := h i i0 i1
    unfold wtg
    unfold hit at hi ⊢
    unfold wbar at hi ⊢
    unfold place
    rcases bar_12 hW (i := i) (by omega) with e1 | e1
    · rw [if_neg (by omega), e1]
      show _ = ((waits r i x && true) && _)
      rw [Bool.and_true]
      rfl
    · rw [if_pos e1, e1]
      rw [e1] at hi
      have hi2 : (waits r i x && decide (0 + cnt (wbar r x 2) i.toNat = p)) = false := by
        rw [← hi]
        show _ = ((waits r i x && true) && _)
        rw [Bool.and_true]
        rfl
      rw [Int.zero_add] at hi2
      rw [hi2]
      show false = ((waits r i x && false) && _)
      rw [Bool.and_false]
      rfl
  · rw [if_neg (by omega)]
    obtain ⟨a, ha⟩ : ∃ a, a = ff (hit r x 2 0 p) (r 2).toNat := ⟨_, rfl⟩
    rw [← ha] at h1 h2 h3 h4 ⊢
    unfold hit at h3
    rw [Bool.and_eq_true] at h3
    obtain ⟨h5, h6⟩ := h3
    have h6 := of_decide_eq_true h6
    have h7 := h5
    unfold wbar at h7
    rw [Bool.and_eq_true] at h7
    have h8 := of_decide_eq_true h7.2
    refine ff_at h1 ?_ (fun i i0 i1 => ?_) h2
    · unfold wtg place
      rw [h7.1, if_pos h8, decide_eq_true (by omega)]
      rfl
    · have hi := h4 i i0 i1
      unfold wtg place
      cases hw : waits r i x
      · rfl
      · rcases bar_12 hW (i := i) (by omega) with e1 | e1
        · rw [if_neg (by omega)]
          have m1 := cnt_mono (wbar r x 2) (show a.toNat + 1 ≤ (r 2).toNat by omega)
          have m2 : cnt (wbar r x 2) (a.toNat + 1) = cnt (wbar r x 2) a.toNat + 1 := by
            rw [cnt, show ((a.toNat : Nat) : Int) = a by omega, h5]; rfl
          have m3 := cnt_le (wbar r x 1) i.toNat
          rw [decide_eq_false (by omega)]
          rfl
        · rw [if_pos e1]
          unfold hit at hi
          have hb1 : wbar r x 2 i = true := by unfold wbar; rw [hw, decide_eq_true e1]; rfl
          rw [hb1, Bool.true_and] at hi
          have := of_decide_eq_false hi
          rw [decide_eq_false (by omega)]
          rfl
theorem c_waitingAt {F : Nat} {w : aI} {r : Row} {x p : Int} (hF : 100 ≤ F) (hN : Rep w 12 r) (hW : WF r) (hx : rg x) (hp : rg p) : f_X2_waitingAt F 12 x p w = some (ff (wtg r x p) (r 2).toNat) := by
  have b2 := hW.1.2.2.1
  rw [wt_eq hW]
  unfold f_X2_waitingAt
  have st : ∀ (m : Nat) (c b : Int), (b = 1 ∨ b = 2) → 0 ≤ c ∧ c ≤ 30 → f_X2_waitingAt_b5 F 12 x p w (m + 1) c b = if ff (hit r x b c p) (r 2).toNat = -1 then f_X2_waitingAt_b5 F 12 x p w m (c + cnt (wbar r x b) (r 2).toNat) (b + -1) else some (ff (hit r x b c p) (r 2).toNat) := by
    intro m c b hb hc
    show f_X2_waitingAt_b5_b F 12 x p w (f_X2_waitingAt_b5 F 12 x p w m) _ _ = _
    unfold f_X2_waitingAt_b5_b
    have := c_wt13 (F := F) (w := w) (p := p) (c := c) (f_X2_waitingAt_b5 F 12 x p w m) hN hW hx hp hb hc F 0 (by omega) (by omega) (fun i i0 i1 => by omega)
    rw [show c + cnt (wbar r x b) 0 = c from Int.add_zero c] at this
    rw [gd_t (by omega), if_neg (by omega)]
    exact this
  have en : ∀ (m : Nat) (c v : Int), v = 0 → f_X2_waitingAt_b5 F 12 x p w (m + 1) c v = some (-1) := by
    intro m c v hv
    show f_X2_waitingAt_b5_b F 12 x p w (f_X2_waitingAt_b5 F 12 x p w m) _ _ = _
    unfold f_X2_waitingAt_b5_b
    rw [gd_t (by omega), if_pos (by omega)]
  have hc2 := cnt_le (wbar r x 2) (r 2).toNat
  have key : ∀ m : Nat, f_X2_waitingAt_b5 F 12 x p w (m + 3) 0 2 = some (if ff (hit r x 2 0 p) (r 2).toNat = -1 then ff (hit r x 1 (cnt (wbar r x 2) (r 2).toNat) p) (r 2).toNat else ff (hit r x 2 0 p) (r 2).toNat) := by
    intro m
    rw [st (m + 2) 0 2 (Or.inr rfl) (by omega)]
    split
    · rw [show (2 : Int) + -1 = 1 from rfl, Int.zero_add, st (m + 1) _ 1 (Or.inl rfl) (by omega)]
      split
      · rename_i e
        rw [en _ _ _ (show (1 : Int) + -1 = 0 from rfl), e]
      · rfl
    · rfl
  obtain ⟨m, hm⟩ : ∃ m, F = m + 3 := ⟨F - 3, by omega⟩
  have h9 := key m
  rw [← hm] at h9
  exact h9
theorem m_wt18 {F : Nat} {w : aI} {x p : Int} (hF : 100 ≤ F) (hW : WF (w 211)) (hx : rg x) (hp : rg p) : f_X11_waiting_b18 F 210 x p F 0 w = some (ff (wtg (w 211) x p) (w 211 2).toNat, w) := by
  have b2 := hW.1.2.2.1
  have b0 := hW.1.1
  have key : ∀ (n k : Nat), (k : Int) ≤ w 211 2 → w 211 2 - k < n → (∀ i : Int, 0 ≤ i → i < k → wtg (w 211) x p i = false) → f_X11_waiting_b18 F 210 x p n k w = some (ff (wtg (w 211) x p) (w 211 2).toNat, w) := by
    intro n
    induction n with
    | zero => intro k k1 k2; omega
    | succ n ih =>
      intro k k1 k2 hh
      show f_X11_waiting_b18_b F 210 x p (f_X11_waiting_b18 F 210 x p n) _ _ = _
      unfold f_X11_waiting_b18_b
      rw [m0, n0, gd_t (by omega), gd_t (by omega)]
      by_cases c : w 211 2 ≤ k
      · have e : k = (w 211 2).toNat := by omega
        rw [if_pos c, ← e, ff_none hh]
      · obtain ⟨y0, y1, y2, y3, y4, y5, -⟩ := hW.2.2.2.1 k (by omega) (by omega)
        have next : wtg (w 211) x p k = false → ∀ i : Int, 0 ≤ i → i < ((k + 1 : Nat) : Int) → wtg (w 211) x p i = false := fun h i i0 i1 => by
          by_cases e : i = k
          · rw [e]; exact h
          · exact hh i i0 (by omega)
        rw [if_neg c, m_waits (by omega) hx (by omega) (by omega), bs]
        cases hw : waits (w 211) k x
        · have hb : wtg (w 211) x p k = false := by unfold wtg; rw [hw]; rfl
          rw [if_neg (by decide)]
          exact ih (k + 1) (by omega) (by omega) (next hb)
        · have hpl : 0 ≤ place (w 211) x k ∧ place (w 211) x k ≤ 60 := by
            have q1 := cnt_le (wbar (w 211) x 2) ((k : Int)).toNat
            have q2 := cnt_le (wbar (w 211) x 2) (w 211 2).toNat
            have q3 := cnt_le (wbar (w 211) x 1) ((k : Int)).toNat
            unfold place
            split <;> omega
          rw [if_pos rfl, m_placeOf hF hW (by omega) hx, bs, gd_t ⟨by unfold rg; omega, hp⟩]
          by_cases d : place (w 211) x k = p
          · have hb : wtg (w 211) x p k = true := by unfold wtg; rw [hw, decide_eq_true d]; rfl
            rw [if_pos d, ff_at (k := k) (by omega) hb hh (by omega)]
          · have hb : wtg (w 211) x p k = false := by unfold wtg; rw [hw, decide_eq_false d]; rfl
            rw [if_neg d]
            exact ih (k + 1) (by omega) (by omega) (next hb)
  exact key F 0 (by omega) (by omega) (fun i i0 i1 => by omega)
theorem top_waiting {F : Nat} (hF : 20000 ≤ F) {x p : Int} (hx : rg x) (hp : rg p) : TopR [eIO] (f_X10_waiting F 0 x p) (f_X11_waiting F 210 x p) := by
  intro w hI
  obtain ⟨hN, hW, h3⟩ := hI.2.2.2.2.1
  obtain ⟨b0, b1, b2, b3, -⟩ := hW.1
  unfold f_X10_waiting f_X11_waiting
  rw [c_needRoof hN hx (by omega), bN rfl, k5, m_isRoof hx (by omega), bs]
  by_cases c : 0 ≤ x ∧ x < w 211 0
  · rw [if_pos c, decide_eq_true c, c_waitingAt (by omega) hN hW hx hp, bs, show f_X11_may F 210 (bI true) 1 1 w = some (true, iset w 210 6 0) from may1t, bk, if_pos rfl]
    have h9 := m_wt18 (F := F) (w := iset w 210 6 0) (x := x) (p := p) (by omega) (by rw [thr_211]; exact hW) hx hp
    rw [thr_211] at h9
    exact ⟨.inl (ff (wtg (w 211) x p) (w 211 2).toNat), ff (wtg (w 211) x p) (w 211 2).toNat, iset w 210 6 0, rfl, h9, hI.thr 0, thr_at w 0, rfl⟩
  · rw [if_neg c, decide_eq_false c, show f_X11_may F 210 (bI false) 1 1 w = some (false, iset w 210 6 1) from may3a (b := true) (c := true), bk]
    refine ⟨.inr eIO, 0, iset w 210 6 1, rfl, rfl, hI.thr 1, ?_⟩
    rw [thr_at]; exact ⟨by decide, by decide, by decide⟩
