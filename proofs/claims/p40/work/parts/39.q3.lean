/-! ===== queries of roofs, ways, tunes ===== -/
/-- a query: the class writes nothing -/
def TopR (l : List String) (fc : aI → Option ((Int ⊕ String) × aI)) (fm : aI → Option (Int × aI)) : Prop := ∀ w, Inv w → ∃ res b w2, fc w = some (res, w) ∧ fm w = some (b, w2) ∧ Inv w2 ∧ Ag l res b (w2 210 6)
theorem TopR.top {l : List String} {fc : aI → Option ((Int ⊕ String) × aI)} {fm : aI → Option (Int × aI)} (h : TopR l fc fm) : Top l fc fm := fun w hI => by
  obtain ⟨res, b, w2, h1, h2, h3, h4⟩ := h w hI
  exact ⟨res, w, b, w2, h1, h2, h3, h4⟩
theorem may2t {F : Nat} {w : aI} : f_X11_may F 210 (bI true) (bI true) 1 w = some (true, iset w 210 6 0) := m_may2
theorem may2f {F : Nat} {w : aI} : f_X11_may F 210 (bI true) (bI false) 1 w = some (false, iset w 210 6 2) := m_may2
theorem may2g {F : Nat} {b : Bool} {w : aI} : f_X11_may F 210 (bI false) (bI b) 1 w = some (false, iset w 210 6 1) := m_may2
theorem bN {e : Option String} {w : aI} {X : Option ((Int ⊕ String) × aI)} {c : Prop} [Decidable c] {E : String} (h : e = if c then none else some E) : bnM (some e) w X = if c then X else some (.inr E, w) := by
  subst h
  by_cases q : c
  · rw [if_pos q, if_pos q]; rfl
  · rw [if_neg q, if_neg q]; rfl
theorem top_roof {F : Nat} (hF : 20000 ≤ F) {x v : Int} (hx : rg x) (hv : rg v) : TopR [eIO, eIA] (f_X10_roof F 0 x v) (f_X11_roof F 210 x v) := by
  intro w hI
  obtain ⟨hN, hW, ht⟩ := hI.2.2.2.2.1
  obtain ⟨b0, b1, b2, b3, -⟩ := hW.1
  unfold f_X10_roof f_X11_roof
  rw [c_needRoof hN hx (by omega), c_needNumber hv (by decide) (by decide), bN rfl, bN rfl, k5]
  by_cases c : 0 ≤ x ∧ x < w 211 0
  · rw [if_pos c]
    by_cases c2 : 0 ≤ v ∧ v ≤ 7
    · rw [if_pos c2]
      obtain ⟨x0, x1, x2, x3, x4, x5, x6⟩ := hW.2.1 x c.1 c.2
      have e9 := thr_211 w 0
      refine ⟨.inl (if v = 4 then max 0 (w 211 (25 + 13 * x + 11) - w 211 3) else if v = 5 then cnt (fun i => waits (w 211) i x) (w 211 2).toNat else if v = 6 then cnt (fun i => decide (w 211 (160 + 3 * i) = x ∨ w 211 (160 + 3 * i + 1) = x)) (w 211 1).toNat else if v = 7 then w 211 (25 + 13 * x + 12) else w 211 (25 + 13 * x + 7 + v)), _, iset w 210 6 0, ?_, ?_, hI.thr 0, thr_at w 0, rfl⟩
      · unfold f_X2_numberOfRoof
        rw [gd_t hv]
        by_cases e4 : v = 4
        · rw [if_pos e4, if_pos e4, pf4 P12, c_roof P12 hN b0.2 c (by omega), bs, hN.1.2.1, show 25 + 13 * x + 7 + 4 = 25 + 13 * x + 11 by omega, gd_t (by omega), bs]
        · rw [if_neg e4, if_neg e4]
          by_cases e5 : v = 5
          · rw [if_pos e5, if_pos e5, c_tunesAt (by omega) P12 hN hW hx, bs, bs]
          · rw [if_neg e5, if_neg e5]
            by_cases e6 : v = 6
            · rw [if_pos e6, if_pos e6, c_waysAt (by omega) P12 hN hW hx, bs, bs]
            · rw [if_neg e6, if_neg e6, pf4 P12]
              by_cases e7 : v = 7
              · rw [if_pos e7, e7, getX P12 hN.1.1 (by omega) (by omega), bs, bs, (hN.2.2.2.1.1 x c.1 c.2).2.2.2.2.2.2.1]
              · rw [if_neg e7, c_roof P12 hN b0.2 c (by omega), bs, bs]
      · rw [m_isRoof hx (by omega), bs, gd_t hv, m_in (by omega) (by decide) (by decide), bs, decide_eq_true c, decide_eq_true c2, may2t, bk, if_pos rfl]
        by_cases e4 : v = 4
        · rw [if_pos e4, if_pos e4, m_r, bs, m0, n0, e9, gd_t (by omega), gd_t (by omega), gd_t (by omega)]
        · rw [if_neg e4, if_neg e4]
          by_cases e5 : v = 5
          · rw [if_pos e5, if_pos e5, m_waitingMany (by omega) (by rw [e9]; exact hW) hx, bs, e9]
          · rw [if_neg e5, if_neg e5]
            by_cases e6 : v = 6
            · rw [if_pos e6, if_pos e6, m_waysAt (by omega) (by rw [e9]; exact hW) hx, bs, e9]
            · rw [if_neg e6, if_neg e6]
              by_cases e7 : v = 7
              · rw [if_pos e7, if_pos e7, m_r, bs, m0, n0, e9, gd_t (by omega)]
              · rw [if_neg e7, if_neg e7, m_r, bs, m0, n0, e9, gd_t (by omega)]
    · rw [if_neg c2]
      refine ⟨.inr eIA, 0, iset w 210 6 2, rfl, ?_, hI.thr 2, ?_⟩
      · rw [m_isRoof hx (by omega), bs, gd_t hv, m_in (by omega) (by decide) (by decide), bs, decide_eq_true c, decide_eq_false c2, may2f, bk]; rfl
      · rw [thr_at]; exact ⟨by decide, by decide, by decide⟩
  · rw [if_neg c]
    refine ⟨.inr eIO, 0, iset w 210 6 1, rfl, ?_, hI.thr 1, ?_⟩
    · rw [m_isRoof hx (by omega), bs, gd_t hv, m_in (by omega) (by decide) (by decide), bs, decide_eq_false c, may2g, bk]; rfl
    · rw [thr_at]; exact ⟨by decide, by decide, by decide⟩
theorem top_way {F : Nat} (hF : 20000 ≤ F) {x v : Int} (hx : rg x) (hv : rg v) : TopR [eIO, eIA] (f_X10_way F 0 x v) (f_X11_way F 210 x v) := by
  intro w hI
  obtain ⟨hN, hW, ht⟩ := hI.2.2.2.2.1
  obtain ⟨b0, b1, b2, b3, -⟩ := hW.1
  have hm : f_X11_way F 210 x v w = (bKW (f_X11_may F 210 (bI (decide (0 ≤ x ∧ x ≤ w 211 1 - 1))) (bI (decide (0 ≤ v ∧ v ≤ 2))) 1 w) (fun r6 w7 => if r6 then ((f_X11_w F x w7).bind (fun r8 => gd (inI (r8 + v) (shL (shR 210 0))) (some (w7 (shR 210 0) (r8 + v), w7)))) else (some (0, w7)))) := by
    unfold f_X11_way
    rw [gd_t hx, m0, n0, gd_t (by omega), gd_t (by omega), m_in (by omega) (by decide) (by omega), bs, gd_t hv, m_in (by omega) (by decide) (by decide), bs]
  rw [hm]
  unfold f_X10_way
  rw [k5, hN.1.2.2.2.1, gd_t hx]
  by_cases c : 0 ≤ x ∧ x < w 211 1
  · rw [if_neg (by omega), gd_t (by omega), if_pos c.2, c_needNumber hv (by decide) (by decide), bN rfl]
    by_cases c2 : 0 ≤ v ∧ v ≤ 2
    · rw [if_pos c2, pf5 P12, c_way P12 hN b1 c (by omega), bs, decide_eq_true (by omega), decide_eq_true c2, may2t, bk]
      refine ⟨_, _, iset w 210 6 0, rfl, ?_, hI.thr 0, thr_at w 0, rfl⟩
      rw [if_pos rfl, m_w, bs, m0, n0, thr_211, gd_t (by omega)]
    · rw [if_neg c2, decide_eq_true (by omega), decide_eq_false c2, may2f, bk]
      refine ⟨.inr eIA, 0, iset w 210 6 2, rfl, rfl, hI.thr 2, ?_⟩
      rw [thr_at]; exact ⟨by decide, by decide, by decide⟩
  · rw [decide_eq_false (by omega), may2g, bk]
    have e : (if x < 0 then some (Sum.inr eIO, w) else gd (rg (w 211 1)) (if x < w 211 1 then (bnM (f_X10_needNumber F 0 v 0 2 w) w ((f_X7_get F (shR 12 5) x v w).bind (fun r3 => some (.inl r3, w)))) else some (Sum.inr eIO, w))) = some ((Sum.inr eIO : Int ⊕ String), w) := by
      by_cases c3 : x < 0
      · rw [if_pos c3]
      · rw [if_neg c3, gd_t (by omega), if_neg (by omega)]
    refine ⟨.inr eIO, 0, iset w 210 6 1, e, rfl, hI.thr 1, ?_⟩
    rw [thr_at]; exact ⟨by decide, by decide, by decide⟩
theorem two_roofs {F : Nat} {w : aI} {r : Row} {x y : Int} {X : Option ((Int ⊕ String) × aI)} (h : Rep w 12 r) (hx : rg x) (hy : rg y) (h0 : 0 ≤ r 0 ∧ r 0 ≤ 10) : bnM (f_X10_needRoof F 0 x w) w (bnM (f_X10_needRoof F 0 y w) w X) = if (0 ≤ x ∧ x < r 0) ∧ 0 ≤ y ∧ y < r 0 then X else some (.inr eIO, w) := by
  rw [c_needRoof h hx h0, c_needRoof h hy h0, bN rfl, bN rfl]
  by_cases c : 0 ≤ x ∧ x < r 0
  · rw [if_pos c]
    by_cases c2 : 0 ≤ y ∧ y < r 0
    · rw [if_pos c2, if_pos ⟨c, c2⟩]
    · rw [if_neg c2, if_neg (fun z => c2 z.2)]
  · rw [if_neg c, if_neg (fun z => c z.1)]
theorem top_route {F : Nat} (hF : 20000 ≤ F) {x y : Int} (hx : rg x) (hy : rg y) : TopR [eIO] (f_X10_route F 0 x y) (f_X11_route F 210 x y) := by
  intro w hI
  obtain ⟨hN, hW, ht⟩ := hI.2.2.2.2.1
  obtain ⟨b0, b1, b2, b3, -⟩ := hW.1
  unfold f_X10_route f_X11_route
  rw [two_roofs hN hx hy (by omega), m_areRoofs hx hy (by omega), bs]
  by_cases c : (0 ≤ x ∧ x < w 211 0) ∧ 0 ≤ y ∧ y < w 211 0
  · rw [if_pos c, decide_eq_true c, m_may1, bk, if_pos rfl, if_pos rfl]
    have e9 := thr_211 w 0
    obtain ⟨q, e1, -⟩ := m_sumTo (F := F) (w := iset w 210 6 0) (g := y) (x := x) (by omega) (by rw [e9]; exact b0) (by rw [e9]; exact b1) (by rw [e9]; exact hW.2.2.1) (by rw [e9]; exact c.1) (by rw [e9]; exact c.2)
    have db := dist_bd b0 b1 hW.2.2.1 (W := -1) (g := y) (x := x) (by omega) c.2 c.1
    rw [e1, bj, e9]
    refine ⟨.inl (dist (w 211) (-1) y x), _, _, ?_, rfl, hI.thr216 0 q, thr216_at w 0 q, rfl⟩
    rw [k5, pf9 P12, pr1 P12, getM P12 hN.1.1 (by omega) (by omega), bs, ((hN.2.2.2.2.2.2 x y c.1.1 c.1.2 c.2.1 (by omega)).2 c.2.2).1]
    by_cases cd : dist (w 211) (-1) y x = -1
    · rw [if_pos cd, gd_t (by decide), if_pos (by decide), cd]
    · rw [if_neg cd, gd_t (by omega), if_neg (by omega)]
  · rw [if_neg c, decide_eq_false c, m_may1, bk]
    refine ⟨.inr eIO, 0, iset w 210 6 1, rfl, rfl, hI.thr 1, ?_⟩
    rw [thr_at]; exact ⟨by decide, by decide, by decide⟩
theorem top_next {F : Nat} (hF : 20000 ≤ F) {x y : Int} (hx : rg x) (hy : rg y) : TopR [eIO] (f_X10_next F 0 x y) (f_X11_next F 210 x y) := by
  intro w hI
  obtain ⟨hN, hW, ht⟩ := hI.2.2.2.2.1
  obtain ⟨b0, b1, b2, b3, -⟩ := hW.1
  unfold f_X10_next f_X11_next
  rw [two_roofs hN hx hy (by omega), m_areRoofs hx hy (by omega), bs]
  by_cases c : (0 ≤ x ∧ x < w 211 0) ∧ 0 ≤ y ∧ y < w 211 0
  · rw [if_pos c, decide_eq_true c, m_may1, bk, if_pos rfl, if_pos rfl]
    have e9 := thr_211 w 0
    obtain ⟨q, e1⟩ := m_nextTo (F := F) (w := iset w 210 6 0) (g := y) (x := x) (by omega) (by rw [e9]; exact b0) (by rw [e9]; exact b1) (by rw [e9]; exact hW.2.2.1) (by rw [e9]; exact c.1) (by rw [e9]; exact c.2)
    rw [e1, bj, e9]
    refine ⟨.inl (nxt (w 211) x y), _, _, ?_, rfl, hI.thr216 0 q, thr216_at w 0 q, rfl⟩
    rw [k5, pf9 P12, pr2 P12, getN P12 hN.1.1 (by omega) (by omega), bs, ((hN.2.2.2.2.2.2 x y c.1.1 c.1.2 c.2.1 (by omega)).2 c.2.2).2]
  · rw [if_neg c, decide_eq_false c, m_may1, bk]
    refine ⟨.inr eIO, 0, iset w 210 6 1, rfl, rfl, hI.thr 1, ?_⟩
    rw [thr_at]; exact ⟨by decide, by decide, by decide⟩
theorem top_tune {F : Nat} (hF : 20000 ≤ F) {i v : Int} (hi : rg i) (hv : rg v) : TopR [eIO, eIA] (f_X10_tune F 0 i v) (f_X11_tune F 210 i v) := by
  intro w hI
  obtain ⟨hN, hW, ht⟩ := hI.2.2.2.2.1
  obtain ⟨b0, b1, b2, b3, -⟩ := hW.1
  unfold f_X10_tune f_X11_tune
  rw [c_needTune hN hi b2, c_needNumber hv (by decide) (by decide), bN rfl, bN rfl, k5, m_isTune hi b2, bs, gd_t hv, m_in (by omega) (by decide) (by decide), bs]
  by_cases c : 0 ≤ i ∧ i < w 211 2
  · rw [if_pos c, decide_eq_true c]
    by_cases c2 : 0 ≤ v ∧ v ≤ 11
    · obtain ⟨y0, y1, y2, y3, y4, y5, y6, y7, y8, y9, y10, y11, y12, y13, y14, y15⟩ := hW.2.2.2.1 i c.1 c.2
      rw [if_pos c2, decide_eq_true c2, may2t, bk, if_pos rfl]
      have e9 := thr_211 w 0
      refine ⟨.inl (if v = 9 then bar (w 211) i else if v = 10 then unl (w 211) i else if v = 11 then w 211 (220 + 27 * i + 9) else w 211 (220 + 27 * i + v)), _, iset w 210 6 0, ?_, ?_, hI.thr 0, thr_at w 0, rfl⟩
      · unfold f_X2_numberOfTune
        rw [gd_t hv, pf6 P12]
        by_cases e4 : v = 9
        · rw [if_pos e4, if_pos e4, c_bars P12 hN b2 c y3, bs, bs]
        · rw [if_neg e4, if_neg e4]
          by_cases e5 : v = 10
          · rw [if_pos e5, if_pos e5, c_unlike (by omega) P12 hN hW c, bs, bs]
          · rw [if_neg e5, if_neg e5]
            by_cases e6 : v = 11
            · rw [if_pos e6, e6, c_tune11 P12 hN b2 c, bs, bs]
            · rw [if_neg e6, c_tune P12 hN b2 c (by omega), bs, bs]
      · by_cases e4 : v = 9
        · rw [if_pos e4, if_pos e4, m_bars F _ (by omega) (by rw [e9]; exact y3), bs, e9]
        · rw [if_neg e4, if_neg e4]
          by_cases e5 : v = 10
          · rw [if_pos e5, if_pos e5, m_unlike F (by omega) _ (by omega) (by rw [e9]; exact y3) (by rw [e9]; exact y12), bs, e9]
          · rw [if_neg e5, if_neg e5]
            by_cases e6 : v = 11
            · rw [if_pos e6, if_pos e6, m_t, bs, m0, n0, e9, gd_t (by omega)]
            · rw [if_neg e6, if_neg e6, m_t, bs, m0, n0, e9, gd_t (by omega)]
    · rw [if_neg c2, decide_eq_false c2, may2f, bk]
      refine ⟨.inr eIA, 0, iset w 210 6 2, rfl, rfl, hI.thr 2, ?_⟩
      rw [thr_at]; exact ⟨by decide, by decide, by decide⟩
  · rw [if_neg c, decide_eq_false c, may2g, bk]
    refine ⟨.inr eIO, 0, iset w 210 6 1, rfl, rfl, hI.thr 1, ?_⟩
    rw [thr_at]; exact ⟨by decide, by decide, by decide⟩
theorem top_note {F : Nat} (hF : 20000 ≤ F) {i k : Int} {hd : Int} (hi : rg i) (hk : rg k) (hh : hd = 0 ∨ hd = 1) : TopR [eIO] (f_X10_note F 0 i k hd) (f_X11_note F 210 i k hd) := by
  intro w hI
  obtain ⟨hN, hW, ht⟩ := hI.2.2.2.2.1
  obtain ⟨b0, b1, b2, b3, -⟩ := hW.1
  unfold f_X10_note f_X11_note
  rw [c_needTune hN hi b2, bN rfl, k5, m_isTune hi b2, bs]
  by_cases c : 0 ≤ i ∧ i < w 211 2
  · rw [if_pos c, decide_eq_true c, m_may1, bk, if_pos rfl, if_pos rfl]
    obtain ⟨y0, y1, y2, y3, y4, y5, y6, y7, y8, y9, y10, y11, y12, y13, y14, y15⟩ := hW.2.2.2.1 i c.1 c.2
    obtain ⟨hN1, hN2⟩ := tuneN7 y12
    have e9 := thr_211 w 0
    refine ⟨.inl (if 0 ≤ k ∧ k < w 211 (220 + 27 * i + 2) then (if hd = 0 then w 211 (220 + 27 * i + 11 + k) else w 211 (220 + 27 * i + 19 + k)) else -1), _, iset w 210 6 0, ?_, ?_, hI.thr 0, thr_at w 0, rfl⟩
    · rw [gd_t hk, pf6 P12]
      by_cases c2 : 0 ≤ k ∧ k < w 211 (220 + 27 * i + 2)
      · rw [if_neg (by omega), c_tune P12 hN b2 c (by omega), bs, gd_t (by omega), if_pos c2.2, if_pos c2, gd_t (by omega)]
        by_cases c3 : hd = 0
        · rw [if_pos c3, if_pos c3, c_tune9 P12 hN b2 c, bs, c_noteOf hN1 c2.1 (by omega), bs]
        · rw [if_neg c3, if_neg c3, c_tune10 P12 hN b2 c, bs, c_noteOf hN2 c2.1 (by omega), bs]
      · rw [if_neg c2]
        by_cases c4 : k < 0
        · rw [if_pos c4]
        · rw [if_neg c4, c_tune P12 hN b2 c (by omega), bs, gd_t (by omega), if_neg (by omega)]
    · rw [gd_t hk, m_t, bs, m0, n0, e9, gd_t (by omega), gd_t (by omega), m_in (by omega) (by decide) (by omega), bs]
      by_cases c2 : 0 ≤ k ∧ k < w 211 (220 + 27 * i + 2)
      · rw [if_pos c2, if_pos (decide_eq_true (by omega)), bs, gd_t (by omega)]
        by_cases c3 : hd = 0
        · rw [if_pos c3, if_pos c3, gd_t (by omega)]
        · rw [if_neg c3, if_neg c3, gd_t (by omega)]
      · rw [if_neg c2, if_neg (by rw [decide_eq_true_iff]; omega)]
  · rw [if_neg c, decide_eq_false c, m_may1, bk]
    refine ⟨.inr eIO, 0, iset w 210 6 1, rfl, rfl, hI.thr 1, ?_⟩
    rw [thr_at]; exact ⟨by decide, by decide, by decide⟩
theorem top_outputByte {F : Nat} {k : Int} (hk : rg k) : TopQ (f_X10_outputByte F 0 k) (f_X11_outputByte F 210 k) := by
  intro w hI
  have hO := hI.2.2.1
  have hO1 := hO.2.1
  refine ⟨if 0 ≤ k ∧ k < w 210 27 then w 222 k else -1, iset w 210 6 0, ?_, ?_, hI.thr 0⟩
  · unfold f_X10_outputByte f_X0_get
    rw [k1, show shR 3 0 = 4 by decide +kernel, show shL 4 = 400 by decide +kernel, hO.1, gd_t hk]
    by_cases c : 0 ≤ k ∧ k < w 210 27
    · rw [if_neg (by omega), gd_t (by omega), if_neg (by omega), if_neg (by omega), gd_t (by omega), bs, if_pos c, (hO.2.2 k c.1 c.2).2]
    · rw [if_neg c]
      by_cases c2 : k < 0
      · rw [if_pos c2, bs]
      · rw [if_neg c2, gd_t (by omega), if_pos (by omega), bs]
  · unfold f_X11_outputByte
    rw [ltm, is_eq, rs_ne (by omega), is_ne (by decide), gd_t hk, gd_t (by omega), m_in (by omega) (by decide) (by omega), bs]
    by_cases c : 0 ≤ k ∧ k < w 210 27
    · rw [if_pos c, if_pos (decide_eq_true (by omega)), m26, n26, gd_t (by omega)]
    · rw [if_neg c, if_neg (by rw [decide_eq_true_iff]; omega)]
