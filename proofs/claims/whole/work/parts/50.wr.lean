/-! ===== wrong notes on a way ===== -/
def wrF (r : Row) (l v : Int) (x y : Int) : Int := wrg r v (farB r x y) y l
theorem wrF_bd {r : Row} {l v x y : Int} (hl : 0 ≤ l ∧ l ≤ 8) : 0 ≤ wrF r l v x y ∧ wrF r l v x y ≤ 8 := by
  have := wrg_bd (r := r) (wind := v) (far := farB r x y) (x := y) (n := l) hl.1
  unfold wrF
  omega
theorem c_wr9 {F : Nat} {w : aI} {r : Row} {p1 g l u : Int} (hN : Rep w 12 r) (hW : WF r) (hg : 0 ≤ g ∧ g < r 0) (hl : 1 ≤ l ∧ l ≤ 8) (hu : 0 ≤ u ∧ u ≤ 9) : ∀ (m n : Nat) (x v : Int) (k : Nat), m < n → m + k ≤ 10 → (0 ≤ x ∧ x < r 0) → ¬ dist r (-1) g x = -1 → rank r g x ≤ m → f_X6_wrongNotesOn_b9 F 12 p1 g l u w n v x k = some (v + psum (wrF r l u) r g m x) := by
  obtain ⟨b0, b1, -⟩ := hW.1
  intro m
  induction m with
  | zero =>
    intro n x v k hn hk hx hd hr
    obtain ⟨n, rfl⟩ : ∃ j, n = j + 1 := ⟨n - 1, by omega⟩
    have e := rank_0 hW hx hg hd (by omega)
    show f_X6_wrongNotesOn_b9_b F 12 p1 g l u w (f_X6_wrongNotesOn_b9 F 12 p1 g l u w n) _ _ _ = _
    unfold f_X6_wrongNotesOn_b9_b
    rw [gd_t (by omega), show psum (wrF r l u) r g 0 x = 0 from rfl, Int.add_zero]
    by_cases c : (10 : Int) ≤ k
    · rw [if_pos c]
    · rw [if_neg c, gd_t (by omega), if_pos e]
  | succ m ih =>
    intro n x v k hn hk hx hd hr
    obtain ⟨n, rfl⟩ : ∃ j, n = j + 1 := ⟨n - 1, by omega⟩
    show f_X6_wrongNotesOn_b9_b F 12 p1 g l u w (f_X6_wrongNotesOn_b9 F 12 p1 g l u w n) _ _ _ = _
    unfold f_X6_wrongNotesOn_b9_b psum
    rw [gd_t (by omega), if_neg (by omega), gd_t (by omega)]
    by_cases c : x = g
    · rw [if_pos c, if_pos c, Int.add_zero]
    · obtain ⟨s1, s2, s3⟩ := rank_step hW hx hg c hd
      obtain ⟨i, i0, i1, -, -, -, -, n4, -⟩ := nxt_ok b0 hW.2.2.1 b1.1 (isd b0 b1 hW.2.2.1 (by omega) hg) hx.1 hx.2 c hd
      have hfw := (hW.2.2.1.1 i i0 i1).2.2.2
      have he := (hW.2.1 _ s1.1 s1.2).2.2.2.1
      have hn2 := ih n (nxt r x g) (v + wrF r l u x (nxt r x g)) (k + 1) (by omega) (by omega) s1 s2 (by omega)
      rw [if_neg c, if_neg c, c_nxt P12 hN b0.2 hx hg, bs, gd_t (by omega), if_neg (by omega), pf9 P12, pr0 P12, getF P12 hN.1.1 (by omega) (by omega), bs, (hN.2.2.2.2.2.2 x (nxt r x g) hx.1 hx.2 s1.1 (by omega)).1, c_wrong P12 hN b0.2 s1 hu (by omega) (by omega) he, bs, lti, ← Int.add_assoc]
      exact hn2
noncomputable def wronR (r : Row) (l u x g : Int) : Int := if dist r (-1) g x = -1 then -1 else psum (wrF r l u) r g 10 x
theorem c_wrOn {F : Nat} {w : aI} {r : Row} {x g l u : Int} (hF : 100 ≤ F) (hN : Rep w 12 r) (hW : WF r) (hx : 0 ≤ x ∧ x < r 0) (hg : 0 ≤ g ∧ g < r 0) (hl : 1 ≤ l ∧ l ≤ 8) (hu : 0 ≤ u ∧ u ≤ 9) : f_X6_wrongNotesOn F 12 x g l u w = some (wronR r l u x g) := by
  have b0 := hW.1.1
  unfold f_X6_wrongNotesOn wronR
  by_cases c : dist r (-1) g x = -1
  · rw [if_pos c]
    have hxg : ¬ x = g := fun e => by rw [e, dist_self hW hg] at c; omega
    obtain ⟨n, hn⟩ : ∃ n, F = n + 1 := ⟨F - 1, by omega⟩
    have st : ∀ (n : Nat) (v : Int), v = 0 → f_X6_wrongNotesOn_b9 F 12 x g l u w (n + 1) 0 x v = some (-1) := by
      intro n v hv
      show f_X6_wrongNotesOn_b9_b F 12 x g l u w (f_X6_wrongNotesOn_b9 F 12 x g l u w n) _ _ _ = _
      unfold f_X6_wrongNotesOn_b9_b
      rw [gd_t (by omega), if_neg (by omega), gd_t (by omega), if_neg hxg, c_nxt P12 hN b0.2 hx hg, bs, nxt_no (Or.inr c), gd_t (by decide), if_pos rfl]
    have h9 := st n 0 rfl
    rw [← hn] at h9
    exact h9
  · rw [if_neg c]
    have hb := rank_bd (g := g) hx
    have h9 := c_wr9 (F := F) (p1 := x) hN hW hg hl hu 10 F x 0 0 (by omega) (by omega) hx c (by omega)
    rw [Int.zero_add] at h9
    exact h9
theorem m_wr6 {F : Nat} {w : aI} {r : Row} {p1 g l u : Int} (hF : 20000 ≤ F) (hW : WF r) (hg : 0 ≤ g ∧ g < r 0) (hl : 1 ≤ l ∧ l ≤ 8) (hu : 0 ≤ u ∧ u ≤ 9) : ∀ (m n : Nat) (x v : Int) (w1 : aI), m < n → (0 ≤ x ∧ x < r 0) → ¬ dist r (-1) g x = -1 → rank r g x ≤ m → w1 211 = r → Fm w w1 → ∃ w2, f_X11_wrongOf_b6 F 210 p1 g l u n v x w1 = some (v + psum (wrF r l u) r g m x, w2) ∧ w2 211 = r ∧ Fm w w2 := by
  obtain ⟨b0, b1, -⟩ := hW.1
  intro m
  induction m with
  | zero =>
    intro n x v w1 hn hx hd hr h1 f1
    obtain ⟨n, rfl⟩ : ∃ j, n = j + 1 := ⟨n - 1, by omega⟩
    have e := rank_0 hW hx hg hd (by omega)
    show ∃ w2, f_X11_wrongOf_b6_b F 210 p1 g l u (f_X11_wrongOf_b6 F 210 p1 g l u n) _ _ _ = _ ∧ _
    unfold f_X11_wrongOf_b6_b
    rw [gd_t (by omega), show psum (wrF r l u) r g 0 x = 0 from rfl, Int.add_zero, if_pos e]
    exact ⟨w1, rfl, h1, f1⟩
  | succ m ih =>
    intro n x v w1 hn hx hd hr h1 f1
    obtain ⟨n, rfl⟩ : ∃ j, n = j + 1 := ⟨n - 1, by omega⟩
    show ∃ w2, f_X11_wrongOf_b6_b F 210 p1 g l u (f_X11_wrongOf_b6 F 210 p1 g l u n) _ _ _ = _ ∧ _
    unfold f_X11_wrongOf_b6_b psum
    rw [gd_t (by omega)]
    by_cases c : x = g
    · rw [if_pos c, if_pos c, Int.add_zero]
      exact ⟨w1, rfl, h1, f1⟩
    · obtain ⟨s1, s2, s3⟩ := rank_step hW hx hg c hd
      obtain ⟨i, i0, i1, en, -, -, -, n4, -⟩ := nxt_ok b0 hW.2.2.1 b1.1 (isd b0 b1 hW.2.2.1 (by omega) hg) hx.1 hx.2 c hd
      have hfw := (hW.2.2.1.1 i i0 i1).2.2.2
      have he := (hW.2.1 _ s1.1 s1.2).2.2.2.1
      have hwb := wayB_of hW.2.2.1 b1.1 i0 i1 en
      obtain ⟨q, e1⟩ := m_nextTo (F := F) (w := w1) (g := g) (x := x) (by omega) (by rw [h1]; exact b0) (by rw [h1]; exact b1) (by rw [h1]; exact hW.2.2.1) (by rw [h1]; exact hx) (by rw [h1]; exact hg)
      rw [h1] at e1
      obtain ⟨w2, hw2⟩ : ∃ w2, w2 = stc w1 216 q := ⟨_, rfl⟩
      rw [← hw2] at e1
      have h2 : w2 211 = r := by rw [hw2, stc_ne (by decide), h1]
      have f2 : Fm w w2 := by rw [hw2]; exact f1.stc q (by omega)
      have hrr : ∀ j, 0 ≤ j → j < r 1 → rg (r (160 + 3 * j)) ∧ rg (r (160 + 3 * j + 1)) := fun j j0 j1 => by
        have := hW.2.2.1.1 j j0 j1
        unfold rg; omega
      rw [if_neg c, if_neg c, e1, bj, m_wayB (by omega) (by rw [h2]; exact b1) (by rw [h2]; exact hrr) (by omega) (by omega), bs, m_w, bs, h2, hwb, m0, n0, gd_t (by omega), h2, ← n4, m_wrong (by omega) hu (by omega) (by omega) (by rw [h2]; exact he), bs, lti, h2, ← Int.add_assoc]
      exact ih n (nxt r x g) _ _ (by omega) s1 s2 (by omega) h2 f2
theorem m_wrOf {F : Nat} {w : aI} {r : Row} {x g l u : Int} (hF : 20000 ≤ F) (hW : WF r) (hx : 0 ≤ x ∧ x < r 0) (hg : 0 ≤ g ∧ g < r 0) (hl : 1 ≤ l ∧ l ≤ 8) (hu : 0 ≤ u ∧ u ≤ 9) (hd : ¬ dist r (-1) g x = -1) (h1 : w 211 = r) : ∃ w2, f_X11_wrongOf F 210 x g l u w = some (wronR r l u x g, w2) ∧ w2 211 = r ∧ Fm w w2 := by
  have hb := rank_bd (g := g) hx
  have b0 := hW.1.1
  obtain ⟨w2, e1, e2, e3⟩ := m_wr6 (F := F) (w := w) (p1 := x) hF hW hg hl hu 10 F x 0 w (by omega) hx hd (by omega) h1 (Fm.refl w)
  unfold f_X11_wrongOf wronR
  rw [if_neg hd]
  rw [Int.zero_add] at e1
  exact ⟨w2, e1, e2, e3⟩
theorem top_wrongOn {F : Nat} (hF : 20000 ≤ F) {x y l : Int} (hx : rg x) (hy : rg y) (hl : rg l) : TopR [eIO, eIA] (f_X10_wrongOn F 0 x y l) (f_X11_wrongOn F 210 x y l) := by
  intro w hI
  obtain ⟨hN, hW, h3⟩ := hI.2.2.2.2.1
  obtain ⟨b0, b1, b2, b3, b4, b5, b6⟩ := hW.1
  unfold f_X10_wrongOn f_X11_wrongOn
  rw [three_args hN hx hy hl (by decide) (by decide) (by omega), k5, m_areRoofs hx hy (by omega), bs, gd_t hl, m_in (by omega) (by decide) (by decide), bs]
  by_cases c : (0 ≤ x ∧ x < w 211 0) ∧ 0 ≤ y ∧ y < w 211 0
  · rw [if_pos c, decide_eq_true c]
    by_cases c2 : 1 ≤ l ∧ l ≤ 8
    · have e9 := thr_211 w 0
      obtain ⟨q, f1, -⟩ := m_sumTo (F := F) (w := iset w 210 6 0) (g := y) (x := x) (by omega) (by rw [e9]; exact b0) (by rw [e9]; exact b1) (by rw [e9]; exact hW.2.2.1) (by rw [e9]; exact c.1) (by rw [e9]; exact c.2)
      rw [e9] at f1
      have hdb := dist_bd b0 b1 hW.2.2.1 (W := -1) (by omega) c.2 c.1
      rw [if_pos c2, decide_eq_true c2, may2t, bk, if_pos rfl, c_set8 P12 hN, bs, c_wrOn (by omega) hN hW c.1 c.2 c2 b4, bs, f1, bj, gd_t (by omega)]
      by_cases cd : dist (w 211) (-1) y x = -1
      · unfold wronR
        rw [if_pos cd, if_pos cd]
        exact ⟨.inl (-1), -1, _, rfl, rfl, hI.thr216 0 q, thr216_at w 0 q, rfl⟩
      · rw [if_neg cd]
        have x211 : stc (iset w 210 6 0) 216 q 211 = w 211 := by rw [stc_ne (by decide), e9]
        obtain ⟨w2, g1, g2, g3⟩ := m_wrOf (F := F) (w := stc (iset w 210 6 0) 216 q) (u := w 211 4) hF hW c.1 c.2 c2 b4 cd x211
        rw [m0, n0, gd_t (by omega), x211, g1, bj]
        refine ⟨.inl (wronR (w 211) l (w 211 4) x y), wronR (w 211) l (w 211 4) x y, w2, rfl, rfl, (hI.thr216 0 q).scratch g3.fw (by rw [g2, x211]), ?_, rfl⟩
        rw [g3.2 6 (by omega) (by omega)]; exact thr216_at w 0 q
    · rw [if_neg c2, decide_eq_false c2, may2f, bk]
      refine ⟨.inr eIA, 0, iset w 210 6 2, rfl, rfl, hI.thr 2, ?_⟩
      rw [thr_at]; exact ⟨by decide, by decide, by decide⟩
  · rw [if_neg c, decide_eq_false c, may2g, bk]
    refine ⟨.inr eIO, 0, iset w 210 6 1, rfl, rfl, hI.thr 1, ?_⟩
    rw [thr_at]; exact ⟨by decide, by decide, by decide⟩
