/-! ===== walks from roof to roof ===== -/
theorem cnt_sub {p q : Int → Bool} : ∀ {n : Nat}, (∀ i : Int, 0 ≤ i → i < n → p i = true → q i = true) → cnt p n ≤ cnt q n := by
  intro n; induction n with
  | zero => intro _; exact Int.le_refl _
  | succ n ih =>
    intro h
    have h1 := ih (fun i h0 h1 => h i h0 (by omega))
    have h2 := h n (by omega) (by omega)
    rw [cnt, cnt]
    cases hp : p n
    · have : 0 ≤ bI (q n) := by cases q n <;> decide
      have e : bI false = 0 := rfl
      rw [e]; omega
    · rw [h2 hp]; omega
theorem cnt_less {p q : Int → Bool} {n : Nat} {k : Int} (h : ∀ i : Int, 0 ≤ i → i < n → p i = true → q i = true) (k0 : 0 ≤ k) (k1 : k < n) (hp : p k = false) (hq : q k = true) : cnt p n + 1 ≤ cnt q n := by
  have e := cnt_up2 (p := p) (p' := fun i => p i || decide (i = k)) k0 k1 (fun j j0 j1 hj => by
    show (p j || decide (j = k)) = p j
    rw [decide_eq_false hj, Bool.or_false])
  have e2 : bI (p k || decide (k = k)) - bI (p k) = 1 := by
    rw [decide_eq_true rfl, hp]; rfl
  have h3 : cnt (fun i => p i || decide (i = k)) n ≤ cnt q n := cnt_sub fun i i0 i1 hi => by
    by_cases c : i = k
    · rw [c]; exact hq
    · rw [decide_eq_false c, Bool.or_false] at hi
      exact h i i0 i1 hi
  have e3 : cnt (fun i => p i || decide (i = k)) n = cnt p n + (bI (p k || decide (k = k)) - bI (p k)) := e
  omega
noncomputable def rank (r : Row) (g x : Int) : Int := cnt (fun y => decide (¬ dist r (-1) g y = -1 ∧ dist r (-1) g y < dist r (-1) g x)) (r 0).toNat
theorem rank_bd {r : Row} {g x : Int} (hx : 0 ≤ x ∧ x < r 0) : 0 ≤ rank r g x ∧ rank r g x ≤ r 0 - 1 := by
  have h := cnt_less (p := fun y => decide (¬ dist r (-1) g y = -1 ∧ dist r (-1) g y < dist r (-1) g x)) (q := fun _ => true) (n := (r 0).toNat) (k := x) (fun i i0 i1 _ => rfl) hx.1 (by omega) (decide_eq_false (fun h => by omega)) rfl
  have h2 := cnt_le (fun _ => true) (r 0).toNat
  have h3 := cnt_le (fun y => decide (¬ dist r (-1) g y = -1 ∧ dist r (-1) g y < dist r (-1) g x)) (r 0).toNat
  unfold rank
  omega
/-- one step on: nearer -/
theorem rank_step {r : Row} {g x : Int} (hW : WF r) (hx : 0 ≤ x ∧ x < r 0) (hg : 0 ≤ g ∧ g < r 0) (hxg : ¬ x = g) (h : ¬ dist r (-1) g x = -1) : (0 ≤ nxt r x g ∧ nxt r x g < r 0) ∧ ¬ dist r (-1) g (nxt r x g) = -1 ∧ rank r g (nxt r x g) + 1 ≤ rank r g x := by
  obtain ⟨b0, b1, -⟩ := hW.1
  obtain ⟨i, i0, i1, e, n1, n2, n3, n4, -⟩ := nxt_ok b0 hW.2.2.1 b1.1 (isd b0 b1 hW.2.2.1 (by omega) hg) hx.1 hx.2 hxg h
  have hw := (hW.2.2.1.1 i i0 i1).2.2.2
  have hd := dist_bd b0 b1 hW.2.2.1 (W := -1) (by omega) hg n1
  refine ⟨n1, n2, ?_⟩
  unfold rank
  refine cnt_less (k := nxt r x g) (fun y y0 y1 hy => ?_) n1.1 (by omega) (decide_eq_false (fun h => by omega)) (decide_eq_true ⟨n2, by omega⟩)
  have := of_decide_eq_true hy
  exact decide_eq_true ⟨this.1, by omega⟩
/-- what is gathered on the way -/
noncomputable def psum (f : Int → Int → Int) (r : Row) (g : Int) : Nat → Int → Int
  | 0, _ => 0
  | n + 1, x => if x = g then 0 else f x (nxt r x g) + psum f r g n (nxt r x g)
theorem psum_bd {f : Int → Int → Int} {r : Row} {g : Int} (hf : ∀ x y, 0 ≤ x → x < r 0 → 0 ≤ f x y ∧ f x y ≤ 1000) (hW : WF r) (hg : 0 ≤ g ∧ g < r 0) : ∀ (n : Nat) (x : Int), 0 ≤ x ∧ x < r 0 → ¬ dist r (-1) g x = -1 → 0 ≤ psum f r g n x ∧ psum f r g n x ≤ 1000 * n := by
  intro n
  induction n with
  | zero => intro x _ _; exact ⟨Int.le_refl _, Int.le_refl _⟩
  | succ n ih =>
    intro x hx h
    unfold psum
    by_cases c : x = g
    · rw [if_pos c]; omega
    · obtain ⟨s1, s2, s3⟩ := rank_step hW hx hg c h
      have := ih _ s1 s2
      have := hf x (nxt r x g) hx.1 hx.2
      rw [if_neg c]; omega
theorem rank_0 {r : Row} {g x : Int} (hW : WF r) (hx : 0 ≤ x ∧ x < r 0) (hg : 0 ≤ g ∧ g < r 0) (h : ¬ dist r (-1) g x = -1) (h0 : rank r g x ≤ 0) : x = g := by
  by_cases c : x = g
  · exact c
  · obtain ⟨s1, s2, s3⟩ := rank_step hW hx hg c h
    have := (rank_bd (g := g) s1).1
    omega
theorem c_nxt {F : Nat} {b : Nat} {w : aI} {r : Row} {x y : Int} (hP : Pb b) (hN : Rep w b r) (h0 : r 0 ≤ 10) (hx : 0 ≤ x ∧ x < r 0) (hy : 0 ≤ y ∧ y < r 0) : f_X7_get F (shR (shR b 9) 2) x y w = some (nxt r x y) := by
  rw [pf9 hP, pr2 hP, getN hP hN.1.1 (by omega) (by omega), ((hN.2.2.2.2.2.2 x y hx.1 hx.2 hy.1 (by omega)).2 hy.2).2]
def feeF (r : Row) (l : Int) (x _y : Int) : Int := r (25 + 13 * x + 9) * ((l + 3) / 4)
theorem c_fees9 {F : Nat} {w : aI} {r : Row} {p1 g l : Int} (hN : Rep w 12 r) (hW : WF r) (hg : 0 ≤ g ∧ g < r 0) (hl : 1 ≤ l ∧ l ≤ 8) : ∀ (m n : Nat) (x v : Int) (k : Nat), m < n → m + k ≤ 10 → (0 ≤ x ∧ x < r 0) → ¬ dist r (-1) g x = -1 → rank r g x ≤ m → f_X6_feesOn_b9 F 12 p1 g l w n v x k = some (v + psum (feeF r l) r g m x) := by
  have b0 := hW.1.1
  intro m
  induction m with
  | zero =>
    intro n x v k hn hk hx hd hr
    obtain ⟨n, rfl⟩ : ∃ j, n = j + 1 := ⟨n - 1, by omega⟩
    have e := rank_0 hW hx hg hd (by omega)
    show f_X6_feesOn_b9_b F 12 p1 g l w (f_X6_feesOn_b9 F 12 p1 g l w n) _ _ _ = _
    unfold f_X6_feesOn_b9_b
    rw [gd_t (by omega), show psum (feeF r l) r g 0 x = 0 from rfl, Int.add_zero]
    by_cases c : (10 : Int) ≤ k
    · rw [if_pos c]
    · rw [if_neg c, gd_t (by omega), if_pos e]
  | succ m ih =>
    intro n x v k hn hk hx hd hr
    obtain ⟨n, rfl⟩ : ∃ j, n = j + 1 := ⟨n - 1, by omega⟩
    show f_X6_feesOn_b9_b F 12 p1 g l w (f_X6_feesOn_b9 F 12 p1 g l w n) _ _ _ = _
    unfold f_X6_feesOn_b9_b psum
    rw [gd_t (by omega), if_neg (by omega), gd_t (by omega)]
    by_cases c : x = g
    · rw [if_pos c, if_pos c, Int.add_zero]
    · obtain ⟨s1, s2, s3⟩ := rank_step hW hx hg c hd
      have hn2 := ih n (nxt r x g) (v + feeF r l x (nxt r x g)) (k + 1) (by omega) (by omega) s1 s2 (by omega)
      rw [if_neg c, if_neg c, c_nxt P12 hN b0.2 hx hg, bs, gd_t (by omega), if_neg (by omega), c_barsOf (by omega), bs, pf4 P12, c_roof P12 hN b0.2 hx (by omega), bs, lti, ← Int.add_assoc]
      have e : (l + 3) / 4 * r (25 + 13 * x + 7 + 2) = feeF r l x (nxt r x g) := by
        unfold feeF
        rw [Int.mul_comm, show 25 + 13 * x + 7 + 2 = 25 + 13 * x + 9 by omega]
      rw [e]
      exact hn2
noncomputable def costR (r : Row) (l x g : Int) : Int := if dist r (-1) g x = -1 then -1 else psum (feeF r l) r g 10 x
theorem dist_self {r : Row} (hW : WF r) {g : Int} (hg : 0 ≤ g ∧ g < r 0) : dist r (-1) g g = 0 := (isd hW.1.1 hW.1.2.1 hW.2.2.1 (W := -1) (by omega) hg).1
theorem c_fees {F : Nat} {w : aI} {r : Row} {x g l : Int} (hF : 100 ≤ F) (hN : Rep w 12 r) (hW : WF r) (hx : 0 ≤ x ∧ x < r 0) (hg : 0 ≤ g ∧ g < r 0) (hl : 1 ≤ l ∧ l ≤ 8) : f_X6_feesOn F 12 x g l w = some (costR r l x g) := by
  have b0 := hW.1.1
  unfold f_X6_feesOn costR
  by_cases c : dist r (-1) g x = -1
  · rw [if_pos c]
    have hxg : ¬ x = g := fun e => by rw [e, dist_self hW hg] at c; omega
    obtain ⟨n, hn⟩ : ∃ n, F = n + 1 := ⟨F - 1, by omega⟩
    have st : ∀ (n : Nat) (v : Int), v = 0 → f_X6_feesOn_b9 F 12 x g l w (n + 1) 0 x v = some (-1) := by
      intro n v hv
      show f_X6_feesOn_b9_b F 12 x g l w (f_X6_feesOn_b9 F 12 x g l w n) _ _ _ = _
      unfold f_X6_feesOn_b9_b
      rw [gd_t (by omega), if_neg (by omega), gd_t (by omega), if_neg hxg, c_nxt P12 hN b0.2 hx hg, bs, nxt_no (Or.inr c), gd_t (by decide), if_pos rfl]
    have h9 := st n 0 rfl
    rw [← hn] at h9
    exact h9
  · rw [if_neg c]
    have hb := rank_bd (g := g) hx
    have h9 := c_fees9 (F := F) (p1 := x) hN hW hg hl 10 F x 0 0 (by omega) (by omega) hx c (by omega)
    rw [Int.zero_add] at h9
    exact h9
theorem m_fees43 {F : Nat} {w : aI} {r : Row} {p1 g l : Int} (hF : 20000 ≤ F) (hW : WF r) (hg : 0 ≤ g ∧ g < r 0) (hl : 1 ≤ l ∧ l ≤ 8) : ∀ (m n : Nat) (x v : Int) (w1 : aI), m < n → (0 ≤ x ∧ x < r 0) → ¬ dist r (-1) g x = -1 → rank r g x ≤ m → w1 211 = r → Fm w w1 → ∃ w2, f_X11_costOf_b43 F 210 p1 g l n v x w1 = some (v + psum (feeF r l) r g m x, w2) ∧ w2 211 = r ∧ Fm w w2 := by
  obtain ⟨b0, b1, -⟩ := hW.1
  intro m
  induction m with
  | zero =>
    intro n x v w1 hn hx hd hr h1 f1
    obtain ⟨n, rfl⟩ : ∃ j, n = j + 1 := ⟨n - 1, by omega⟩
    have e := rank_0 hW hx hg hd (by omega)
    show ∃ w2, f_X11_costOf_b43_b F 210 p1 g l (f_X11_costOf_b43 F 210 p1 g l n) _ _ _ = _ ∧ _
    unfold f_X11_costOf_b43_b
    rw [gd_t (by omega), show psum (feeF r l) r g 0 x = 0 from rfl, Int.add_zero, if_pos e]
    exact ⟨w1, rfl, h1, f1⟩
  | succ m ih =>
    intro n x v w1 hn hx hd hr h1 f1
    obtain ⟨n, rfl⟩ : ∃ j, n = j + 1 := ⟨n - 1, by omega⟩
    show ∃ w2, f_X11_costOf_b43_b F 210 p1 g l (f_X11_costOf_b43 F 210 p1 g l n) _ _ _ = _ ∧ _
    unfold f_X11_costOf_b43_b psum
    rw [gd_t (by omega)]
    by_cases c : x = g
    · rw [if_pos c, if_pos c, Int.add_zero]
      exact ⟨w1, rfl, h1, f1⟩
    · obtain ⟨s1, s2, s3⟩ := rank_step hW hx hg c hd
      obtain ⟨q, e1⟩ := m_nextTo (F := F) (w := w1) (g := g) (x := x) (by omega) (by rw [h1]; exact b0) (by rw [h1]; exact b1) (by rw [h1]; exact hW.2.2.1) (by rw [h1]; exact hx) (by rw [h1]; exact hg)
      rw [h1] at e1
      rw [if_neg c, if_neg c, m_r, bs, m0, n0, gd_t (by omega), m_barsOf F w1 (by omega), bs, lti, e1, bj, h1, ← Int.add_assoc]
      exact ih n (nxt r x g) _ _ (by omega) s1 s2 (by omega) (by rw [stc_ne (by decide)]; exact h1) (f1.stc q (by omega))
theorem three_args {F : Nat} {w : aI} {r : Row} {x y l lo hi : Int} {X : Option ((Int ⊕ String) × aI)} (h : Rep w 12 r) (hx : rg x) (hy : rg y) (hl : rg l) (h1 : rg lo) (h2 : rg hi) (h0 : 0 ≤ r 0 ∧ r 0 ≤ 10) : bnM (f_X10_needRoof F 0 x w) w (bnM (f_X10_needRoof F 0 y w) w (bnM (f_X10_needNumber F 0 l lo hi w) w X)) = if (0 ≤ x ∧ x < r 0) ∧ 0 ≤ y ∧ y < r 0 then (if lo ≤ l ∧ l ≤ hi then X else some (.inr eIA, w)) else some (.inr eIO, w) := by
  rw [two_roofs h hx hy h0, c_needNumber hl h1 h2, bN rfl]
theorem top_costOf {F : Nat} (hF : 20000 ≤ F) {x y l : Int} (hx : rg x) (hy : rg y) (hl : rg l) : TopR [eIO, eIA] (f_X10_costOf F 0 x y l) (f_X11_costOf F 210 x y l) := by
  intro w hI
  obtain ⟨hN, hW, h3⟩ := hI.2.2.2.2.1
  obtain ⟨b0, b1, b2, b3, -⟩ := hW.1
  unfold f_X10_costOf f_X11_costOf
  rw [three_args hN hx hy hl (by decide) (by decide) (by omega), k5, m_areRoofs hx hy (by omega), bs, gd_t hl, m_in (by omega) (by decide) (by decide), bs]
  by_cases c : (0 ≤ x ∧ x < w 211 0) ∧ 0 ≤ y ∧ y < w 211 0
  · rw [if_pos c, decide_eq_true c]
    by_cases c2 : 1 ≤ l ∧ l ≤ 8
    · have e9 := thr_211 w 0
      have t6 := thr_at w 0
      obtain ⟨q, f1, -⟩ := m_sumTo (F := F) (w := iset w 210 6 0) (g := y) (x := x) (by omega) (by rw [e9]; exact b0) (by rw [e9]; exact b1) (by rw [e9]; exact hW.2.2.1) (by rw [e9]; exact c.1) (by rw [e9]; exact c.2)
      rw [e9] at f1
      have hdb := dist_bd b0 b1 hW.2.2.1 (W := -1) (by omega) c.2 c.1
      rw [if_pos c2, decide_eq_true c2, may2t, bk, if_pos rfl, c_fees (by omega) hN hW c.1 c.2 c2, bs, f1, bj, gd_t (by omega)]
      unfold costR
      by_cases cd : dist (w 211) (-1) y x = -1
      · rw [if_pos cd, if_pos cd]
        exact ⟨.inl (-1), -1, _, rfl, rfl, hI.thr216 0 q, thr216_at w 0 q, rfl⟩
      · rw [if_neg cd, if_neg cd]
        obtain ⟨w2, g1, g2, g3⟩ := m_fees43 (F := F) (w := stc (iset w 210 6 0) 216 q) (p1 := x) hF hW c.2 c2 10 F x 0 (stc (iset w 210 6 0) 216 q) (by omega) c.1 cd (by have := rank_bd (g := y) c.1; omega) (by rw [stc_ne (by decide), e9]) (Fm.refl _)
        rw [Int.zero_add] at g1
        refine ⟨.inl (psum (feeF (w 211) l) (w 211) y 10 x), psum (feeF (w 211) l) (w 211) y 10 x, w2, rfl, g1, (hI.thr216 0 q).scratch g3.fw (by rw [g2, stc_ne (by decide), e9]), ?_, rfl⟩
        rw [g3.2 6 (by omega) (by omega)]; exact thr216_at w 0 q
    · rw [if_neg c2, decide_eq_false c2, may2f, bk]
      refine ⟨.inr eIA, 0, iset w 210 6 2, rfl, rfl, hI.thr 2, ?_⟩
      rw [thr_at]; exact ⟨by decide, by decide, by decide⟩
  · rw [if_neg c, decide_eq_false c, may2g, bk]
    refine ⟨.inr eIO, 0, iset w 210 6 1, rfl, rfl, hI.thr 1, ?_⟩
    rw [thr_at]; exact ⟨by decide, by decide, by decide⟩
