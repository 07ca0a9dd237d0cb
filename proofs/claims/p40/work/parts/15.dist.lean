/-! ===== least sums ===== -/
theorem En2.sym {r : Row} {i x y : Int} (h : En2 r i x y) : En2 r i y x := h.elim Or.inr Or.inl
theorem dist_le {r : Row} {W g : Int} {d d' : Int → Int} (hw : Ww r) (h : IsDist r W g d) (h' : IsDist r W g d') : ∀ (n : Nat) (x : Int), 0 ≤ x → x < r 0 → ¬ d x = -1 → d x ≤ n → ¬ d' x = -1 ∧ d' x ≤ d x := by
  intro n
  induction n with
  | zero =>
    intro x h0 h1 h2 h3
    by_cases q : x = g
    · subst q; rw [h.1, h'.1]; omega
    · obtain ⟨i, y, i0, i1, i2, e, k1, k2⟩ := h.2.2.2 x h0 h1 q h2
      have a := hw.1 i i0 i1
      have yr : 0 ≤ y ∧ y < r 0 := by rcases e with ⟨e1, e2⟩ | ⟨e1, e2⟩ <;> omega
      have := h.2.1 y yr.1 yr.2
      omega
  | succ n ih =>
    intro x h0 h1 h2 h3
    by_cases q : x = g
    · subst q; rw [h.1, h'.1]; omega
    · obtain ⟨i, y, i0, i1, i2, e, k1, k2⟩ := h.2.2.2 x h0 h1 q h2
      have a := hw.1 i i0 i1
      have yr : 0 ≤ y ∧ y < r 0 := by rcases e with ⟨e1, e2⟩ | ⟨e1, e2⟩ <;> omega
      obtain ⟨m1, m2⟩ := ih y yr.1 yr.2 k1 (by omega)
      obtain ⟨c1, c2⟩ := h'.2.2.1 i i0 i1 i2 x y e m1
      exact ⟨c1, by omega⟩
theorem dist_uniq {r : Row} {W g : Int} {d d' : Int → Int} (hw : Ww r) (h : IsDist r W g d) (h' : IsDist r W g d') {x : Int} (h0 : 0 ≤ x) (h1 : x < r 0) : d x = d' x := by
  have e1 := h.2.1 x h0 h1
  have e2 := h'.2.1 x h0 h1
  by_cases q : d x = -1
  · by_cases q' : d' x = -1
    · rw [q, q']
    · have := dist_le hw h' h (d' x).toNat x h0 h1 q' (by omega)
      exact absurd q this.1
  · have a := dist_le hw h h' (d x).toNat x h0 h1 q (by omega)
    have b := dist_le hw h' h (d' x).toNat x h0 h1 a.1 (by omega)
    omega
theorem dist_is {r : Row} {W g : Int} (h : ∃ d, IsDist r W g d) : IsDist r W g (dist r W g) := by
  unfold dist
  rw [dif_pos h]
  exact Classical.choose_spec h
theorem dist_of {r : Row} {W g : Int} {d : Int → Int} (hw : Ww r) (h : IsDist r W g d) {x : Int} (h0 : 0 ≤ x) (h1 : x < r 0) : dist r W g x = d x := dist_uniq hw (dist_is ⟨d, h⟩) h h0 h1
/-- rows that have the same ways -/
def SameW (r q : Row) : Prop := q 0 = r 0 ∧ q 1 = r 1 ∧ ∀ k, 160 ≤ k → k < 220 → q k = r k
theorem SameW.refl (r : Row) : SameW r r := ⟨rfl, rfl, fun _ _ _ => rfl⟩
theorem SameW.symm {r q : Row} (h : SameW r q) : SameW q r := ⟨h.1.symm, h.2.1.symm, fun k a b => (h.2.2 k a b).symm⟩
theorem SameW.trans {r q s : Row} (h : SameW r q) (k : SameW q s) : SameW r s := ⟨k.1.trans h.1, k.2.1.trans h.2.1, fun j a b => (k.2.2 j a b).trans (h.2.2 j a b)⟩
theorem SameW.en {r q : Row} (h : SameW r q) {i x y : Int} (i0 : 0 ≤ i) (i1 : i < 20) : En2 q i x y ↔ En2 r i x y := by
  unfold En2
  rw [h.2.2 (160 + 3 * i) (by omega) (by omega), h.2.2 (160 + 3 * i + 1) (by omega) (by omega)]
theorem SameW.isd {r q : Row} (h : SameW r q) (hn : r 1 ≤ 20) {W g : Int} {d : Int → Int} (k : IsDist r W g d) : IsDist q W g d := by
  obtain ⟨k1, k2, k3, k4⟩ := k
  refine ⟨k1, fun x x0 x1 => k2 x x0 (by rw [← h.1]; exact x1), fun i i0 i1 i2 x y e n => ?_, fun x x0 x1 x2 x3 => ?_⟩
  · rw [h.2.1] at i1
    rw [h.en i0 (by omega)] at e
    rw [h.2.2 (160 + 3 * i + 2) (by omega) (by omega)]
    exact k3 i i0 i1 i2 x y e n
  · rw [h.1] at x1
    obtain ⟨i, y, a1, a2, a3, a4, a5, a6⟩ := k4 x x0 x1 x2 x3
    refine ⟨i, y, a1, by rw [h.2.1]; exact a2, a3, (h.en a1 (by omega)).mpr a4, a5, ?_⟩
    rw [h.2.2 (160 + 3 * i + 2) (by omega) (by omega)]
    exact a6
theorem SameW.isdE {r q : Row} (h : SameW r q) (hn : r 1 ≤ 20) (W g : Int) : IsDist q W g = IsDist r W g := by
  funext d
  exact propext ⟨h.symm.isd (by rw [h.2.1]; exact hn), h.isd hn⟩
theorem SameW.dE {r q : Row} (h : SameW r q) (hn : r 1 ≤ 20) (W g : Int) : dist q W g = dist r W g := by
  unfold dist
  rw [h.isdE hn]
theorem SameW.wE {r q : Row} (h : SameW r q) (hn : r 1 ≤ 20) (a b : Int) : wayB q a b = wayB r a b := by
  unfold wayB
  rw [h.2.1]
  refine ff_congr fun i i0 i1 => ?_
  rw [h.2.2 (160 + 3 * i) (by omega) (by omega), h.2.2 (160 + 3 * i + 1) (by omega) (by omega)]
theorem wayB_r (r : Row) (a b : Int) (h1 : 0 ≤ r 1) : -1 ≤ wayB r a b ∧ wayB r a b < r 1 ∨ wayB r a b = -1 := by
  unfold wayB
  rcases ff_spec (fun i => decide (¬ a = b ∧ (r (160 + 3 * i) = a ∨ r (160 + 3 * i + 1) = a) ∧ (r (160 + 3 * i) = b ∨ r (160 + 3 * i + 1) = b))) (r 1).toNat with ⟨e, -⟩ | ⟨e1, e2, -⟩
  · exact Or.inr e
  · exact Or.inl ⟨by omega, by omega⟩
theorem SameW.fE {r q : Row} (h : SameW r q) (hn : 0 ≤ r 1 ∧ r 1 ≤ 20) (a b : Int) : farB q a b = farB r a b := by
  unfold farB
  rw [h.wE hn.2]
  split
  · rfl
  · rename_i q1
    rcases wayB_r r a b hn.1 with ⟨e1, e2⟩ | e
    · exact h.2.2 _ (by omega) (by omega)
    · exact absurd e q1
theorem SameW.nE {r q : Row} (h : SameW r q) (hn : 0 ≤ r 1 ∧ r 1 ≤ 20) (a b : Int) : nxt q a b = nxt r a b := by
  unfold nxt
  rw [h.dE hn.2]
  split
  · rfl
  · exact ff_congr fun i i0 i1 => by rw [h.fE hn]
theorem SameW.ww {r q : Row} (h : SameW r q) (hn : r 1 ≤ 20) (k : Ww r) : Ww q := by
  refine ⟨fun i i0 i1 => ?_, fun i j x y i0 i1 j0 j1 e1 e2 => ?_⟩
  · rw [h.2.1] at i1
    rw [h.1, h.2.2 (160 + 3 * i) (by omega) (by omega), h.2.2 (160 + 3 * i + 1) (by omega) (by omega), h.2.2 (160 + 3 * i + 2) (by omega) (by omega)]
    exact k.1 i i0 i1
  · rw [h.2.1] at i1 j1
    rw [h.en i0 (by omega)] at e1
    rw [h.en j0 (by omega)] at e2
    exact k.2 i j x y i0 i1 j0 j1 e1 e2
/-- the way between two roofs -/
theorem wayB_of {r : Row} (hw : Ww r) (hn : 0 ≤ r 1) {i a b : Int} (i0 : 0 ≤ i) (i1 : i < r 1) (e : En2 r i a b) : wayB r a b = i := by
  have a0 := hw.1 i i0 i1
  refine ff_at i0 ?_ (fun j j0 j1 => ?_) (by omega)
  · rw [decide_eq_true_iff]
    rcases e with ⟨e1, e2⟩ | ⟨e1, e2⟩ <;> omega
  · rw [decide_eq_false_iff_not]
    intro ⟨n1, n2, n3⟩
    have e2 : En2 r j a b := by unfold En2; omega
    have := hw.2 i j a b i0 i1 j0 (by omega) e e2
    omega
theorem wayB_en {r : Row} (hn : 0 ≤ r 1) {a b : Int} (h : ¬ wayB r a b = -1) : 0 ≤ wayB r a b ∧ wayB r a b < r 1 ∧ En2 r (wayB r a b) a b := by
  unfold wayB at h ⊢
  rcases ff_spec (fun i => decide (¬ a = b ∧ (r (160 + 3 * i) = a ∨ r (160 + 3 * i + 1) = a) ∧ (r (160 + 3 * i) = b ∨ r (160 + 3 * i + 1) = b))) (r 1).toNat with ⟨e, -⟩ | ⟨e1, e2, e3, -⟩
  · exact absurd e h
  · have e4 := of_decide_eq_true e3
    refine ⟨e1, by omega, ?_⟩
    unfold En2
    omega
theorem farB_of {r : Row} (hw : Ww r) (hn : 0 ≤ r 1) {i a b : Int} (i0 : 0 ≤ i) (i1 : i < r 1) (e : En2 r i a b) : farB r a b = r (160 + 3 * i + 2) := by
  unfold farB
  rw [wayB_of hw hn i0 i1 e, if_neg (by omega)]
theorem farB_en {r : Row} (hw : Ww r) (hn : 0 ≤ r 1) {a b : Int} (h : ¬ farB r a b = -1) : ∃ i, 0 ≤ i ∧ i < r 1 ∧ En2 r i a b ∧ farB r a b = r (160 + 3 * i + 2) ∧ wayB r a b = i := by
  have q : ¬ wayB r a b = -1 := by
    intro q
    unfold farB at h
    rw [if_pos q] at h
    exact h rfl
  obtain ⟨h1, h2, h3⟩ := wayB_en hn q
  exact ⟨_, h1, h2, h3, farB_of hw hn h1 h2 h3, rfl⟩
theorem farB_sym {r : Row} (hw : Ww r) (hn : 0 ≤ r 1) (a b : Int) : farB r a b = farB r b a := by
  by_cases h : farB r a b = -1
  · by_cases h' : farB r b a = -1
    · rw [h, h']
    · obtain ⟨i, i0, i1, e, f, -⟩ := farB_en hw hn h'
      rw [farB_of hw hn i0 i1 e.sym, f]
  · obtain ⟨i, i0, i1, e, f, -⟩ := farB_en hw hn h
    rw [farB_of hw hn i0 i1 e.sym, f]
/-- the next roof of a route: there is one, a way leads there, and its sum is less -/
theorem nxt_ok {r : Row} (hb : 2 ≤ r 0 ∧ r 0 ≤ 10) (hw : Ww r) (hn : 0 ≤ r 1) {x g : Int} (hd : IsDist r (-1) g (dist r (-1) g)) (x0 : 0 ≤ x) (x1 : x < r 0) (hx : ¬ x = g) (h : ¬ dist r (-1) g x = -1) :
    ∃ i, 0 ≤ i ∧ i < r 1 ∧ En2 r i x (nxt r x g) ∧ (0 ≤ nxt r x g ∧ nxt r x g < r 0) ∧ ¬ dist r (-1) g (nxt r x g) = -1 ∧ dist r (-1) g x = r (160 + 3 * i + 2) + dist r (-1) g (nxt r x g) ∧ farB r x (nxt r x g) = r (160 + 3 * i + 2) ∧ (∀ y, 0 ≤ y → y < nxt r x g → ¬ (¬ farB r x y = -1 ∧ ¬ dist r (-1) g y = -1 ∧ farB r x y + dist r (-1) g y = dist r (-1) g x)) := by
  obtain ⟨i, y, i0, i1, -, e, k1, k2⟩ := hd.2.2.2 x x0 x1 hx h
  have a := hw.1 i i0 i1
  have yr : 0 ≤ y ∧ y < r 0 := by rcases e with ⟨e1, e2⟩ | ⟨e1, e2⟩ <;> omega
  have hf := farB_of hw hn i0 i1 e
  have e0 : nxt r x g = ff (fun y => decide (¬ farB r x y = -1 ∧ ¬ dist r (-1) g y = -1 ∧ farB r x y + dist r (-1) g y = dist r (-1) g x)) 10 := by
    unfold nxt; rw [if_neg (by intro q; exact q.elim hx h)]
  rcases ff_spec (fun y => decide (¬ farB r x y = -1 ∧ ¬ dist r (-1) g y = -1 ∧ farB r x y + dist r (-1) g y = dist r (-1) g x)) 10 with ⟨e1, e2⟩ | ⟨e1, e2, e3, e4⟩
  · have := e2 y yr.1 (by omega)
    rw [decide_eq_false_iff_not] at this
    exact absurd ⟨by omega, k1, by omega⟩ this
  · rw [← e0] at e1 e2 e3 e4
    have e5 := of_decide_eq_true e3
    obtain ⟨i', j0, j1, f1, f2, -⟩ := farB_en hw hn e5.1
    have a' := hw.1 i' j0 j1
    refine ⟨i', j0, j1, f1, ?_, e5.2.1, by omega, f2, fun y y0 y1 => ?_⟩
    · rcases f1 with ⟨f3, f4⟩ | ⟨f3, f4⟩ <;> omega
    · have := e4 y y0 y1
      rwa [decide_eq_false_iff_not] at this
theorem nxt_no {r : Row} {x g : Int} (h : x = g ∨ dist r (-1) g x = -1) : nxt r x g = -1 := if_pos h
