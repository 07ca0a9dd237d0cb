/-! ===== walks from roof to roof ===== -/
theorem cnt_sub {p q : Int → Bool} : ∀ {n : Nat}, (∀ i : Int, 0 ≤ i → i < n → p i = true → q i = true) → cnt p n ≤ cnt q n := by
  intro n; induction n with
  | zero => intro _; exact Int.le_refl _
  | succ n ih =>
    intro h
    have h1 := ih (fun i h0 h1 => h i h0 (by omega))
    have h2 := h n (by omega) (by omega)
    rw [cnt, cnt]
    cases hp : p n
    · have : 0 ≤ bI (q n) := by cases q n <;> decide
      have e : bI false = 0 := rfl
      rw [e]; omega
    · rw [h2 hp]; omega
theorem cnt_less {p q : Int → Bool} {n : Nat} {k : Int} (h : ∀ i : Int, 0 ≤ i → i < n → p i = true → q i = true) (k0 : 0 ≤ k) (k1 : k < n) (hp : p k = false) (hq : q k = true) : cnt p n + 1 ≤ cnt q n := by
  have e := cnt_up2 (p := p) (p' := fun i => p i || decide (i = k)) k0 k1 (fun j j0 j1 hj => by
    show (p j || decide (j = k)) = p j
    rw [decide_eq_false hj, Bool.or_false])
  have e2 : bI (p k || decide (k = k)) - bI (p k) = 1 := by
    rw [decide_eq_true rfl, hp]; rfl
  have h3 : cnt (fun i => p i || decide (i = k)) n ≤ cnt q n := cnt_sub fun i i0 i1 hi => by
    by_cases c : i = k
    · rw [c]; exact hq
    · rw [decide_eq_false c, Bool.or_false] at hi
      exact h i i0 i1 hi
  have e3 : cnt (fun i => p i || decide (i = k)) n = cnt p n + (bI (p k || decide (k = k)) - bI (p k)) := e
  omega
noncomputable def rank (r : Row) (g x : Int) : Int := cnt (fun y => decide (¬ dist r (-1) g y = -1 ∧ dist r (-1) g y < dist r (-1) g x)) (r 0).toNat
theorem rank_bd {r : Row} {g x : Int} (hx : 0 ≤ x ∧ x < r 0) : 0 ≤ rank r g x ∧ rank r g x ≤ r 0 - 1 := by
  have h := cnt_less (p := fun y => decide (¬ dist r (-1) g y = -1 ∧ dist r (-1) g y < dist r (-1) g x)) (q := fun _ => true) (n := (r 0).toNat) (k := x) (fun i i0 i1 _ => rfl) hx.1 (by omega) (decide_eq_false (fun h => by omega)) rfl
  have h2 := cnt_le (fun _ => true) (r 0).toNat
  have h3 := cnt_le (fun y => decide (¬ dist r (-1) g y = -1 ∧ dist r (-1) g y < dist r (-1) g x)) (r 0).toNat
  unfold rank
  omega
/-- one step on: nearer -/
theorem rank_step {r : Row} {g x : Int} (hW : WF r) (hx : 0 ≤ x ∧ x < r 0) (hg : 0 ≤ g ∧ g < r 0) (hxg : ¬ x = g) (h : ¬ dist r (-1) g x = -1) : (0 ≤ nxt r x g ∧ nxt r x g < r 0) ∧ ¬ dist r (-1) g (nxt r x g) = -1 ∧ rank r g (nxt r x g) + 1 ≤ rank r g x := by
  obtain ⟨b0, b1, -⟩ := hW.1
  obtain ⟨i, i0, i1, e, n1, n2, n3, n4, -⟩ := nxt_ok b0 hW.2.2.1 b1.1 (isd b0 b1 hW.2.2.1 (by omega) hg) hx.1 hx.2 hxg h
  have hw := (hW.2.2.1.1 i i0 i1).2.2.2
  have hd := dist_bd b0 b1 hW.2.2.1 (W := -1) (by omega) hg n1
  refine ⟨n1, n2, ?_⟩
  unfold rank
  refine cnt_less (k := nxt r x g) (fun y y0 y1 hy => ?_) n1.1 (by omega) (decide_eq_false (fun h => by omega)) (decide_eq_true ⟨n2, by omega⟩)
  have := of_decide_eq_true hy
  exact decide_eq_true ⟨this.1, by omega⟩
/-- what is gathered on the way -/
noncomputable def psum (f : Int → Int → Int) (r : Row) (g : Int) : Nat → Int → Int
  | 0, _ => 0
  | n + 1, x => if x = g then 0 else f x (nxt r x g) + psum f r g n (nxt r x g)
theorem psum_bd {f : Int → Int → Int} {r : Row} {g : Int} (hf : ∀ x y, 0 ≤ x → x < r 0 → 0 ≤ f x y ∧ f x y ≤ 1000) (hW : WF r) (hg : 0 ≤ g ∧ g < r 0) : ∀ (n : Nat) (x : Int), 0 ≤ x ∧ x < r 0 → ¬ dist r (-1) g x = -1 → 0 ≤ psum f r g n x ∧ psum f r g n x ≤ 1000 * n := by
  intro n
  induction n with
  | zero => intro x _ _; exact ⟨Int.le_refl _, Int.le_refl _⟩
  | succ n ih =>
    intro x hx h
    unfold psum
    by_cases c : x = g
    · rw [if_pos c]; omega
    · obtain ⟨s1, s2, s3⟩ := rank_step hW hx hg c h
      have := ih _ s1 s2
      have := hf x (nxt r x g) hx.1 hx.2
      rw [if_neg c]; omega
