/-! ===== roofs by their names ===== -/
def Lt (l : Int) (f : Int → Int) : Prop := (1 ≤ l ∧ l ≤ 6) ∧ ∀ k, 0 ≤ k → k < l → 97 ≤ f k ∧ f k ≤ 122
theorem nm_inj {l m : Int} {f g : Int → Int} (h : Lt l f) (k : Lt m g) : nm l f = nm m g ↔ l = m ∧ ∀ j, 0 ≤ j → j < l → f j = g j := by
  constructor
  · intro e
    have hd : ∀ j, 0 ≤ j → j < 6 → dg l f j = dg m g j := fun j j0 j1 => by
      rw [← (nm_at h.2 ⟨j0, j1⟩).2, ← (nm_at k.2 ⟨j0, j1⟩).2, e]
    have pf : ∀ j, 0 ≤ j → j < 6 → (j < l ↔ j < m) ∧ (j < l → f j = g j) := fun j j0 j1 => by
      have hj := hd j j0 j1
      unfold dg at hj
      by_cases c1 : j < l
      · have a := h.2 j j0 c1
        rw [if_pos c1] at hj
        by_cases c2 : j < m
        · rw [if_pos c2] at hj
          exact ⟨⟨fun _ => c2, fun _ => c1⟩, fun _ => by omega⟩
        · rw [if_neg c2] at hj; omega
      · rw [if_neg c1] at hj
        by_cases c2 : j < m
        · have a := k.2 j j0 c2
          rw [if_pos c2] at hj; omega
        · exact ⟨⟨fun z => absurd z c1, fun z => absurd z c2⟩, fun z => absurd z c1⟩
    have h0 := h.1
    have k0 := k.1
    have lm : l = m := by
      by_cases c : l < m
      · have := (pf l (by omega) (by omega)).1.mpr c; omega
      · by_cases c2 : m < l
        · have := (pf m (by omega) (by omega)).1.mp c2; omega
        · omega
    exact ⟨lm, fun j j0 j1 => (pf j j0 (by omega)).2 j1⟩
  · rintro ⟨e, hj⟩
    subst e
    unfold nm
    have t : ∀ j : Int, 0 ≤ j → (if j < l then f j - 96 else 0) = (if j < l then g j - 96 else 0) := fun j j0 => by
      split
      · rw [hj j j0 (by assumption)]
      · rfl
    rw [t 0 (by decide), t 1 (by decide), t 2 (by decide), t 3 (by decide), t 4 (by decide), t 5 (by decide)]
theorem Wx.lt {r : Row} {x : Int} (h : Wx r x) : Lt (r (25 + 13 * x)) (fun k => r (25 + 13 * x + 1 + k)) := ⟨h.1, h.2.1⟩
/-- the roof of a name; -1 -/
def nmd (r : Row) (q : Int) : Int := ff (fun x => decide (nmR r x = q)) (r 0).toNat
theorem nmd_bd (r : Row) (q : Int) (h : 0 ≤ r 0) : nmd r q = -1 ∨ (0 ≤ nmd r q ∧ nmd r q < r 0) := by
  rcases ff_spec (fun x => decide (nmR r x = q)) (r 0).toNat with ⟨e, -⟩ | ⟨e1, e2, -⟩
  · exact Or.inl e
  · right
    unfold nmd
    omega
theorem nmR_bd {r : Row} {x : Int} (h : Wx r x) : 0 ≤ nmR r x ∧ nmR r x < 1073741824 := by
  unfold nmR
  exact (nm_at h.2.1 (k := 0) (by omega)).1
section Named
variable {F : Nat} {B : Int → Int} {N p : Int} {r : Row}
theorem c_roofNamed {b : Nat} {u : aI} {q : Int} (hF : 100 ≤ F) (hP : Pb b) (hK : TOK u b) (h1 : u b 1 = r 0) (b0 : 0 ≤ r 0 ∧ r 0 ≤ 10) (hr : Wr r) (hX : ∀ x, 0 ≤ x → x < r 0 → u (b + 2) (8 * x + 5) = nmR r x) (hq : rg q) : f_X2_roofNamed F b q u = some (nmd r q) := by
  have key : ∀ (n i : Nat), (i : Int) ≤ r 0 → r 0 - i < n → (∀ j : Int, 0 ≤ j → j < i → decide (nmR r j = q) = false) → f_X2_roofNamed_b2 F b q u n i = some (nmd r q) := by
    intro n
    induction n with
    | zero => intro i i1 i2; omega
    | succ n ih =>
      intro i i1 i2 hi
      show f_X2_roofNamed_b2_b F b q u (f_X2_roofNamed_b2 F b q u n) _ = _
      unfold f_X2_roofNamed_b2_b
      rw [h1, gd_t (by omega)]
      by_cases c : r 0 ≤ i
      · have e : i = (r 0).toNat := by omega
        rw [if_pos c]
        unfold nmd
        rw [← e, ff_none hi]
      · have hb := nmR_bd (hr i (by omega) (by omega))
        rw [if_neg c, pf4 hP, getX hP hK (by omega) (by omega), bs, hX i (by omega) (by omega), gd_t (by omega)]
        by_cases c2 : nmR r i = q
        · rw [if_pos c2]
          congr 1
          exact (ff_at (by omega) (decide_eq_true c2) hi (by omega)).symm
        · rw [if_neg c2]
          refine ih (i + 1) (by omega) (by omega) (fun j j0 j1 => ?_)
          by_cases e : j = i
          · rw [e]; exact decide_eq_false c2
          · exact hi j j0 (by omega)
  exact key F 0 (by omega) (by omega) (fun j j0 j1 => by omega)
theorem m_named {v : aI} {l : Int} {f : Int → Int} (hF : 1000 ≤ F) (h1 : v 211 = r) (b0 : 0 ≤ r 0 ∧ r 0 ≤ 10) (hr : Wr r) (h8 : v 210 8 = l) (hf : Lt l f) (h7 : ∀ k, 0 ≤ k → k < l → v 215 k = f k) : f_X11_named F 210 v = some (nmd r (nm l f)) := by
  have hl := hf.1
  have kA : ∀ (k2 : Int → Option Int) (n : Nat) (x u k : Int), u = 0 → 0 ≤ k → k ≤ l → f_X11_named_b36 F 210 v k2 (n + 1) x u k = k2 (x + 1) := by
    intro k2 n x u k hu k0 k1
    show f_X11_named_b36_b F 210 v k2 (f_X11_named_b36 F 210 v k2 n) _ _ _ = _
    unfold f_X11_named_b36_b
    rw [h8, gd_t (by omega), gd_t (by omega), gd_t (by omega), if_pos hu, if_pos hu]
    split <;> rfl
  have kB : ∀ (k2 : Int → Option Int) (x u : Int), u = 1 → (0 ≤ x ∧ x < r 0) → r (25 + 13 * x) = l → ∀ (n k : Nat), (k : Int) ≤ l → l - k + 1 < n → (∀ j : Int, 0 ≤ j → j < k → r (25 + 13 * x + 1 + j) = f j) → f_X11_named_b36 F 210 v k2 n x u k = if (∀ j : Nat, j < l.toNat → r (25 + 13 * x + 1 + j) = f j) then some x else k2 (x + 1) := by
    intro k2 x u hu hx hxl n
    induction n with
    | zero => intro k k1 k2; omega
    | succ n ih =>
      intro k k1 k3 hk
      show f_X11_named_b36_b F 210 v k2 (f_X11_named_b36 F 210 v k2 n) _ _ _ = _
      unfold f_X11_named_b36_b
      rw [h8, gd_t (by omega), gd_t (by omega), gd_t (by omega), if_neg (show ¬ u = 0 by omega)]
      by_cases c : l ≤ k
      · rw [if_pos c, if_pos (fun (j : Nat) hj => hk j (by omega) (by omega))]
      · have ha := (hr x hx.1 hx.2)
        have hv := hf.2 k (by omega) (by omega)
        rw [if_neg c, if_neg (show ¬ u = 0 by omega), m_r, bs, m0, n0, gd_t (by omega), m7, n7, gd_t (by omega), h1, h7 k (by omega) (by omega)]
        by_cases c2 : r (25 + 13 * x + 1 + k) = f k
        · rw [c2, gd_t (by omega), if_pos rfl]
          have h9 := ih (k + 1) (by omega) (by omega) (fun j j0 j1 => by
            by_cases e : j = k
            · rw [e]; exact c2
            · exact hk j j0 (by omega))
          rw [hu] at h9
          exact h9
        · have hrg : rg (r (25 + 13 * x + 1 + k)) := by
            have := ha.2.1 k (by omega) (by omega)
            omega
          rw [gd_t (by omega), if_neg c2, if_neg (fun z => c2 (z k (by omega)))]
          obtain ⟨n, hn⟩ : ∃ m, n = m + 1 := ⟨n - 1, by omega⟩
          rw [hn]
          exact kA k2 n x 0 (k + 1) rfl (by omega) (by omega)
  have key : ∀ (n i : Nat), (i : Int) ≤ r 0 → r 0 - i < n → (∀ j : Int, 0 ≤ j → j < i → decide (nmR r j = nm l f) = false) → f_X11_named_b2 F 210 v n i = some (nmd r (nm l f)) := by
    intro n
    induction n with
    | zero => intro i i1 i2; omega
    | succ n ih =>
      intro i i1 i2 hi
      show f_X11_named_b2_b F 210 v (f_X11_named_b2 F 210 v n) _ = _
      unfold f_X11_named_b2_b
      rw [m0, n0, gd_t (by omega), h1, gd_t (by omega)]
      by_cases c : r 0 ≤ i
      · have e : i = (r 0).toNat := by omega
        rw [if_pos c]
        unfold nmd
        rw [← e, ff_none hi]
      · have hx : 0 ≤ (i : Int) ∧ (i : Int) < r 0 := by omega
        have hw := hr i hx.1 hx.2
        have hin := nm_inj hw.lt hf
        have nx : decide (nmR r i = nm l f) = false → f_X11_named_b2 F 210 v n ((i : Int) + 1) = some (nmd r (nm l f)) := fun q => ih (i + 1) (by omega) (by omega) (fun j j0 j1 => by
          by_cases e : j = i
          · rw [e]; exact q
          · exact hi j j0 (by omega))
        have w0 := hw.1
        rw [if_neg c, m_r, bs, gd_t (by omega), h8, gd_t (by omega)]
        by_cases c2 : r (25 + 13 * (i : Int)) = l
        · have h9 := kB (f_X11_named_b2 F 210 v n) i 1 rfl hx c2 F 0 (by omega) (by omega) (fun j j0 j1 => by omega)
          rw [if_pos c2]
          have h9' : f_X11_named_b36 F 210 v (f_X11_named_b2 F 210 v n) F i 1 0 = _ := h9
          rw [h9']
          by_cases c3 : ∀ j : Nat, j < l.toNat → r (25 + 13 * (i : Int) + 1 + j) = f j
          · have e : nmR r i = nm l f := hin.mpr ⟨c2, fun j j0 j1 => by
              have := c3 j.toNat (by omega)
              rw [Int.toNat_of_nonneg j0] at this
              exact this⟩
            rw [if_pos c3]
            congr 1
            exact (ff_at (by omega) (decide_eq_true e) hi (by omega)).symm
          · rw [if_neg c3]
            refine nx (decide_eq_false fun e => c3 fun j hj => ?_)
            exact (hin.mp e).2 j (by omega) (by omega)
        · rw [if_neg c2]
          obtain ⟨m, hm⟩ : ∃ m, F = m + 1 := ⟨F - 1, by omega⟩
          have h9 := kA (f_X11_named_b2 F 210 v n) m i 0 0 rfl (by omega) (by omega)
          rw [← hm] at h9
          rw [h9]
          exact nx (decide_eq_false fun e => c2 (hin.mp e).1)
  exact key F 0 (by omega) (by omega) (fun j j0 j1 => by omega)
end Named
