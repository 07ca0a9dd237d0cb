/-! ===== agree: the reference ===== -/
/-- near and done, on the way out from g -/
def DkI (r : Row) (g : Int) (p q : Int → Int) : Prop :=
  p g = 0 ∧ (∀ x, 0 ≤ x → x < 10 → -1 ≤ p x ∧ p x ≤ 9 * cnt (fun x => decide (q x = 1)) 10) ∧ (∀ x, 0 ≤ x → x < 10 → q x = 0 ∨ q x = 1) ∧
  (∀ x, 0 ≤ x → x < r 0 → ¬ p x = -1 → ¬ dist r (-1) g x = -1 ∧ dist r (-1) g x ≤ p x) ∧
  (∀ x, 0 ≤ x → x < r 0 → q x = 1 → ¬ p x = -1 ∧ ∀ i z, 0 ≤ i → i < r 1 → En2 r i x z → ¬ p z = -1 ∧ p z ≤ p x + r (160 + 3 * i + 2)) ∧
  (∀ x y, 0 ≤ x → x < r 0 → 0 ≤ y → y < r 0 → q x = 1 → q y = 0 → ¬ p y = -1 → p x ≤ p y)
/-- the nearest that is open -/
def NrO (r : Row) (p q : Int → Int) (m v : Int) : Prop :=
  (v = -1 ∧ ∀ x, 0 ≤ x → x < m → q x = 0 → p x = -1) ∨ ((0 ≤ v ∧ v < m) ∧ q v = 0 ∧ ¬ p v = -1 ∧ ∀ x, 0 ≤ x → x < m → q x = 0 → ¬ p x = -1 → p v ≤ p x)
section Dk
variable {F : Nat} {w : aI} {r : Row} {g : Int}
theorem m_open (hF : 100 ≤ F) (b0 : 2 ≤ r 0 ∧ r 0 ≤ 10) (h1 : w 211 = r) (hp : ∀ x, 0 ≤ x → x < 10 → -1 ≤ w 220 x ∧ w 220 x ≤ 100) (hq : ∀ x, 0 ≤ x → x < 10 → w 221 x = 0 ∨ w 221 x = 1) : ∃ v, f_X11_nearestOpen F 210 w = some v ∧ NrO r (w 220) (w 221) (r 0) v := by
  have key : ∀ (n : Nat) (v m : Int), 0 ≤ m → m ≤ r 0 → r 0 - m < n → NrO r (w 220) (w 221) m v → ∃ v2, f_X11_nearestOpen_b4 F 210 w n v m = some v2 ∧ NrO r (w 220) (w 221) (r 0) v2 := by
    intro n
    induction n with
    | zero => intro v m m0 m1 m2; omega
    | succ n ih =>
      intro v m i0 i1 i2 hv
      show ∃ v2, f_X11_nearestOpen_b4_b F 210 w (f_X11_nearestOpen_b4 F 210 w n) _ _ = _ ∧ _
      unfold f_X11_nearestOpen_b4_b
      rw [m0, n0, gd_t (by omega), h1, gd_t (by omega)]
      by_cases c : r 0 ≤ m
      · have e : m = r 0 := by omega
        subst e
        rw [if_pos c]
        exact ⟨v, rfl, hv⟩
      · have a1 := hp m i0 (by omega)
        have a2 := hq m i0 (by omega)
        rw [if_neg c, m25, n25, gd_t (by omega), gd_t (by omega)]
        by_cases c2 : w 221 m = 0
        · rw [if_pos c2, m24, n24, gd_t (by omega), gd_t (by omega)]
          by_cases c3 : w 220 m = -1
          · rw [if_pos c3]
            refine ih v (m + 1) (by omega) (by omega) (by omega) ?_
            rcases hv with ⟨e, h⟩ | ⟨e1, e2, e3, h⟩
            · exact Or.inl ⟨e, fun x x0 x1 qx => by
                by_cases cx : x = m
                · rw [cx]; exact c3
                · exact h x x0 (by omega) qx⟩
            · exact Or.inr ⟨by omega, e2, e3, fun x x0 x1 qx px => by
                by_cases cx : x = m
                · rw [cx] at px; exact absurd c3 px
                · exact h x x0 (by omega) qx px⟩
          · rw [if_neg c3]
            rcases hv with ⟨e, h⟩ | ⟨e1, e2, e3, h⟩
            · rw [gd_t (by omega), if_pos e]
              refine ih m (m + 1) (by omega) (by omega) (by omega) (Or.inr ⟨by omega, c2, c3, fun x x0 x1 qx px => ?_⟩)
              by_cases cx : x = m
              · rw [cx]; exact Int.le_refl _
              · exact absurd (h x x0 (by omega) qx) px
            · have a3 := hp v e1.1 (by omega)
              rw [gd_t (by omega), if_neg (by omega), gd_t (by omega), gd_t (by omega), gd_t (by omega)]
              by_cases c4 : w 220 v ≤ w 220 m
              · rw [if_pos c4]
                refine ih v (m + 1) (by omega) (by omega) (by omega) (Or.inr ⟨by omega, e2, e3, fun x x0 x1 qx px => ?_⟩)
                by_cases cx : x = m
                · rw [cx]; exact c4
                · exact h x x0 (by omega) qx px
              · rw [if_neg c4]
                refine ih m (m + 1) (by omega) (by omega) (by omega) (Or.inr ⟨by omega, c2, c3, fun x x0 x1 qx px => ?_⟩)
                by_cases cx : x = m
                · rw [cx]; exact Int.le_refl _
                · have := h x x0 (by omega) qx px
                  omega
        · rw [if_neg c2]
          refine ih v (m + 1) (by omega) (by omega) (by omega) ?_
          rcases hv with ⟨e, h⟩ | ⟨e1, e2, e3, h⟩
          · exact Or.inl ⟨e, fun x x0 x1 qx => h x x0 (by
              by_cases cx : x = m
              · rw [cx] at qx; exact absurd qx c2
              · omega) qx⟩
          · exact Or.inr ⟨by omega, e2, e3, fun x x0 x1 qx px => h x x0 (by
              by_cases cx : x = m
              · rw [cx] at qx; exact absurd qx c2
              · omega) qx px⟩
  exact key F (-1) 0 (by omega) (by omega) (by omega) (Or.inl ⟨rfl, fun x x0 x1 => by omega⟩)
/-- gone over the ways from roof v: from p0 -/
def RxI (r : Row) (g v i : Int) (p0 p : Int → Int) : Prop :=
  (∀ x, 0 ≤ x → x < 10 → -1 ≤ p x ∧ (p x = p0 x ∨ (p x ≤ p0 v + 9 ∧ p0 v < p x ∧ x < r 0))) ∧ (∀ x, 0 ≤ x → x < 10 → ¬ p0 x = -1 → ¬ p x = -1 ∧ p x ≤ p0 x) ∧ p v = p0 v ∧
  (∀ x, 0 ≤ x → x < r 0 → ¬ p x = -1 → ¬ dist r (-1) g x = -1 ∧ dist r (-1) g x ≤ p x) ∧
  (∀ j z, 0 ≤ j → j < i → En2 r j v z → ¬ p z = -1 ∧ p z ≤ p0 v + r (160 + 3 * j + 2))
theorem m_relax {k42 : Int → aI → Option aI} {v : Int} (hW : WF r) (h1 : w 211 = r) (hg : 0 ≤ g ∧ g < r 0) (hv : 0 ≤ v ∧ v < r 0) {p0 : Int → Int} (hp0 : ∀ x, 0 ≤ x → x < 10 → -1 ≤ p0 x ∧ p0 x ≤ 90) (hpv : ¬ p0 v = -1) :
    ∀ (n : Nat) (i : Int) (p : Int → Int), 0 ≤ i → i ≤ r 1 → r 1 - i < n → RxI r g v i p0 p → ∃ p2, f_X11_goesOut_b56 F 210 g k42 n v i (stc w 220 p) = (f_X11_nearestOpen F 210 (stc w 220 p2)).bind (fun u => k42 u (stc w 220 p2)) ∧ RxI r g v (r 1) p0 p2 := by
  obtain ⟨b0, b1, -⟩ := hW.1
  have hw := hW.2.2.1
  intro n
  induction n with
  | zero => intro i p i0 i1 i2; omega
  | succ n ih =>
    intro i p i0 i1 i2 hp
    show ∃ p2, f_X11_goesOut_b56_b F 210 g k42 (f_X11_goesOut_b56 F 210 g k42 n) _ _ _ = _ ∧ _
    unfold f_X11_goesOut_b56_b
    rw [m0, n0, gd_t (by omega), stc_ne (show ¬ 211 = 220 by decide), h1, gd_t (by omega)]
    by_cases c : r 1 ≤ i
    · have e : i = r 1 := by omega
      subst e
      rw [if_pos c]
      exact ⟨p, rfl, hp⟩
    · have hi : 0 ≤ i ∧ i < r 1 := by omega
      have a := hw.1 i hi.1 hi.2
      have x211 : stc w 220 p 211 = r := by rw [stc_ne (by decide)]; exact h1
      obtain ⟨q1, q2, q3, q4, q5⟩ := hp
      rw [if_neg c, m_ends F (stc w 220 p) (by omega) (by omega) (by rw [x211]; omega), bs, x211]
      by_cases c2 : r (160 + 3 * i) = v ∨ r (160 + 3 * i + 1) = v
      · obtain ⟨z, e⟩ : ∃ z, En2 r i v z := by
          rcases c2 with e | e
          · exact ⟨_, Or.inl ⟨e, rfl⟩⟩
          · exact ⟨_, Or.inr ⟨rfl, e⟩⟩
        have ae := e.rg hw hi.1 hi.2
        have pv := hp0 v hv.1 (by omega)
        have pz := hp0 z ae.2.1.1 (by omega)
        have qz := q1 z ae.2.1.1 (by omega)
        have dv := q4 v hv.1 hv.2 (by omega)
        have dz := (isd b0 b1 hw (W := -1) (by omega) hg).2.2.1 i hi.1 hi.2 (by omega) z v e.sym dv.1
        have new : RxI r g v (i + 1) p0 (rs p z (if p z = -1 then p0 v + r (160 + 3 * i + 2) else min (p z) (p0 v + r (160 + 3 * i + 2)))) := by
          have hval : (if p z = -1 then p0 v + r (160 + 3 * i + 2) else min (p z) (p0 v + r (160 + 3 * i + 2))) = p z ∨ (if p z = -1 then p0 v + r (160 + 3 * i + 2) else min (p z) (p0 v + r (160 + 3 * i + 2))) = p0 v + r (160 + 3 * i + 2) := by
            split
            · right; rfl
            · omega
          have hle : (if p z = -1 then p0 v + r (160 + 3 * i + 2) else min (p z) (p0 v + r (160 + 3 * i + 2))) ≤ p0 v + r (160 + 3 * i + 2) ∧ ¬ (if p z = -1 then p0 v + r (160 + 3 * i + 2) else min (p z) (p0 v + r (160 + 3 * i + 2))) = -1 ∧ (¬ p z = -1 → (if p z = -1 then p0 v + r (160 + 3 * i + 2) else min (p z) (p0 v + r (160 + 3 * i + 2))) ≤ p z) := by
            split
            · exact ⟨by omega, by omega, fun h => by omega⟩
            · exact ⟨by omega, by omega, fun h => by omega⟩
          generalize (if p z = -1 then p0 v + r (160 + 3 * i + 2) else min (p z) (p0 v + r (160 + 3 * i + 2))) = N at hval hle
          refine ⟨fun x x0 x1 => ?_, fun x x0 x1 hx => ?_, ?_, fun x x0 x1 hx => ?_, fun j y j0 j1 ej => ?_⟩
          · rw [rs_def]
            split
            · rename_i cx; subst cx
              rcases hval with q | q
              · rw [q]; exact q1 x x0 x1
              · rw [q]; omega
            · exact q1 x x0 x1
          · rw [rs_def]
            split
            · rename_i cx; subst cx
              have := q2 x x0 x1 hx
              exact ⟨hle.2.1, by have := hle.2.2 this.1; omega⟩
            · exact q2 x x0 x1 hx
          · rw [rs_ne (by omega)]; exact q3
          · rw [rs_def] at hx ⊢
            split
            · rename_i cx; subst cx
              rcases hval with q | q
              · rw [q]
                exact q4 x x0 x1 (by rw [if_pos rfl, q] at hx; exact hx)
              · rw [q]
                exact ⟨dz.1, by omega⟩
            · rename_i cx
              rw [if_neg cx] at hx
              exact q4 x x0 x1 hx
          · rw [rs_def]
            by_cases cj : j = i
            · subst cj
              have ey : y = z := by
                rcases e with ⟨e1, e2⟩ | ⟨e1, e2⟩ <;> rcases ej with ⟨f1, f2⟩ | ⟨f1, f2⟩ <;> omega
              subst ey
              rw [if_pos rfl]
              exact ⟨hle.2.1, hle.1⟩
            · have := q5 j y j0 (by omega) ej
              split
              · rename_i cy; subst cy
                exact ⟨hle.2.1, by have := hle.2.2 this.1; omega⟩
              · exact this
        rw [if_pos (decide_eq_true c2), m_other F (stc w 220 p) (by omega) (by rw [x211]; exact e), bs, m24, n24, gd_t (by omega), m_w, bs, gd_t (by omega), lti, gd_t (by omega), stc_eq, gd_t (by omega), q3]
        by_cases c3 : p z = -1
        · rw [if_pos c3, gd_t (by omega), ltm, is_stc, stc_eq, stc_stc]
          rw [if_pos c3] at new
          exact ih (i + 1) _ (by omega) (by omega) (by omega) new
        · rw [if_neg c3, gd_t (by omega), gd_t (by omega), gd_t (by omega), ltm, is_stc, stc_eq, stc_stc]
          rw [if_neg c3] at new
          exact ih (i + 1) _ (by omega) (by omega) (by omega) new
      · rw [if_neg (by rw [decide_eq_true_iff]; exact c2)]
        refine ih (i + 1) p (by omega) (by omega) (by omega) ⟨q1, q2, q3, q4, fun j z j0 j1 ej => ?_⟩
        by_cases cj : j = i
        · subst cj
          exact absurd (by rcases ej with ⟨e1, e2⟩ | ⟨e1, e2⟩ <;> omega) c2
        · exact q5 j z j0 (by omega) ej
/-- behind all: the least sums -/
theorem dk_fin (hW : WF r) (hg : 0 ≤ g ∧ g < r 0) {p q : Int → Int} (h : DkI r g p q) (hn : ∀ x, 0 ≤ x → x < r 0 → q x = 0 → p x = -1) {x : Int} (x0 : 0 ≤ x) (x1 : x < r 0) : p x = dist r (-1) g x := by
  obtain ⟨b0, b1, -⟩ := hW.1
  have hw := hW.2.2.1
  obtain ⟨d1, d2, d3, d4, d5, d6⟩ := h
  have up : ∀ (n : Nat) (x : Int), 0 ≤ x → x < r 0 → ¬ dist r (-1) g x = -1 → dist r (-1) g x ≤ n → ¬ p x = -1 ∧ p x ≤ dist r (-1) g x := by
    intro n
    induction n with
    | zero =>
      intro x x0 x1 hx hn
      by_cases c : x = g
      · subst c; rw [d1, dist_0 b0 b1 hw (W := -1) (by omega) hg]; omega
      · obtain ⟨i, y, i0, i1, i2, e, e1, e2⟩ := (isd b0 b1 hw (W := -1) (by omega) hg).2.2.2 x x0 x1 c hx
        have a := e.rg hw i0 i1
        have := dist_bd b0 b1 hw (W := -1) (by omega) hg a.2.1
        omega
    | succ n ih =>
      intro x x0 x1 hx hm
      by_cases c : x = g
      · subst c; rw [d1, dist_0 b0 b1 hw (W := -1) (by omega) hg]; omega
      · obtain ⟨i, y, i0, i1, i2, e, e1, e2⟩ := (isd b0 b1 hw (W := -1) (by omega) hg).2.2.2 x x0 x1 c hx
        have a := e.rg hw i0 i1
        obtain ⟨f1, f2⟩ := ih y a.2.1.1 a.2.1.2 e1 (by omega)
        have hq : q y = 1 := (d3 y a.2.1.1 (by omega)).resolve_left (fun z => f1 (hn y a.2.1.1 a.2.1.2 z))
        have := (d5 y a.2.1.1 a.2.1.2 hq).2 i x i0 i1 e.sym
        exact ⟨this.1, by omega⟩
  have bd := dist_bd b0 b1 hw (W := -1) (by omega) hg ⟨x0, x1⟩
  by_cases c : dist r (-1) g x = -1
  · by_cases c2 : p x = -1
    · omega
    · exact absurd c (d4 x x0 x1 c2).1
  · have u := up (dist r (-1) g x).toNat x x0 x1 c (by omega)
    have := d4 x x0 x1 u.1
    omega
theorem m_dk42 (hF : 100 ≤ F) (hW : WF r) (h1 : w 211 = r) (hg : 0 ≤ g ∧ g < r 0) : ∀ (n : Nat) (v : Int) (p q : Int → Int), 10 - cnt (fun x => decide (q x = 1)) 10 < n → DkI r g p q → NrO r p q (r 0) v → ∃ p2 q2, f_X11_goesOut_b42 F 210 g n v (stc (stc w 221 q) 220 p) = some (stc (stc w 221 q2) 220 p2) ∧ ∀ x, 0 ≤ x → x < r 0 → p2 x = dist r (-1) g x := by
  obtain ⟨b0, b1, -⟩ := hW.1
  intro n
  induction n with
  | zero => intro v p q hn; have := (cnt_le (fun x => decide (q x = 1)) 10).2; omega
  | succ n ih =>
    intro v p q hn hD hv
    show ∃ p2 q2, f_X11_goesOut_b42_b F 210 g (f_X11_goesOut_b42 F 210 g n) _ _ = _ ∧ _
    unfold f_X11_goesOut_b42_b
    rcases hv with ⟨e, h⟩ | ⟨e1, e2, e3, h⟩
    · rw [gd_t (by omega), if_pos e]
      exact ⟨p, q, rfl, fun x x0 x1 => dk_fin hW hg hD h x0 x1⟩
    · obtain ⟨d1, d2, d3, d4, d5, d6⟩ := hD
      have hc := cnt_le (fun x => decide (q x = 1)) 10
      have e2' : decide (q v = 1) = false := decide_eq_false (by omega)
      have hup := cnt_up (p := fun x => decide (q x = 1)) (p' := fun x => decide (rs q v 1 x = 1)) (k := v) (fun j hj => by show decide (rs q v 1 j = 1) = decide (q j = 1); rw [rs_ne hj]) e1.1 (n := 10) (by omega)
      rw [e2', rs_self, decide_eq_true rfl] at hup
      have hup' : cnt (fun x => decide (rs q v 1 x = 1)) 10 = cnt (fun x => decide (q x = 1)) 10 + 1 := hup
      have ew : stc (stc (stc w 221 q) 220 p) 221 (rs (stc (stc w 221 q) 220 p 221) v 1) = stc (stc w 221 (rs q v 1)) 220 p := by
        funext a
        by_cases c1 : a = 221
        · subst c1
          rw [stc_eq, stc_ne (show ¬ (221 : Nat) = 220 by decide), stc_ne (show ¬ (221 : Nat) = 220 by decide), stc_eq, stc_eq]
        · rw [stc_ne c1]
          by_cases c2 : a = 220
          · subst c2; rw [stc_eq, stc_eq]
          · rw [stc_ne c2, stc_ne c2, stc_ne c1, stc_ne c1]
      rw [gd_t (by omega), if_neg (by omega), m25, n25, gd_t ⟨by omega, Or.inr rfl⟩, ltm, is_stc, ew]
      obtain ⟨p2, g1, g2⟩ := m_relax (F := F) (k42 := f_X11_goesOut_b42 F 210 g n) (w := stc w 221 (rs q v 1)) (v := v) (p0 := p) hW (by rw [stc_ne (by decide)]; exact h1) hg e1 (fun x x0 x1 => by have := d2 x x0 x1; omega) e3 F 0 p (by omega) (by omega) (by omega)
        ⟨fun x x0 x1 => ⟨(d2 x x0 x1).1, Or.inl rfl⟩, fun x x0 x1 hx => ⟨hx, Int.le_refl _⟩, rfl, d4, fun j z j0 j1 => by omega⟩
      obtain ⟨r1, r2, r3, r4, r5⟩ := g2
      have pv := d2 v e1.1 (by omega)
      -- what is done stays
      have dn : ∀ x, 0 ≤ x → x < r 0 → rs q v 1 x = 1 → p2 x = p x := fun x x0 x1 hx => by
        by_cases cx : x = v
        · rw [cx]; exact r3
        · rw [rs_ne cx] at hx
          have a1 := d6 x v x0 x1 e1.1 e1.2 hx e2 e3
          have a2 := (d5 x x0 x1 hx).1
          have a3 := r2 x x0 (by omega) a2
          have a4 := (r1 x x0 (by omega)).2
          omega
      have hD2 : DkI r g p2 (rs q v 1) := by
        refine ⟨?_, fun x x0 x1 => ?_, fun x x0 x1 => ?_, r4, fun x x0 x1 hx => ?_, fun x y x0 x1 y0 y1 hx hy hpy => ?_⟩
        · have a2 := r2 g hg.1 (by omega) (by omega)
          have a4 := (r1 g hg.1 (by omega)).1
          omega
        · have a1 := r1 x x0 x1
          have a2 := d2 x x0 x1
          rw [hup']
          omega
        · rw [rs_def]
          split
          · right; rfl
          · exact d3 x x0 x1
        · have e9 := dn x x0 x1 hx
          by_cases cx : x = v
          · subst cx
            exact ⟨by omega, fun i z i0 i1 ei => by
              have := r5 i z i0 i1 ei
              rw [r3]; exact this⟩
          · rw [rs_ne cx] at hx
            have a5 := d5 x x0 x1 hx
            refine ⟨by rw [e9]; exact a5.1, fun i z i0 i1 ei => ?_⟩
            have a6 := a5.2 i z i0 i1 ei
            have az := ei.rg hW.2.2.1 i0 i1
            have a7 := r2 z az.2.1.1 (by omega) a6.1
            exact ⟨a7.1, by rw [e9]; omega⟩
        · have e9 := dn x x0 x1 hx
          have cy : ¬ y = v := fun z => by rw [z, rs_self] at hy; omega
          rw [rs_ne cy] at hy
          have hxv : p x ≤ p v := by
            by_cases cx : x = v
            · rw [cx]; exact Int.le_refl _
            · rw [rs_ne cx] at hx
              exact d6 x v x0 x1 e1.1 e1.2 hx e2 e3
          have a1 := (r1 y y0 (by omega)).2
          have a2 := h y y0 y1 hy
          by_cases cpy : p y = -1
          · omega
          · have := a2 cpy
            omega
      obtain ⟨u, k1, k2⟩ := m_open (F := F) (w := stc (stc w 221 (rs q v 1)) 220 p2) (r := r) hF b0 (by rw [stc_ne (by decide), stc_ne (by decide)]; exact h1) (fun x x0 x1 => by
        have := hD2.2.1 x x0 x1
        have := cnt_le (fun x => decide (rs q v 1 x = 1)) 10
        rw [stc_eq]; omega) (fun x x0 x1 => by rw [stc_ne (by decide), stc_eq]; exact hD2.2.2.1 x x0 x1)
      rw [stc_eq, stc_ne (by decide), stc_eq] at k2
      rw [g1, k1, bs]
      exact ih u p2 (rs q v 1) (by rw [hup']; omega) hD2 k2
theorem m_goesOut (hF : 100 ≤ F) (hW : WF r) (h1 : w 211 = r) (hg : 0 ≤ g ∧ g < r 0) : ∃ p2 q2, f_X11_goesOut F 210 g w = some (stc (stc w 221 q2) 220 p2) ∧ ∀ x, 0 ≤ x → x < r 0 → p2 x = dist r (-1) g x := by
  obtain ⟨b0, b1, -⟩ := hW.1
  have key : ∀ (n : Nat) (v : Int) (p q : Int → Int), 0 ≤ v → v ≤ 10 → 10 - v < n → (∀ x, 0 ≤ x → x < v → p x = (if x = g then 0 else -1) ∧ q x = 0) → ∃ p2 q2, f_X11_goesOut_b2 F 210 g n v (stc (stc w 221 q) 220 p) = some (stc (stc w 221 q2) 220 p2) ∧ ∀ x, 0 ≤ x → x < r 0 → p2 x = dist r (-1) g x := by
    intro n
    induction n with
    | zero => intro v p q v0 v1 v2; omega
    | succ n ih =>
      intro v p q v0 v1 v2 hpq
      show ∃ p2 q2, f_X11_goesOut_b2_b F 210 g (f_X11_goesOut_b2 F 210 g n) _ _ = _ ∧ _
      unfold f_X11_goesOut_b2_b
      rw [gd_t (by omega)]
      by_cases c : 10 ≤ v
      · have e : v = 10 := by omega
        subst e
        have hz : cnt (fun x => decide (q x = 1)) 10 = 0 := cnt_all0 fun x x0 x1 => decide_eq_false (by have := (hpq x x0 (by omega)).2; omega)
        have hp : ∀ x, 0 ≤ x → x < 10 → p x = (if x = g then 0 else -1) := fun x x0 x1 => (hpq x x0 x1).1
        have hq : ∀ x, 0 ≤ x → x < 10 → q x = 0 := fun x x0 x1 => (hpq x x0 x1).2
        have hD : DkI r g p q := by
          refine ⟨by rw [hp g hg.1 (by omega), if_pos rfl], fun x x0 x1 => ?_, fun x x0 x1 => Or.inl (hq x x0 x1), fun x x0 x1 hx => ?_, fun x x0 x1 hx => ?_, fun x y x0 x1 y0 y1 hx => ?_⟩
          · rw [hp x x0 x1, hz]; split <;> omega
          · rw [hp x x0 (by omega)] at hx ⊢
            by_cases cx : x = g
            · subst cx
              rw [if_pos rfl, dist_0 b0 b1 hW.2.2.1 (W := -1) (by omega) hg]; omega
            · rw [if_neg cx] at hx; omega
          · rw [hq x x0 (by omega)] at hx; omega
          · rw [hq x x0 (by omega)] at hx; omega
        obtain ⟨u, k1, k2⟩ := m_open (F := F) (w := stc (stc w 221 q) 220 p) (r := r) hF b0 (by rw [stc_ne (by decide), stc_ne (by decide)]; exact h1) (fun x x0 x1 => by
          rw [stc_eq, hp x x0 x1]; split <;> omega) (fun x x0 x1 => by rw [stc_ne (by decide), stc_eq]; exact Or.inl (hq x x0 x1))
        rw [stc_eq, stc_ne (by decide), stc_eq] at k2
        rw [if_pos c, k1, bs]
        exact m_dk42 hF hW h1 hg F u p q (by rw [hz]; omega) hD k2
      · rw [if_neg c, gd_t (by omega)]
        have hb : ∀ z : Int, f_X11_goesOut_b23 F 210 g (f_X11_goesOut_b2 F 210 g n) v z v (shR 210 24) (stc (stc w 221 q) 220 p) = f_X11_goesOut_b2 F 210 g n (v + 1) (stc (stc w 221 (rs q v 0)) 220 (rs p v z)) := fun z => by
          unfold f_X11_goesOut_b23
          rw [m24, n24, gd_t (by omega), ltm, is_stc _ 220 v z, stc_eq, stc_stc, m25, n25, gd_t ⟨by omega, Or.inl rfl⟩, ltm, is_stc]
          congr 1
          funext a
          by_cases c1 : a = 221
          · subst c1
            rw [stc_eq, stc_ne (show ¬ (221 : Nat) = 220 by decide), stc_ne (show ¬ (221 : Nat) = 220 by decide), stc_eq, stc_eq]
          · rw [stc_ne c1]
            by_cases c2 : a = 220
            · subst c2; rw [stc_eq, stc_eq]
            · rw [stc_ne c2, stc_ne c2, stc_ne c1, stc_ne c1]
        have hx : ∀ z : Int, z = (if v = g then 0 else -1) → ∀ x, 0 ≤ x → x < v + 1 → rs p v z x = (if x = g then 0 else -1) ∧ rs q v 0 x = 0 := fun z hz x x0 x1 => by
          by_cases cx : x = v
          · rw [cx, rs_self, rs_self]; exact ⟨hz, rfl⟩
          · rw [rs_ne cx, rs_ne cx]; exact hpq x x0 (by omega)
        by_cases c2 : v = g
        · rw [if_pos c2, hb]
          exact ih (v + 1) _ _ (by omega) (by omega) (by omega) (hx 0 (by rw [if_pos c2]))
        · rw [if_neg c2, hb]
          exact ih (v + 1) _ _ (by omega) (by omega) (by omega) (hx (-1) (by rw [if_neg c2]))
  obtain ⟨p2, q2, e1, e2⟩ := key F 0 (w 220) (w 221) (by omega) (by omega) (by omega) (fun x x0 x1 => by omega)
  have e : stc (stc w 221 (w 221)) 220 (w 220) = w := by rw [stc_self, stc_self]
  rw [e] at e1
  exact ⟨p2, q2, e1, e2⟩
theorem m_routes (hF : 20000 ≤ F) (hW : WF r) (h1 : w 211 = r) : ∃ w2, f_X11_areRoutes F 210 w = some (true, w2) ∧ w2 211 = r ∧ Fm w w2 := by
  obtain ⟨b0, b1, -⟩ := hW.1
  have hw := hW.2.2.1
  have k25 : ∀ (k2 : Int → aI → Option (Bool × aI)) (g : Int) (w1 : aI), (0 ≤ g ∧ g < r 0) → w1 211 = r → (∀ x, 0 ≤ x → x < r 0 → w1 220 x = dist r (-1) g x ∧ w1 216 x = dist r (-1) g x) → ∀ (n : Nat) (x : Int), 0 ≤ x → x ≤ r 0 → r 0 - x < n → f_X11_areRoutes_b25 F 210 k2 n g x w1 = k2 (g + 1) w1 := by
    intro k2 g w1 hg e1 hx n
    induction n with
    | zero => intro x x0 x1 x2; omega
    | succ n ih =>
      intro x x0 x1 x2
      show f_X11_areRoutes_b25_b F 210 k2 (f_X11_areRoutes_b25 F 210 k2 n) _ _ _ = _
      unfold f_X11_areRoutes_b25_b
      rw [m0, n0, gd_t (by omega), e1, gd_t (by omega)]
      by_cases c : r 0 ≤ x
      · rw [if_pos c]
      · have bd := dist_bd b0 b1 hw (W := -1) (by omega) hg (x := x) (by omega)
        have := hx x x0 (by omega)
        rw [if_neg c, m24, n24, gd_t (by omega), m9, n9, gd_t (by omega), gd_t (by omega), if_pos (by omega)]
        exact ih (x + 1) (by omega) (by omega) (by omega)
  have k2 : ∀ (n : Nat) (g : Int) (w1 : aI), 0 ≤ g → g ≤ r 0 → r 0 - g < n → w1 211 = r → Fm w w1 → ∃ w2, f_X11_areRoutes_b2 F 210 n g w1 = some (true, w2) ∧ w2 211 = r ∧ Fm w w2 := by
    intro n
    induction n with
    | zero => intro g w1 g0 g1 g2; omega
    | succ n ih =>
      intro g w1 g0 g1 g2 e1 f1
      show ∃ w2, f_X11_areRoutes_b2_b F 210 (f_X11_areRoutes_b2 F 210 n) _ _ = _ ∧ _
      unfold f_X11_areRoutes_b2_b
      rw [m0, n0, gd_t (by omega), e1, gd_t (by omega)]
      by_cases c : r 0 ≤ g
      · rw [if_pos c]
        exact ⟨w1, rfl, e1, f1⟩
      · have hg : 0 ≤ g ∧ g < r 0 := by omega
        obtain ⟨p2, q2, z1, z2⟩ := m_goesOut (F := F) (by omega) hW e1 hg
        have x1 : stc (stc w1 221 q2) 220 p2 211 = r := by rw [stc_ne (by decide), stc_ne (by decide)]; exact e1
        obtain ⟨q, y1, y2, y3⟩ := m_reckons (F := F) (w := stc (stc w1 221 q2) 220 p2) (g := g) (W := -1) (by omega) (by rw [x1]; exact b0) (by rw [x1]; exact b1) (by rw [x1]; exact hw) (by omega) (by rw [x1]; exact hg)
        rw [x1] at y2
        rw [if_neg c, z1, bs, y1, bs, k25 _ g _ hg (by rw [stc_ne (by decide)]; exact x1) (fun x x0 x1 => ⟨by rw [stc_ne (by decide), stc_eq]; exact z2 x x0 x1, by rw [stc_eq]; exact (dist_of hw y2 x0 x1).symm⟩) F 0 (by omega) (by omega) (by omega)]
        exact ih (g + 1) _ (by omega) (by omega) (by omega) (by rw [stc_ne (by decide)]; exact x1) (((f1.stc q2 (by omega)).stc p2 (by omega)).stc q (by omega))
  exact k2 F 0 w (by omega) (by omega) (by omega) h1 (Fm.refl w)
theorem m_tunesOK (hF : 100 ≤ F) (hW : WF r) (h1 : w 211 = r) : f_X11_areTunes F 210 w = some true := by
  obtain ⟨b0, b1, b2, b3, -⟩ := hW.1
  obtain ⟨a1, a2, a3, a4, a5, a6, a7⟩ := hW.2.2.2.2
  have key : ∀ (n i : Nat), (i : Int) ≤ r 2 → r 2 - i < n → f_X11_areTunes_b4 F 210 w n (sm (fun i => r (220 + 27 * i + 9)) i) i = some true := by
    intro n
    induction n with
    | zero => intro i i1 i2; omega
    | succ n ih =>
      intro i i1 i2
      show f_X11_areTunes_b4_b F 210 w (f_X11_areTunes_b4 F 210 w n) _ _ = _
      unfold f_X11_areTunes_b4_b
      rw [m0, n0, gd_t (by omega), h1, gd_t (by omega)]
      by_cases c : r 2 ≤ i
      · have e : i = (r 2).toNat := by omega
        have s0 : 0 ≤ r 13 := by rw [a5]; exact sm_nn fun i i0 i1 => (hW.2.2.2.1 i i0 (by omega)).2.2.2.2.2.2.2.2.2.2.1.1
        rw [if_pos c, gd_t (by omega), e, ← a5, gd_t (by omega), if_pos rfl]
      · obtain ⟨y0, y1, y2, y3, y4, y5, y6, y7, y8, y9, y10, y11, y12, y13, y14, y15⟩ := hW.2.2.2.1 i (by omega) (by omega)
        have nx : f_X11_areTunes_b4 F 210 w n (sm (fun i => r (220 + 27 * i + 9)) i + r (220 + 27 * (i : Int) + 9)) ((i : Int) + 1) = some true := ih (i + 1) (by omega) (by omega)
        rw [if_neg c, m_t, bs, gd_t (by omega), lti, gd_t (by omega), m_isRoof (by omega) (by rw [h1]; omega), bs, h1, decide_eq_true y5, if_pos rfl, gd_t (by omega), gd_t (by omega)]
        by_cases c2 : r (220 + 27 * (i : Int) + 3) = 2
        · rw [if_pos c2, gd_t (by omega), gd_t (by omega), gd_t (by omega), if_pos (y15 c2)]
          exact nx
        · rw [if_neg c2]
          exact nx
  exact key F 0 (by omega) (by omega)
theorem m_agree (hF : 20000 ≤ F) (hW : WF (w 211)) : ∃ w2, f_X11_agree F 210 w = some (true, w2) ∧ w2 211 = w 211 ∧ Fm (iset w 210 6 0) w2 := by
  obtain ⟨b0, b1, b2, b3, -⟩ := hW.1
  obtain ⟨a1, a2, a3, a4, a5, a6, a7⟩ := hW.2.2.2.2
  have e9 := thr_211 w 0
  have t2 := cnt_le (fun i => decide (w 211 (220 + 27 * i + 3) = 2)) (w 211 2).toNat
  have t3 := cnt_le (fun i => decide (w 211 (220 + 27 * i + 3) = 3)) (w 211 2).toNat
  have p0 : 0 ≤ sm (fun x => w 211 (25 + 13 * x + 10)) (w 211 0).toNat := sm_nn fun x x0 x1 => (hW.2.1 x x0 (by omega)).2.2.2.2.2.1.1
  have p1 : sm (fun x => w 211 (25 + 13 * x + 10)) (w 211 0).toNat ≤ (9999 + 18 * 20000) * (w 211 0).toNat := sm_le fun x x0 x1 => by have := (hW.2.1 x x0 (by omega)).2.2.2.2.2.1.2; omega
  have hW9 : WF (iset w 210 6 0 211) := by rw [e9]; exact hW
  obtain ⟨w2, g1, g2, g3⟩ := m_routes (F := F) (w := iset w 210 6 0) (r := w 211) hF hW e9
  refine ⟨w2, ?_, g2, g3⟩
  unfold f_X11_agree
  rw [ltm, m0, n0, gd_t (by omega), gd_t (by omega), e9, gd_t (by omega), if_pos a1, m_those (by omega) hW9 (by decide), bs, e9, gd_t (by omega), gd_t (by omega), if_pos a2.symm]
  unfold f_X11_agree_b41
  rw [gd_t (by decide), if_neg (by decide), m_those (by omega) hW9 (by decide), bs, m0, n0, e9, gd_t (by omega), gd_t (by omega), if_pos a3.symm, m_purses (by omega) hW9, bs, e9, gd_t (by omega), gd_t (by omega), gd_t (by omega), if_pos a7]
  unfold f_X11_agree_b88
  rw [gd_t (by decide), if_neg (by decide), m0, n0, e9, gd_t (by omega), gd_t (by omega), gd_t (by omega), if_neg (by omega), m_tunesOK (by omega) hW e9, bs, if_pos rfl, g1, bk, if_pos rfl]
end Dk
theorem top_agree {F : Nat} (hF : 20000 ≤ F) : TopBW (f_X10_agree F 0) (f_X11_agree F 210) := by
  intro w hI
  obtain ⟨hN, hW, h3⟩ := hI.2.2.2.2.1
  obtain ⟨w1, e1, e2, e3⟩ := c_agree (F := F) hF (hI.1.1 48 P48) hN hW
  have h211 : w1 211 = w 211 := e2 211 (by omega)
  obtain ⟨w2, g1, g2, g3⟩ := m_agree (F := F) (w := w1) hF (by rw [h211]; exact hW)
  refine ⟨true, w1, w2, e1, g1, ?_⟩
  refine hI.spare e2 e3 (fun a a0 a1 a2 a3 a4 a5 a6 a7 => ?_) (fun k k0 k1 k2 => ?_) ?_
  · rw [g3.1 a a0 a1 a3 a4 a5 a6 a7, is_ne a0]
  · rw [g3.2 k k1 k2, is_eq, rs_ne k0]
  · rw [g2, h211]; exact Cp.refl _
