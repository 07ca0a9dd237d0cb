/-! ===== the reference's least sums: reckons, sumTo, nextTo ===== -/
theorem cnt_up {p p' : Int → Bool} {k : Int} (h : ∀ j, ¬ j = k → p' j = p j) (h0 : 0 ≤ k) : ∀ {n : Nat}, k < n → cnt p' n = cnt p n + (bI (p' k) - bI (p k)) := by
  intro n
  induction n with
  | zero => intro h1; omega
  | succ n ih =>
    intro h1
    rw [cnt, cnt]
    by_cases q : k = n
    · subst q
      rw [cnt_congr (p := p') (q := p) fun i i0 i1 => h i (by omega)]
      omega
    · rw [ih (by omega), h n (by omega)]
      omega
theorem sm_up {p p' : Int → Int} {k : Int} (h : ∀ j, ¬ j = k → p' j = p j) (h0 : 0 ≤ k) : ∀ {n : Nat}, k < n → sm p' n = sm p n + (p' k - p k) := by
  intro n
  induction n with
  | zero => intro h1; omega
  | succ n ih =>
    intro h1
    rw [sm, sm]
    by_cases q : k = n
    · subst q
      rw [sm_congr (p := p') (q := p) fun i i0 i1 => h i (by omega)]
      omega
    · rw [ih (by omega), h n (by omega)]
      omega
theorem sm_nn {f : Int → Int} : ∀ {n : Nat}, (∀ i : Int, 0 ≤ i → i < n → 0 ≤ f i) → 0 ≤ sm f n := by
  intro n
  induction n with
  | zero => intro _; exact Int.le_refl _
  | succ n ih =>
    intro h
    rw [sm]
    have := ih fun i i0 i1 => h i i0 (by omega)
    have := h n (by omega) (by omega)
    omega
theorem sm_le {f : Int → Int} {c : Int} : ∀ {n : Nat}, (∀ i : Int, 0 ≤ i → i < n → f i ≤ c) → sm f n ≤ c * n := by
  intro n
  induction n with
  | zero => intro _; show (0 : Int) ≤ c * 0; omega
  | succ n ih =>
    intro h
    rw [sm]
    have := ih fun i i0 i1 => h i i0 (by omega)
    have := h n (by omega) (by omega)
    have e : c * ((n + 1 : Nat) : Int) = c * n + c := by rw [Int.natCast_add, Int.mul_add]; simp
    omega
def fin1 (q : Int → Int) : Int → Bool := fun x => !decide (q x = -1)
def Jr (r : Row) (W g : Int) (q : Int → Int) : Prop :=
  q g = 0 ∧ (∀ x, 0 ≤ x → x < 10 → -1 ≤ q x ∧ q x ≤ 9 * cnt (fin1 q) 10 - 9) ∧
  (∀ x, 0 ≤ x → x < r 0 → ¬ x = g → ¬ q x = -1 → ∃ i y, 0 ≤ i ∧ i < r 1 ∧ ¬ i = W ∧ En2 r i x y ∧ ¬ q y = -1 ∧ q y + r (160 + 3 * i + 2) ≤ q x)
def Mq (q : Int → Int) : Int := sm (fun x => if q x = -1 then 1000 else q x) 10
def Rlx (r : Row) (q : Int → Int) (i : Int) : Prop := ∀ x y, En2 r i x y → ¬ q y = -1 → ¬ q x = -1 ∧ q x ≤ q y + r (160 + 3 * i + 2)
theorem Jr.bd {r : Row} {W g : Int} {q : Int → Int} (h : Jr r W g q) {x : Int} (h0 : 0 ≤ x) (h1 : x < 10) : -1 ≤ q x ∧ q x ≤ 81 := by
  have := h.2.1 x h0 h1
  have := cnt_le (fin1 q) 10
  omega
theorem Jr.step {r : Row} {W g : Int} {q : Int → Int} (hb : 2 ≤ r 0 ∧ r 0 ≤ 10) (hw : Ww r) (h : Jr r W g q) {i x y : Int} (i0 : 0 ≤ i) (i1 : i < r 1) (hi : ¬ i = W) (e : En2 r i x y) (hy : ¬ q y = -1) (hx : q x = -1 ∨ q y + r (160 + 3 * i + 2) < q x) :
    Jr r W g (rs q x (q y + r (160 + 3 * i + 2))) ∧ Mq (rs q x (q y + r (160 + 3 * i + 2))) < Mq q := by
  have a := hw.1 i i0 i1
  have hxy : (0 ≤ x ∧ x < r 0) ∧ (0 ≤ y ∧ y < r 0) ∧ ¬ x = y := by rcases e with ⟨e1, e2⟩ | ⟨e1, e2⟩ <;> omega
  have bx := h.bd (x := x) (by omega) (by omega)
  have byy := h.bd (x := y) (by omega) (by omega)
  have xg : ¬ x = g := by
    intro c
    subst c
    have := h.1
    omega
  have hc := cnt_up (p := fin1 q) (p' := fin1 (rs q x (q y + r (160 + 3 * i + 2)))) (k := x) (fun j hj => by unfold fin1; rw [rs_ne hj]) (by omega) (n := 10) (by omega)
  have e1 : fin1 (rs q x (q y + r (160 + 3 * i + 2))) x = true := by
    unfold fin1
    rw [rs_self]
    have : ¬ q y + r (160 + 3 * i + 2) = -1 := by omega
    simp [this]
  have hs := sm_up (p := fun x => if q x = -1 then 1000 else q x) (p' := fun j => if rs q x (q y + r (160 + 3 * i + 2)) j = -1 then 1000 else rs q x (q y + r (160 + 3 * i + 2)) j) (k := x) (fun j hj => by simp only [rs_ne hj]) (by omega) (n := 10) (by omega)
  refine ⟨⟨?_, ?_, ?_⟩, ?_⟩
  · rw [rs_ne (fun c => xg c.symm)]; exact h.1
  · intro z z0 z1
    have bz := h.2.1 z z0 z1
    have by2 := h.2.1 y (by omega) (by omega)
    have bx2 := h.2.1 x (by omega) (by omega)
    rw [hc, e1]
    by_cases qx : q x = -1
    · have e2 : fin1 q x = false := by unfold fin1; simp [qx]
      rw [e2]
      show -1 ≤ _ ∧ _ ≤ 9 * (cnt (fin1 q) 10 + (1 - 0)) - 9
      rw [rs_def]
      split <;> omega
    · have e2 : fin1 q x = true := by unfold fin1; simp [qx]
      rw [e2]
      show -1 ≤ _ ∧ _ ≤ 9 * (cnt (fin1 q) 10 + (1 - 1)) - 9
      rw [rs_def]
      split <;> omega
  · intro z z0 z1 zg hz
    by_cases c : z = x
    · subst c
      refine ⟨i, y, i0, i1, hi, e, ?_, ?_⟩
      · rw [rs_ne (by omega)]; exact hy
      · rw [rs_ne (by omega), rs_self]; exact Int.le_refl _
    · rw [rs_ne c] at hz
      obtain ⟨i', y', b1, b2, b3, b4, b5, b6⟩ := h.2.2 z z0 z1 zg hz
      refine ⟨i', y', b1, b2, b3, b4, ?_, ?_⟩
      · rw [rs_def]; split <;> omega
      · rw [rs_ne c, rs_def]
        split
        · rename_i c2; subst c2; omega
        · exact b6
  · show sm _ 10 < sm _ 10
    rw [hs]
    simp only [rs_self]
    split <;> split <;> omega
theorem Jr.dist {r : Row} {W g : Int} {q : Int → Int} (hb : 2 ≤ r 0 ∧ r 0 ≤ 10) (hw : Ww r) (h : Jr r W g q) (hR : ∀ i, 0 ≤ i → i < r 1 → ¬ i = W → Rlx r q i) : IsDist r W g q := by
  refine ⟨h.1, fun x x0 x1 => (h.bd x0 (by omega)).1, fun i i0 i1 i2 x y e n => hR i i0 i1 i2 x y e n, fun x x0 x1 xg n => ?_⟩
  obtain ⟨i, y, b1, b2, b3, b4, b5, b6⟩ := h.2.2 x x0 x1 xg n
  have := hR i b1 b2 b3 x y b4 b5
  exact ⟨i, y, b1, b2, b3, b4, b5, by omega⟩
theorem m_other (F : Nat) {i x y : Int} (w : aI) (hi : 0 ≤ i ∧ i < 20) (e : En2 (w 211) i x y) : f_X11_otherEnd F 210 i x w = some y := by
  simp (disch := omega) only [f_X11_otherEnd, m_w, bs, m0, n0, gd_t]
  congr 1
  rcases e with ⟨e1, e2⟩ | ⟨e1, e2⟩ <;> omega
theorem m_nearer (F : Nat) {i x y : Int} (w : aI) (q : Int → Int) (hi : 0 ≤ i ∧ i < 20) (e : En2 (w 211) i x y) (hx : 0 ≤ x ∧ x < 10) (hy : 0 ≤ y ∧ y < 10) (bx : -1 ≤ q x ∧ q x ≤ 81) (by1 : -1 ≤ q y ∧ q y ≤ 81) (hf : 1 ≤ w 211 (160 + 3 * i + 2) ∧ w 211 (160 + 3 * i + 2) ≤ 9) :
    f_X11_isNearer F 210 i x (stc w 216 q) = some (if ¬ q y = -1 ∧ (q x = -1 ∨ q y + w 211 (160 + 3 * i + 2) < q x) then (true, stc w 216 (rs q x (q y + w 211 (160 + 3 * i + 2)))) else (false, stc w 216 q)) := by
  unfold f_X11_isNearer
  rw [m_other F (y := y) (stc w 216 q) hi (by rw [stc_ne (by decide)]; exact e)]
  simp (disch := omega) only [bs, m9, n9, m_w, m0, n0, gd_t, ltI, ltM, stc_eq, stc_ne (show ¬ (211 : Nat) = 216 by decide), is_stc, stc_stc]
  by_cases c1 : q y = -1
  · rw [if_pos c1, if_neg (by omega)]
  · rw [if_neg c1]
    by_cases c2 : q x = -1
    · rw [if_pos c2, if_pos ⟨c1, Or.inl c2⟩]
    · rw [if_neg c2]
      by_cases c3 : q y + w 211 (160 + 3 * i + 2) < q x
      · rw [if_pos c3, if_pos ⟨c1, Or.inr c3⟩]
      · rw [if_neg c3, if_neg (by omega)]
theorem orI_b (a b : Bool) : orI (bI a) (bI b) = bI (a || b) := by cases a <;> cases b <;> decide
section Reck
variable {F : Nat} {w : aI} {W g : Int}
theorem m_reck_pass (hb : 2 ≤ w 211 0 ∧ w 211 0 ≤ 10) (h1 : 0 ≤ w 211 1 ∧ w 211 1 ≤ 20) (hw : Ww (w 211)) (hW : -1 ≤ W ∧ W < 20) (k32 : Int → aI → Option aI) (q0 : Int → Int) (M0 : Int) :
    ∀ (n : Nat) (i : Int) (m : Bool) (q : Int → Int), 0 ≤ i → i ≤ w 211 1 → w 211 1 - i < n → Jr (w 211) W g q → Mq q ≤ M0 → (m = false → q = q0 ∧ ∀ j, 0 ≤ j → j < i → ¬ j = W → Rlx (w 211) q0 j) → (m = true → Mq q < M0) →
      ∃ (m' : Bool) (q' : Int → Int), f_X11_reckons_b41 F 210 g W k32 n (bI m) i (stc w 216 q) = k32 (bI m') (stc w 216 q') ∧ Jr (w 211) W g q' ∧ ((m' = false ∧ ∀ j, 0 ≤ j → j < w 211 1 → ¬ j = W → Rlx (w 211) q' j) ∨ (m' = true ∧ Mq q' < M0)) := by
  intro n
  induction n with
  | zero => intro i m q i0 i1 i2; omega
  | succ n ih =>
    intro i m q i0 i1 i2 hJ hM hf ht
    show ∃ m' q', f_X11_reckons_b41_b F 210 g W k32 (f_X11_reckons_b41 F 210 g W k32 n) (bI m) i _ = _ ∧ _
    unfold f_X11_reckons_b41_b
    have er : stc w 216 q 211 = w 211 := stc_ne (by decide)
    by_cases c : w 211 1 ≤ i
    · simp (disch := omega) only [m0, n0, er, gd_t, if_pos]
      refine ⟨m, q, rfl, hJ, ?_⟩
      cases m with
      | false =>
        obtain ⟨e, h⟩ := hf rfl
        subst e
        exact Or.inl ⟨rfl, fun j j0 j1 j2 => h j j0 (by omega) j2⟩
      | true => exact Or.inr ⟨rfl, ht rfl⟩
    · by_cases cW : i = W
      · simp (disch := omega) only [m0, n0, er, gd_t, if_neg, if_pos]
        exact ih (i + 1) m q (by omega) (by omega) (by omega) hJ hM (fun h => ⟨(hf h).1, fun j j0 j1 j2 => (hf h).2 j j0 (by omega) j2⟩) ht
      · have a := hw.1 i i0 (by omega)
        have x0 : En2 (w 211) i (w 211 (160 + 3 * i)) (w 211 (160 + 3 * i + 1)) := Or.inl ⟨rfl, rfl⟩
        simp (disch := omega) only [m0, n0, er, gd_t, if_neg, m_w, bs]
        rw [m_nearer F w q (by omega) x0 (by omega) (by omega) (hJ.bd (by omega) (by omega)) (hJ.bd (by omega) (by omega)) (by omega)]
        have step1 : ∃ (m1 : Bool) (q1 : Int → Int), (if ¬ q (w 211 (160 + 3 * i + 1)) = -1 ∧ (q (w 211 (160 + 3 * i)) = -1 ∨ q (w 211 (160 + 3 * i + 1)) + w 211 (160 + 3 * i + 2) < q (w 211 (160 + 3 * i))) then (true, stc w 216 (rs q (w 211 (160 + 3 * i)) (q (w 211 (160 + 3 * i + 1)) + w 211 (160 + 3 * i + 2)))) else (false, stc w 216 q)) = (m1, stc w 216 q1) ∧ Jr (w 211) W g q1 ∧ (m1 = true → Mq q1 < Mq q) ∧ (m1 = false → q1 = q ∧ (¬ q (w 211 (160 + 3 * i + 1)) = -1 → ¬ q (w 211 (160 + 3 * i)) = -1 ∧ q (w 211 (160 + 3 * i)) ≤ q (w 211 (160 + 3 * i + 1)) + w 211 (160 + 3 * i + 2))) := by
          split
          · rename_i c1
            obtain ⟨s1, s2⟩ := hJ.step hb hw i0 (by omega) cW x0 c1.1 c1.2
            exact ⟨true, _, rfl, s1, fun _ => s2, (fun h => by cases h)⟩
          · rename_i c1
            exact ⟨false, q, rfl, hJ, (fun h => by cases h), fun _ => ⟨rfl, (fun h => by omega)⟩⟩
        obtain ⟨m1, q1, e1, J1, t1, f1⟩ := step1
        rw [e1, bk]
        have er1 : stc w 216 q1 211 = w 211 := stc_ne (by decide)
        simp (disch := omega) only [ltI, bs, er1, gd_t, orI_b]
        have y0 : En2 (w 211) i (w 211 (160 + 3 * i + 1)) (w 211 (160 + 3 * i)) := Or.inr ⟨rfl, rfl⟩
        rw [m_nearer F w q1 (by omega) y0 (by omega) (by omega) (J1.bd (by omega) (by omega)) (J1.bd (by omega) (by omega)) (by omega)]
        have step2 : ∃ (m2 : Bool) (q2 : Int → Int), (if ¬ q1 (w 211 (160 + 3 * i)) = -1 ∧ (q1 (w 211 (160 + 3 * i + 1)) = -1 ∨ q1 (w 211 (160 + 3 * i)) + w 211 (160 + 3 * i + 2) < q1 (w 211 (160 + 3 * i + 1))) then (true, stc w 216 (rs q1 (w 211 (160 + 3 * i + 1)) (q1 (w 211 (160 + 3 * i)) + w 211 (160 + 3 * i + 2)))) else (false, stc w 216 q1)) = (m2, stc w 216 q2) ∧ Jr (w 211) W g q2 ∧ (m2 = true → Mq q2 < Mq q1) ∧ (m2 = false → q2 = q1 ∧ (¬ q1 (w 211 (160 + 3 * i)) = -1 → ¬ q1 (w 211 (160 + 3 * i + 1)) = -1 ∧ q1 (w 211 (160 + 3 * i + 1)) ≤ q1 (w 211 (160 + 3 * i)) + w 211 (160 + 3 * i + 2))) := by
          split
          · rename_i c1
            obtain ⟨s1, s2⟩ := J1.step hb hw i0 (by omega) cW y0 c1.1 c1.2
            exact ⟨true, _, rfl, s1, fun _ => s2, (fun h => by cases h)⟩
          · rename_i c1
            exact ⟨false, q1, rfl, J1, (fun h => by cases h), fun _ => ⟨rfl, (fun h => by omega)⟩⟩
        obtain ⟨m2, q2, e2, J2, t2, f2⟩ := step2
        rw [e2, bk]
        have M1 : Mq q1 ≤ Mq q := by
          cases m1 with
          | true => exact Int.le_of_lt (t1 rfl)
          | false => rw [(f1 rfl).1]; exact Int.le_refl _
        have M2 : Mq q2 ≤ Mq q1 := by
          cases m2 with
          | true => exact Int.le_of_lt (t2 rfl)
          | false => rw [(f2 rfl).1]; exact Int.le_refl _
        refine ih (i + 1) _ q2 (by omega) (by omega) (by omega) J2 (by omega) (fun h => ?_) (fun h => ?_)
        · have h0 : (m = false ∧ m1 = false) ∧ m2 = false := by
            revert h; cases m <;> cases m1 <;> cases m2 <;> simp
          obtain ⟨⟨h3, h4⟩, h5⟩ := h0
          obtain ⟨g1, g2⟩ := hf h3
          obtain ⟨g3, g4⟩ := f1 h4
          obtain ⟨g5, g6⟩ := f2 h5
          subst g1
          subst g3
          subst g5
          refine ⟨rfl, fun j j0 j1 j2 => ?_⟩
          by_cases cj : j = i
          · subst cj
            intro x y e hy
            rcases e with ⟨e1, e2⟩ | ⟨e1, e2⟩
            · subst e1; subst e2; exact g4 hy
            · subst e1; subst e2; exact g6 hy
          · exact g2 j j0 (by omega) j2
        · cases m2 with
          | true => have := t2 rfl; omega
          | false =>
            cases m1 with
            | true => have := t1 rfl; omega
            | false =>
              have h6 : m = true := by revert h; cases m <;> simp
              have := ht h6
              omega
theorem m_reck_loop (hF : 100 ≤ F) (hb : 2 ≤ w 211 0 ∧ w 211 0 ≤ 10) (h1 : 0 ≤ w 211 1 ∧ w 211 1 ≤ 20) (hw : Ww (w 211)) (hW : -1 ≤ W ∧ W < 20) :
    ∀ (n : Nat) (q : Int → Int), Jr (w 211) W g q → Mq q + 2 ≤ n → ∃ q', f_X11_reckons_b32 F 210 g W n 1 (stc w 216 q) = some (stc w 216 q') ∧ IsDist (w 211) W g q' ∧ (∀ y, 0 ≤ y → y < 10 → -1 ≤ q' y ∧ q' y ≤ 81) := by
  intro n
  induction n with
  | zero =>
    intro q hJ hn
    have : 0 ≤ Mq q := sm_nn fun i i0 i1 => by have := hJ.bd i0 i1; split <;> omega
    omega
  | succ n ih =>
    intro q hJ hn
    show ∃ q', f_X11_reckons_b32_b F 210 g W (f_X11_reckons_b32 F 210 g W n) 1 _ = _ ∧ _
    unfold f_X11_reckons_b32_b
    rw [gd_t (by decide), if_neg (by decide)]
    obtain ⟨m', q', e, J', hc⟩ := m_reck_pass (F := F) (g := g) hb h1 hw hW (f_X11_reckons_b32 F 210 g W n) q (Mq q) F 0 false q (by omega) (by omega) (by omega) hJ (Int.le_refl _) (fun _ => ⟨rfl, fun j j0 j1 => by omega⟩) (fun h => by cases h)
    have e' : f_X11_reckons_b41 F 210 g W (f_X11_reckons_b32 F 210 g W n) F 0 0 (stc w 216 q) = _ := e
    rw [e']
    rcases hc with ⟨hm, hR⟩ | ⟨hm, hM⟩
    · subst hm
      refine ⟨q', ?_, J'.dist hb hw hR, fun y y0 y1 => J'.bd y0 y1⟩
      cases n with
      | zero =>
        have : 0 ≤ Mq q := sm_nn fun i i0 i1 => by have := hJ.bd i0 i1; split <;> omega
        omega
      | succ n =>
        show f_X11_reckons_b32_b F 210 g W (f_X11_reckons_b32 F 210 g W n) 0 _ = _
        unfold f_X11_reckons_b32_b
        rw [gd_t (by decide), if_pos rfl]
    · subst hm
      exact ih q' J' (by omega)
theorem m_reckons (hF : 10010 ≤ F) (hb : 2 ≤ w 211 0 ∧ w 211 0 ≤ 10) (h1 : 0 ≤ w 211 1 ∧ w 211 1 ≤ 20) (hw : Ww (w 211)) (hW : -1 ≤ W ∧ W < 20) (hg : 0 ≤ g ∧ g < w 211 0) : ∃ q, f_X11_reckons F 210 g W w = some (stc w 216 q) ∧ IsDist (w 211) W g q ∧ (∀ y, 0 ≤ y → y < 10 → -1 ≤ q y ∧ q y ≤ 81) := by
  have key : ∀ (n : Nat) (v : Int), 0 ≤ v → v ≤ 10 → 10 - v < n → ∃ q, f_X11_reckons_b2 F 210 g W n v (stc w 216 (fun j => if 0 ≤ j ∧ j < v then (if j = g then 0 else -1) else w 216 j)) = some (stc w 216 q) ∧ IsDist (w 211) W g q ∧ (∀ y, 0 ≤ y → y < 10 → -1 ≤ q y ∧ q y ≤ 81) := by
    intro n
    induction n with
    | zero => intro v h0 h1 h2; omega
    | succ n ih =>
      intro v v0 v1 v2
      show ∃ q, f_X11_reckons_b2_b F 210 g W (f_X11_reckons_b2 F 210 g W n) v _ = _ ∧ _
      unfold f_X11_reckons_b2_b
      by_cases c : 10 ≤ v
      · have e : v = 10 := by omega
        subst e
        rw [gd_t (by decide), if_pos (by decide)]
        obtain ⟨A, eA⟩ : ∃ A : Int → Int, A = (fun j => if 0 ≤ j ∧ j < 10 then (if j = g then 0 else -1) else w 216 j) := ⟨_, rfl⟩
        have cN : ∀ x : Int, 0 ≤ x → x < 10 → A x = if x = g then 0 else -1 := fun x x0 x1 => by rw [eA]; exact if_pos ⟨x0, x1⟩
        rw [← eA]
        have hcnt : cnt (fin1 A) 10 = 1 := by
          have h5 := cnt_up (p := fun _ => false) (p' := fun j => if j = g then true else false) (k := g) (fun j hj => if_neg hj) hg.1 (n := 10) (by omega)
          rw [if_pos rfl] at h5
          have h6 : cnt (fun _ => false) 10 = 0 := rfl
          rw [h6] at h5
          have h7 : cnt (fin1 A) 10 = cnt (fun j => if j = g then true else false) 10 := cnt_congr fun i i0 i1 => by
            unfold fin1
            rw [cN i i0 (by omega)]
            split <;> rfl
          rw [h7, h5]
          rfl
        refine m_reck_loop (by omega) hb h1 hw hW F _ ⟨?_, fun x x0 x1 => ?_, fun x x0 x1 xg hx => ?_⟩ ?_
        · rw [cN g hg.1 (by omega), if_pos rfl]
        · rw [hcnt, cN x x0 x1]
          split <;> omega
        · rw [cN x x0 (by omega), if_neg xg] at hx
          exact absurd rfl hx
        · have h8 : Mq A ≤ 1000 * ((10 : Nat) : Int) := sm_le fun x x0 x1 => by
            show (if A x = -1 then 1000 else A x) ≤ 1000
            rw [cN x x0 (by omega)]
            split <;> omega
          omega
      · have nx := ih (v + 1) (by omega) (by omega) (by omega)
        by_cases c2 : v = g
        · simp (disch := omega) only [gd_t, if_neg, if_pos, m9, n9, ltM, is_stc, stc_eq, stc_stc]
          refine Eq.mp ?_ nx
          congr 1
          funext q
          congr 4
          funext j
          unfold rs
          by_cases cj : j = v
          · subst cj
            rw [if_pos (by omega), if_pos c2, if_pos rfl]
          · rw [if_neg cj]
            by_cases c5 : 0 ≤ j ∧ j < v
            · simp (disch := omega) only [if_pos, if_neg]
            · simp (disch := omega) only [if_neg]
        · simp (disch := omega) only [gd_t, if_neg, if_pos, m9, n9, ltM, is_stc, stc_eq, stc_stc]
          refine Eq.mp ?_ nx
          congr 1
          funext q
          congr 4
          funext j
          unfold rs
          by_cases cj : j = v
          · subst cj
            rw [if_pos (by omega), if_neg c2, if_pos rfl]
          · rw [if_neg cj]
            exact ite_iff (by omega)
  have k0 := key F 0 (by omega) (by omega) (by omega)
  have e : stc w 216 (fun j => if 0 ≤ j ∧ j < 0 then (if j = g then (0 : Int) else -1) else w 216 j) = w := by
    have : (fun j => if 0 ≤ j ∧ j < 0 then (if j = g then (0 : Int) else -1) else w 216 j) = w 216 := by
      funext j
      exact if_neg (by omega)
    rw [this, stc_self]
  rw [e] at k0
  exact k0
theorem m_sumTo (hF : 10010 ≤ F) (hb : 2 ≤ w 211 0 ∧ w 211 0 ≤ 10) (h1 : 0 ≤ w 211 1 ∧ w 211 1 ≤ 20) (hw : Ww (w 211)) {x : Int} (hx : 0 ≤ x ∧ x < w 211 0) (hg : 0 ≤ g ∧ g < w 211 0) :
    ∃ q, f_X11_sumTo F 210 x g w = some (dist (w 211) (-1) g x, stc w 216 q) ∧ IsDist (w 211) (-1) g q ∧ (∀ y, 0 ≤ y → y < 10 → -1 ≤ q y ∧ q y ≤ 81) := by
  obtain ⟨q, e, h, hbd⟩ := m_reckons (W := -1) hF hb h1 hw (by omega) hg
  refine ⟨q, ?_, h, hbd⟩
  unfold f_X11_sumTo
  rw [e]
  simp (disch := omega) only [bs, m9, n9, gd_t, stc_eq]
  rw [dist_of hw h hx.1 hx.2]
end Reck
theorem has_dist {r : Row} (hb : 2 ≤ r 0 ∧ r 0 ≤ 10) (h1 : 0 ≤ r 1 ∧ r 1 ≤ 20) (hw : Ww r) {W g : Int} (hW : -1 ≤ W ∧ W < 20) (hg : 0 ≤ g ∧ g < r 0) : ∃ q, IsDist r W g q ∧ (∀ y, 0 ≤ y → y < 10 → -1 ≤ q y ∧ q y ≤ 81) := by
  obtain ⟨q, -, h, hbd⟩ := m_reckons (F := 10010) (w := fun _ => r) (W := W) (g := g) (Nat.le_refl _) hb h1 hw hW hg
  exact ⟨q, h, hbd⟩
theorem isd {r : Row} (hb : 2 ≤ r 0 ∧ r 0 ≤ 10) (h1 : 0 ≤ r 1 ∧ r 1 ≤ 20) (hw : Ww r) {W g : Int} (hW : -1 ≤ W ∧ W < 20) (hg : 0 ≤ g ∧ g < r 0) : IsDist r W g (dist r W g) := by
  obtain ⟨q, h, -⟩ := has_dist hb h1 hw hW hg
  exact dist_is ⟨q, h⟩
theorem dist_bd {r : Row} (hb : 2 ≤ r 0 ∧ r 0 ≤ 10) (h1 : 0 ≤ r 1 ∧ r 1 ≤ 20) (hw : Ww r) {W g x : Int} (hW : -1 ≤ W ∧ W < 20) (hg : 0 ≤ g ∧ g < r 0) (hx : 0 ≤ x ∧ x < r 0) : -1 ≤ dist r W g x ∧ dist r W g x ≤ 81 := by
  obtain ⟨q, h, hbd⟩ := has_dist hb h1 hw hW hg
  rw [dist_of hw h hx.1 hx.2]
  exact hbd x hx.1 (by omega)
