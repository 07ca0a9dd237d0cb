/-! ===== the reference: ticks ===== -/
noncomputable def whS (x : Int) (q : Row) : Row := if busy q x (q 3) = true ∨ firstG q x = -1 then q else whT q (firstG q x) x
theorem whAllT_eq (r : Row) : whAllT r = if r 3 % 60 < r 5 then itr whS r (r 0).toNat else r := rfl
theorem first_can {r : Row} {x : Int} (hW : WF r) (hx : 0 ≤ x ∧ x < r 0) (h : ¬ firstG r x = -1) : CanW r (firstG r x) x := by
  have b2 := hW.1.2.2.1
  rcases firstG_ok r x (r 2).toNat with e | ⟨h1, h2, h3, h4, h5⟩
  · exact absurd e h
  · rw [← firstG_eq] at h1 h2 h3 h4 h5
    have h6 := of_decide_eq_true h3
    exact ⟨⟨h1, by omega⟩, hx, h6.1, h6.2, h4, h5⟩
theorem wh_inv {r : Row} (hW : WF r) (hS : Sl r 0) : ∀ n : Nat, (n : Int) ≤ r 0 → WF (itr whS r n) ∧ Sl (itr whS r n) n ∧ SameW r (itr whS r n) ∧ itr whS r n 2 = r 2 ∧ itr whS r n 3 = r 3 ∧ itr whS r n 5 = r 5 := by
  intro n
  induction n with
  | zero => intro _; exact ⟨hW, hS, SameW.refl r, rfl, rfl, rfl⟩
  | succ n ih =>
    intro hn
    obtain ⟨h1, h2, h3, h4, h5, h6⟩ := ih (by omega)
    have e : itr whS r (n + 1) = whS n (itr whS r n) := rfl
    have e2 : ((n + 1 : Nat) : Int) = (n : Int) + 1 := by omega
    rw [e, e2]
    generalize itr whS r n = q at h1 h2 h3 h4 h5 h6
    unfold whS
    split
    · exact ⟨h1, h2.next, h3, h4, h5, h6⟩
    · rename_i c
      have c2 : ¬ firstG q n = -1 := fun z => c (Or.inr z)
      obtain ⟨a1, a2, a3, a4, a5, a6⟩ := WF_wh h1 h2 (first_can h1 ⟨by omega, by have := h3.1; omega⟩ c2)
      exact ⟨a1, a2, h3.trans a3, by rw [a4, h4], by rw [a5, h5], by rw [a6, h6]⟩
theorem m_wh_loop {F : Nat} {w : aI} (hF : 10010 ≤ F) (hW : WF (w 211)) (hS : Sl (w 211) 0) (hc : w 211 3 % 60 < w 211 5) : ∀ (n i : Nat) (w1 : aI), (i : Int) ≤ w 211 0 → w 211 0 - i < n → w1 211 = itr whS (w 211) i → Fm w w1 → ∃ w', f_X11_ticks_b22 F 210 n i w1 = some w' ∧ w' 211 = loseT (whAllT (w 211)) ∧ Fm w w' := by
  have b0 := hW.1.1
  intro n
  induction n with
  | zero => intro i w1 i1 i2; omega
  | succ n ih =>
    intro i w1 i1 i2 e1 f1
    show ∃ w', f_X11_ticks_b22_b F 210 (f_X11_ticks_b22 F 210 n) _ _ = _ ∧ _
    unfold f_X11_ticks_b22_b
    obtain ⟨h1, h2, h3, h4, h5, h6⟩ := wh_inv hW hS i i1
    rw [← e1] at h1 h2 h3 h4 h5 h6
    have hb := h1.1
    obtain ⟨b0', b1, b2', b3, b4, b5, b6⟩ := hb
    have h30 := h3.1
    simp (disch := omega) only [m0, n0, gd_t, tm]
    by_cases c : w1 211 0 ≤ i
    · rw [if_pos c]
      have e : i = (w 211 0).toNat := by omega
      obtain ⟨w', g1, g2, g3⟩ := m_loses (F := F) (w := w1) hF h1
      rw [g1, bs]
      exact ⟨w', rfl, by rw [g2, e1, whAllT_eq, if_pos hc, ← e], f1.trans g3⟩
    · rw [if_neg c, if_neg (by rw [h5, h6]; omega)]
      have nx : ∀ w2 : aI, w2 211 = whS i (w1 211) → Fm w w2 → ∃ w', f_X11_ticks_b22 F 210 n ((i : Int) + 1) w2 = some w' ∧ w' 211 = loseT (whAllT (w 211)) ∧ Fm w w' := fun w2 g1 g2 => ih (i + 1) w2 (by omega) (by omega) (by rw [g1, e1]; rfl) g2
      have hx : 0 ≤ (i : Int) ∧ (i : Int) < w1 211 0 := ⟨by omega, by omega⟩
      obtain ⟨x0, x1, x2, x3, x4, x5, x6⟩ := h1.2.1 i hx.1 hx.2
      rw [m_busy (by omega) (by omega) (by omega), bs]
      by_cases c1 : busy (w1 211) i (w1 211 3) = true
      · rw [if_pos c1]
        unfold f_X11_ticks_b73
        rw [gd_t (by decide), if_pos rfl]
        exact nx w1 (by unfold whS; rw [if_pos (Or.inl c1)]) f1
      · rw [if_neg c1]
        obtain ⟨q, g1⟩ := m_firstAt (F := F) (w := w1) (x := i) hF h1.1 h1.2.1 h1.2.2.1 h1.2.2.2.1 hx
        rw [g1, bj]
        have er : stc w1 216 q 211 = w1 211 := stc_ne (by decide)
        have fr := firstG_ok (w1 211) i (w1 211 2).toNat
        rw [← firstG_eq] at fr
        unfold f_X11_ticks_b73
        rw [gd_t (by omega)]
        by_cases c2 : firstG (w1 211) i = -1
        · rw [if_pos c2]
          exact nx _ (by rw [er]; unfold whS; rw [if_pos (Or.inr c2)]) (f1.stc q (by omega))
        · rw [if_neg c2]
          obtain ⟨q2, g2⟩ := m_whistles (F := F) (w := stc w1 216 q) (i := firstG (w1 211) i) (x := i) hF (by rw [er]; exact h1) (by rw [er]; exact first_can h1 hx c2)
          rw [g2, bs, er, stc_stc]
          exact nx _ (by rw [stc_eq]; unfold whS; rw [if_neg (fun h => h.elim c1 c2)]) ((f1.stc q2 (by omega)).stc _ (by omega))
theorem WF_time {r : Row} (hW : WF r) (h3 : r 3 < 20000) : WF (rs (rs r 3 (r 3 + 1)) 10 (r 10 + 1)) ∧ Sl (rs (rs r 3 (r 3 + 1)) 10 (r 10 + 1)) 0 := by
  obtain ⟨hb, hr, hw, ht, a1, a2, a3, a4, a5, a6, a7⟩ := hW
  obtain ⟨b0, b1, b2, b3, b4, b5, b6⟩ := hb
  have o : ∀ k, ¬ k = 3 → ¬ k = 10 → rs (rs r 3 (r 3 + 1)) 10 (r 10 + 1) k = r k := fun k k0 k1 => by rw [rs_ne k1, rs_ne k0]
  have o3 : rs (rs r 3 (r 3 + 1)) 10 (r 10 + 1) 3 = r 3 + 1 := by rw [rs_ne (by omega), rs_self]
  generalize rs (rs r 3 (r 3 + 1)) 10 (r 10 + 1) = q at o o3
  have e0 := o 0 (by omega) (by omega)
  have e1 := o 1 (by omega) (by omega)
  have e2 := o 2 (by omega) (by omega)
  have e4 := o 4 (by omega) (by omega)
  have e5 := o 5 (by omega) (by omega)
  have e6 := o 6 (by omega) (by omega)
  refine ⟨⟨by unfold Wb; omega, fun x x0 x1 => Wx_congr (r := r) (by omega) (fun k k0 k1 => o k (by omega) (by omega)) (hr x x0 (by omega)), SameW.ww (r := r) ⟨e0, e1, fun k k0 k1 => o k (by omega) (by omega)⟩ (by omega) hw, fun j j0 j1 => Wy_congr (r := r) e0 (by omega) (fun k k0 k1 => o k (by omega) (by omega)) (ht j j0 (by omega)), ?_⟩, ⟨fun x x0 x1 => ?_, ?_⟩⟩
  · refine ⟨by rw [o 11 (by omega) (by omega), e2]; exact a1, ?_, ?_, by rw [o 16 (by omega) (by omega), o 15 (by omega) (by omega)]; exact a4, ?_, by rw [o 13 (by omega) (by omega), o3]; omega, ?_⟩
    · rw [o 15 (by omega) (by omega), a2, e2]
      exact cnt_congr fun i i0 i1 => by rw [o _ (by omega) (by omega)]
    · rw [o 18 (by omega) (by omega), a3, e2]
      exact cnt_congr fun i i0 i1 => by rw [o _ (by omega) (by omega)]
    · rw [o 13 (by omega) (by omega), a5, e2]
      exact sm_congr fun i i0 i1 => (o _ (by omega) (by omega)).symm
    · rw [o 7 (by omega) (by omega), o 20 (by omega) (by omega), ← a7, e0]
      exact sm_congr fun i i0 i1 => o _ (by omega) (by omega)
  · rw [e0] at x1
    have := (hr x x0 x1).2.2.2.2.2.1
    rw [o _ (by omega) (by omega), o3, if_neg (by omega)]
    omega
  · rw [o 13 (by omega) (by omega), o3]; omega
theorem WF_tick {r : Row} (hW : WF r) (h3 : r 3 < 20000) : WF (tickT r) ∧ tickT r 3 = r 3 + 1 ∧ SameW r (tickT r) ∧ r 2 ≤ tickT r 2 := by
  obtain ⟨h1, h2⟩ := WF_time hW h3
  unfold tickT
  have e0 : SameW r (rs (rs r 3 (r 3 + 1)) 10 (r 10 + 1)) := ⟨by rw [rs_ne (by omega), rs_ne (by omega)], by rw [rs_ne (by omega), rs_ne (by omega)], fun k k0 k1 => by rw [rs_ne (by omega), rs_ne (by omega)]⟩
  have e3 : rs (rs r 3 (r 3 + 1)) 10 (r 10 + 1) 3 = r 3 + 1 := by rw [rs_ne (by omega), rs_self]
  have e2 : rs (rs r 3 (r 3 + 1)) 10 (r 10 + 1) 2 = r 2 := by rw [rs_ne (by omega), rs_ne (by omega)]
  generalize rs (rs r 3 (r 3 + 1)) 10 (r 10 + 1) = q at h1 h2 e0 e3 e2
  have c2 := h1.1.2.2.1
  obtain ⟨k1, k2⟩ := arr_inv h1 (q 2).toNat (by omega)
  rw [← arrT_eq] at k1 k2
  have k3 := k2.sl h1.1.1.2 h2
  generalize arrT q = s at k1 k2 k3
  have c0 := k1.1.1
  have hwh : WF (whAllT s) ∧ SameW s (whAllT s) ∧ whAllT s 2 = s 2 ∧ whAllT s 3 = s 3 := by
    rw [whAllT_eq]
    split
    · obtain ⟨g1, g2, g3, g4, g5, g6⟩ := wh_inv k1 k3 (s 0).toNat (by omega)
      exact ⟨g1, g3, g4, g5⟩
    · exact ⟨k1, SameW.refl s, rfl, rfl⟩
  obtain ⟨g1, g2, g3, g4⟩ := hwh
  generalize whAllT s = t at g1 g2 g3 g4
  have d2 := g1.1.2.2.1
  obtain ⟨u1, u2, u3⟩ := lose_inv g1 (t 2).toNat (by omega)
  rw [← loseT_eq] at u1 u2 u3
  have v1 := u2.1
  have v2 := k2.1
  have v3 := k2.2.1
  exact ⟨u1, by omega, ((e0.trans k2.2.2.1).trans g2).trans u2.2.2.1, by omega⟩
theorem m_ticks {F : Nat} {w : aI} (hF : 10010 ≤ F) (hW : WF (w 211)) (h3 : w 211 3 < 20000) : ∃ w', f_X11_ticks F 210 w = some w' ∧ w' 211 = tickT (w 211) ∧ Fm w w' := by
  obtain ⟨h1, h2⟩ := WF_time hW h3
  unfold f_X11_ticks
  have e10 : rs (w 211) 3 (w 211 3 + 1) 10 = w 211 10 := rs_ne (by omega)
  simp (disch := omega) only [m0, n0, gd_t, ltM, is_stc, stc_eq, stc_stc, m_counts, bs]
  rw [show (10 : Int) + 0 = 10 from rfl, e10]
  unfold tickT
  generalize rs (rs (w 211) 3 (w 211 3 + 1)) 10 (w 211 10 + 1) = q at h1 h2
  obtain ⟨w1, g1, g2, g3⟩ := m_arrives (F := F) (w := stc w 211 q) (by omega) (by rw [stc_eq]; exact h1)
  rw [g1, bs]
  rw [stc_eq] at g2
  have c2 := h1.1.2.2.1
  obtain ⟨k1, k2⟩ := arr_inv h1 (q 2).toNat (by omega)
  rw [← arrT_eq] at k1 k2
  have k3 := k2.sl h1.1.1.2 h2
  rw [← g2] at k1 k3 ⊢
  have f1 : Fm w w1 := ((Fm.refl w).stc q (by omega)).trans g3
  have c0 := k1.1.1
  by_cases hc : w1 211 3 % 60 < w1 211 5
  · obtain ⟨w', a1, a2, a3⟩ := m_wh_loop (F := F) (w := w1) hF k1 k3 hc F 0 w1 (by omega) (by omega) rfl (Fm.refl w1)
    exact ⟨w', a1, a2, f1.trans a3⟩
  · obtain ⟨b0, b1, b2, b3, b4, b5, b6⟩ := k1.1
    obtain ⟨w', a1, a2, a3⟩ := m_loses (F := F) (w := w1) hF k1
    cases F with
    | zero => omega
    | succ F =>
      refine ⟨w', ?_, by rw [a2, whAllT_eq, if_neg hc], f1.trans a3⟩
      show f_X11_ticks_b22_b (F + 1) 210 (f_X11_ticks_b22 (F + 1) 210 F) 0 w1 = _
      unfold f_X11_ticks_b22_b
      simp (disch := omega) only [m0, n0, gd_t, tm]
      rw [if_neg (by omega), if_pos (by omega), a1, bs]
theorem goT_WF {r : Row} (hW : WF r) : ∀ n : Nat, r 3 + n ≤ 20000 → WF (goT r n) ∧ goT r n 3 = r 3 + n ∧ SameW r (goT r n) ∧ r 2 ≤ goT r n 2 := by
  intro n
  induction n with
  | zero => intro _; exact ⟨hW, by show r 3 = r 3 + 0; omega, SameW.refl r, Int.le_refl _⟩
  | succ n ih =>
    intro hn
    obtain ⟨h1, h2, h3, h4⟩ := ih (by omega)
    have e : goT r (n + 1) = tickT (goT r n) := rfl
    rw [e]
    obtain ⟨a1, a2, a3, a4⟩ := WF_tick h1 (by omega)
    exact ⟨a1, by omega, h3.trans a3, by omega⟩
theorem m_goes {F : Nat} {w : aI} {t : Int} (hF : 10010 ≤ F) (hW : WF (w 211)) (ht : 0 ≤ t ∧ t ≤ 300) (h3 : w 211 3 + t ≤ 20000) : ∃ w', f_X11_goes F 210 t w = some (goT (w 211) t.toNat 15 - w 211 15, w') ∧ w' 211 = goT (w 211) t.toNat ∧ Fm w w' := by
  have key : ∀ (n i : Nat) (w1 : aI), (i : Int) ≤ t → t - i < n → w1 211 = goT (w 211) i → Fm w w1 → ∃ w', f_X11_goes_b10 F 210 t n (w 211 15) i w1 = some (goT (w 211) t.toNat 15 - w 211 15, w') ∧ w' 211 = goT (w 211) t.toNat ∧ Fm w w' := by
    intro n
    induction n with
    | zero => intro i w1 i1 i2; omega
    | succ n ih =>
      intro i w1 i1 i2 e1 f1
      show ∃ w', f_X11_goes_b10_b F 210 t (f_X11_goes_b10 F 210 t n) _ _ _ = _ ∧ _
      unfold f_X11_goes_b10_b
      rw [gd_t (by omega)]
      by_cases c : t ≤ i
      · rw [if_pos c, m0, n0, gd_t (by omega)]
        have e : i = t.toNat := by omega
        rw [← e, ← e1]
        exact ⟨w1, rfl, rfl, f1⟩
      · rw [if_neg c]
        obtain ⟨h1, h2, h4, -⟩ := goT_WF hW i (by omega)
        obtain ⟨w2, g1, g2, g3⟩ := m_ticks (F := F) (w := w1) hF (by rw [e1]; exact h1) (by rw [e1, h2]; omega)
        rw [g1, bs]
        exact ih (i + 1) w2 (by omega) (by omega) (by rw [g2, e1]; rfl) (f1.trans g3)
  unfold f_X11_goes
  simp (disch := omega) only [m0, n0, gd_t, ltI]
  exact key F 0 w (by omega) (by omega) rfl (Fm.refl w)
