/-! ===== a roof, a way, a setting more ===== -/
def wayA (r : Row) (a b far : Int) : Row := fun k => if k = 160 + 3 * r 1 then a else if k = 160 + 3 * r 1 + 1 then b else if k = 160 + 3 * r 1 + 2 then far else if k = 1 then r 1 + 1 else r k
theorem wayA_at {r : Row} {a b far : Int} (h : 0 ≤ r 1) : wayA r a b far 1 = r 1 + 1 ∧ wayA r a b far (160 + 3 * r 1) = a ∧ wayA r a b far (160 + 3 * r 1 + 1) = b ∧ wayA r a b far (160 + 3 * r 1 + 2) = far ∧ ∀ k, (k < 160 + 3 * r 1 ∨ 160 + 3 * r 1 + 3 ≤ k) → ¬ k = 1 → wayA r a b far k = r k := by
  unfold wayA
  refine ⟨?_, ?_, ?_, ?_, fun k k0 k1 => ?_⟩
  · simp (disch := omega) only [if_pos, if_neg, if_true]
  · simp (disch := omega) only [if_pos, if_neg, if_true]
  · simp (disch := omega) only [if_pos, if_neg, if_true]
  · simp (disch := omega) only [if_pos, if_neg, if_true]
  · simp (disch := omega) only [if_pos, if_neg, if_true]
theorem wayA_DW {r : Row} {a b far : Int} (h : DW r) (h1 : r 1 < 20) (ha : 0 ≤ a ∧ a < r 0) (hb : 0 ≤ b ∧ b < r 0) (hab : ¬ a = b) (hf : 1 ≤ far ∧ far ≤ 9) (hn : wayB r a b = -1) : DW (wayA r a b far) := by
  obtain ⟨b0, b1, b2, b4, b5, b6, hr, hw, hz, hs, hZ⟩ := h
  have nb : ∀ i, 0 ≤ i → i < r 1 → ¬ En2 r i a b := fun i i0 i1 e => by
    have := wayB_of hw b1.1 i0 i1 e
    omega
  obtain ⟨a1, qa, qb, qf, o⟩ := wayA_at (r := r) (a := a) (b := b) (far := far) b1.1
  generalize wayA r a b far = q at *
  have e0 := o 0 (by omega) (by omega)
  have e2 := o 2 (by omega) (by omega)
  have e3 := o 3 (by omega) (by omega)
  have e4 := o 4 (by omega) (by omega)
  have e5 := o 5 (by omega) (by omega)
  have e6 := o 6 (by omega) (by omega)
  have en : ∀ i x y, 0 ≤ i → i < r 1 → (En2 q i x y ↔ En2 r i x y) := fun i x y i0 i1 => by
    unfold En2
    rw [o (160 + 3 * i) (by omega) (by omega), o (160 + 3 * i + 1) (by omega) (by omega)]
  have en2 : ∀ x y, En2 q (r 1) x y → (x = a ∧ y = b) ∨ (x = b ∧ y = a) := fun x y e => by
    unfold En2 at e
    rw [qa, qb] at e
    omega
  refine ⟨by omega, by omega, by omega, by omega, by omega, by omega, fun x x0 x1 => Wx_congr (r := r) (by omega) (fun k k0 k1 => o k (by omega) (by omega)) (hr x x0 (by omega)), ⟨fun i i0 i1 => ?_, fun i j x y i0 i1 j0 j1 ex ey => ?_⟩, fun k k0 k1 => by rw [o k (by omega) (by omega)]; exact hz k k0 k1, ?_, fun k k0 k1 => by rw [o k (by omega) (by omega)]; exact hZ k (by omega) k1⟩
  · by_cases c : i = r 1
    · subst c
      rw [qa, qb, qf, e0]
      exact ⟨ha, hb, hab, hf⟩
    · have a := hw.1 i i0 (by omega)
      rw [o (160 + 3 * i) (by omega) (by omega), o (160 + 3 * i + 1) (by omega) (by omega), o (160 + 3 * i + 2) (by omega) (by omega), e0]
      exact a
  · by_cases ci : i = r 1
    · by_cases cj : j = r 1
      · omega
      · subst ci
        have e := (en j x y j0 (by omega)).mp ey
        rcases en2 x y ex with ⟨q1, q2⟩ | ⟨q1, q2⟩
        · rw [q1, q2] at e; exact absurd e (nb j j0 (by omega))
        · rw [q1, q2] at e; exact absurd e.sym (nb j j0 (by omega))
    · by_cases cj : j = r 1
      · subst cj
        have e := (en i x y i0 (by omega)).mp ex
        rcases en2 x y ey with ⟨q1, q2⟩ | ⟨q1, q2⟩
        · rw [q1, q2] at e; exact absurd e (nb i i0 (by omega))
        · rw [q1, q2] at e; exact absurd e.sym (nb i i0 (by omega))
      · exact hw.2 i j x y i0 (by omega) j0 (by omega) ((en i x y i0 (by omega)).mp ex) ((en j x y j0 (by omega)).mp ey)
  · rw [e0, o 7 (by omega) (by omega), ← hs]
    exact sm_congr fun x x0 x1 => o _ (by omega) (by omega)
theorem m_newWay {F : Nat} {v : aI} {r : Row} {a b far : Int} (h1 : v 211 = r) (b1 : 0 ≤ r 1 ∧ r 1 < 20) : f_X11_newWay F 210 a b far v = some (stc v 211 (wayA r a b far)) := by
  unfold f_X11_newWay
  rw [m0, n0, gd_t (by omega), h1, m_w, bs, gd_t (by omega), ltm, is_stc, h1, gd_t (by omega), stc_eq, rs_ne (show ¬ (1 : Int) = 160 + 3 * r 1 by omega), m_w, bs, gd_t (by omega), ltm, is_st, gd_t (by omega), stc_eq, rs_ne (show ¬ (1 : Int) = 160 + 3 * r 1 + 1 by omega), rs_ne (show ¬ (1 : Int) = 160 + 3 * r 1 by omega), m_w, bs, gd_t (by omega), ltm, is_st, gd_t (by omega), gd_t (by omega), ltm, stc_eq, is_st]
  congr 2
  funext k
  unfold wayA
  by_cases k1 : k = 1
  · rw [k1, rs_self, rs_ne (by omega), rs_ne (by omega), rs_ne (by omega)]
    simp (disch := omega) only [if_pos, if_neg, if_true]
  · rw [rs_ne k1]
    by_cases k2 : k = 160 + 3 * r 1 + 2
    · rw [k2, rs_self]
      simp (disch := omega) only [if_pos, if_neg, if_true]
    · rw [rs_ne k2]
      by_cases k3 : k = 160 + 3 * r 1 + 1
      · rw [k3, rs_self]
        simp (disch := omega) only [if_pos, if_neg, if_true]
      · rw [rs_ne k3, rs_def, if_neg k3, if_neg k2, if_neg k1]
section CAdd
variable {F : Nat} {b : Nat} {u : aI} {r : Row}
theorem putX' (hP : Pb b) {f : Int → Int} (hK : TOK (stc u (b + 2) f) b) {i j v : Int} (hi : 0 ≤ i ∧ i < 10) (hj : 0 ≤ j ∧ j < 8) : f_X7_put F (b + 1) i j v (stc u (b + 2) f) = some (stc u (b + 2) (rs f (8 * i + j) v)) := by
  rw [putX hP hK hi hj, stc_stc, stc_eq]
theorem putW' (hP : Pb b) {f : Int → Int} (hK : TOK (stc u (b + 4) f) b) {i j v : Int} (hi : 0 ≤ i ∧ i < 20) (hj : 0 ≤ j ∧ j < 3) : f_X7_put F (b + 3) i j v (stc u (b + 4) f) = some (stc u (b + 4) (rs f (3 * i + j) v)) := by
  rw [putW hP hK hi hj, stc_stc, stc_eq]
theorem c_addRoof {l : Int} {f : Int → Int} {br ea fe pu : Int} (hP : Pb b) (h : DR u b r) (hW : DW r) (h0 : r 0 < 10) (hf : Lt l f) (hpu : 0 ≤ pu ∧ pu ≤ 999) : ∃ u', f_X2_addRoof F b (nm l f) br ea fe pu u = some u' ∧ DR u' b (roofA r l f br ea fe pu) ∧ Fc b u u' := by
  obtain ⟨hK, ⟨d0, d1, d2, d3⟩, dS, dA, dX, dW⟩ := h
  obtain ⟨b0, b1, b2, b4, b5, b6, hr, hw, hz, hs, hZ⟩ := hW
  have K1 : ∀ f, TOK (stc u (b + 2) f) b := fun f => hK.stc (by omega)
  unfold f_X2_addRoof
  rw [d1, lti, pf4 hP, putX hP hK (by omega) (by omega), bs, putX' hP (K1 _) (by omega) (by omega), bs, putX' hP (K1 _) (by omega) (by omega), bs, putX' hP (K1 _) (by omega) (by omega), bs, putX' hP (K1 _) (by omega) (by omega), bs, putX' hP (K1 _) (by omega) (by omega), bs, putX' hP (K1 _) (by omega) (by omega), bs, putX' hP (K1 _) (by omega) (by omega), bs, ltm, stc_ne (show ¬ b = b + 2 by omega), d1]
  obtain ⟨g, hg⟩ : ∃ g, g = rs (rs (rs (rs (rs (rs (rs (rs (u (b + 2)) (8 * r 0 + 5) (nm l f)) (8 * r 0 + 0) br) (8 * r 0 + 1) ea) (8 * r 0 + 2) fe) (8 * r 0 + 3) pu) (8 * r 0 + 6) pu) (8 * r 0 + 4) 0) (8 * r 0 + 7) 0 := ⟨_, rfl⟩
  rw [← hg]
  have go : ∀ k, (k < 8 * r 0 ∨ 8 * r 0 + 8 ≤ k) → g k = u (b + 2) k := fun k hk => by
    rw [hg, rs_ne (by omega), rs_ne (by omega), rs_ne (by omega), rs_ne (by omega), rs_ne (by omega), rs_ne (by omega), rs_ne (by omega), rs_ne (by omega)]
  have g0 : g (8 * r 0) = br := by
    rw [hg, rs_ne (by omega), rs_ne (by omega), rs_ne (by omega), rs_ne (by omega), rs_ne (by omega), rs_ne (by omega), Int.add_zero, rs_self]
  have g1 : g (8 * r 0 + 1) = ea := by
    rw [hg, rs_ne (by omega), rs_ne (by omega), rs_ne (by omega), rs_ne (by omega), rs_ne (by omega), rs_self]
  have g2 : g (8 * r 0 + 2) = fe := by
    rw [hg, rs_ne (by omega), rs_ne (by omega), rs_ne (by omega), rs_ne (by omega), rs_self]
  have g3 : g (8 * r 0 + 3) = pu := by
    rw [hg, rs_ne (by omega), rs_ne (by omega), rs_ne (by omega), rs_self]
  have g4 : g (8 * r 0 + 4) = 0 := by
    rw [hg, rs_ne (by omega), rs_self]
  have g5 : g (8 * r 0 + 5) = nm l f := by
    rw [hg, rs_ne (by omega), rs_ne (by omega), rs_ne (by omega), rs_ne (by omega), rs_ne (by omega), rs_ne (by omega), rs_ne (by omega), rs_self]
  have g6 : g (8 * r 0 + 6) = pu := by
    rw [hg, rs_ne (by omega), rs_ne (by omega), rs_self]
  have g7 : g (8 * r 0 + 7) = 0 := by
    rw [hg, rs_self]
  clear hg
  refine ⟨_, rfl, ?_, fun a ha => by rw [is_ne (by omega), stc_ne (by omega)]⟩
  obtain ⟨w, hw2⟩ : ∃ w, w = iset (stc u (b + 2) g) b 1 (r 0 + 1) := ⟨_, rfl⟩
  rw [← hw2]
  have wb : w b = rs (u b) 1 (r 0 + 1) := by rw [hw2, is_eq, stc_ne (by omega)]
  have w2 : w (b + 2) = g := by rw [hw2, is_ne (by omega), stc_eq]
  have wo : ∀ a, ¬ a = b → ¬ a = b + 2 → w a = u a := fun a a0 a1 => by rw [hw2, is_ne a0, stc_ne a1]
  clear hw2
  obtain ⟨a0, a7, aL, aF, q7, q8, q9, q10, q11, q12, o⟩ := roofA_at (r := r) (f := f) (br := br) (ea := ea) (fe := fe) (pu := pu) b0.1 hf.1
  have hl := hf.1
  generalize roofA r l f br ea fe pu = q at *
  refine ⟨?_, ?_, ?_, ?_, ⟨fun x x0 x1 => ?_, ?_⟩, fun i i0 i1 => ?_⟩
  · unfold TOK at hK ⊢
    rw [wo (b + 1) (by omega) (by omega), wo (b + 3) (by omega) (by omega), wo (b + 5) (by omega) (by omega), wo (b + 7) (by omega) (by omega), wo (b + 9) (by omega) (by omega), wo (b + 12) (by omega) (by omega), wo (b + 14) (by omega) (by omega), wo (b + 16) (by omega) (by omega)]
    exact hK
  · rw [wb, rs_ne (by omega), rs_self, rs_ne (by omega), rs_ne (by omega), a0, o 1 (by omega) (by omega) (by omega)]
    exact ⟨d0, rfl, d2, d3⟩
  · unfold RepS
    rw [wo (b + 8) (by omega) (by omega), o 4 (by omega) (by omega) (by omega), o 5 (by omega) (by omega) (by omega), o 6 (by omega) (by omega) (by omega)]
    exact dS
  · intro k k0 k1
    rw [wo (b + 10) (by omega) (by omega)]; exact dA k k0 k1
  · by_cases c : x = r 0
    · subst c
      have z11 := hZ (25 + 13 * r 0 + 11) (by omega) (by omega)
      have z12 := hZ (25 + 13 * r 0 + 12) (by omega) (by omega)
      unfold RX nmR
      rw [w2, g0, g1, g2, g3, g4, g5, g6, g7, q7, q8, q9, q10, q11, q12, z11, z12, aL]
      refine ⟨rfl, rfl, rfl, rfl, rfl, ?_, rfl, hpu⟩
      have t : ∀ j : Int, 0 ≤ j → (if j < l then f j - 96 else 0) = (if j < l then q (25 + 13 * r 0 + 1 + j) - 96 else 0) := fun j j0 => by
        split
        · rw [aF j j0 (by assumption)]
        · rfl
      unfold nm
      rw [t 0 (by decide), t 1 (by decide), t 2 (by decide), t 3 (by decide), t 4 (by decide), t 5 (by decide)]
    · exact RX_congr (fun k _ _ => by rw [w2, go k (by omega)]) (fun k c d => o k (by omega) (by omega) (by omega)) (dX.1 x x0 (by omega))
  · have hN : (q 0).toNat = (r 0).toNat + 1 := by omega
    have hc : ((r 0).toNat : Int) = r 0 := by omega
    rw [hN, sm, hc, w2, g6, a7, ← dX.2]
    congr 1
    exact sm_congr fun x x0 x1 => go _ (by omega)
  · rw [o 1 (by omega) (by omega) (by omega)] at i1
    rw [wo (b + 4) (by omega) (by omega), o (160 + 3 * i) (by omega) (by omega) (by omega), o (160 + 3 * i + 1) (by omega) (by omega) (by omega), o (160 + 3 * i + 2) (by omega) (by omega) (by omega)]
    exact dW i i0 i1
theorem c_addWay {x y far : Int} (hP : Pb b) (h : DR u b r) (hW : DW r) (h1 : r 1 < 20) : ∃ u', f_X2_addWay F b x y far u = some u' ∧ DR u' b (wayA r x y far) ∧ Fc b u u' := by
  obtain ⟨hK, ⟨d0, d1, d2, d3⟩, dS, dA, dX, dW⟩ := h
  obtain ⟨b0, b1, b2, b4, b5, b6, hr, hw, hz, hs, hZ⟩ := hW
  have K1 : ∀ f, TOK (stc u (b + 4) f) b := fun f => hK.stc (by omega)
  have nb : ∀ f, stc u (b + 4) f b = u b := fun f => stc_ne (by omega)
  unfold f_X2_addWay
  rw [d2, pf5 hP, putW hP hK (by omega) (by omega), bs, nb, d2, putW' hP (K1 _) (by omega) (by omega), bs, nb, d2, putW' hP (K1 _) (by omega) (by omega), bs, ltm, nb, d2]
  obtain ⟨g, hg⟩ : ∃ g, g = rs (rs (rs (u (b + 4)) (3 * r 1 + 0) x) (3 * r 1 + 1) y) (3 * r 1 + 2) far := ⟨_, rfl⟩
  rw [← hg]
  have go : ∀ k, (k < 3 * r 1 ∨ 3 * r 1 + 3 ≤ k) → g k = u (b + 4) k := fun k hk => by
    rw [hg, rs_ne (by omega), rs_ne (by omega), rs_ne (by omega)]
  have g0 : g (3 * r 1) = x := by rw [hg, rs_ne (by omega), rs_ne (by omega), Int.add_zero, rs_self]
  have g1 : g (3 * r 1 + 1) = y := by rw [hg, rs_ne (by omega), rs_self]
  have g2 : g (3 * r 1 + 2) = far := by rw [hg, rs_self]
  clear hg
  refine ⟨_, rfl, ?_, fun a ha => by rw [is_ne (by omega), stc_ne (by omega)]⟩
  obtain ⟨w, hw2⟩ : ∃ w, w = iset (stc u (b + 4) g) b 2 (r 1 + 1) := ⟨_, rfl⟩
  rw [← hw2]
  have wb : w b = rs (u b) 2 (r 1 + 1) := by rw [hw2, is_eq, stc_ne (by omega)]
  have w4 : w (b + 4) = g := by rw [hw2, is_ne (by omega), stc_eq]
  have wo : ∀ a, ¬ a = b → ¬ a = b + 4 → w a = u a := fun a a0 a1 => by rw [hw2, is_ne a0, stc_ne a1]
  clear hw2
  obtain ⟨a1, qa, qb, qf, o⟩ := wayA_at (r := r) (a := x) (b := y) (far := far) b1.1
  generalize wayA r x y far = q at *
  refine ⟨?_, ?_, ?_, ?_, ⟨fun x x0 x1 => ?_, ?_⟩, fun i i0 i1 => ?_⟩
  · unfold TOK at hK ⊢
    rw [wo (b + 1) (by omega) (by omega), wo (b + 3) (by omega) (by omega), wo (b + 5) (by omega) (by omega), wo (b + 7) (by omega) (by omega), wo (b + 9) (by omega) (by omega), wo (b + 12) (by omega) (by omega), wo (b + 14) (by omega) (by omega), wo (b + 16) (by omega) (by omega)]
    exact hK
  · rw [wb, rs_ne (by omega), rs_ne (by omega), rs_self, rs_ne (by omega), a1, o 0 (by omega) (by omega)]
    exact ⟨d0, d1, rfl, d3⟩
  · unfold RepS
    rw [wo (b + 8) (by omega) (by omega), o 4 (by omega) (by omega), o 5 (by omega) (by omega), o 6 (by omega) (by omega)]
    exact dS
  · intro k k0 k1
    rw [wo (b + 10) (by omega) (by omega)]; exact dA k k0 k1
  · rw [o 0 (by omega) (by omega)] at x1
    exact RX_congr (fun k _ _ => by rw [wo (b + 2) (by omega) (by omega)]) (fun k c d => o k (by omega) (by omega)) (dX.1 x x0 x1)
  · rw [wo (b + 2) (by omega) (by omega), o 0 (by omega) (by omega), o 7 (by omega) (by omega)]; exact dX.2
  · by_cases c : i = r 1
    · subst c
      rw [w4, g0, g1, g2, qa, qb, qf]
      exact ⟨rfl, rfl, rfl⟩
    · rw [w4, go _ (by omega), go _ (by omega), go _ (by omega), o (160 + 3 * i) (by omega) (by omega), o (160 + 3 * i + 1) (by omega) (by omega), o (160 + 3 * i + 2) (by omega) (by omega)]
      exact dW i i0 (by omega)
theorem setT_DW {v k : Int} (h : DW r) (hv : 8 ≤ v ∧ v ≤ 10) (h1 : (v = 8 → k ≤ 9) ∧ (v = 9 → 1 ≤ k ∧ k ≤ 60) ∧ (v = 10 → k ≤ 3) ∧ 0 ≤ k) : DW (setT r v k) := by
  obtain ⟨b0, b1, b2, b4, b5, b6, hr, hw, hz, hs, hZ⟩ := h
  have o : ∀ j, ¬ j = v - 4 → setT r v k j = r j := fun j h => by unfold setT; rw [rs_ne h]
  have p : setT r v k (v - 4) = k := by unfold setT; rw [rs_self]
  generalize setT r v k = q at o p
  have e0 := o 0 (by omega)
  have e1 := o 1 (by omega)
  have e2 := o 2 (by omega)
  have e3 := o 3 (by omega)
  have e7 := o 7 (by omega)
  have hS : (0 ≤ q 4 ∧ q 4 ≤ 9) ∧ (1 ≤ q 5 ∧ q 5 ≤ 60) ∧ 0 ≤ q 6 ∧ q 6 ≤ 3 := by
    have hv' : v = 8 ∨ v = 9 ∨ v = 10 := by omega
    rcases hv' with e | e | e <;> subst e
    · have o5 := o 5 (by omega)
      have o6 := o 6 (by omega)
      rw [show (8 : Int) - 4 = 4 from rfl] at p
      omega
    · have o4 := o 4 (by omega)
      have o6 := o 6 (by omega)
      rw [show (9 : Int) - 4 = 5 from rfl] at p
      omega
    · have o4 := o 4 (by omega)
      have o5 := o 5 (by omega)
      rw [show (10 : Int) - 4 = 6 from rfl] at p
      omega
  have hSW : SameW r q := ⟨e0, e1, fun k k0 k1 => o k (by omega)⟩
  refine ⟨by omega, by omega, by omega, hS.1, hS.2.1, hS.2.2, fun x x0 x1 => Wx_congr (r := r) (by omega) (fun k k0 k1 => o k (by omega)) (hr x x0 (by omega)), hSW.ww b1.2 hw, fun k k0 k1 => by rw [o k (by omega)]; exact hz k k0 k1, ?_, fun k k0 k1 => by rw [o k (by omega)]; exact hZ k (by omega) k1⟩
  rw [e0, e7, ← hs]
  exact sm_congr fun x x0 x1 => o _ (by omega)
theorem c_settleD {v k : Int} (hP : Pb b) (h : DR u b r) (h0 : r 0 ≤ 10) (h1 : r 1 ≤ 20) (hv : 8 ≤ v ∧ v ≤ 10) : ∃ u', f_X2_settle F b v k u = some u' ∧ DR u' b (setT r v k) ∧ Fc b u u' := by
  obtain ⟨hK, ⟨d0, d1, d2, d3⟩, dS, dA, dX, dW⟩ := h
  unfold f_X2_settle
  rw [pf7 hP, putS hP hK (by omega), bs]
  refine ⟨_, rfl, ?_, (Fc.refl b u).stc _ (by omega)⟩
  have o : ∀ j, ¬ j = v - 4 → setT r v k j = r j := fun j h => by unfold setT; rw [rs_ne h]
  have p : setT r v k (v - 4) = k := by unfold setT; rw [rs_self]
  generalize setT r v k = q at o p
  obtain ⟨w, e⟩ : ∃ w, w = stc u (b + 8) (rs (u (b + 8)) (v - 8) k) := ⟨_, rfl⟩
  rw [← e]
  have e8 : w (b + 8) = rs (u (b + 8)) (v - 8) k := by rw [e, stc_eq]
  have eo : ∀ a, ¬ a = b + 8 → w a = u a := fun a a0 => by rw [e, stc_ne a0]
  have Kw : TOK w b := by rw [e]; exact hK.stc (by omega)
  clear e
  obtain ⟨s0, s1, s2⟩ := dS
  refine ⟨Kw, ?_, ?_, ?_, ⟨fun x x0 x1 => ?_, ?_⟩, fun i i0 i1 => ?_⟩
  · rw [eo b (by omega), o 0 (by omega), o 1 (by omega)]; exact ⟨d0, d1, d2, d3⟩
  · have hv' : v = 8 ∨ v = 9 ∨ v = 10 := by omega
    unfold RepS
    rw [e8]
    rcases hv' with e | e | e <;> subst e
    · rw [show (8 : Int) - 8 = 0 from rfl, rs_self, rs_ne (by omega), rs_ne (by omega), s1, s2, o 5 (by omega), o 6 (by omega)]
      exact ⟨p.symm, rfl, rfl⟩
    · rw [show (9 : Int) - 8 = 1 from rfl, rs_self, rs_ne (by omega), rs_ne (by omega), s0, s2, o 4 (by omega), o 6 (by omega)]
      exact ⟨rfl, p.symm, rfl⟩
    · rw [show (10 : Int) - 8 = 2 from rfl, rs_self, rs_ne (by omega), rs_ne (by omega), s0, s1, o 4 (by omega), o 5 (by omega)]
      exact ⟨rfl, rfl, p.symm⟩
  · intro j j0 j1
    rw [eo _ (by omega)]; exact dA j j0 j1
  · rw [o 0 (by omega)] at x1
    exact RX_congr (fun j _ _ => by rw [eo _ (by omega)]) (fun j c d => o j (by omega)) (dX.1 x x0 x1)
  · rw [eo _ (by omega), o 0 (by omega), o 7 (by omega)]; exact dX.2
  · rw [o 1 (by omega)] at i1
    rw [eo _ (by omega), o _ (by omega), o _ (by omega), o _ (by omega)]
    exact dW i i0 i1
end CAdd
