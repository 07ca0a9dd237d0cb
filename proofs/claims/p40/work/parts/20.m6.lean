/-! ===== the reference: a tune comes ===== -/
theorem m_wrong {F : Nat} {w : aI} {wind far x n : Int} (hx : 0 ≤ x ∧ x < 10) (hw : 0 ≤ wind ∧ wind ≤ 9) (hf : 0 ≤ far ∧ far ≤ 9) (hn : rg n) (he : 0 ≤ w 211 (25 + 13 * x + 8) ∧ w 211 (25 + 13 * x + 8) ≤ 9) : f_X11_wrongBy F 210 wind far x n w = some (wrg (w 211) wind far x n) := by
  have hm : 0 ≤ wind * far ∧ wind * far ≤ 81 := by
    have h1 := Int.mul_nonneg hw.1 hf.1
    have h2 : wind * far ≤ 9 * 9 := Int.mul_le_mul hw.2 hf.2 hf.1 (by decide)
    omega
  unfold f_X11_wrongBy wrg
  generalize wind * far = p at hm ⊢
  simp (disch := omega) only [m_r, bs, m0, n0, gd_t, td]
theorem wrg_bd {r : Row} {wind far x n : Int} (hn : 0 ≤ n) : 0 ≤ wrg r wind far x n ∧ wrg r wind far x n ≤ n := by
  unfold wrg
  omega
theorem mod_at {n : Int} (hn : 1 ≤ n ∧ n ≤ 8) (i v k : Int) (hv : 0 ≤ v ∧ v < n) (hk : 0 ≤ k ∧ k < n) : (k - i) % n = v ↔ k = (i + v) % n := by
  have h : n = 1 ∨ n = 2 ∨ n = 3 ∨ n = 4 ∨ n = 5 ∨ n = 6 ∨ n = 7 ∨ n = 8 := by omega
  rcases h with h | h | h | h | h | h | h | h <;> subst h <;> omega
theorem mod_rg {n : Int} (hn : 1 ≤ n ∧ n ≤ 8) (a : Int) : 0 ≤ a % n ∧ a % n < n := ⟨Int.emod_nonneg _ (by omega), Int.emod_lt_of_pos _ (by omega)⟩
theorem m_blurs {F : Nat} {w : aI} {i : Int} (hF : 100 ≤ F) (hb : Wb (w 211)) (hr : Wr (w 211)) (ht : Wt (w 211)) (hi : 0 ≤ i ∧ i < w 211 2) : f_X11_blurs F 210 i w = some (stc w 211 (blurT (w 211) i)) := by
  obtain ⟨b0, b1, b2, b3, b4, b5, b6⟩ := hb
  obtain ⟨y0, y1, y2, y3, y4, y5, y6, y7, y8, y9, y10, y11, y12, y13, y14, y15⟩ := ht i hi.1 hi.2
  have he := (hr _ y5.1 y5.2).2.2.2.1
  have hwr := wrg_bd (r := w 211) (wind := w 211 4) (far := w 211 (220 + 27 * i + 10)) (x := w 211 (220 + 27 * i + 4)) (n := w 211 (220 + 27 * i + 2)) (by omega)
  generalize hW : wrg (w 211) (w 211 4) (w 211 (220 + 27 * i + 10)) (w 211 (220 + 27 * i + 4)) (w 211 (220 + 27 * i + 2)) = W at hwr
  generalize hN : w 211 (220 + 27 * i + 2) = N at y3 hwr hW
  have key : ∀ (n : Nat) (v : Int), 0 ≤ v → v ≤ W → W - v < n → f_X11_blurs_b47 F 210 i n (220 + 27 * i) N W v (stc w 211 (fun k => if 220 + 27 * i + 19 ≤ k ∧ k < 220 + 27 * i + 19 + N ∧ (k - (220 + 27 * i + 19) - i) % N < v then (w 211 k + 1) % 8 else w 211 k)) = some (stc w 211 (blurT (w 211) i)) := by
    intro n
    induction n with
    | zero => intro v v0 v1 v2; omega
    | succ n ih =>
      intro v v0 v1 v2
      show f_X11_blurs_b47_b F 210 i (f_X11_blurs_b47 F 210 i n) _ _ _ _ _ = _
      unfold f_X11_blurs_b47_b
      by_cases c : W ≤ v
      · have e : v = W := by omega
        subst e
        rw [gd_t (by omega), if_pos c, m_counts F v _ (by omega), bs, stc_eq, stc_stc]
        congr 2
        funext k
        unfold blurT
        rw [hN, hW]
        rw [rs_def]
        by_cases ck : k = 14
        · subst ck
          simp (disch := omega) only [if_neg, if_pos]
          rfl
        · rw [if_neg (show ¬ k = 10 + 4 by omega), if_neg ck]
      · have hp := mod_rg (n := N) y3 (i + v)
        have h9 := ih (v + 1) (by omega) (by omega) (by omega)
        have hcell := y12 (220 + 27 * i + 19 + (i + v) % N) (by omega) (by omega)
        have hme := (mod_at (n := N) y3 i v ((i + v) % N) (by omega) hp).mpr rfl
        have hsub : 220 + 27 * i + 19 + (i + v) % N - (220 + 27 * i + 19) = (i + v) % N := by omega
        rw [gd_t (by omega), if_neg c, gd_t (by omega), gd_t (by omega)]
        unfold ltI
        rw [tm N (show 0 ≤ i + v by omega)]
        have er : (fun k => if 220 + 27 * i + 19 ≤ k ∧ k < 220 + 27 * i + 19 + N ∧ (k - (220 + 27 * i + 19) - i) % N < v then (w 211 k + 1) % 8 else w 211 k) (220 + 27 * i + 19 + (i + v) % N) = w 211 (220 + 27 * i + 19 + (i + v) % N) := by
          show (if _ then _ else _) = _
          rw [hsub, hme, if_neg (by omega)]
        simp (disch := omega) only [m0, n0, stc_eq, er, gd_t, ltM, is_stc, stc_stc, tm]
        rw [← h9]
        congr 2
        funext k
        rw [rs_def]
        by_cases ck : k = 220 + 27 * i + 19 + (i + v) % N
        · subst ck
          rw [if_pos rfl, hsub, hme, if_pos (by omega)]
        · rw [if_neg ck]
          refine ite_iff ?_
          by_cases cr : 220 + 27 * i + 19 ≤ k ∧ k < 220 + 27 * i + 19 + N
          · have hm2 := mod_at (n := N) y3 i v (k - (220 + 27 * i + 19)) (by omega) (by omega)
            have : ¬ (k - (220 + 27 * i + 19) - i) % N = v := fun h => ck (by have := hm2.mp h; omega)
            omega
          · omega
  unfold f_X11_blurs
  simp (disch := omega) only [m_t, bs, m0, n0, hN, gd_t, ltI]
  rw [m_wrong (by omega) (by omega) (by omega) (by omega) (by omega), bs, hW]
  have h9 := key F 0 (by omega) (by omega) (by omega)
  have e : stc w 211 (fun k => if 220 + 27 * i + 19 ≤ k ∧ k < 220 + 27 * i + 19 + N ∧ (k - (220 + 27 * i + 19) - i) % N < 0 then (w 211 k + 1) % 8 else w 211 k) = w := by
    have : (fun k => if 220 + 27 * i + 19 ≤ k ∧ k < 220 + 27 * i + 19 + N ∧ (k - (220 + 27 * i + 19) - i) % N < 0 then (w 211 k + 1) % 8 else w 211 k) = w 211 := by
      funext k
      refine if_neg fun h => ?_
      have := mod_rg (n := N) y3 (k - (220 + 27 * i + 19) - i)
      omega
    rw [this, stc_self]
  rw [e] at h9
  exact h9
theorem m_replies {F : Nat} {w : aI} {i : Int} (hF : 100 ≤ F) (h2 : 0 ≤ w 211 2 ∧ w 211 2 ≤ 30) (hi : 0 ≤ i ∧ i < w 211 2) (y3 : 1 ≤ w 211 (220 + 27 * i + 2) ∧ w 211 (220 + 27 * i + 2) ≤ 8) (y7 : 0 ≤ w 211 (220 + 27 * i + 7) ∧ w 211 (220 + 27 * i + 7) ≤ 1) (y12 : ∀ k, 220 + 27 * i + 11 ≤ k → k < 220 + 27 * i + 27 → 0 ≤ w 211 k ∧ w 211 k ≤ 7) :
    ∃ w', f_X11_replies F 210 i w = some w' ∧ w' 211 = replyT (w 211) i ∧ Fm w w' := by
  unfold f_X11_replies replyT
  simp (disch := omega) only [m_t, bs, m0, n0, gd_t]
  have hu := cnt_le (fun j => !decide (w 211 (220 + 27 * i + 11 + j) = w 211 (220 + 27 * i + 19 + j))) (w 211 (220 + 27 * i + 2)).toNat
  have hU : 0 ≤ unl (w 211) i ∧ unl (w 211) i ≤ 8 := by unfold unl; omega
  by_cases c1 : w 211 (220 + 27 * i + 7) = 0
  · rw [if_pos c1, if_pos (Or.inl c1)]
    exact ⟨w, rfl, rfl, Fm.refl w⟩
  · rw [if_neg c1, m_unlike F hF w (by omega) y3 y12, bs, gd_t (by omega)]
    by_cases c2 : 0 < unl (w 211) i
    · rw [if_pos c2, if_pos (Or.inr (Or.inl c2))]
      exact ⟨w, rfl, rfl, Fm.refl w⟩
    · rw [if_neg c2]
      by_cases c3 : w 211 2 = 30
      · rw [if_pos c3, if_pos (Or.inr (Or.inr c3))]
        exact ⟨w, rfl, rfl, Fm.refl w⟩
      · rw [if_neg c3, if_neg (by omega)]
        simp (disch := omega) only [gd_t, ltM]
        generalize hw1 : iset w 210 11 (w 211 (220 + 27 * i + 2)) = w1
        have e1 : w1 211 = w 211 := by rw [← hw1]; exact is_ne (by decide)
        have e2 : w1 210 11 = w 211 (220 + 27 * i + 2) := by rw [← hw1, is_eq, rs_self]
        have f1 : Fm w w1 := by rw [← hw1]; exact (Fm.refl w).fld (by omega)
        have key : ∀ (n : Nat) (v : Int), 0 ≤ v → v ≤ w 211 (220 + 27 * i + 2) → w 211 (220 + 27 * i + 2) - v < n →
            ∃ w', f_X11_replies_b51 F 210 i n (220 + 27 * i) v (stc w1 217 (fun k => if 0 ≤ k ∧ k < v then w 211 (220 + 27 * i + 11 + w 211 (220 + 27 * i + 2) - 1 - k) else w1 217 k)) = some w' ∧ w' 211 = newT (w 211) (w 211 (220 + 27 * i + 1)) (w 211 (220 + 27 * i)) (w 211 (220 + 27 * i + 2)) (fun j => w 211 (220 + 27 * i + 11 + w 211 (220 + 27 * i + 2) - 1 - j)) 1 0 ∧ Fm w w' := by
          intro n
          induction n with
          | zero => intro v v0 v1 v2; omega
          | succ n ih =>
            intro v v0 v1 v2
            show ∃ w', f_X11_replies_b51_b F 210 i (f_X11_replies_b51 F 210 i n) _ _ _ = _ ∧ _
            unfold f_X11_replies_b51_b
            have g1 : ∀ f, stc w1 217 f 211 = w 211 := fun f => by rw [stc_ne (by decide)]; exact e1
            have g2 : ∀ f, stc w1 217 f 210 11 = w 211 (220 + 27 * i + 2) := fun f => by rw [stc_ne (by decide)]; exact e2
            by_cases c : w 211 (220 + 27 * i + 2) ≤ v
            · have e : v = w 211 (220 + 27 * i + 2) := by omega
              simp (disch := omega) only [g1, g2, m0, n0, gd_t, if_pos, Int.add_zero]
              rw [m_newTune hF (by rw [g1]; omega) (by rw [g2]; omega) (Or.inr rfl) (Or.inl rfl), bj]
              refine ⟨_, rfl, ?_, (f1.stc _ (by omega)).stc _ (by omega)⟩
              rw [stc_eq, g1, g2, stc_eq]
              exact newT_congr fun j j0 j1 => if_pos ⟨j0, by omega⟩
            · have h9 := ih (v + 1) (by omega) (by omega) (by omega)
              simp (disch := omega) only [g1, g2, m0, n0, m10, n10, gd_t, if_neg, ltM, stc_eq, is_stc, stc_stc]
              refine Eq.mp ?_ h9
              congr 1
              funext w'
              congr 4
              funext k
              rw [rs_def]
              by_cases ck : k = v
              · subst ck
                rw [if_pos rfl, if_pos (by omega)]
              · rw [if_neg ck]
                exact ite_iff (by omega)
        have h9 := key F 0 (by omega) (by omega) (by omega)
        have e : stc w1 217 (fun k => if 0 ≤ k ∧ k < 0 then w 211 (220 + 27 * i + 11 + w 211 (220 + 27 * i + 2) - 1 - k) else w1 217 k) = w1 := by
          have : (fun k => if 0 ≤ k ∧ k < 0 then w 211 (220 + 27 * i + 11 + w 211 (220 + 27 * i + 2) - 1 - k) else w1 217 k) = w1 217 := by
            funext k
            exact if_neg (by omega)
          rw [this, stc_self]
        rw [e] at h9
        exact h9
theorem unl_bd {r : Row} {i : Int} (h : 1 ≤ r (220 + 27 * i + 2) ∧ r (220 + 27 * i + 2) ≤ 8) : 0 ≤ unl r i ∧ unl r i ≤ 8 := by
  have hu := cnt_le (fun j => !decide (r (220 + 27 * i + 11 + j) = r (220 + 27 * i + 19 + j))) (r (220 + 27 * i + 2)).toNat
  unfold unl
  omega
theorem blurT_ne {r : Row} {i k : Int} (h : k < 220 + 27 * i + 19 ∨ 220 + 27 * i + 19 + r (220 + 27 * i + 2) ≤ k) (h14 : ¬ k = 14) : blurT r i k = r k := by
  unfold blurT
  rw [if_neg (by omega), if_neg h14]
theorem blurT_rg {r : Row} {i k : Int} (h14 : ¬ k = 14) (h : 0 ≤ r k ∧ r k ≤ 7) : 0 ≤ blurT r i k ∧ blurT r i k ≤ 7 := by
  unfold blurT
  split
  · omega
  · exact h
theorem unl_congr {r q : Row} {i : Int} (h2 : q (220 + 27 * i + 2) = r (220 + 27 * i + 2)) (h8 : r (220 + 27 * i + 2) ≤ 8) (h : ∀ k, 220 + 27 * i + 11 ≤ k → k < 220 + 27 * i + 27 → q k = r k) : unl q i = unl r i := by
  unfold unl
  rw [h2]
  refine cnt_congr fun j j0 j1 => ?_
  rw [h _ (by omega) (by omega), h _ (by omega) (by omega)]
theorem m_done {F : Nat} {w : aI} {i : Int} (hF : 100 ≤ F) (h2 : 0 ≤ w 211 2 ∧ w 211 2 ≤ 30) (hi : 0 ≤ i ∧ i < w 211 2) (y3 : 1 ≤ w 211 (220 + 27 * i + 2) ∧ w 211 (220 + 27 * i + 2) ≤ 8) (y7 : 0 ≤ w 211 (220 + 27 * i + 7) ∧ w 211 (220 + 27 * i + 7) ≤ 1) (y12 : ∀ k, 220 + 27 * i + 11 ≤ k → k < 220 + 27 * i + 27 → 0 ≤ w 211 k ∧ w 211 k ≤ 7) :
    ∃ w', f_X11_comes_b117 F 210 i (220 + 27 * i) w = some w' ∧ w' 211 = replyT (doneT (w 211) i) i ∧ Fm w w' := by
  unfold f_X11_comes_b117
  simp (disch := omega) only [m0, n0, gd_t, ltM, is_stc, m_counts, bs, stc_eq, stc_stc]
  generalize hR : rs (rs (w 211) (220 + 27 * i + 3) 2) (10 + 5) (rs (w 211) (220 + 27 * i + 3) 2 (10 + 5) + 1) = R
  have eR : ∀ k, ¬ k = 220 + 27 * i + 3 → ¬ k = 15 → R k = w 211 k := fun k h3 h5 => by
    rw [← hR, rs_ne (by omega), rs_ne h3]
  have eU : unl R i = unl (w 211) i := unl_congr (eR _ (by omega) (by omega)) y3.2 fun k k0 k1 => eR k (by omega) (by omega)
  have bU := unl_bd (r := w 211) (i := i) y3
  rw [m_unlike F hF _ (by omega) (by rw [stc_eq, eR _ (by omega) (by omega)]; exact y3) (fun k k0 k1 => by rw [stc_eq, eR k (by omega) (by omega)]; exact y12 k k0 k1), bs, stc_eq, eU, gd_t (by omega)]
  have fin : ∀ v, v = (if unl (w 211) i = 0 then (1 : Int) else 0) → (v = 0 ∨ v = 1) → ∃ w', (f_X11_one F v (stc w 211 R)).bind (fun r12 => (f_X11_replies F 210 i (stc w 211 (rs R (10 + 6) (R (10 + 6) + r12)))).bind (fun w14 => some w14)) = some w' ∧ w' 211 = replyT (doneT (w 211) i) i ∧ Fm w w' := by
    intro v hv h01
    rw [m_one F _ h01, bs]
    have hD : rs R (10 + 6) (R (10 + 6) + v) = doneT (w 211) i := by
      rw [eR (10 + 6) (by omega) (by omega), ← hR, hv]
      unfold doneT
      rw [rs_ne (by omega)]
      rfl
    rw [hD]
    have eD : ∀ k, ¬ k = 220 + 27 * i + 3 → ¬ k = 15 → ¬ k = 16 → doneT (w 211) i k = w 211 k := fun k h3 h5 h6 => by
      unfold doneT
      rw [rs_ne h6, rs_ne h5, rs_ne h3]
    obtain ⟨w', e, e1, e2⟩ := m_replies (F := F) (w := stc w 211 (doneT (w 211) i)) (i := i) hF (by rw [stc_eq, eD _ (by omega) (by omega) (by omega)]; exact h2) (by rw [stc_eq, eD _ (by omega) (by omega) (by omega)]; exact hi) (by rw [stc_eq, eD _ (by omega) (by omega) (by omega)]; exact y3) (by rw [stc_eq, eD _ (by omega) (by omega) (by omega)]; exact y7) (fun k k0 k1 => by rw [stc_eq, eD _ (by omega) (by omega) (by omega)]; exact y12 k k0 k1)
    rw [e, bs]
    rw [stc_eq] at e1
    exact ⟨w', rfl, e1, ((Fm.refl w).stc _ (by omega)).trans e2⟩
  by_cases c : unl (w 211) i = 0
  · rw [if_pos c]
    exact fin 1 (by rw [if_pos c]) (by omega)
  · rw [if_neg c]
    exact fin 0 (by rw [if_neg c]) (by omega)
theorem m_comes {F : Nat} {w : aI} {i : Int} (hF : 100 ≤ F) (hb : Wb (w 211)) (hr : Wr (w 211)) (ht : Wt (w 211)) (hi : 0 ≤ i ∧ i < w 211 2) :
    ∃ w', f_X11_comes F 210 i w = some w' ∧ w' 211 = comesT (w 211) i ∧ Fm w w' := by
  have hbl := m_blurs (F := F) hF hb hr ht hi
  obtain ⟨b0, b1, b2, b3, b4, b5, b6⟩ := hb
  obtain ⟨y0, y1, y2, y3, y4, y5, y6, y7, y8, y9, y10, y11, y12, y13, y14, y15⟩ := ht i hi.1 hi.2
  have bn : ∀ k, k < 220 + 27 * i + 19 → ¬ k = 14 → blurT (w 211) i k = w 211 k := fun k hk h14 => blurT_ne (Or.inl hk) h14
  have ln : ∀ k, k < 220 + 27 * i + 19 → ¬ k = 14 → ¬ k = 220 + 27 * i + 5 → ¬ k = 220 + 27 * i + 3 → landT (w 211) i k = w 211 k := fun k hk h14 h5 h3 => by
    unfold landT
    rw [rs_ne h3, rs_ne h5, bn k hk h14]
  have l12 : ∀ k, 220 + 27 * i + 11 ≤ k → k < 220 + 27 * i + 27 → 0 ≤ landT (w 211) i k ∧ landT (w 211) i k ≤ 7 := fun k k0 k1 => by
    unfold landT
    rw [rs_ne (by omega), rs_ne (by omega)]
    exact blurT_rg (by omega) (y12 k k0 k1)
  have e2 := ln (220 + 27 * i + 2) (by omega) (by omega) (by omega) (by omega)
  have e4 := ln (220 + 27 * i + 4) (by omega) (by omega) (by omega) (by omega)
  have e1 := ln (220 + 27 * i + 1) (by omega) (by omega) (by omega) (by omega)
  have e0 := ln (220 + 27 * i) (by omega) (by omega) (by omega) (by omega)
  have e8 := ln (220 + 27 * i + 8) (by omega) (by omega) (by omega) (by omega)
  have e7 := ln (220 + 27 * i + 7) (by omega) (by omega) (by omega) (by omega)
  have e6 := ln 6 (by omega) (by omega) (by omega) (by omega)
  have eT := ln 2 (by omega) (by omega) (by omega) (by omega)
  have hcT : comesT (w 211) i = if landT (w 211) i (220 + 27 * i + 4) = landT (w 211) i (220 + 27 * i + 1) then goalT (landT (w 211) i) i else landT (w 211) i := by
    rw [e4, e1]; rfl
  rw [hcT]
  have hL0 : rs (rs (blurT (w 211) i) (220 + 27 * i + 5) (-1)) (220 + 27 * i + 3) 0 = landT (w 211) i := rfl
  generalize landT (w 211) i = L at *
  unfold f_X11_comes
  rw [m_t, bs, hbl, bs]
  simp (disch := omega) only [m0, n0, gd_t, ltM, stc_eq, is_stc, stc_stc, hL0]
  have y3' : 1 ≤ L (220 + 27 * i + 2) ∧ L (220 + 27 * i + 2) ≤ 8 := by rw [e2]; exact y3
  have hd := m_done (F := F) (w := stc w 211 L) (i := i) hF (by rw [stc_eq, eT]; exact b2) (by rw [stc_eq, eT]; exact hi) (by rw [stc_eq]; exact y3') (by rw [stc_eq, e7]; exact y8) (fun k k0 k1 => by rw [stc_eq]; exact l12 k k0 k1)
  rw [stc_eq] at hd
  by_cases c1 : L (220 + 27 * i + 4) = L (220 + 27 * i + 1)
  · rw [if_pos c1, if_pos c1, m_unlike F hF _ (by omega) (by rw [stc_eq]; exact y3') (fun k k0 k1 => by rw [stc_eq]; exact l12 k k0 k1), bs, stc_eq]
    have bU := unl_bd (r := L) (i := i) y3'
    unfold goalT
    rw [gd_t (by omega)]
    by_cases c2 : unl L i ≤ 0
    · rw [if_pos c2, if_neg (by omega)]
      obtain ⟨w', d1, d2, d3⟩ := hd
      exact ⟨w', d1, d2, ((Fm.refl w).stc _ (by omega)).trans d3⟩
    · rw [if_neg c2]
      by_cases c3 : L 6 ≤ L (220 + 27 * i + 8)
      · rw [if_pos c3, if_neg (by omega)]
        obtain ⟨w', d1, d2, d3⟩ := hd
        exact ⟨w', d1, d2, ((Fm.refl w).stc _ (by omega)).trans d3⟩
      · rw [if_neg c3, if_pos (by omega)]
        simp (disch := omega) only [ltI, gd_t]
        rw [m_hears F hF _ (by omega), bs, stc_eq, stc_stc]
        simp (disch := omega) only [gd_t, stc_eq, stc_stc, m_counts, bs]
        refine ⟨_, rfl, ?_, (Fm.refl w).stc _ (by omega)⟩
        rw [stc_eq]
        unfold backT
        have h0 : hearT (rs L (220 + 27 * i + 8) (L (220 + 27 * i + 8) + 1)) i (220 + 27 * i) = L (220 + 27 * i) := by
          unfold hearT
          rw [if_neg (by omega), rs_ne (by omega)]
        have h17 : hearT (rs L (220 + 27 * i + 8) (L (220 + 27 * i + 8) + 1)) i 17 = L 17 := by
          unfold hearT
          rw [if_neg (by omega), rs_ne (by omega)]
        rw [show (10 : Int) + 7 = 17 from rfl, rs_ne (show ¬ (17 : Int) = 220 + 27 * i + 4 by omega), h17, Int.add_zero, h0]
  · rw [if_neg c1, if_neg c1]
    exact ⟨_, rfl, stc_eq _ _ _, (Fm.refl w).stc _ (by omega)⟩
