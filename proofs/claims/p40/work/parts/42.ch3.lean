/-! ===== changes: give, set ===== -/
theorem Rep_X {w w2 : aI} {b : Nat} {r q : Row} (h : Rep w b r) (h1 : 0 ≤ r 1 ∧ r 1 ≤ 20) (hw : ∀ a, b ≤ a → a < b + 18 → ¬ a = b + 2 → ¬ a = b + 8 → ¬ a = b + 10 → w2 a = w a)
    (hq : ∀ k, (k < 4 ∨ k = 7 ∨ 160 ≤ k) → q k = r k) (hs : RepS w2 b q) (hA : RepA w2 b q) (hX : ∀ x, 0 ≤ x → x < r 0 → RX w2 b q x) (hL : ∀ x, 0 ≤ x → x < r 0 → w2 (b + 2) (8 * x + 6) = w (b + 2) (8 * x + 6)) : Rep w2 b q := by
  obtain ⟨⟨k1, k1a, k1b, k1c, k1d⟩, k2, k3, k4, k5, k6, k7⟩ := h
  have hS : SameW r q := ⟨hq 0 (by omega), hq 1 (by omega), fun k c d => hq k (by omega)⟩
  have e2 := hq 2 (by omega)
  have w0 := hw b (by omega) (by omega) (by omega) (by omega) (by omega)
  have w6 := hw (b + 6) (by omega) (by omega) (by omega) (by omega) (by omega)
  refine ⟨⟨?_, ?_⟩, hs, hA, ⟨fun x x0 x1 => hX x x0 (by rw [← hS.1]; exact x1), ?_⟩, RepW_congr h1.2 hS (hw _ (by omega) (by omega) (by omega) (by omega) (by omega)) k5, ?_, RepR_congr h1 hS (hw _ (by omega) (by omega) (by omega) (by omega) (by omega)) (hw _ (by omega) (by omega) (by omega) (by omega) (by omega)) (hw _ (by omega) (by omega) (by omega) (by omega) (by omega)) k7⟩
  · unfold TOK at k1 ⊢
    rw [hw (b + 1) (by omega) (by omega) (by omega) (by omega) (by omega), hw (b + 3) (by omega) (by omega) (by omega) (by omega) (by omega), hw (b + 5) (by omega) (by omega) (by omega) (by omega) (by omega), hw (b + 7) (by omega) (by omega) (by omega) (by omega) (by omega), hw (b + 9) (by omega) (by omega) (by omega) (by omega) (by omega), hw (b + 12) (by omega) (by omega) (by omega) (by omega) (by omega), hw (b + 14) (by omega) (by omega) (by omega) (by omega) (by omega), hw (b + 16) (by omega) (by omega) (by omega) (by omega) (by omega)]
    exact k1
  · rw [w0, hq 3 (by omega), hS.1, hS.2.1, e2]
    exact ⟨k1a, k1b, k1c, k1d⟩
  · rw [hS.1, hq 7 (by omega), ← k4.2]
    exact sm_congr fun x x0 x1 => hL x x0 (by omega)
  · intro j j0 j1
    rw [e2] at j1
    exact RT_congr (fun k c d => by rw [w6]) (fun k c d => hq k (by omega)) (k6 j j0 j1)
def giveT (r : Row) (x c : Int) : Row := rs (rs r (25 + 13 * x + 10) (r (25 + 13 * x + 10) + c)) 20 (r 20 + c)
theorem giveT_o {r : Row} {x c k : Int} (h1 : ¬ k = 25 + 13 * x + 10) (h2 : ¬ k = 20) : giveT r x c k = r k := by
  unfold giveT; rw [rs_ne h2, rs_ne h1]
theorem giveT_p {r : Row} {x c : Int} (hx : 0 ≤ x) : giveT r x c (25 + 13 * x + 10) = r (25 + 13 * x + 10) + c := by
  unfold giveT; rw [rs_ne (by omega), rs_self]
theorem giveT_20 {r : Row} {x c : Int} : giveT r x c 20 = r 20 + c := by
  unfold giveT; rw [rs_self]
theorem giveT_WF {r : Row} {x c : Int} (hW : WF r) (hx : 0 ≤ x ∧ x < r 0) (hc : 0 ≤ c) (h9 : r (25 + 13 * x + 10) + c ≤ 9999) : WF (giveT r x c) := by
  obtain ⟨hb, hr, hw, ht, a1, a2, a3, a4, a5, a6, a7⟩ := hW
  obtain ⟨b0, b1, b2, b3, b4, b5, b6⟩ := hb
  have o : ∀ k, ¬ k = 25 + 13 * x + 10 → ¬ k = 20 → giveT r x c k = r k := fun k => giveT_o
  have p := giveT_p (r := r) (c := c) hx.1
  have z := giveT_20 (r := r) (x := x) (c := c)
  generalize giveT r x c = q at o p z
  have e0 := o 0 (by omega) (by omega)
  have e1 := o 1 (by omega) (by omega)
  have e2 := o 2 (by omega) (by omega)
  have e3 := o 3 (by omega) (by omega)
  have e4 := o 4 (by omega) (by omega)
  have e5 := o 5 (by omega) (by omega)
  have e6 := o 6 (by omega) (by omega)
  have hSW : SameW r q := ⟨e0, e1, fun k k0 k1 => o k (by omega) (by omega)⟩
  refine ⟨by unfold Wb; omega, fun y y0 y1 => ?_, hSW.ww (by omega) hw, fun j j0 j1 => Wy_congr (r := r) e0 (by omega) (fun k k0 k1 => o k (by omega) (by omega)) (ht j j0 (by omega)), ?_⟩
  · rw [e0] at y1
    by_cases cy : y = x
    · subst cy
      obtain ⟨u0, u1, u2, u3, u4, u5, u6⟩ := hr y y0 y1
      unfold Wx
      rw [p, e3, o (25 + 13 * y) (by omega) (by omega), o (25 + 13 * y + 7) (by omega) (by omega), o (25 + 13 * y + 8) (by omega) (by omega), o (25 + 13 * y + 9) (by omega) (by omega), o (25 + 13 * y + 11) (by omega) (by omega)]
      refine ⟨u0, fun k k0 k1 => ?_, u2, u3, u4, by omega, u6⟩
      rw [o _ (by omega) (by omega)]
      exact u1 k k0 k1
    · exact Wx_congr (r := r) (by omega) (fun k k0 k1 => o k (by omega) (by omega)) (hr y y0 y1)
  · have hcc : ∀ v, cnt (fun i => decide (q (220 + 27 * i + 3) = v)) (q 2).toNat = cnt (fun i => decide (r (220 + 27 * i + 3) = v)) (r 2).toNat := fun v => by
      rw [e2]
      exact cnt_congr fun j j0 j1 => by rw [o _ (by omega) (by omega)]
    refine ⟨by rw [o 11 (by omega) (by omega), e2]; exact a1, by rw [o 15 (by omega) (by omega), a2, hcc 2], by rw [o 18 (by omega) (by omega), a3, hcc 3], by rw [o 16 (by omega) (by omega), o 15 (by omega) (by omega)]; exact a4, ?_, by rw [o 13 (by omega) (by omega), e3]; exact a6, ?_⟩
    · rw [o 13 (by omega) (by omega), a5, e2]
      exact sm_congr fun j j0 j1 => (o _ (by omega) (by omega)).symm
    · have := sm_up2 (p := fun y => r (25 + 13 * y + 10)) (p' := fun y => q (25 + 13 * y + 10)) (k := x) hx.1 (n := (r 0).toNat) (by omega) (fun j j0 j1 hj => o _ (by omega) (by omega))
      rw [o 7 (by omega) (by omega), z, e0, this]
      show _ + (q (25 + 13 * x + 10) - r (25 + 13 * x + 10)) = _
      omega
theorem c_take {F : Nat} {b : Nat} {w : aI} {r : Row} {x c : Int} (hP : Pb b) (h : Rep w b r) (h0 : r 0 ≤ 10) (h1 : 0 ≤ r 1 ∧ r 1 ≤ 20) (hx : 0 ≤ x ∧ x < r 0) : ∃ w2, f_X2_takeCoins F b x c w = some w2 ∧ Rep w2 b (giveT r x c) ∧ Fc b w w2 := by
  have K0 := h.1.1
  have K1 : ∀ f, TOK (stc w (b + 2) f) b := fun f => K0.stc (by omega)
  unfold f_X2_takeCoins
  rw [pf4 hP, growX hP K0 (by omega) (by omega), bs, c_enter hP (K1 _) (by omega), bs]
  refine ⟨_, rfl, ?_, ((Fc.refl b w).stc _ (by omega)).stc _ (by omega)⟩
  obtain ⟨w2, e⟩ : ∃ w2, w2 = stc (stc w (b + 2) (rs (w (b + 2)) (8 * x + 3) (w (b + 2) (8 * x + 3) + c))) (b + 10) (rs (stc w (b + 2) (rs (w (b + 2)) (8 * x + 3) (w (b + 2) (8 * x + 3) + c)) (b + 10)) 10 (stc w (b + 2) (rs (w (b + 2)) (8 * x + 3) (w (b + 2) (8 * x + 3) + c)) (b + 10) 10 + c)) := ⟨_, rfl⟩
  rw [← e]
  have e2 : w2 (b + 2) = rs (w (b + 2)) (8 * x + 3) (w (b + 2) (8 * x + 3) + c) := by rw [e, stc_ne (by omega), stc_eq]
  have e10 : w2 (b + 10) = rs (w (b + 10)) 10 (w (b + 10) 10 + c) := by rw [e, stc_eq, stc_ne (by omega)]
  have eo : ∀ a, ¬ a = b + 2 → ¬ a = b + 10 → w2 a = w a := fun a a0 a1 => by rw [e, stc_ne a1, stc_ne a0]
  clear e
  have o : ∀ k, ¬ k = 25 + 13 * x + 10 → ¬ k = 20 → giveT r x c k = r k := fun k => giveT_o
  have p := giveT_p (r := r) (c := c) hx.1
  have z := giveT_20 (r := r) (x := x) (c := c)
  generalize giveT r x c = q at o p z
  refine Rep_X h h1 (fun a a0 a1 a2 a3 a4 => eo a a2 a4) (fun k hk => o k (by omega) (by omega)) ?_ ?_ ?_ ?_
  · unfold RepS
    rw [eo (b + 8) (by omega) (by omega), o 4 (by omega) (by omega), o 5 (by omega) (by omega), o 6 (by omega) (by omega)]
    exact h.2.1
  · intro k k0 k1
    have hA := h.2.2.1 k k0 k1
    rw [e10]
    by_cases ck : k = 10
    · subst ck
      rw [rs_self, hA, show (10 : Int) + 10 = 20 from rfl, z]
    · rw [rs_ne ck, hA, o (10 + k) (by omega) (by omega)]
  · intro y y0 y1
    have hX := h.2.2.2.1.1 y y0 y1
    by_cases cy : y = x
    · subst cy
      obtain ⟨u0, u1, u2, u3, u4, u5, u6, u7⟩ := hX
      have en : nmR q y = nmR r y := by
        unfold nmR
        rw [o (25 + 13 * y) (by omega) (by omega)]
        exact nm_congr fun k k0 k1 => o _ (by omega) (by omega)
      unfold RX
      rw [e2, rs_self, rs_ne (by omega), rs_ne (by omega), rs_ne (by omega), rs_ne (by omega), rs_ne (by omega), rs_ne (by omega), rs_ne (by omega), en, p, o (25 + 13 * y + 7) (by omega) (by omega), o (25 + 13 * y + 8) (by omega) (by omega), o (25 + 13 * y + 9) (by omega) (by omega), o (25 + 13 * y + 11) (by omega) (by omega), o (25 + 13 * y + 12) (by omega) (by omega)]
      exact ⟨u0, u1, u2, by rw [u3], u4, u5, u6, u7⟩
    · exact RX_congr (fun k k0 k1 => by rw [e2, rs_ne (by omega)]) (fun k k0 k1 => o k (by omega) (by omega)) hX
  · intro y y0 y1
    rw [e2, rs_ne (by omega)]
theorem may3a {F : Nat} {b c : Bool} {w : aI} : f_X11_may F 210 (bI false) (bI b) (bI c) w = some (false, iset w 210 6 1) := m_may3
theorem may3b {F : Nat} {c : Bool} {w : aI} : f_X11_may F 210 (bI true) (bI false) (bI c) w = some (false, iset w 210 6 2) := m_may3
theorem may3c {F : Nat} {w : aI} : f_X11_may F 210 (bI true) (bI true) (bI false) w = some (false, iset w 210 6 3) := m_may3
theorem may3t {F : Nat} {w : aI} : f_X11_may F 210 (bI true) (bI true) (bI true) w = some (true, iset w 210 6 0) := m_may3
theorem top_give {F : Nat} (hF : 20000 ≤ F) {x c : Int} (hx : rg x) (hc : rg c) : Top [eIO, eIA, eIS] (f_X10_give F 0 x c) (f_X11_give F 210 x c) := by
  intro w hI
  obtain ⟨hN, hW, h3⟩ := hI.2.2.2.2.1
  obtain ⟨b0, b1, b2, b3, -⟩ := hW.1
  unfold f_X10_give f_X11_give
  rw [c_needRoof hN hx (by omega), c_needNumber hc (by decide) (by decide), bN rfl, bN rfl, k5, k8]
  by_cases c1 : 0 ≤ x ∧ x < w 211 0
  · rw [if_pos c1]
    by_cases c2 : 1 ≤ c ∧ c ≤ 99
    · rw [if_pos c2]
      obtain ⟨-, -, -, -, -, u5, -⟩ := hW.2.1 x c1.1 c1.2
      have e10 : 25 + 13 * x + 7 + 3 = 25 + 13 * x + 10 := by omega
      unfold f_X2_hasRoomFor
      rw [pf4 P12, c_roof P12 hN b0.2 c1 (by omega), bs, e10, gd_t (by omega)]
      by_cases c3 : 9999 < w 211 (25 + 13 * x + 10) + c
      · rw [if_pos c3, bs, if_neg (by decide)]
        refine ⟨.inr eIS, w, 0, iset w 210 6 3, rfl, ?_, hI.thr 3, ?_⟩
        · rw [m_isRoof hx (by omega), bs, gd_t hc, m_in (by omega) (by decide) (by decide), bs, decide_eq_true c1, decide_eq_true c2, if_pos rfl, if_pos rfl, m_r, bs, m0, n0, gd_t (by omega), gd_t (by omega), if_pos c3]
          unfold f_X11_give_b54 f_X11_give_b55
          rw [show f_X11_may F 210 (bI true) (bI true) 0 w = some (false, iset w 210 6 3) from may3c, bk]
          rfl
        · rw [thr_at]; exact ⟨by decide, by decide, by decide⟩
      · rw [if_neg c3, bs, if_pos rfl]
        obtain ⟨w1, e1, e2, e0, e3⟩ := hI.did hF
        obtain ⟨w2, e4, e5, e6⟩ := c_take (F := F) (x := x) (c := c) P12 e2 b0.2 b1 c1
        obtain ⟨wm, e7, e8, e9, e11, e12⟩ := e3 w2 e6
        have hG := giveT_WF (c := c) hW c1 (by omega) (by omega)
        have hg : f_X11_givesCoins F 210 x c wm = some (w 211 (25 + 13 * x + 10) + c, stc wm 211 (giveT (w 211) x c)) := by
          unfold f_X11_givesCoins
          rw [m_r, bs, m0, lti, n0, gd_t (by omega), gd_t (by omega), ltm, is_stc, m_counts F c _ (by omega), bs, m_r, bs, gd_t (by omega), stc_eq, stc_eq, stc_stc, e8, rs_ne (show ¬ (25 + 13 * x + 10 : Int) = 10 + 10 by omega), rs_self, show (10 : Int) + 10 = 20 from rfl, rs_ne (show ¬ (20 : Int) = 25 + 13 * x + 10 by omega)]
          rfl
        have g3 : Fm wm (stc wm 211 (giveT (w 211) x c)) := (Fm.refl wm).stc _ (by omega)
        obtain ⟨q1, q2⟩ := e12 _ g3 (by rw [stc_eq]; exact ⟨e5.of fun a a0 a1 => by rw [stc_ne (by omega), e11 a (by omega) (by omega)], hG, by rw [giveT_o (by omega) (by omega)]; exact h3⟩)
        have hw2 : w2 211 = w 211 := by rw [e6 211 (by omega), e0 211 (by omega)]
        have gp := giveT_p (r := w 211) (c := c) c1.1
        rw [e1, bs, e4, bs, c_roof P12 e5 (by rw [giveT_o (by omega) (by omega)]; exact b0.2) (by rw [giveT_o (by omega) (by omega)]; exact c1) (by omega), bs, e10, gp]
        refine ⟨.inl (w 211 (25 + 13 * x + 10) + c), w2, w 211 (25 + 13 * x + 10) + c, _, rfl, ?_, q1, q2, rfl⟩
        rw [m_isRoof hx (by rw [hw2]; omega), bs, gd_t hc, m_in (by omega) (by decide) (by decide), bs, hw2, decide_eq_true c1, decide_eq_true c2, if_pos rfl, if_pos rfl, m_r, bs, m0, n0, hw2, gd_t (by omega), gd_t (by omega), if_neg c3]
        unfold f_X11_give_b55
        rw [show f_X11_may F 210 (bI true) (bI true) 1 w2 = some (true, iset w2 210 6 0) from may3t, bk, if_pos rfl, e7, bs, hg, bj]
    · rw [if_neg c2]
      refine ⟨.inr eIA, w, 0, iset w 210 6 2, rfl, ?_, hI.thr 2, ?_⟩
      · rw [m_isRoof hx (by omega), bs, gd_t hc, m_in (by omega) (by decide) (by decide), bs, decide_eq_true c1, decide_eq_false c2, if_pos rfl, if_neg (by decide)]
        unfold f_X11_give_b54 f_X11_give_b55
        rw [show f_X11_may F 210 (bI true) (bI false) 0 w = some (false, iset w 210 6 2) from may3b (c := false), bk]
        rfl
      · rw [thr_at]; exact ⟨by decide, by decide, by decide⟩
  · rw [if_neg c1]
    refine ⟨.inr eIO, w, 0, iset w 210 6 1, rfl, ?_, hI.thr 1, ?_⟩
    · rw [m_isRoof hx (by omega), bs, gd_t hc, m_in (by omega) (by decide) (by decide), bs, decide_eq_false c1, if_neg (by decide)]
      unfold f_X11_give_b54 f_X11_give_b55
      rw [show f_X11_may F 210 (bI false) (bI (decide (1 ≤ c ∧ c ≤ 99))) 0 w = some (false, iset w 210 6 1) from may3a (c := false), bk]
      rfl
    · rw [thr_at]; exact ⟨by decide, by decide, by decide⟩
def setT (r : Row) (v k : Int) : Row := rs r (v - 4) k
theorem setT_WF {r : Row} {v k : Int} (hW : WF r) (hv : 8 ≤ v ∧ v ≤ 10) (h1 : (v = 8 → k ≤ 9) ∧ (v = 9 → 1 ≤ k ∧ k ≤ 60) ∧ (v = 10 → k ≤ 3) ∧ 0 ≤ k) : WF (setT r v k) := by
  obtain ⟨hb, hr, hw, ht, a1, a2, a3, a4, a5, a6, a7⟩ := hW
  obtain ⟨b0, b1, b2, b3, b4, b5, b6⟩ := hb
  have o : ∀ j, ¬ j = v - 4 → setT r v k j = r j := fun j h => by unfold setT; rw [rs_ne h]
  have p : setT r v k (v - 4) = k := by unfold setT; rw [rs_self]
  generalize setT r v k = q at o p
  have e0 := o 0 (by omega)
  have e1 := o 1 (by omega)
  have e2 := o 2 (by omega)
  have e3 := o 3 (by omega)
  have hSW : SameW r q := ⟨e0, e1, fun k k0 k1 => o k (by omega)⟩
  refine ⟨?_, fun y y0 y1 => Wx_congr (r := r) (by omega) (fun k k0 k1 => o k (by omega)) (hr y y0 (by omega)), hSW.ww (by omega) hw, fun j j0 j1 => Wy_congr (r := r) e0 (by omega) (fun k k0 k1 => o k (by omega)) (ht j j0 (by omega)), ?_⟩
  · have hv' : v = 8 ∨ v = 9 ∨ v = 10 := by omega
    unfold Wb
    rcases hv' with e | e | e <;> subst e
    · have o5 := o 5 (by omega)
      have o6 := o 6 (by omega)
      rw [show (8 : Int) - 4 = 4 from rfl] at p
      omega
    · have o4 := o 4 (by omega)
      have o6 := o 6 (by omega)
      rw [show (9 : Int) - 4 = 5 from rfl] at p
      omega
    · have o4 := o 4 (by omega)
      have o5 := o 5 (by omega)
      rw [show (10 : Int) - 4 = 6 from rfl] at p
      omega
  · have hcc : ∀ v, cnt (fun i => decide (q (220 + 27 * i + 3) = v)) (q 2).toNat = cnt (fun i => decide (r (220 + 27 * i + 3) = v)) (r 2).toNat := fun v => by
      rw [e2]
      exact cnt_congr fun j j0 j1 => by rw [o _ (by omega)]
    refine ⟨by rw [o 11 (by omega), e2]; exact a1, by rw [o 15 (by omega), a2, hcc 2], by rw [o 18 (by omega), a3, hcc 3], by rw [o 16 (by omega), o 15 (by omega)]; exact a4, ?_, by rw [o 13 (by omega), e3]; exact a6, ?_⟩
    · rw [o 13 (by omega), a5, e2]
      exact sm_congr fun j j0 j1 => (o _ (by omega)).symm
    · rw [o 7 (by omega), o 20 (by omega), e0, ← a7]
      exact sm_congr fun j j0 j1 => o _ (by omega)
theorem c_settle {F : Nat} {b : Nat} {w : aI} {r : Row} {v k : Int} (hP : Pb b) (h : Rep w b r) (h0 : r 0 ≤ 10) (h1 : 0 ≤ r 1 ∧ r 1 ≤ 20) (hv : 8 ≤ v ∧ v ≤ 10) : ∃ w2, f_X2_settle F b v k w = some w2 ∧ Rep w2 b (setT r v k) ∧ Fc b w w2 := by
  have K0 := h.1.1
  unfold f_X2_settle
  rw [pf7 hP, putS hP K0 (by omega), bs]
  refine ⟨_, rfl, ?_, (Fc.refl b w).stc _ (by omega)⟩
  have o : ∀ j, ¬ j = v - 4 → setT r v k j = r j := fun j h => by unfold setT; rw [rs_ne h]
  have p : setT r v k (v - 4) = k := by unfold setT; rw [rs_self]
  generalize setT r v k = q at o p
  obtain ⟨w2, e⟩ : ∃ w2, w2 = stc w (b + 8) (rs (w (b + 8)) (v - 8) k) := ⟨_, rfl⟩
  rw [← e]
  have e8 : w2 (b + 8) = rs (w (b + 8)) (v - 8) k := by rw [e, stc_eq]
  have eo : ∀ a, ¬ a = b + 8 → w2 a = w a := fun a a0 => by rw [e, stc_ne a0]
  clear e
  obtain ⟨s0, s1, s2⟩ := h.2.1
  refine Rep_X h h1 (fun a a0 a1 a2 a3 a4 => eo a a3) (fun k hk => o k (by omega)) ?_ ?_ ?_ ?_
  · have hv' : v = 8 ∨ v = 9 ∨ v = 10 := by omega
    unfold RepS
    rw [e8]
    rcases hv' with e | e | e <;> subst e
    · rw [show (8 : Int) - 8 = 0 from rfl, rs_self, rs_ne (by omega), rs_ne (by omega), s1, s2, o 5 (by omega), o 6 (by omega)]
      exact ⟨p.symm, rfl, rfl⟩
    · rw [show (9 : Int) - 8 = 1 from rfl, rs_self, rs_ne (by omega), rs_ne (by omega), s0, s2, o 4 (by omega), o 6 (by omega)]
      exact ⟨rfl, p.symm, rfl⟩
    · rw [show (10 : Int) - 8 = 2 from rfl, rs_self, rs_ne (by omega), rs_ne (by omega), s0, s1, o 4 (by omega), o 5 (by omega)]
      exact ⟨rfl, rfl, p.symm⟩
  · intro j j0 j1
    rw [eo _ (by omega), h.2.2.1 j j0 j1, o _ (by omega)]
  · intro y y0 y1
    exact RX_congr (fun j _ _ => by rw [eo _ (by omega)]) (fun j c d => o j (by omega)) (h.2.2.2.1.1 y y0 y1)
  · intro y y0 y1
    rw [eo _ (by omega)]
theorem c_setting {F : Nat} {b : Nat} {w : aI} {r : Row} {v : Int} (hP : Pb b) (h : Rep w b r) (hv : 8 ≤ v ∧ v ≤ 10) : f_X2_setting F b v w = some (r (v - 4)) := by
  have hv' : v = 8 ∨ v = 9 ∨ v = 10 := by omega
  rcases hv' with e | e | e <;> subst e
  · exact c_set8 hP h
  · exact c_set9 hP h
  · exact c_set10 hP h
def loV (v : Int) : Int := if v = 9 then 1 else 0
def hiV (v : Int) : Int := if v = 8 then 9 else if v = 9 then 60 else 3
theorem topSet {F : Nat} (hF : 20000 ≤ F) {v k : Int} (hv : rg v) (hk : rg k) : Top [eIA] (f_X10_set F 0 v k) (f_X11_set F 210 v k) := by
  intro w hI
  obtain ⟨hN, hW, h3⟩ := hI.2.2.2.2.1
  obtain ⟨b0, b1, b2, b3, b4, b5, b6⟩ := hW.1
  unfold f_X10_set f_X11_set
  rw [c_needNumber hv (by decide) (by decide), bN rfl, k5, k8]
  have t54 : ∀ w u, f_X11_set_b54 F 210 v k u 1 210 w = (f_X11_remembers F 210 (iset w 210 6 0)).bind (fun w6 => bJW (f_X11_sets F 210 u k w6) (fun r7 w8 => some (r7, w8))) := fun w u => by
    unfold f_X11_set_b54
    rw [show f_X11_may F 210 1 1 1 w = some (true, iset w 210 6 0) from may3t, bk, if_pos rfl]
  have t53 : ∀ w u, f_X11_set_b53 F 210 v k u 210 w = some (0, iset w 210 6 1) := fun w u => by
    unfold f_X11_set_b53 f_X11_set_b54
    rw [show f_X11_may F 210 0 1 1 w = some (false, iset w 210 6 1) from may3a (b := true) (c := true), bk]
    rfl
  by_cases c1 : 8 ≤ v ∧ v ≤ 10
  · rw [if_pos c1]
    have lo : f_X2_leastOf F v w = some (loV v) := by
      unfold f_X2_leastOf loV
      rw [gd_t hv]
      split <;> rfl
    have hi : f_X2_mostOf F v w = some (hiV v) := by
      unfold f_X2_mostOf hiV
      rw [gd_t hv]
      split
      · rfl
      · split <;> rfl
    have bd : (0 ≤ loV v ∧ loV v ≤ 1) ∧ 3 ≤ hiV v ∧ hiV v ≤ 60 := by
      unfold loV hiV
      repeat' split
      all_goals omega
    have mlo : ∀ w, f_X11_lowOf F (v - 4) w = some (loV v) := fun w => by
      unfold f_X11_lowOf loV
      rw [gd_t (by omega)]
      by_cases e : v = 9
      · rw [if_pos e, if_pos (by omega)]
      · rw [if_neg e, if_neg (by omega)]
    have mhi : ∀ w, f_X11_highOf F (v - 4) w = some (hiV v) := fun w => by
      unfold f_X11_highOf hiV
      rw [gd_t (by omega)]
      by_cases e : v = 9
      · rw [if_pos (show v - 4 = 5 by omega), if_neg (by omega), if_pos e]
      · rw [if_neg (show ¬ v - 4 = 5 by omega), if_neg e]
        by_cases e2 : v = 8
        · rw [if_pos (show v - 4 = 4 by omega), if_pos e2]
        · rw [if_neg (show ¬ v - 4 = 4 by omega), if_neg e2]
    rw [lo, bs, hi, bs, c_needNumber hk (by omega) (by omega), bN rfl]
    have hm : ∀ w, ((f_X11_in F v 8 10 w).bind fun r2 => if r2 = true then f_X11_set_b24 F 210 v k (4 + v - 8) w else f_X11_set_b24 F 210 v k (-1) w) = if loV v ≤ k ∧ k ≤ hiV v then f_X11_set_b54 F 210 v k (v - 4) 1 210 w else f_X11_set_b53 F 210 v k (v - 4) 210 w := fun w => by
      rw [m_in (by omega) (by decide) (by decide), bs, decide_eq_true c1, if_pos rfl, show 4 + v - 8 = v - 4 by omega]
      unfold f_X11_set_b24
      rw [gd_t (by omega), if_neg (by omega), gd_t hk, mlo, bs, gd_t (by omega), mhi, bs, gd_t (by omega), m_in (by omega) (by omega) (by omega), bs]
      by_cases c2 : loV v ≤ k ∧ k ≤ hiV v
      · rw [if_pos c2, decide_eq_true c2, if_pos rfl]
      · rw [if_neg c2, decide_eq_false c2, if_neg (by decide)]
    by_cases c2 : loV v ≤ k ∧ k ≤ hiV v
    · rw [if_pos c2]
      obtain ⟨w1, e1, e2, e0, e3⟩ := hI.did hF
      obtain ⟨w2, e4, e5, e6⟩ := c_settle (F := F) (v := v) (k := k) P12 e2 b0.2 b1 c1
      obtain ⟨wm, e7, e8, e9, e11, e12⟩ := e3 w2 e6
      have hG : WF (setT (w 211) v k) := setT_WF hW c1 (by unfold loV hiV at c2; repeat' split at c2; all_goals omega)
      have hg : f_X11_sets F 210 (v - 4) k wm = some (w 211 (v - 4), stc wm 211 (setT (w 211) v k)) := by
        unfold f_X11_sets
        rw [m0, n0, gd_t (by omega), lti, gd_t (by omega), ltm, is_stc, e8]
        rfl
      have g3 : Fm wm (stc wm 211 (setT (w 211) v k)) := (Fm.refl wm).stc _ (by omega)
      obtain ⟨q1, q2⟩ := e12 _ g3 (by rw [stc_eq]; exact ⟨e5.of fun a a0 a1 => by rw [stc_ne (by omega), e11 a (by omega) (by omega)], hG, by unfold setT; rw [rs_ne (by omega)]; exact h3⟩)
      rw [e1, bs, c_setting P12 e2 c1, bs, e4, bs]
      refine ⟨.inl (w 211 (v - 4)), w2, w 211 (v - 4), _, rfl, ?_, q1, q2, rfl⟩
      rw [gd_t hv, hm, if_pos c2, t54, e7, bs, hg, bj]
    · rw [if_neg c2]
      refine ⟨.inr eIA, w, 0, iset w 210 6 1, rfl, ?_, hI.thr 1, ?_⟩
      · rw [gd_t hv, hm, if_neg c2, t53]
      · rw [thr_at]; exact ⟨by decide, by decide, by decide⟩
  · rw [if_neg c1]
    refine ⟨.inr eIA, w, 0, iset w 210 6 1, rfl, ?_, hI.thr 1, ?_⟩
    · rw [gd_t hv, m_in (by omega) (by decide) (by decide), bs, decide_eq_false c1, if_neg (by decide)]
      unfold f_X11_set_b24
      rw [gd_t (by decide), if_pos rfl, t53]
    · rw [thr_at]; exact ⟨by decide, by decide, by decide⟩
