/-! ===== the law's tick ===== -/
theorem l_wh1 {F : Nat} (hF : 100 ≤ F) {w : aI} {r : Row} {i x : Int} {k58 : Int → aI → Option aI} (h : LwR w r) (hW : WF r) (hc : CanW r i x) :
    ∃ z, f_L_ticks_b102 F 300 k58 x i w = k58 (x + 1) z ∧ LwR z (whT r i x) ∧ ∀ a, a < 300 → z a = w a := by
  obtain ⟨l319, l320, l321, l322, l323, l324, l325, l326, l327, l328, l329, l330⟩ := ll30
  obtain ⟨l301, l302, l303, l304, l305, l306, l307, l313⟩ := ll5
  have h0 := h
  obtain ⟨h05, hA, hX, hWy, hS, hT, hNn, hD⟩ := h0
  obtain ⟨b0, b1, b2, b3, b4, b5, b6⟩ := hW.1
  have hc0 := hc
  obtain ⟨c1, c2, c3, c4, c5, c6⟩ := hc0
  obtain ⟨y0, y1, y2, y3, y4, y5, y6, -⟩ := hW.2.2.2.1 i c1.1 c1.2
  obtain ⟨⟨t1, t2, t3, t4, t5, t6, t7, t8⟩, -⟩ := hT i c1.1 c1.2
  obtain ⟨g1, g2⟩ := hD.snt b2 c1
  obtain ⟨n1, n2, n3⟩ := hNn i c1.1 c1.2
  have hx := hX x c2.1 c2.2
  have px := (hW.2.1 x c2.1 c2.2).2.2.1
  have hbq := brth_eq y3 px
  have hm : 0 ≤ r (220 + 27 * i + 2) % r (25 + 13 * x + 7) ∧ r (220 + 27 * i + 2) % r (25 + 13 * x + 7) < r (25 + 13 * x + 7) := ⟨Int.emod_nonneg _ (by omega), Int.emod_lt_of_pos _ (by omega)⟩
  unfold f_L_ticks_b102
  rw [gd_t (by omega), if_pos c1.1, lf2, lf3, lf8, lf18, lf0, lf4, l303, l304, l319, l301, gd_t (by omega), l_bars h hW c1, bs, lti, hx.2.2.1, gd_t (by omega), lti, t1, gd_t (by omega), gd_t (by omega), ltm, gd_t (by omega), gd_t (by omega), ltm, ltm]
  rw [show r (25 + 13 * x + 9) * bar r i = feeA r i x from rfl]
  obtain ⟨u, hu⟩ : ∃ u, u = iset (iset (iset w 304 (r (220 + 27 * i)) (w 304 (r (220 + 27 * i)) - feeA r i x)) 304 x (iset w 304 (r (220 + 27 * i)) (w 304 (r (220 + 27 * i)) - feeA r i x) 304 x + feeA r i x)) 300 32 (w 300 32 + feeA r i x) := ⟨_, rfl⟩
  have uo : ∀ a, ¬ a = 300 → ¬ a = 304 → u a = w a := fun a p1 p2 => by rw [hu, is_ne p1, is_ne p2, is_ne p2]
  have e32 : iset (iset w 304 (r (220 + 27 * i)) (w 304 (r (220 + 27 * i)) - feeA r i x)) 304 x (iset w 304 (r (220 + 27 * i)) (w 304 (r (220 + 27 * i)) - feeA r i x) 304 x + feeA r i x) 300 32 = w 300 32 := by rw [is_ne (by decide), is_ne (by decide)]
  have u22 : u 300 22 = r 3 := by rw [hu, is_eq, rs_ne (by decide), is_ne (by decide), is_ne (by decide)]; exact hA.2.2.1
  rw [e32, ← hu, uo 329 (by decide) (by decide), uo 999 (by decide) (by decide), gd_t g1, g2, uo _ (by omega) (by omega), n1, gd_t (by omega), lti, gd_t (by omega), uo 301 (by decide) (by decide), hx.1, gd_t (by omega), gd_t (by omega), gd_t (by omega), gd_t (by omega), tm _ (by omega), td _ (by omega), u22, gd_t (by omega)]
  by_cases cm : r (220 + 27 * i + 2) % r (25 + 13 * x + 7) ≤ 0
  · rw [if_pos cm] at hbq ⊢
    exact l_wh2 hF h hW hc hu (by omega)
  · rw [if_neg cm] at hbq ⊢
    exact l_wh2 hF h hW hc hu (by omega)
theorem l_lose1 {w : aI} {r : Row} {i : Int} (h : LwR w r) (hW : WF r) (hi : 0 ≤ i ∧ i < r 2) (h3 : r (220 + 27 * i + 3) = 0) :
    LwR (iset (iset w 321 i 3) 300 31 (r 18 + 1)) (rs (rs r (220 + 27 * i + 3) 3) 18 (r 18 + 1)) := by
  have h0 := h
  obtain ⟨h05, hA, hX, hWy, hS, hT, hNn, hD⟩ := h0
  obtain ⟨b0, b1, b2, b3, b4, b5, b6⟩ := hW.1
  obtain ⟨y0, y1, y2, y3, y4, y5, y6, -⟩ := hW.2.2.2.1 i hi.1 hi.2
  have hy : ∀ t, 0 ≤ t → t < r 2 → r (220 + 27 * t + 2) ≤ 8 := fun t t0 t1 => (hW.2.2.2.1 t t0 t1).2.2.2.1.2
  obtain ⟨⟨t1, t2, t3, t4, t5, t6, t7, t8⟩, -, t10⟩ := hT i hi.1 hi.2
  have dk : ∀ k, ¬ k = 220 + 27 * i + 3 → ¬ k = 18 → rs (rs r (220 + 27 * i + 3) 3) 18 (r 18 + 1) k = r k := fun k p1 p2 => by rw [rs_ne p2, rs_ne p1]
  have d3 : rs (rs r (220 + 27 * i + 3) 3) 18 (r 18 + 1) (220 + 27 * i + 3) = 3 := by rw [rs_ne (by omega), rs_self]
  have d18 : rs (rs r (220 + 27 * i + 3) 3) 18 (r 18 + 1) 18 = r 18 + 1 := rs_self _ _ _
  generalize rs (rs r (220 + 27 * i + 3) 3) 18 (r 18 + 1) = q at dk d3 d18 ⊢
  obtain ⟨z, hz⟩ : ∃ z, z = iset (iset w 321 i 3) 300 31 (r 18 + 1) := ⟨_, rfl⟩
  rw [← hz]
  have zo : ∀ a, ¬ a = 300 → ¬ a = 321 → z a = w a := fun a p1 p2 => by rw [hz, is_ne p1, is_ne p2]
  have z300 : z 300 = rs (w 300) 31 (r 18 + 1) := by rw [hz, is_eq, is_ne (by decide)]
  have z321 : z 321 = rs (w 321) i 3 := by rw [hz, is_ne (by decide), is_eq]
  refine h.step b1 b2.2 hy hi ⟨dk 0 (by omega) (by omega), dk 1 (by omega) (by omega), fun k p1 p2 => dk k (by omega) (by omega)⟩ (dk 2 (by omega) (by omega)) (fun k p1 p2 => dk k (by omega) (by omega)) (fun a p1 p2 t p3 => ?_) (fun a p1 p2 => zo a (by omega) (by omega)) ?_ (hX.keep h05 (dk 0 (by omega) (by omega)) (fun a p1 p2 => zo a (by omega) (by omega)) (fun k p1 p2 => dk k (by omega) (by omega))) ?_ ?_
  · by_cases e1 : a = 321
    · subst e1; rw [z321, rs_ne p3]
    · rw [zo a (by omega) e1]
  · refine LwA.set 31 18 (r 18 + 1) (by decide) hA (fun k => by rw [z300]) (fun a p1 p2 => ?_) (fun t p1 p2 => ?_)
    · rw [rs_def]
      by_cases e : a = 18
      · rw [if_pos e, e]; exact d18
      · rw [if_neg e]; exact dk a (by omega) e
    · rw [dk 2 (by omega) (by omega)] at p1
      rw [zo 325 (by decide) (by decide), zo 326 (by decide) (by decide)]
      exact hA.2.2.2.2.2.2.2.2.2.2.2.2.2.2 t p1 p2
  · unfold LwT1
    rw [zo 319 (by decide) (by decide), zo 320 (by decide) (by decide), zo 322 (by decide) (by decide), zo 325 (by decide) (by decide), zo 326 (by decide) (by decide), zo 327 (by decide) (by decide), zo 328 (by decide) (by decide), z321, rs_self, d3, dk (220 + 27 * i) (by omega) (by omega), dk (220 + 27 * i + 1) (by omega) (by omega), dk (220 + 27 * i + 4) (by omega) (by omega), dk (220 + 27 * i + 5) (by omega) (by omega), dk (220 + 27 * i + 6) (by omega) (by omega), dk (220 + 27 * i + 7) (by omega) (by omega), dk (220 + 27 * i + 8) (by omega) (by omega), dk (220 + 27 * i + 9) (by omega) (by omega)]
    exact ⟨⟨t1, t2, rfl, t4, t5, t6, t7, t8⟩, fun e => absurd e (by decide), fun _ => t10 (by omega)⟩
  · obtain ⟨m1, m2, m3⟩ := hNn i hi.1 hi.2
    unfold LwN1
    rw [zo _ (by omega) (by omega), zo _ (by omega) (by omega), dk (220 + 27 * i + 2) (by omega) (by omega)]
    refine ⟨m1, m2, fun k k0 k1 => ?_⟩
    rw [dk (220 + 27 * i + 11 + k) (by omega) (by omega), dk (220 + 27 * i + 19 + k) (by omega) (by omega)]
    exact m3 k k0 k1
theorem l_loses {F : Nat} (hF : 100 ≤ F) {w : aI} {r : Row} (h : LwR w r) (hW : WF r) : ∃ z, f_L_ticks_b309 F 300 F 0 w = some z ∧ LwR z (loseT r) ∧ ∀ a, a < 300 → z a = w a := by
  obtain ⟨l319, l320, l321, l322, l323, l324, l325, l326, l327, l328, l329, l330⟩ := ll30
  have l313 := ll5.2.2.2.2.2.2.2
  have b2 := hW.1.2.2.1
  have key : ∀ (n i : Nat) (u : aI), (i : Int) ≤ r 2 → r 2 - i < n → LwR u (itr loseS r i) → (∀ a, a < 300 → u a = w a) → ∃ z, f_L_ticks_b309 F 300 n i u = some z ∧ LwR z (loseT r) ∧ ∀ a, a < 300 → z a = w a := by
    intro n
    induction n with
    | zero => intro i u i1 i2; omega
    | succ n ih =>
      intro i u i1 i2 e1 f1
      show ∃ z, f_L_ticks_b309_b F 300 (f_L_ticks_b309 F 300 n) _ _ = _ ∧ _
      unfold f_L_ticks_b309_b
      obtain ⟨h1, h2, h3⟩ := lose_inv hW i i1
      have ee : loseT r = itr loseS r (r 2).toNat := loseT_eq r
      rw [e1.2.1.2.1, h3, gd_t (by omega)]
      by_cases c : r 2 ≤ i
      · rw [if_pos c]
        have e : i = (r 2).toNat := by omega
        refine ⟨u, rfl, ?_, f1⟩
        rw [ee, ← e]; exact e1
      · rw [if_neg c]
        have nx : ∀ u2 : aI, LwR u2 (loseS i (itr loseS r i)) → (∀ a, a < 300 → u2 a = w a) → ∃ z, f_L_ticks_b309 F 300 n ((i : Int) + 1) u2 = some z ∧ LwR z (loseT r) ∧ ∀ a, a < 300 → z a = w a := fun u2 g1 g2 => ih (i + 1) u2 (by omega) (by omega) g1 g2
        clear ih ee
        generalize itr loseS r i = q at h1 h2 h3 e1 nx
        have hi : 0 ≤ (i : Int) ∧ (i : Int) < q 2 := ⟨by omega, by omega⟩
        obtain ⟨b0', b1', b2', -⟩ := h1.1
        obtain ⟨y0, y1, y2, y3, y4, y5, y6, -⟩ := h1.2.2.2.1 i hi.1 hi.2
        obtain ⟨⟨t1, t2, t3, t4, t5, t6, t7, t8⟩, -⟩ := e1.2.2.2.2.2.1 i hi.1 hi.2
        have q5 := e1.1
        have e31 : u 300 31 = q 18 := e1.2.1.2.2.2.2.2.2.2.2.2.2.2.1
        rw [lf10, l321, gd_t (by omega), t3, gd_t (by omega)]
        by_cases c1 : q (220 + 27 * (i : Int) + 3) = 0
        · obtain ⟨s1, s2⟩ := lsum (x := q (220 + 27 * (i : Int) + 4)) (by omega)
          have hs := e1.2.2.2.2.1 (q (220 + 27 * (i : Int) + 4)) (q (220 + 27 * (i : Int) + 1)) y5.1 y5.2 y1.1 y1.2
          have hd := dist_bd b0' b1' h1.2.2.1 (W := -1) (by decide) y1 y5
          rw [if_pos c1, lf11, lf7, lf9, l322, l313, l320, gd_t (by omega), t4, gd_t (by omega), gd_t (by omega), s1, s2, t2, gd_t (by omega), hs]
          by_cases c2 : dist q (-1) (q (220 + 27 * (i : Int) + 1)) (q (220 + 27 * (i : Int) + 4)) = -1
          · rw [if_pos c2, gd_t (by decide), if_pos (by decide), gd_t (by omega), ltm, ltm, is_ne (show ¬ 300 = 321 by decide), e31]
            refine nx _ ?_ (fun a ha => by rw [is_ne (by omega), is_ne (by omega)]; exact f1 a ha)
            unfold loseS
            rw [if_pos ⟨c1, c2⟩]
            exact l_lose1 e1 h1 hi c1
          · rw [if_neg c2, gd_t (by omega), if_neg (by omega)]
            exact nx u (by unfold loseS; rw [if_neg (fun h => c2 h.2)]; exact e1) f1
        · rw [if_neg c1]
          exact nx u (by unfold loseS; rw [if_neg (fun h => c1 h.1)]; exact e1) f1
  exact key F 0 w (by omega) (by omega) h (fun _ _ => rfl)
theorem l_whs {F : Nat} (hF : 100 ≤ F) {w : aI} {r : Row} (h : LwR w r) (hW : WF r) (hS : Sl r 0) : ∃ z, f_L_ticks_b58 F 300 F 0 w = some z ∧ LwR z (loseT (whAllT r)) ∧ ∀ a, a < 300 → z a = w a := by
  have l305 := ll5.2.2.2.2.1
  have b0 := hW.1.1
  have b5 := hW.1.2.2.2.2.2.1
  by_cases hc : r 3 % 60 < r 5
  · have key : ∀ (n i : Nat) (u : aI), (i : Int) ≤ r 0 → r 0 - i < n → LwR u (itr whS r i) → (∀ a, a < 300 → u a = w a) → ∃ z, f_L_ticks_b58 F 300 n i u = some z ∧ LwR z (loseT (whAllT r)) ∧ ∀ a, a < 300 → z a = w a := by
      intro n
      induction n with
      | zero => intro i u i1 i2; omega
      | succ n ih =>
        intro i u i1 i2 e1 f1
        show ∃ z, f_L_ticks_b58_b F 300 (f_L_ticks_b58 F 300 n) _ _ = _ ∧ _
        unfold f_L_ticks_b58_b
        obtain ⟨h1, h2, h3, h4, h5, h6⟩ := wh_inv hW hS i i1
        have h30 := h3.1
        rw [e1.2.1.1, h30, gd_t (by omega)]
        by_cases c : r 0 ≤ i
        · rw [if_pos c]
          have e : i = (r 0).toNat := by omega
          obtain ⟨z, g1, g2, g3⟩ := l_loses hF e1 h1
          refine ⟨z, g1, ?_, fun a ha => by rw [g3 a ha]; exact f1 a ha⟩
          rw [whAllT_eq, if_pos hc, ← e]; exact g2
        · rw [if_neg c]
          have nx : ∀ u2 : aI, LwR u2 (whS i (itr whS r i)) → (∀ a, a < 300 → u2 a = w a) → ∃ z, f_L_ticks_b58 F 300 n ((i : Int) + 1) u2 = some z ∧ LwR z (loseT (whAllT r)) ∧ ∀ a, a < 300 → z a = w a := fun u2 g1 g2 => ih (i + 1) u2 (by omega) (by omega) g1 g2
          clear ih
          generalize itr whS r i = q at h1 h2 h3 h4 h5 h6 e1 nx h30
          have hb := h1.1
          obtain ⟨b0', b1', b2', b3', b4', b5', b6'⟩ := hb
          have hx : 0 ≤ (i : Int) ∧ (i : Int) < q 0 := ⟨by omega, by omega⟩
          obtain ⟨x0, x1, x2, x3, x4, x5, x6⟩ := h1.2.1 i hx.1 hx.2
          have g5 := (e1.2.2.1 i hx.1 hx.2).2.2.2.2.1
          have q5 := e1.1
          have e22 : u 300 22 = q 3 := e1.2.1.2.2.1
          have e24 : u 300 24 = q 5 := e1.2.1.2.2.2.2.1
          rw [lf4, l305, e22, e24, gd_t (by omega), tm _ (by omega), gd_t (by omega), if_neg (by rw [h5, h6]; omega), gd_t (by omega), g5, gd_t (by omega)]
          by_cases c1 : q (25 + 13 * (i : Int) + 11) ≤ q 3
          · rw [if_pos c1, l_first hF e1 h1 hx, bs]
            have hb1 : ¬ busy q i (q 3) = true := fun z => by have := of_decide_eq_true z; omega
            by_cases c2 : firstG q i = -1
            · rw [c2]
              unfold f_L_ticks_b102
              rw [gd_t (by decide), if_neg (by decide)]
              exact nx u (by unfold whS; rw [if_pos (Or.inr c2)]; exact e1) f1
            · obtain ⟨z, g1, g2, g3⟩ := l_wh1 (k58 := f_L_ticks_b58 F 300 n) hF e1 h1 (first_can h1 hx c2)
              rw [g1]
              exact nx z (by unfold whS; rw [if_neg (fun z => z.elim hb1 c2)]; exact g2) (fun a ha => by rw [g3 a ha]; exact f1 a ha)
          · rw [if_neg c1]
            unfold f_L_ticks_b102
            rw [gd_t (by decide), if_neg (by decide)]
            exact nx u (by unfold whS; rw [if_pos (Or.inl (show busy q i (q 3) = true from decide_eq_true (by omega)))]; exact e1) f1
    exact key F 0 w (by omega) (by omega) h (fun _ _ => rfl)
  · have b3 := hW.1.2.2.2.1
    have e22 : w 300 22 = r 3 := h.2.1.2.2.1
    have e24 : w 300 24 = r 5 := h.2.1.2.2.2.2.1
    obtain ⟨z, g1, g2, g3⟩ := l_loses hF h hW
    cases F with
    | zero => omega
    | succ F =>
      refine ⟨z, ?_, by rw [whAllT_eq, if_neg hc]; exact g2, g3⟩
      show f_L_ticks_b58_b (F + 1) 300 (f_L_ticks_b58 (F + 1) 300 F) 0 w = _
      unfold f_L_ticks_b58_b
      rw [h.2.1.1, gd_t (by omega), if_neg (by omega), e22, e24, gd_t (by omega), tm _ (by omega), gd_t (by omega), if_pos (by omega), g1]
theorem l_arr {F : Nat} (hF : 100 ≤ F) {w : aI} {r : Row} (h : LwR w r) (hW : WF r) (hS : Sl r 0) : ∃ z, f_L_ticks_b17 F 300 F (r 2) 0 w = some z ∧ LwR z (loseT (whAllT (arrT r))) ∧ ∀ a, a < 300 → z a = w a := by
  obtain ⟨l319, l320, l321, l322, l323, l324, l325, l326, l327, l328, l329, l330⟩ := ll30
  have b2 := hW.1.2.2.1
  have key : ∀ (n i : Nat) (u : aI), (i : Int) ≤ r 2 → r 2 - i < n → LwR u (itr arrS r i) → (∀ a, a < 300 → u a = w a) → ∃ z, f_L_ticks_b17 F 300 n (r 2) i u = some z ∧ LwR z (loseT (whAllT (arrT r))) ∧ ∀ a, a < 300 → z a = w a := by
    intro n
    induction n with
    | zero => intro i u i1 i2; omega
    | succ n ih =>
      intro i u i1 i2 e1 f1
      show ∃ z, f_L_ticks_b17_b F 300 (f_L_ticks_b17 F 300 n) _ _ _ = _ ∧ _
      unfold f_L_ticks_b17_b
      obtain ⟨h1, h2⟩ := arr_inv hW i i1
      rw [gd_t (by omega), gd_t (by omega)]
      by_cases c : r 2 ≤ i
      · rw [if_pos c]
        have e : i = (r 2).toNat := by omega
        obtain ⟨z, g1, g2, g3⟩ := l_whs hF e1 h1 (h2.sl hW.1.1.2 hS)
        refine ⟨z, g1, ?_, fun a ha => by rw [g3 a ha]; exact f1 a ha⟩
        rw [arrT_eq, ← e]; exact g2
      · rw [if_neg c]
        have nx : ∀ u2 : aI, LwR u2 (arrS i (itr arrS r i)) → (∀ a, a < 300 → u2 a = w a) → ∃ z, f_L_ticks_b17 F 300 n (r 2) ((i : Int) + 1) u2 = some z ∧ LwR z (loseT (whAllT (arrT r))) ∧ ∀ a, a < 300 → z a = w a := fun u2 g1 g2 => ih (i + 1) u2 (by omega) (by omega) g1 g2
        clear ih
        have hi : 0 ≤ (i : Int) ∧ (i : Int) < itr arrS r i 2 := ⟨by omega, by have := h2.2.1; omega⟩
        generalize itr arrS r i = q at h1 h2 hi e1 nx
        obtain ⟨b0', b1', b2', b3', -⟩ := h1.1
        obtain ⟨y0, y1, y2, y3, y4, y5, y6, -⟩ := h1.2.2.2.1 i hi.1 hi.2
        obtain ⟨⟨t1, t2, t3, t4, t5, t6, t7, t8⟩, t9, -⟩ := e1.2.2.2.2.2.1 i hi.1 hi.2
        have e22 : u 300 22 = q 3 := e1.2.1.2.2.1
        rw [lf10, l321, gd_t (by omega), t3, gd_t (by omega)]
        by_cases c1 : q (220 + 27 * (i : Int) + 3) = 1
        · rw [if_pos c1, lf12, l323, gd_t (by omega), (t9 c1).1, e22, gd_t (by omega)]
          by_cases c2 : q (220 + 27 * (i : Int) + 5) = q 3
          · rw [if_pos c2]
            obtain ⟨z, g1, g2, g3⟩ := l_lands hF e1 h1 hi c1
            rw [g1, bs]
            exact nx z (by unfold arrS; rw [if_pos ⟨c1, c2⟩]; exact g2) (fun a ha => by rw [g3 a ha]; exact f1 a ha)
          · rw [if_neg c2]
            exact nx u (by unfold arrS; rw [if_neg (fun z => c2 z.2)]; exact e1) f1
        · rw [if_neg c1]
          exact nx u (by unfold arrS; rw [if_neg (fun z => c1 z.1)]; exact e1) f1
  exact key F 0 w (by omega) (by omega) h (fun _ _ => rfl)
theorem l_time {w : aI} {r : Row} (h : LwR w r) (hW : WF r) : LwR (iset w 300 22 (r 3 + 1)) (rs (rs r 3 (r 3 + 1)) 10 (r 10 + 1)) := by
  obtain ⟨h05, hA, hX, hWy, hS, hT, hNn, hD⟩ := h
  have b1 := hW.1.2.1
  have dk : ∀ k, ¬ k = 3 → ¬ k = 10 → rs (rs r 3 (r 3 + 1)) 10 (r 10 + 1) k = r k := fun k p1 p2 => by rw [rs_ne p2, rs_ne p1]
  have d3 : rs (rs r 3 (r 3 + 1)) 10 (r 10 + 1) 3 = r 3 + 1 := by rw [rs_ne (by omega), rs_self]
  have hy : ∀ t, 0 ≤ t → t < r 2 → r (220 + 27 * t + 2) ≤ 8 := fun t t0 t1 => (hW.2.2.2.1 t t0 t1).2.2.2.1.2
  have hA2 : LwA (iset w 300 22 (r 3 + 1)) (rs r 3 (r 3 + 1)) := LwA.set 22 3 (r 3 + 1) (by decide) hA (fun k => by rw [is_eq]) (fun a p1 p2 => rfl) (fun t p1 p2 => by
    rw [rs_ne (by decide)] at p1
    rw [is_ne (by decide), is_ne (by decide)]
    exact hA.2.2.2.2.2.2.2.2.2.2.2.2.2.2 t p1 p2)
  have hA3 : LwA (iset w 300 22 (r 3 + 1)) (rs (rs r 3 (r 3 + 1)) 10 (r 10 + 1)) := by
    obtain ⟨q20, q21, q22, q23, q24, q25, q26, q27, q28, q29, q30, q31, q32, q33, qz⟩ := hA2
    refine ⟨?_, ?_, ?_, ?_, ?_, ?_, ?_, ?_, ?_, ?_, ?_, ?_, ?_, ?_, fun t p1 p2 => qz t (by rw [rs_ne (by decide)] at p1; exact p1) p2⟩
    all_goals (rw [rs_ne (show ¬ _ = (10 : Int) by decide)]; assumption)
  generalize rs (rs r 3 (r 3 + 1)) 10 (r 10 + 1) = q at dk d3 hA3 ⊢
  have zo : ∀ a, ¬ a = 300 → iset w 300 22 (r 3 + 1) a = w a := fun a p1 => is_ne p1
  have sw : SameW r q := ⟨dk 0 (by omega) (by omega), dk 1 (by omega) (by omega), fun k p1 p2 => dk k (by omega) (by omega)⟩
  have e2 := dk 2 (by omega) (by omega)
  generalize iset w 300 22 (r 3 + 1) = z at hA3 zo ⊢
  refine ⟨by rw [sw.1]; exact h05, hA3, hX.keep h05 sw.1 (fun a p1 p2 => zo a (by omega)) (fun k p1 p2 => dk k (by omega) (by omega)), hWy.sw h05 b1 sw (fun a p1 p2 => zo a (by omega)), hS.sw h05 b1 sw (fun a p1 p2 => zo a (by omega)), fun t t0 t1 => (hT t t0 (by omega)).of (fun a p1 p2 => by rw [zo a (by omega)]) (fun j p1 p2 => dk j (by omega) (by omega)), fun t t0 t1 => (hNn t t0 (by omega)).of (hy t t0 (by omega)) (zo _ (by omega)) (zo _ (by omega)) (fun j p1 p2 => dk j (by omega) (by omega)), by rw [zo 999 (by decide), e2]; exact hD.1, fun k k0 k1 => ?_⟩
  rw [zo 329 (by decide), zo 330 (by decide), e2]
  exact hD.2 k k0 k1
theorem l_ticks {F : Nat} (hF : 100 ≤ F) {w : aI} {r : Row} (h : LwR w r) (hW : WF r) (h3 : r 3 < 20000) : ∃ z, f_L_ticks F 300 w = some z ∧ LwR z (tickT r) ∧ ∀ a, a < 300 → z a = w a := by
  obtain ⟨h1, h2⟩ := WF_time hW h3
  have hL := l_time h hW
  have e22 : w 300 22 = r 3 := h.2.1.2.2.1
  have e21 : iset w 300 22 (r 3 + 1) 300 21 = r 2 := by rw [is_eq, rs_ne (by decide)]; exact h.2.1.2.1
  have er : rs (rs r 3 (r 3 + 1)) 10 (r 10 + 1) 2 = r 2 := by rw [rs_ne (by decide), rs_ne (by decide)]
  obtain ⟨z, g1, g2, g3⟩ := l_arr hF hL h1 h2
  rw [er] at g1
  unfold f_L_ticks
  rw [gd_t (h.2.2.2.2.2.2.2.n9 hW.1.2.2.1), e22, ltm, e21, lti, g1]
  exact ⟨z, rfl, g2, fun a ha => by rw [g3 a ha, is_ne (by omega)]⟩
