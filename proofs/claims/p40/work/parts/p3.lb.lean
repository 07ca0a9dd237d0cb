/-! ===== the law lands a tune: what comes behind the wrong notes ===== -/
theorem LwQ.of {w u : aI} {r : Row} (h : LwR w r) (b1 : 0 ≤ r 1 ∧ r 1 ≤ 20) (b2 : 0 ≤ r 2 ∧ r 2 < 30) (hy : ∀ t, 0 ≤ t → t < r 2 → r (220 + 27 * t + 2) ≤ 8) (hc : ∀ a, ¬ a = 331 + 2 * (r 2).toNat → ¬ a = 999 → u a = w a) (h9 : u 999 0 = w 999 0 + 1) : LwQ u r := by
  obtain ⟨h5, hA, hX, hWy, hS, hT, hN, d1, d2⟩ := h
  refine ⟨h5, hA.keep (hc 300 (by omega) (by decide)) (fun _ _ _ => rfl) (fun t _ => by rw [hc 325 (by omega) (by decide), hc 326 (by omega) (by decide)]; exact ⟨rfl, rfl⟩), hX.keep h5 rfl (fun a p1 p2 => hc a (by omega) (by omega)) (fun _ _ _ => rfl), hWy.sw h5 b1 (SameW.refl r) (fun a p1 p2 => hc a (by omega) (by omega)), hS.sw h5 b1 (SameW.refl r) (fun a p1 p2 => hc a (by omega) (by omega)), fun t t0 t1 => (hT t t0 t1).of (fun a p1 p2 => by rw [hc a (by omega) (by omega)]) (fun _ _ _ => rfl), fun t t0 t1 => (hN t t0 t1).of (hy t t0 t1) (hc _ (by omega) (by omega)) (hc _ (by omega) (by omega)) (fun _ _ _ => rfl), by rw [h9, d1]; omega, fun k k0 k1 => ?_⟩
  rw [hc 329 (by omega) (by decide), hc 330 (by omega) (by decide)]
  exact d2 k k0 k1
theorem rs_in {r : Row} {k v j u a : Int} (h : ¬ a = k) : rs (rs r k v) j u a = rs r j u a := by
  show (if a = j then u else rs r k v a) = (if a = j then u else r a)
  rw [rs_ne h]
/-- what is asked of the tune that lands -/
def Ly (r : Row) (i : Int) : Prop := (0 ≤ i ∧ i < r 2) ∧ (2 ≤ r 0 ∧ r 0 ≤ 5) ∧ (0 ≤ r 1 ∧ r 1 ≤ 20) ∧ (0 ≤ r 2 ∧ r 2 ≤ 30) ∧ (∀ t, 0 ≤ t → t < r 2 → r (220 + 27 * t + 2) ≤ 8) ∧ (1 ≤ r (220 + 27 * i + 2) ∧ r (220 + 27 * i + 2) ≤ 8) ∧ (∀ k, 220 + 27 * i + 11 ≤ k → k < 220 + 27 * i + 27 → 0 ≤ r k ∧ r k ≤ 7) ∧ (0 ≤ r (220 + 27 * i) ∧ r (220 + 27 * i) < r 0) ∧ (0 ≤ r (220 + 27 * i + 1) ∧ r (220 + 27 * i + 1) < r 0) ∧ (0 ≤ r (220 + 27 * i + 4) ∧ r (220 + 27 * i + 4) < r 0) ∧ (0 ≤ r (220 + 27 * i + 7) ∧ r (220 + 27 * i + 7) ≤ 1) ∧ (0 ≤ r (220 + 27 * i + 8) ∧ r (220 + 27 * i + 8) ≤ 3) ∧ (0 ≤ r 6 ∧ r 6 ≤ 3)
/-- fields of a row that a step on tune i keeps -/
def Ke (r q : Row) (i : Int) : Prop := ∀ k, (k < 13 ∨ 25 ≤ k) → ¬ k = 220 + 27 * i + 3 → ¬ k = 220 + 27 * i + 4 → ¬ k = 220 + 27 * i + 5 → ¬ k = 220 + 27 * i + 8 → (k < 220 + 27 * i + 11 ∨ 220 + 27 * i + 27 ≤ k) → q k = r k
theorem doneT_k {r : Row} {i k : Int} (h1 : ¬ k = 220 + 27 * i + 3) (h2 : ¬ k = 15) (h3 : ¬ k = 16) : doneT r i k = r k := by
  unfold doneT
  rw [rs_ne h3, rs_ne h2, rs_ne h1]
theorem doneT_3 {r : Row} {i : Int} (hi : 0 ≤ i) : doneT r i (220 + 27 * i + 3) = 2 := by
  unfold doneT
  rw [rs_ne (by omega), rs_ne (by omega), rs_self]
theorem doneT_15 {r : Row} {i : Int} : doneT r i 15 = r 15 + 1 := by
  unfold doneT
  rw [rs_ne (by decide), rs_self]
theorem doneT_16 {r : Row} {i : Int} : doneT r i 16 = r 16 + (if unl r i = 0 then 1 else 0) := by
  unfold doneT
  rw [rs_self]
theorem unl_done {r : Row} {i : Int} (hi : 0 ≤ i) (h8 : r (220 + 27 * i + 2) ≤ 8) : unl (doneT r i) i = unl r i := unl_congr (doneT_k (by omega) (by omega) (by omega)) h8 (fun k k0 k1 => doneT_k (by omega) (by omega) (by omega))
theorem l_fill {F : Nat} (hF : 100 ≤ F) {w : aI} {D : Row} {i N : Int} (h : LwR w D) (hL : Ly D i) (h2 : D 2 < 30) (hN : D (220 + 27 * i + 2) = N) :
    ∀ (n : Nat) (k : Int) (u : aI), 0 ≤ k → k ≤ N → N - k < n → (∀ a, ¬ a = 331 + 2 * (D 2).toNat → ¬ a = 999 → u a = w a) → u 999 0 = w 999 0 + 1 → u (331 + 2 * (D 2).toNat) 100 = N → (∀ j, N - k ≤ j → j < N → u (331 + 2 * (D 2).toNat) j = D (220 + 27 * i + 11 + N - 1 - j)) →
    ∃ z, f_L_lands_b261 F 300 i n N (331 + 2 * (D 2).toNat) k u = some z ∧ LwR z (newT D (D (220 + 27 * i + 1)) (D (220 + 27 * i)) N (fun j => D (220 + 27 * i + 11 + N - 1 - j)) 1 0) ∧ ∀ a, a < 300 → z a = u a := by
  obtain ⟨hi, b0, b1, b2, hy, y3, y12, ys, yg, ya, -⟩ := hL
  subst hN
  intro n
  induction n with
  | zero => intro k u k0 k1 k2; omega
  | succ n ih =>
    intro k u k0 k1 k2 u1 u9 u2 u3
    have hQ : LwQ u D := LwQ.of h b1 ⟨b2.1, h2⟩ hy u1 u9
    obtain ⟨g1, g2⟩ := h.2.2.2.2.2.2.2.snt b2 hi
    obtain ⟨n1, n2, n3⟩ := h.2.2.2.2.2.2.1 i hi.1 hi.2
    obtain ⟨⟨t1, t2, -⟩, -⟩ := h.2.2.2.2.2.1 i hi.1 hi.2
    have l30 := ll30
    have e329 : u 329 = w 329 := u1 329 (by omega) (by decide)
    have d1 := h.2.2.2.2.2.2.2.1
    have es : u (331 + 2 * i.toNat) = w (331 + 2 * i.toNat) := u1 _ (by omega) (by omega)
    show ∃ z, f_L_lands_b261_b F 300 i (f_L_lands_b261 F 300 i n) _ _ _ _ = _ ∧ _
    unfold f_L_lands_b261_b
    rw [gd_t (by omega)]
    by_cases c : D (220 + 27 * i + 2) ≤ k
    · rw [if_pos c, lf9, lf8, l30.2.1, l30.1, gd_t (by omega), gd_t (by omega), u1 320 (by omega) (by decide), u1 319 (by omega) (by decide), t2, t1]
      obtain ⟨z, z1, z2, z3⟩ := l_sends (F := F) (s := D (220 + 27 * i + 1)) (g := D (220 + 27 * i)) (want := 0) (rp := 1) (f := fun j => D (220 + 27 * i + 11 + D (220 + 27 * i + 2) - 1 - j)) hQ b1 b2 hy h2 rfl y3 u2 (fun j j0 j1 => u3 j (by omega) j1)
      rw [z1, bs]
      exact ⟨z, rfl, z2, z3⟩
    · obtain ⟨a1, -⟩ := n3 k k0 (by omega)
      have z1 := y12 (220 + 27 * i + 11 + k) (by omega) (by omega)
      rw [if_neg c, lf18, e329, gd_t (show inI i (shL 329) ∧ 331 ≤ w 329 i ∧ w 329 i < u 999 0 + 90 ∧ u 999 0 ≤ 800 by rw [u9, d1]; exact ⟨g1.1, g1.2.1, by omega, by omega⟩), g2, es, n1, u2, gd_t (by omega), gd_t (by omega), a1, ltm]
      obtain ⟨z, q1, q2, q3⟩ := ih (k + 1) (iset u (331 + 2 * (D 2).toNat) (D (220 + 27 * i + 2) - 1 - k) (D (220 + 27 * i + 11 + k))) (by omega) (by omega) (by omega) (fun a p1 p2 => by rw [is_ne p1]; exact u1 a p1 p2) (by rw [is_ne (by omega)]; exact u9) (by rw [is_eq, rs_ne (by omega)]; exact u2) (fun j j0 j1 => by
        rw [is_eq, rs_def]
        by_cases e : j = D (220 + 27 * i + 2) - 1 - k
        · rw [if_pos e, e]; congr 1; omega
        · rw [if_neg e]; exact u3 j (by omega) j1)
      exact ⟨z, q1, q2, fun a ha => by rw [q3 a ha, is_ne (by omega)]⟩
theorem l_done {F : Nat} (hF : 100 ≤ F) {w : aI} {r : Row} {i N : Int} (h : LwR w r) (hL : Ly r i) (h5 : r (220 + 27 * i + 5) = -1) (hN : r (220 + 27 * i + 2) = N) :
    ∃ z, f_L_lands_b198 F 300 i N w = some z ∧ LwR z (replyT (doneT r i) i) ∧ ∀ a, a < 300 → z a = w a := by
  have hL0 := hL
  obtain ⟨hi, b0, b1, b2, hy, y3, y12, ys, yg, ya, yw, yt, y6⟩ := hL
  obtain ⟨l319, l320, l321, l322, l323, l324, l325, l326, l327, l328, l329, l330⟩ := ll30
  have h0 := h
  obtain ⟨h05, hA, hX, hWy, hS, hT, hNn, hD⟩ := h0
  have e28 := hA.2.2.2.2.2.2.2.2.1
  have e29 := hA.2.2.2.2.2.2.2.2.2.1
  have e21 := hA.2.1
  have hZ := hA.2.2.2.2.2.2.2.2.2.2.2.2.2.2
  have dk : ∀ k, ¬ k = 220 + 27 * i + 3 → ¬ k = 15 → ¬ k = 16 → doneT r i k = r k := fun k p1 p2 p3 => doneT_k p1 p2 p3
  have sw : SameW r (doneT r i) := ⟨dk 0 (by omega) (by decide) (by decide), dk 1 (by omega) (by decide) (by decide), fun k p1 p2 => dk k (by omega) (by omega) (by omega)⟩
  have hu := unl_done (r := r) hi.1 y3.2
  -- the row behind it, whatever is counted
  have core : ∀ z : aI, (∀ a, ¬ a = 300 → ¬ a = 321 → z a = w a) → z 321 = rs (w 321) i 2 → LwA z (doneT r i) → LwR z (doneT r i) := by
    intro z z1 z2 zA
    refine h.step b1 b2.2 hy hi sw (dk 2 (by omega) (by decide) (by decide)) (fun k p1 p2 => dk k (by omega) (by omega) (by omega)) (fun a p1 p2 t p3 => ?_) (fun a p1 p2 => z1 a (by omega) (by omega)) zA (hX.keep h05 (dk 0 (by omega) (by decide) (by decide)) (fun a p1 p2 => z1 a (by omega) (by omega)) (fun k p1 p2 => dk k (by omega) (by omega) (by omega))) ?_ ?_
    · by_cases e : a = 321
      · subst e; rw [z2, rs_ne p3]
      · rw [z1 a (by omega) e]
    · obtain ⟨⟨t1, t2, t3, t4, t5, t6, t7, t8⟩, -⟩ := hT i hi.1 hi.2
      unfold LwT1
      rw [z1 319 (by decide) (by decide), z1 320 (by decide) (by decide), z1 322 (by decide) (by decide), z1 325 (by decide) (by decide), z1 326 (by decide) (by decide), z1 327 (by decide) (by decide), z1 328 (by decide) (by decide), z2, rs_self, doneT_3 hi.1, dk (220 + 27 * i) (by omega) (by omega) (by omega), dk (220 + 27 * i + 1) (by omega) (by omega) (by omega), dk (220 + 27 * i + 4) (by omega) (by omega) (by omega), dk (220 + 27 * i + 8) (by omega) (by omega) (by omega), dk (220 + 27 * i + 9) (by omega) (by omega) (by omega), dk (220 + 27 * i + 7) (by omega) (by omega) (by omega), dk (220 + 27 * i + 6) (by omega) (by omega) (by omega), dk (220 + 27 * i + 5) (by omega) (by omega) (by omega)]
      exact ⟨⟨t1, t2, rfl, t4, t5, t6, t7, t8⟩, fun z9 => absurd z9 (by decide), fun _ => h5⟩
    · obtain ⟨n1, n2, n3⟩ := hNn i hi.1 hi.2
      unfold LwN1
      rw [z1 _ (by omega) (by omega), z1 _ (by omega) (by omega), dk (220 + 27 * i + 2) (by omega) (by omega) (by omega)]
      refine ⟨n1, n2, fun k k0 k1 => ?_⟩
      rw [dk _ (by omega) (by omega) (by omega), dk _ (by omega) (by omega) (by omega)]
      exact n3 k k0 k1
  unfold f_L_lands_b198
  rw [lf10, l321, gd_t (by omega), ltm, ltm]
  obtain ⟨u, hu9⟩ : ∃ u, u = iset (iset w 321 i 2) 300 28 (iset w 321 i 2 300 28 + 1) := ⟨_, rfl⟩
  rw [← hu9]
  have u300 : u 300 = rs (w 300) 28 (r 15 + 1) := by rw [hu9, is_eq, is_ne (by decide), e28]
  have uo : ∀ a, ¬ a = 300 → ¬ a = 321 → u a = w a := fun a p1 p2 => by rw [hu9, is_ne p1, is_ne p2]
  have u321 : u 321 = rs (w 321) i 2 := by rw [hu9, is_ne (by decide), is_eq]
  have uZ : ∀ t, r 2 ≤ t → t < 30 → u 325 t = 0 ∧ u 326 t = 0 := fun t p1 p2 => by rw [uo 325 (by decide) (by decide), uo 326 (by decide) (by decide)]; exact hZ t p1 p2
  -- as heard: one count more
  obtain ⟨q1, hq1⟩ : ∃ q1 : Row, q1 = rs (rs r (220 + 27 * i + 3) 2) 15 (r 15 + 1) := ⟨_, rfl⟩
  have q1k : ∀ k, ¬ k = 220 + 27 * i + 3 → ¬ k = 15 → q1 k = r k := fun k p1 p2 => by rw [hq1, rs_ne p2, rs_ne p1]
  have uA : LwA u q1 := LwA.set 28 15 (r 15 + 1) (by decide) hA (fun k => by rw [u300]) (fun a p1 p2 => by rw [hq1]; exact rs_in (by omega)) (fun t p1 p2 => uZ t (by rw [q1k 2 (by omega) (by decide)] at p1; exact p1) p2)
  have e8 : u 300 29 = r 16 := by rw [u300, rs_ne (by decide)]; exact e29
  -- right or not
  have hRight : f_L_isRight F 300 i u = some (decide (unl r i = 0)) := by
    have hq : LwR u q1 := by
      refine h.step b1 b2.2 hy hi ⟨q1k 0 (by omega) (by decide), q1k 1 (by omega) (by decide), fun k p1 p2 => q1k k (by omega) (by omega)⟩ (q1k 2 (by omega) (by decide)) (fun k p1 p2 => q1k k (by omega) (by omega)) (fun a p1 p2 t p3 => ?_) (fun a p1 p2 => uo a (by omega) (by omega)) uA (hX.keep h05 (q1k 0 (by omega) (by decide)) (fun a p1 p2 => uo a (by omega) (by omega)) (fun k p1 p2 => q1k k (by omega) (by omega))) ?_ ?_
      · by_cases e : a = 321
        · subst e; rw [u321, rs_ne p3]
        · rw [uo a (by omega) e]
      · obtain ⟨⟨t1, t2, t3, t4, t5, t6, t7, t8⟩, -⟩ := hT i hi.1 hi.2
        have q13 : q1 (220 + 27 * i + 3) = 2 := by rw [hq1, rs_ne (by omega), rs_self]
        unfold LwT1
        rw [uo 319 (by decide) (by decide), uo 320 (by decide) (by decide), uo 322 (by decide) (by decide), uo 325 (by decide) (by decide), uo 326 (by decide) (by decide), uo 327 (by decide) (by decide), uo 328 (by decide) (by decide), u321, rs_self, q13, q1k (220 + 27 * i) (by omega) (by omega), q1k (220 + 27 * i + 1) (by omega) (by omega), q1k (220 + 27 * i + 4) (by omega) (by omega), q1k (220 + 27 * i + 8) (by omega) (by omega), q1k (220 + 27 * i + 9) (by omega) (by omega), q1k (220 + 27 * i + 7) (by omega) (by omega), q1k (220 + 27 * i + 6) (by omega) (by omega), q1k (220 + 27 * i + 5) (by omega) (by omega)]
        exact ⟨⟨t1, t2, rfl, t4, t5, t6, t7, t8⟩, fun z9 => absurd z9 (by decide), fun _ => h5⟩
      · obtain ⟨n1, n2, n3⟩ := hNn i hi.1 hi.2
        unfold LwN1
        rw [uo _ (by omega) (by omega), uo _ (by omega) (by omega), q1k (220 + 27 * i + 2) (by omega) (by omega)]
        refine ⟨n1, n2, fun k k0 k1 => ?_⟩
        rw [q1k _ (by omega) (by omega), q1k _ (by omega) (by omega)]
        exact n3 k k0 k1
    have hun : unl q1 i = unl r i := unl_congr (q1k _ (by omega) (by omega)) y3.2 (fun k k0 k1 => q1k k (by omega) (by omega))
    rw [l_isRight hF hq (by rw [q1k 2 (by omega) (by decide)]; exact b2) (by rw [q1k 2 (by omega) (by decide)]; exact hi) (by rw [q1k (220 + 27 * i + 2) (by omega) (by omega)]; exact y3) (fun k k0 k1 => by rw [q1k k (by omega) (by omega)]; exact y12 k k0 k1), hun]
  rw [hRight, bs]
  by_cases c : unl r i = 0
  · rw [if_pos (decide_eq_true c), ltm]
    obtain ⟨v, hv⟩ : ∃ v, v = iset u 300 29 (u 300 29 + 1) := ⟨_, rfl⟩
    rw [← hv]
    have vo : ∀ a, ¬ a = 300 → v a = u a := fun a p1 => by rw [hv, is_ne p1]
    have v300 : v 300 = rs (u 300) 29 (r 16 + 1) := by rw [hv, is_eq, e8]
    have vA : LwA v (doneT r i) := LwA.set 29 16 (r 16 + 1) (by decide) uA (fun k => by rw [v300]) (fun a p1 p2 => by
      rw [rs_def]
      by_cases e : a = 16
      · rw [if_pos e, e, doneT_16, if_pos c]
      · rw [if_neg e, hq1]
        unfold doneT
        rw [rs_ne e]) (fun t p1 p2 => by rw [vo 325 (by decide), vo 326 (by decide)]; exact uZ t (by rw [dk 2 (by omega) (by decide) (by decide)] at p1; exact p1) p2)
    have hR := core v (fun a p1 p2 => by rw [vo a p1]; exact uo a p1 p2) (by rw [vo 321 (by decide)]; exact u321) vA
    have hT2 := (hT i hi.1 hi.2).1.2.2.2.2.2.2.1
    have vw : v 327 i = r (220 + 27 * i + 7) := by rw [vo 327 (by decide), uo 327 (by decide) (by decide)]; exact hT2
    have v21 : v 300 21 = r 2 := by rw [v300, rs_ne (by decide), u300, rs_ne (by decide)]; exact e21
    rw [lf16, l327, gd_t (by omega), vw, gd_t (by omega)]
    have v0 : ∀ a, a < 300 → v a = w a := fun a ha => by rw [vo a (by omega)]; exact uo a (by omega) (by omega)
    by_cases c7 : r (220 + 27 * i + 7) = 0
    · rw [if_pos c7]
      refine ⟨v, rfl, ?_, v0⟩
      unfold replyT
      rw [if_pos (Or.inl (by rw [dk _ (by omega) (by omega) (by omega)]; exact c7))]
      exact hR
    · rw [if_neg c7, v21, gd_t (by omega)]
      by_cases c2 : r 2 = 30
      · rw [if_pos c2]
        refine ⟨v, rfl, ?_, v0⟩
        unfold replyT
        rw [if_pos (Or.inr (Or.inr (by rw [dk 2 (by omega) (by decide) (by decide)]; exact c2)))]
        exact hR
      · have d2 : doneT r i 2 = r 2 := dk 2 (by omega) (by decide) (by decide)
        have dn : doneT r i (220 + 27 * i + 2) = N := by rw [dk _ (by omega) (by omega) (by omega)]; exact hN
        have hD9 := hR.2.2.2.2.2.2.2
        rw [if_neg c2, gd_t (show (0 ≤ N ∧ N ≤ 8) ∧ (241 ≤ v 999 0 ∧ v 999 0 < 800) ∧ olds v from ⟨by omega, by rw [hD9.1, d2]; omega, hD9.olds (by rw [d2]; exact b2)⟩), ltm]
        have hcq : (v 999 0 + 90).toNat = 331 + 2 * (doneT r i 2).toNat := by rw [hD9.1, d2]; omega
        have hLd : Ly (doneT r i) i := by
          unfold Ly
          rw [d2, dk 0 (by omega) (by decide) (by decide), dk 1 (by omega) (by decide) (by decide), dk 6 (by omega) (by decide) (by decide), dk (220 + 27 * i + 2) (by omega) (by omega) (by omega), dk (220 + 27 * i) (by omega) (by omega) (by omega), dk (220 + 27 * i + 1) (by omega) (by omega) (by omega), dk (220 + 27 * i + 4) (by omega) (by omega) (by omega), dk (220 + 27 * i + 7) (by omega) (by omega) (by omega), dk (220 + 27 * i + 8) (by omega) (by omega) (by omega)]
          exact ⟨hi, b0, b1, b2, fun t t0 t1 => by rw [dk _ (by omega) (by omega) (by omega)]; exact hy t t0 t1, y3, fun k k0 k1 => by rw [dk k (by omega) (by omega) (by omega)]; exact y12 k k0 k1, ys, yg, ya, yw, yt, y6⟩
        obtain ⟨z, z1, z2, z3⟩ := l_fill (F := F) hF hR hLd (by rw [d2]; omega) dn F 0 (newW v N) (by omega) (by omega) (by omega) (fun a p1 p2 => newW_old (by rw [hcq]; exact p1) p2) (newW_999 (by rw [hcq, d2]; omega)) (by rw [newW_new hcq.symm]; exact if_pos rfl) (fun j j0 j1 => by omega)
        rw [hcq, z1]
        refine ⟨z, rfl, ?_, fun a ha => by rw [z3 a ha, newW_old (by rw [hcq]; omega) (by omega)]; exact v0 a ha⟩
        unfold replyT
        rw [if_neg (by rw [hu, d2, dk (220 + 27 * i + 7) (by omega) (by omega) (by omega)]; omega), dn]
        exact z2
  · have hub := unl_bd (r := r) (i := i) y3
    rw [if_neg (by rw [decide_eq_true_iff]; exact c)]
    refine ⟨u, rfl, ?_, fun a ha => uo a (by omega) (by omega)⟩
    unfold replyT
    rw [if_pos (Or.inr (Or.inl (by rw [hu]; omega)))]
    refine core u uo u321 ?_
    refine LwA.set 28 15 (r 15 + 1) (by decide) hA (fun k => by rw [u300]) (fun a p1 p2 => ?_) (fun t p1 p2 => uZ t (by rw [dk 2 (by omega) (by decide) (by decide)] at p1; exact p1) p2)
    unfold doneT
    rw [if_neg c]
    by_cases e : a = 16
    · subst e; rw [rs_self, rs_ne (by decide)]; omega
    · rw [rs_ne e]; exact rs_in (by omega)
