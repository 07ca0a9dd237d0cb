/-! ===== why a tune waits ===== -/
noncomputable def causeR (r : Row) (i : Int) : Int :=
  if r (220 + 27 * i + 3) = 0 then
    (if nxt r (r (220 + 27 * i + 4)) (r (220 + 27 * i + 1)) = -1 then 200 + r (220 + 27 * i + 1) else
     if (r 3 + 1) % 60 < r 5 then
       (if busy r (r (220 + 27 * i + 4)) (r 3 + 1) = true then 400 + r (25 + 13 * r (220 + 27 * i + 4) + 11) - (r 3 + 1) else
        if feeA r i (r (220 + 27 * i + 4)) - pur r i ≤ 0 then (if firstG r (r (220 + 27 * i + 4)) = i then 0 else 600 + firstG r (r (220 + 27 * i + 4))) else 500 + (feeA r i (r (220 + 27 * i + 4)) - pur r i))
     else 300 + (r 3 + 1) % 60)
  else 100 + r (220 + 27 * i + 3)
theorem c_cause {F : Nat} {w : aI} {r : Row} {i : Int} (hF : 100 ≤ F) (hN : Rep w 12 r) (hW : WF r) (h3 : r 3 ≤ 9999) (hi : 0 ≤ i ∧ i < r 2) : f_X6_causeOf F 12 i w = some (causeR r i) := by
  obtain ⟨b0, b1, b2, b3, b4, b5, b6⟩ := hW.1
  obtain ⟨y0, y1, y2, y3, y4, y5, -⟩ := hW.2.2.2.1 i hi.1 hi.2
  have hx := (hW.2.1 _ y5.1 y5.2).2.2.2.2.2.2
  have hnr := nxt_rg r (r (220 + 27 * i + 4)) (r (220 + 27 * i + 1))
  have hfe := fee_bd (x := r (220 + 27 * i + 4)) hW.1 hW.2.1 hW.2.2.2.1 hi y5
  have hpu := pur_bd hW.1 hW.2.1 hW.2.2.2.1 hi
  have hfr := fstep_rg r (r (220 + 27 * i + 4)) (r 2).toNat
  rw [← firstG_eq] at hfr
  unfold f_X6_causeOf causeR
  rw [pf6 P12, c_tune P12 hN b2 hi (by omega), bs, c_tune P12 hN b2 hi (by omega), bs, lti, hN.1.2.1, gd_t (by omega)]
  by_cases e0 : r (220 + 27 * i + 3) = 0
  · rw [if_pos e0, if_pos e0, c_nextOf P12 hN b0.2 b2 hi y5 y1, bs, gd_t (by omega)]
    by_cases e1 : nxt r (r (220 + 27 * i + 4)) (r (220 + 27 * i + 1)) = -1
    · rw [if_pos e1, if_pos e1, c_tune P12 hN b2 hi (by omega), bs]
    · have et : Int.tmod (r 3 + 1) 60 = (r 3 + 1) % 60 := tm 60 (by omega)
      rw [if_neg e1, if_neg e1, gd_t (by omega), c_set9 P12 hN, bs, et, gd_t (by omega)]
      by_cases e2 : (r 3 + 1) % 60 < r 5
      · rw [if_pos e2, if_pos e2, c_busy P12 hN b0.2 y5 (by omega) (by omega), bs]
        by_cases e3 : busy r (r (220 + 27 * i + 4)) (r 3 + 1) = true
        · rw [if_pos e3, if_pos e3, pf4 P12, c_roof P12 hN b0.2 y5 (by omega), bs, show 25 + 13 * r (220 + 27 * i + 4) + 7 + 4 = 25 + 13 * r (220 + 27 * i + 4) + 11 by omega]
        · rw [if_neg e3, if_neg e3, c_lack P12 hN b0.2 b2 hi y5 y0 y3, bs, gd_t (by omega)]
          by_cases e4 : feeA r i (r (220 + 27 * i + 4)) - pur r i ≤ 0
          · rw [if_pos e4, if_pos e4, c_first P12 hN hW hF y5, bs, gd_t (by omega)]
            split <;> rfl
          · rw [if_neg e4, if_neg e4, bs]
      · rw [if_neg e2, if_neg e2]
  · rw [if_neg e0, if_neg e0]
noncomputable def reasR (r : Row) (i : Int) : Int :=
  if r (220 + 27 * i + 3) = 0 then
    (if nxt r (r (220 + 27 * i + 4)) (r (220 + 27 * i + 1)) = -1 then 2 else
     if (r 3 + 1) % 60 < r 5 then
       (if busy r (r (220 + 27 * i + 4)) (r 3 + 1) = true then 4 else
        if feeA r i (r (220 + 27 * i + 4)) - pur r i ≤ 0 then (if firstG r (r (220 + 27 * i + 4)) = i then 0 else 6) else 5)
     else 3)
  else 1
theorem first_some {r : Row} {x i : Int} (h : waits r i x = true) (hf : feeA r i x ≤ pur r i) (hn : ¬ nxt r x (r (220 + 27 * i + 1)) = -1) (h0 : 0 ≤ i) : ∀ n : Nat, i < n → ¬ itr (fstep r x) (-1) n = -1 := by
  intro n
  induction n with
  | zero => intro c; omega
  | succ n ih =>
    intro c
    show ¬ fstep r x n (itr (fstep r x) (-1) n) = -1
    by_cases e : i = n
    · rw [← e] at *
      generalize itr (fstep r x) (-1) n = best
      unfold fstep
      by_cases c2 : best = -1
      · rw [if_pos ⟨h, Or.inl c2, hf, hn⟩]; omega
      · split
        · omega
        · exact c2
    · have := ih (by omega)
      generalize itr (fstep r x) (-1) n = best at this ⊢
      unfold fstep
      split
      · omega
      · exact this
theorem m_reason {F : Nat} {w : aI} {i : Int} (hF : 20000 ≤ F) (hW : WF (w 211)) (h3 : w 211 3 ≤ 9999) (hi : 0 ≤ i ∧ i < w 211 2) : ∃ w2, f_X11_reason F 210 i w = some (reasR (w 211) i, w2) ∧ w2 211 = w 211 ∧ Fm w w2 := by
  obtain ⟨b0, b1, b2, b3, b4, b5, b6⟩ := hW.1
  obtain ⟨y0, y1, y2, y3, y4, y5, y6, y7, y8, y9, y10, y11, y12, y13, y14, y15⟩ := hW.2.2.2.1 i hi.1 hi.2
  have hx := (hW.2.1 _ y5.1 y5.2).2.2.2.2.2.2
  have hfe := fee_bd (x := w 211 (220 + 27 * i + 4)) hW.1 hW.2.1 hW.2.2.2.1 hi y5
  have hpu := pur_bd hW.1 hW.2.1 hW.2.2.2.1 hi
  have hfr := fstep_rg (w 211) (w 211 (220 + 27 * i + 4)) (w 211 2).toNat
  rw [← firstG_eq] at hfr
  unfold f_X11_reason reasR
  rw [m_t, bs, m0, n0, gd_t (by omega), lti, gd_t (by omega), gd_t (by omega)]
  by_cases e0 : w 211 (220 + 27 * i + 3) = 0
  · have hni := nxt_iff hW y5 y1 (y14 e0)
    have hdb := dist_bd b0 b1 hW.2.2.1 (W := -1) (by omega) y1 y5
    obtain ⟨q, f1, -⟩ := m_sumTo (F := F) (w := w) (by omega) b0 b1 hW.2.2.1 y5 y1
    obtain ⟨w1, hw1⟩ : ∃ w1, w1 = stc w 216 q := ⟨_, rfl⟩
    rw [← hw1] at f1
    have r1 : w1 211 = w 211 := by rw [hw1, stc_ne (by decide)]
    have g1 : Fm w w1 := by rw [hw1]; exact (Fm.refl w).stc q (by omega)
    have et : Int.tmod (w 211 3 + 1) 60 = (w 211 3 + 1) % 60 := tm 60 (by omega)
    rw [if_pos e0, if_pos e0, gd_t (by omega), f1, bj, gd_t (by omega)]
    by_cases e1 : nxt (w 211) (w 211 (220 + 27 * i + 4)) (w 211 (220 + 27 * i + 1)) = -1
    · rw [if_pos e1, if_pos (hni.mp e1)]
      exact ⟨w1, rfl, r1, g1⟩
    · rw [if_neg e1, if_neg (fun h => e1 (hni.mpr h)), gd_t (by omega), r1, gd_t (by omega), gd_t (by omega), et, gd_t (by omega)]
      by_cases e2 : (w 211 3 + 1) % 60 < w 211 5
      · rw [if_pos e2, if_pos e2, gd_t (by omega), m_busy (by omega) (by omega) (by rw [r1]; omega), bs, r1]
        by_cases e3 : busy (w 211) (w 211 (220 + 27 * i + 4)) (w 211 3 + 1) = true
        · rw [if_pos e3, if_pos e3]
          exact ⟨w1, rfl, r1, g1⟩
        · rw [if_neg e3, if_neg e3, m_purse (by omega) (by rw [r1]; omega), bs, m_fee (by omega) (by omega) (by rw [r1]; exact y3), bs, r1, gd_t (by omega)]
          by_cases e4 : feeA (w 211) i (w 211 (220 + 27 * i + 4)) - pur (w 211) i ≤ 0
          · obtain ⟨q2, f2⟩ := m_firstAt (F := F) (w := w1) (x := w 211 (220 + 27 * i + 4)) (by omega) (by rw [r1]; exact hW.1) (by rw [r1]; exact hW.2.1) (by rw [r1]; exact hW.2.2.1) (by rw [r1]; exact hW.2.2.2.1) (by rw [r1]; exact y5)
            rw [r1] at f2
            rw [if_pos e4, if_pos (by omega), f2, bj, gd_t (by omega)]
            by_cases e5 : firstG (w 211) (w 211 (220 + 27 * i + 4)) = i
            · rw [if_pos e5, if_pos e5]
              exact ⟨_, rfl, by rw [stc_ne (by decide), r1], g1.stc q2 (by omega)⟩
            · rw [if_neg e5, if_neg e5]
              exact ⟨_, rfl, by rw [stc_ne (by decide), r1], g1.stc q2 (by omega)⟩
          · rw [if_neg e4, if_neg (by omega)]
            exact ⟨w1, rfl, r1, g1⟩
      · rw [if_neg e2, if_neg e2]
        exact ⟨w1, rfl, r1, g1⟩
  · rw [if_neg e0, if_neg e0]
    exact ⟨w, rfl, rfl, Fm.refl w⟩
theorem m_cause {F : Nat} {w : aI} {i : Int} (hF : 20000 ≤ F) (hW : WF (w 211)) (h3 : w 211 3 ≤ 9999) (hi : 0 ≤ i ∧ i < w 211 2) : ∃ w2, f_X11_cause F 210 i (reasR (w 211) i) w = some (causeR (w 211) i, w2) ∧ w2 211 = w 211 ∧ Fm w w2 := by
  obtain ⟨b0, b1, b2, b3, b4, b5, b6⟩ := hW.1
  obtain ⟨y0, y1, y2, y3, y4, y5, y6, y7, y8, y9, y10, y11, y12, y13, y14, y15⟩ := hW.2.2.2.1 i hi.1 hi.2
  have et : Int.tmod (w 211 3 + 1) 60 = (w 211 3 + 1) % 60 := tm 60 (by omega)
  have rr : 0 ≤ reasR (w 211) i ∧ reasR (w 211) i ≤ 6 := by
    unfold reasR
    repeat' split
    all_goals omega
  unfold f_X11_cause
  rw [m_t, bs, m0, n0, gd_t (by omega), lti, gd_t (by omega)]
  unfold reasR causeR
  by_cases e0 : w 211 (220 + 27 * i + 3) = 0
  · rw [if_pos e0, if_pos e0]
    by_cases e1 : nxt (w 211) (w 211 (220 + 27 * i + 4)) (w 211 (220 + 27 * i + 1)) = -1
    · rw [if_pos e1, if_pos e1, if_neg (by decide), if_pos rfl, gd_t (by omega)]
      exact ⟨w, rfl, rfl, Fm.refl w⟩
    · rw [if_neg e1, if_neg e1]
      by_cases e2 : (w 211 3 + 1) % 60 < w 211 5
      · rw [if_pos e2, if_pos e2]
        by_cases e3 : busy (w 211) (w 211 (220 + 27 * i + 4)) (w 211 3 + 1) = true
        · rw [if_pos e3, if_pos e3, if_neg (by decide), if_neg (by decide), if_neg (by decide), if_pos rfl, m_r, bs, gd_t (by omega), gd_t (by omega)]
          exact ⟨w, congrArg some (Prod.ext (by show _ - _ - 1 = _; omega) rfl), rfl, Fm.refl w⟩
        · rw [if_neg e3, if_neg e3]
          by_cases e4 : feeA (w 211) i (w 211 (220 + 27 * i + 4)) - pur (w 211) i ≤ 0
          · rw [if_pos e4, if_pos e4]
            by_cases e5 : firstG (w 211) (w 211 (220 + 27 * i + 4)) = i
            · rw [if_pos e5, if_pos e5, if_neg (by decide), if_neg (by decide), if_neg (by decide), if_neg (by decide), if_neg (by decide), if_neg (by decide)]
              exact ⟨w, rfl, rfl, Fm.refl w⟩
            · obtain ⟨q2, f2⟩ := m_firstAt (F := F) (w := w) (x := w 211 (220 + 27 * i + 4)) (by omega) hW.1 hW.2.1 hW.2.2.1 hW.2.2.2.1 y5
              rw [if_neg e5, if_neg e5, if_neg (by decide), if_neg (by decide), if_neg (by decide), if_neg (by decide), if_neg (by decide), if_pos rfl, f2, bj]
              exact ⟨_, rfl, by rw [stc_ne (by decide)], (Fm.refl w).stc q2 (by omega)⟩
          · rw [if_neg e4, if_neg e4, if_neg (by decide), if_neg (by decide), if_neg (by decide), if_neg (by decide), if_pos rfl, m_fee (by omega) (by omega) y3, bs, m_purse (by omega) (by omega), bs]
            exact ⟨w, congrArg some (Prod.ext (by show 500 + _ - _ = _; omega) rfl), rfl, Fm.refl w⟩
      · rw [if_neg e2, if_neg e2, if_neg (by decide), if_neg (by decide), if_pos rfl, gd_t (by omega), gd_t (by omega), et]
        exact ⟨w, rfl, rfl, Fm.refl w⟩
  · rw [if_neg e0, if_neg e0, if_pos rfl, gd_t (by omega)]
    exact ⟨w, rfl, rfl, Fm.refl w⟩
theorem cause_reas {r : Row} {i : Int} (hW : WF r) (h3 : r 3 ≤ 9999) (hi : 0 ≤ i ∧ i < r 2) : Int.tdiv (causeR r i) 100 = reasR r i ∧ rg (causeR r i) := by
  obtain ⟨b0, b1, b2, b3, b4, b5, b6⟩ := hW.1
  obtain ⟨y0, y1, y2, y3, y4, y5, -⟩ := hW.2.2.2.1 i hi.1 hi.2
  have hx := (hW.2.1 _ y5.1 y5.2).2.2.2.2.2.2
  have hfe := fee_bd (x := r (220 + 27 * i + 4)) hW.1 hW.2.1 hW.2.2.2.1 hi y5
  have hpu := pur_bd hW.1 hW.2.1 hW.2.2.2.1 hi
  have hfr := fstep_rg r (r (220 + 27 * i + 4)) (r 2).toNat
  have hd : ∀ a : Int, 0 ≤ a → Int.tdiv a 100 = a / 100 := fun a ha => td 100 ha
  unfold causeR reasR
  by_cases e0 : r (220 + 27 * i + 3) = 0
  · rw [if_pos e0, if_pos e0]
    by_cases e1 : nxt r (r (220 + 27 * i + 4)) (r (220 + 27 * i + 1)) = -1
    · rw [if_pos e1, if_pos e1, hd _ (by omega)]; omega
    · rw [if_neg e1, if_neg e1]
      by_cases e2 : (r 3 + 1) % 60 < r 5
      · rw [if_pos e2, if_pos e2]
        by_cases e3 : busy r (r (220 + 27 * i + 4)) (r 3 + 1) = true
        · have e3' := of_decide_eq_true e3
          rw [if_pos e3, if_pos e3, hd _ (by omega)]; omega
        · rw [if_neg e3, if_neg e3]
          by_cases e4 : feeA r i (r (220 + 27 * i + 4)) - pur r i ≤ 0
          · rw [if_pos e4, if_pos e4]
            have hs := first_some (r := r) (x := r (220 + 27 * i + 4)) (i := i) (decide_eq_true ⟨e0, rfl⟩) (by omega) e1 hi.1 (r 2).toNat (by omega)
            rw [← firstG_eq] at hfr hs
            by_cases e5 : firstG r (r (220 + 27 * i + 4)) = i
            · rw [if_pos e5, if_pos e5, hd _ (by omega)]; omega
            · rw [if_neg e5, if_neg e5, hd _ (by omega)]; omega
          · rw [if_neg e4, if_neg e4, hd _ (by omega)]; omega
      · rw [if_neg e2, if_neg e2, hd _ (by omega)]; omega
  · rw [if_neg e0, if_neg e0, hd _ (by omega)]; omega
theorem top_why {F : Nat} (hF : 20000 ≤ F) {i k : Int} (hi : rg i) (hk : rg k) : TopR [eIO, eIA] (f_X10_why F 0 i k) (f_X11_why F 210 i k) := by
  intro w hI
  obtain ⟨hN, hW, h3⟩ := hI.2.2.2.2.1
  obtain ⟨b0, b1, b2, b3, -⟩ := hW.1
  unfold f_X10_why f_X11_why
  rw [c_needTune hN hi b2, c_needNumber hk (by decide) (by decide), bN rfl, bN rfl, k5, m_isTune hi b2, bs, gd_t hk, m_in (by omega) (by decide) (by decide), bs]
  by_cases c : 0 ≤ i ∧ i < w 211 2
  · rw [if_pos c, decide_eq_true c]
    by_cases c2 : 0 ≤ k ∧ k ≤ 1
    · obtain ⟨q1, q2⟩ := cause_reas hW h3 c
      have e9 := thr_211 w 0
      obtain ⟨w2, f1, f2, f3⟩ := m_reason (F := F) (w := iset w 210 6 0) hF (by rw [e9]; exact hW) (by rw [e9]; exact h3) (by rw [e9]; exact c)
      rw [e9] at f1 f2
      have t6 := thr_at w 0
      rw [if_pos c2, decide_eq_true c2, may2t, bk, if_pos rfl, c_cause (by omega) hN hW h3 c, bs, gd_t hk, f1, bj]
      by_cases ck : k = 1
      · obtain ⟨w3, f4, f5, f6⟩ := m_cause (F := F) (w := w2) hF (by rw [f2]; exact hW) (by rw [f2]; exact h3) (by rw [f2]; exact c)
        rw [f2] at f4
        rw [if_pos ck, if_neg (by omega), f4, bj]
        refine ⟨.inl (causeR (w 211) i), causeR (w 211) i, w3, rfl, rfl, (hI.thr 0).scratch (f3.trans f6).fw (by rw [f5, f2, e9]), ?_, rfl⟩
        rw [(f3.trans f6).2 6 (by omega) (by omega)]; exact t6
      · rw [if_neg ck, if_pos (by omega), gd_t q2, q1]
        refine ⟨.inl (reasR (w 211) i), reasR (w 211) i, w2, rfl, rfl, (hI.thr 0).scratch f3.fw (by rw [f2, e9]), ?_, rfl⟩
        rw [f3.2 6 (by omega) (by omega)]; exact t6
    · rw [if_neg c2, decide_eq_false c2, may2f, bk]
      refine ⟨.inr eIA, 0, iset w 210 6 2, rfl, rfl, hI.thr 2, ?_⟩
      rw [thr_at]; exact ⟨by decide, by decide, by decide⟩
  · rw [if_neg c, decide_eq_false c, may2g, bk]
    refine ⟨.inr eIO, 0, iset w 210 6 1, rfl, rfl, hI.thr 1, ?_⟩
    rw [thr_at]; exact ⟨by decide, by decide, by decide⟩
