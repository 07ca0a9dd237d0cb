/-! ===== any statement of a script; the whole text ===== -/
section Sk3
variable {F : Nat} {u v : aI} {B : Int → Int} {N p : Int} {r : Row} {q : Int}
theorem m_b40dead {c a k s z : Int} (h : MF v B N c a) : f_X11_readsDeed_b40 F 210 k s z 210 v = some v := by
  have hc := h.2.2.2.1
  unfold f_X11_readsDeed_b40
  rw [m_needDead h, bs, m_nextDead h, bs, h.2.1, gd_t (by omega), if_neg (by omega)]
theorem m_b21dead {c a k s z : Int} (h : MF v B N c a) (hr : rg (v 210 23)) : f_X11_readsDeed_b21 F 210 k s z 210 v = some v := by
  unfold f_X11_readsDeed_b21
  rw [m_needDead h, bs, gd_t hr, m_b40dead h, m_b40dead h, ite_self]
theorem sk_any (hF : 1000 ≤ F) (hc : CS u B N p) (hm : MS v B N p) (h : Hcz u r q) (hq : 0 ≤ q ∧ q ≤ 30) (h1 : v 211 = r) (b0 : 0 ≤ r 0 ∧ r 0 ≤ 10) (hr : Wr r) (h23 : v 210 23 = q) (hk : ¬ tK B N p = 0) :
    SOz u v B N (p + 1) r q (f_X4_isStatementRead F 7 (skW B N p) u) (f_X11_readsDeed F 210 v) := by
  have hs := skW_v B N p
  have hb := hc.bd
  unfold f_X11_readsDeed
  rw [m_kindHere hF hm, bs, m_setHere hF hm, bs]
  have hkk : (skW B N p = -1 ∧ skK B N p = -1) ∨ ((0 ≤ skW B N p ∧ skW B N p ≤ 4) ∧ skK B N p = skW B N p) ∨ ((skW B N p = 8 ∨ skW B N p = 9 ∨ skW B N p = 10) ∧ skK B N p = 5 ∧ swM B N p = skW B N p - 4) := by
    unfold skK swM
    by_cases c : skW B N p = -1
    · rw [if_pos c]; exact Or.inl ⟨c, rfl⟩
    · rw [if_neg c]
      by_cases c2 : 5 ≤ skW B N p
      · rw [if_pos c2]
        have e : swd B N p = skW B N p := by omega
        rw [e, if_neg c]
        exact Or.inr (Or.inr ⟨by omega, rfl, rfl⟩)
      · rw [if_neg c2]; exact Or.inr (Or.inl ⟨by omega, rfl⟩)
  clear hs
  generalize skK B N p = k at *
  generalize skW B N p = s at *
  generalize swM B N p = z at *
  rw [gd_t (by omega)]
  have skip : ∀ c : Int, (1 ≤ c ∧ c ≤ 6) → (∃ v1, MF v1 B N c (tS B N p) ∧ Fy v v1 ∧ f_X11_readsDeed F 210 v = some v1) → True := fun _ _ _ => trivial
  clear skip
  unfold f_X4_isStatementRead
  rw [t70, t72, gd_t (by omega)]
  by_cases c1 : s = -1
  · obtain ⟨u1, e1, e2, e3⟩ := c_fail (F := F) (c := 1) hc
    obtain ⟨v1, g1, g2, g3⟩ := m_needNo (F := F) (c := 1) (x := 0) hm (by omega) rfl
    have hk1 : k = -1 := by omega
    have hr23 : rg (v1 210 23) := by rw [g3.2 23 (by decide) (by decide) (by decide) (by decide) (by decide) (by decide)]; omega
    have t := m_b21dead (F := F) (k := k) (s := z) (z := 1) g2 hr23
    have t0 : f_X11_readsDeed_b21 F 210 k z 0 210 v = some v1 := by
      unfold f_X11_readsDeed_b21 at t ⊢
      rw [m_needDead g2, bs] at t
      rw [g1, bs]
      exact t
    rw [if_pos c1, e1, bk, if_pos hk1, t0]
    exact ⟨u1, v1, rfl, e3.fuS, g3.fz.fvS, Or.inr ⟨_, _, rfl, e2, g2⟩⟩
  · rw [if_neg c1, if_neg (show ¬ k = -1 by omega)]
    unfold f_X11_readsDeed_b21
    rw [m_needOk hm rfl, bs, h.2.2, h23, gd_t (by omega), gd_t (by omega)]
    by_cases c30 : q < 30
    · have hq' : 0 ≤ q ∧ q < 30 := ⟨hq.1, c30⟩
      rw [if_pos c30, if_neg (show ¬ 30 ≤ q by omega), put9 h.2.1 hq' (by decide), bs]
      obtain ⟨x, hx⟩ : ∃ x, x = stc u 9 (rs (u 9) (5 * q + 0) s) := ⟨_, rfl⟩
      rw [← hx]
      have fx : FuzS q u x := hx ▸ FuzS.puq u (by omega)
      have x9 : x 9 (5 * q) = s := by rw [hx, stc_eq, show 5 * q + 0 = 5 * q by omega, rs_self]
      have hcx : CS x B N p := hx ▸ hc.st9 _
      clear hx
      obtain ⟨u1, e1, e2, e3⟩ := c_next hF hcx
      obtain ⟨v1, g1, g2, g3⟩ := m_next hF hm
      have u9 : u1 9 (5 * q) = s := by rw [e3 9 (by decide)]; exact x9
      have fu : FuzS q u u1 := fx.trans e3.fuS
      have H1 := h.fu fu
      unfold f_X11_readsDeed_b40
      rw [e1, bs, m_needOk hm rfl, bs, g1, bs, g2.2.1.2.2.2.2.2, gd_t (show rg (0 : Int) by decide), if_pos (show (0 : Int) ≤ 0 by decide), lti, m22, n22, g3.2 23 (by decide) (by decide) (by decide) (by decide) (by decide) (by decide), h23, gd_t (by omega), ltm, gd_t (by omega)]
      obtain ⟨y, hy⟩ : ∃ y, y = iset v1 219 (12 * q) k := ⟨_, rfl⟩
      rw [← hy]
      have fv : FvzS q v y := g3.fz.fvS.trans (hy ▸ FvzS.puq v1 (by omega))
      have y219 : y 219 (12 * q) = k := by rw [hy, is_eq, rs_self]
      have hmy : MS y B N (tE B N p) := hy ▸ g2.i219 _ _
      have y23 : y 210 23 = q := by rw [hy, is_ne (by decide), g3.2 23 (by decide) (by decide) (by decide) (by decide) (by decide) (by decide)]; exact h23
      have y211 : y 211 = r := by rw [fv.1 211 (by decide) (by decide) (by decide)]; exact h1
      clear hy
      have hlt : p + 1 ≤ tE B N p := by omega
      generalize tE B N p = p1 at *
      have notes : ∀ (s : Int), (s = 0 ∨ s = 1) → x 9 (5 * q) = s → y 219 (12 * q) = s → u1 9 (5 * q) = s →
          SOz u1 y B N p1 r q (bKW (f_X4_isRoofRead F 7 1 (-1) u1) (fun r6 w7 => if r6 then ((f_X7_get F 8 (w7 7 3) 1 w7).bind (fun r11 => bKW (f_X4_isRoofRead F 7 2 r11 w7) (fun r12 w13 => if r12 then (bKW (f_X4_areNotesRead F 7 w13) (fun r14 w15 => if r14 then (f_X4_isStatementRead_b129 F 7 s 1 w15) else (f_X4_isStatementRead_b128 F 7 s w15))) else (f_X4_isStatementRead_b128 F 7 s w13)))) else (f_X4_isStatementRead_b128 F 7 s w7)))
            (bJW (f_X11_roofOfText F 210 (-1) y) (fun r13 w14 => gd (inI (12 * q + 1) 360) (ltM (iset w14 219 (12 * q + 1) r13) (fun w15 => gd (inI (12 * q + 1) 360) (bJW (f_X11_roofOfText F 210 (w15 219 (12 * q + 1)) w15) (fun r16 w17 => gd (inI (12 * q + 2) 360) (ltM (iset w17 219 (12 * q + 2) r16) (fun w18 => (f_X11_readsNotes F 210 (12 * q) w18).bind (fun w19 => f_X11_readsDeed_b264 F 210 w19))))))))) := by
        intro s hs xs ys us
        refine sk_two (K := fun r12 w13 => if r12 then (bKW (f_X4_areNotesRead F 7 w13) (fun r14 w15 => if r14 then (f_X4_isStatementRead_b129 F 7 s 1 w15) else (f_X4_isStatementRead_b128 F 7 s w15))) else (f_X4_isStatementRead_b128 F 7 s w13)) (Z := fun w7 => f_X4_isStatementRead_b128 F 7 s w7) (T := fun w18 => (f_X11_readsNotes F 210 (12 * q) w18).bind (fun w19 => f_X11_readsDeed_b264 F 210 w19)) hF e2 hmy H1 hq' y211 b0 hr y23 (fun w => c_zero.1) (fun w c a hd => md_send3 hF hq' hd) (fun w => by
          show (if false = true then _ else f_X4_isStatementRead_b128 F 7 s w) = _
          rw [if_neg (by decide), c_zero.1]) ?_
        intro u2 v2 p2 X Y hc2 hm2 H2 h232 a9 b9 hX hY hXY
        show SOz u2 v2 B N p2 r q (if true = true then _ else _) ((f_X11_readsNotes F 210 (12 * q) v2).bind (fun w19 => f_X11_readsDeed_b264 F 210 w19))
        rw [if_pos rfl]
        unfold f_X4_areNotesRead f_X11_readsNotes
        obtain ⟨u3, v3, k1, k2, k3, k4⟩ := sk_notes (F := F) (q := q) (r := r) hF hq' F F 0 0 u2 v2 p2 hc2 hm2 H2 (by decide) (by omega) (by omega) (fun j j0 j1 => by omega) (by simp [pk])
        rw [k1, bs]
        rcases k4 with ⟨p3, d1, d2, d3, d4, d5⟩ | ⟨c, a, d1, d2, d3⟩
        · rw [d1, bk, if_pos rfl]
          unfold f_X4_isStatementRead_b129
          have A : ∀ k, ¬ k = 5 * q + 3 → ¬ k = 5 * q + 4 → u3 9 k = rs (rs (u1 9) (5 * q + 1) X) (5 * q + 2) Y k := fun k k1 k2' => by rw [k2.2 k k1 k2', a9]
          have Bq : ∀ k, k < 12 * q + 3 → v3 219 k = rs (rs (y 219) (12 * q + 1) X) (12 * q + 2) Y k := fun k k1 => by rw [k3.2.2 k (Or.inl k1), b9]
          refine (sk_fin (pp := s) hF d3 d4 (by rw [k3.2.1 23 (by decide) (by decide) (by decide) (by decide) (by decide) (by decide)]; exact h232) (Or.inl ⟨?_, ?_, ?_, ?_, ?_, ?_, ?_, d5⟩)).pre k2.fuS k3.fvS (by omega)
          · rw [A _ (by omega) (by omega), rs_ne (by omega), rs_ne (by omega), us]; exact hs
          · rw [A _ (by omega) (by omega), rs_ne (by omega), rs_ne (by omega), us, Bq _ (by omega), rs_ne (by omega), rs_ne (by omega), ys]
          · rw [A _ (by omega) (by omega), rs_ne (by omega), rs_self]; exact hX
          · rw [A _ (by omega) (by omega), rs_self]; exact hY
          · rw [A _ (by omega) (by omega), rs_self, A _ (by omega) (by omega), rs_ne (by omega), rs_self]; exact hXY
          · rw [A _ (by omega) (by omega), rs_ne (by omega), rs_self, Bq _ (by omega), rs_ne (by omega), rs_self]
          · rw [A _ (by omega) (by omega), rs_self, Bq _ (by omega), rs_self]
        · rw [d1, bk, if_neg (by decide), c_zero.1]
          obtain ⟨v4, l1, l2, l3⟩ := md_end (F := F) (q := q) d3
          exact ⟨u3, v4, l1, k2.fuS, k3.fvS.trans l3, Or.inr ⟨_, _, rfl, d2, l2⟩⟩
      by_cases s0 : s = 0
      · rw [if_pos s0, if_pos (show k = 0 by omega)]
        exact (notes s (Or.inl s0) x9 (by rw [y219]; omega) u9).pre fu fv hlt
      · rw [if_neg s0, if_neg (show ¬ k = 0 by omega)]
        by_cases s1 : s = 1
        · rw [if_pos s1, if_pos (show k = 1 by omega)]
          exact (notes s (Or.inr s1) x9 (by rw [y219]; omega) u9).pre fu fv hlt
        · rw [if_neg s1, if_neg (show ¬ k = 1 by omega)]
          by_cases s2 : s = 2
          · rw [if_pos s2, if_pos (show k = 2 by omega)]
            exact (sk_tick hF e2 hmy H1 hq' y23 (by rw [u9]; exact s2) (by rw [y219]; omega)).pre fu fv hlt
          · rw [if_neg s2, if_neg (show ¬ k = 2 by omega)]
            by_cases s3 : s = 3
            · rw [if_pos s3, if_pos (show k = 3 by omega)]
              exact (sk_give hF e2 hmy H1 hq' y211 b0 hr y23 (by rw [u9]; exact s3) (by rw [y219]; omega)).pre fu fv hlt
            · rw [if_neg s3, if_neg (show ¬ k = 3 by omega)]
              by_cases s4 : s = 4
              · rw [if_pos s4, if_pos (show k = 4 by omega)]
                refine SOz.pre (u := u1) (v := y) (p := p1) ?_ fu fv hlt
                refine sk_two (K := fun r36 w37 => if r36 then (f_X4_isStatementRead_b207 F 7 s 1 w37) else (f_X4_isStatementRead_b206 F 7 s w37)) (Z := fun w7 => f_X4_isStatementRead_b206 F 7 s w7) (T := fun w47 => f_X11_readsDeed_b264 F 210 w47) hF e2 hmy H1 hq' y211 b0 hr y23 (fun w => c_zero.2.2.1) (fun w c a hd => md_end hd) (fun w => by
                  show (if false = true then _ else f_X4_isStatementRead_b206 F 7 s w) = _
                  rw [if_neg (by decide), c_zero.2.2.1]) ?_
                intro u2 v2 p2 X Y hc2 hm2 H2 h232 a9 b9 hX hY hXY
                show SOz u2 v2 B N p2 r q (if true = true then _ else _) (f_X11_readsDeed_b264 F 210 v2)
                rw [if_pos rfl]
                unfold f_X4_isStatementRead_b207
                refine sk_fin (pp := s) hF hc2 hm2 h232 (Or.inr (Or.inr (Or.inr (Or.inl ⟨?_, ?_, ?_, ?_, ?_, ?_, ?_⟩))))
                · rw [a9, rs_ne (by omega), rs_ne (by omega), u9]; exact s4
                · rw [b9, rs_ne (by omega), rs_ne (by omega), y219]; omega
                · rw [a9, rs_ne (by omega), rs_self]; exact hX
                · rw [a9, rs_self]; exact hY
                · rw [a9, rs_self, rs_ne (by omega), rs_self]; exact hXY
                · rw [a9, b9, rs_ne (by omega), rs_self, rs_ne (by omega), rs_self]
                · rw [a9, b9, rs_self, rs_self]
              · rw [if_neg s4, if_neg (show ¬ k = 4 by omega), show z = s - 4 by omega]
                exact (sk_sett hF e2 hmy H1 hq' y23 (by omega) u9 (by rw [y219]; omega)).pre fu fv hlt
    · obtain ⟨u1, e1, e2, e3⟩ := c_fail (F := F) (c := 5) hc
      obtain ⟨v1, g1, g2, g3⟩ := m_needNo (F := F) (c := 5) (x := 0) hm (by omega) rfl
      have t := m_b40dead (F := F) (k := k) (s := z) (z := 1) g2
      have t0 : f_X11_readsDeed_b40 F 210 k z 0 210 v = some v1 := by
        unfold f_X11_readsDeed_b40 at t ⊢
        rw [m_needDead g2, bs] at t
        rw [g1, bs]
        exact t
      rw [if_neg c30, e1, bk, if_pos (show 30 ≤ q by omega), t0]
      exact ⟨u1, v1, rfl, e3.fuS, g3.fz.fvS, Or.inr ⟨_, _, rfl, e2, g2⟩⟩
end Sk3
