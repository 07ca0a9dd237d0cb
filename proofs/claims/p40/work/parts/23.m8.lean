/-! ===== the reference: a tick ===== -/
theorem m_whistles {F : Nat} {w : aI} {i x : Int} (hF : 10010 ≤ F) (hW : WF (w 211)) (hc : CanW (w 211) i x) : ∃ q, f_X11_whistles F 210 i x w = some (stc (stc w 216 q) 211 (whT (w 211) i x)) := by
  obtain ⟨n1, n2, j, j0, j1, je, jw, jf⟩ := hc.nx hW
  have hfe := (fee_bd (x := x) hW.1 hW.2.1 hW.2.2.2.1 hc.1 hc.2.1).1
  obtain ⟨hb, hr, hw, ht, -⟩ := hW
  obtain ⟨b0, b1, b2, b3, b4, b5, b6⟩ := hb
  obtain ⟨h1, h2, h3, h4, h5, h6⟩ := hc
  obtain ⟨y0, y1, y2, y3, y4, y5, y6, y7, y8, y9, y10, y11, y12, y13, y14, y15⟩ := ht i h1.1 h1.2
  obtain ⟨x0, x1, x2, x3, x4, x5, x6⟩ := hr x h2.1 h2.2
  have hbr := breath_bd y3 x2
  unfold f_X11_whistles
  rw [m_t, bs, m0, n0, gd_t (by omega)]
  obtain ⟨q, e1⟩ := m_nextTo (F := F) (w := w) (x := x) (g := w 211 (220 + 27 * i + 1)) hF b0 b1 hw h2 y1
  rw [e1, bj]
  have er : stc w 216 q 211 = w 211 := stc_ne (by decide)
  rw [m_fee (w := stc w 216 q) (by omega) (by omega) (by rw [er]; exact y3), bs, er]
  have hwb : ∀ R : Row, SameW (w 211) R → f_X11_wayBetween F 210 x (nxt (w 211) x (w 211 (220 + 27 * i + 1))) (stc (stc w 216 q) 211 R) = some j := fun R hR => by
    rw [m_wayB (by omega) (by rw [stc_eq, hR.2.1]; exact b1) (fun m k0 k1 => by
      rw [stc_eq] at k1 ⊢
      have a := (hR.ww b1.2 hw).1 m k0 k1
      have := hR.1
      omega) (by omega) (by omega), stc_eq, hR.wE b1.2, jw]
  simp (disch := omega) only [m_r, bs, ltI, ltM, m0, n0, er, gd_t, is_stc, stc_eq, stc_stc, Int.add_zero, rs_ne, rs_self]
  rw [hwb _ ⟨by simp (disch := omega) only [rs_ne], by simp (disch := omega) only [rs_ne], fun k k0 k1 => by simp (disch := omega) only [rs_ne]⟩, bs, m_w, bs]
  simp (disch := omega) only [m_r, bs, ltI, ltM, m0, n0, er, gd_t, is_stc, stc_eq, stc_stc, Int.add_zero, rs_ne, rs_self, m_counts, td]
  refine ⟨q, congrArg (fun R => some (stc (stc w 216 q) 211 R)) ?_⟩
  unfold whT pur
  rw [jf]
  rfl
def arrS (i : Int) (q : Row) : Row := if q (220 + 27 * i + 3) = 1 ∧ q (220 + 27 * i + 5) = q 3 then comesT q i else q
theorem arrT_eq (r : Row) : arrT r = itr arrS r (r 2).toNat := rfl
/-- what the steps of a tick leave alone -/
def Kp (r q : Row) : Prop := q 3 = r 3 ∧ r 2 ≤ q 2 ∧ SameW r q ∧ q 13 = r 13 ∧ (∀ k, 25 ≤ k → k < 160 → q k = r k)
theorem Kp.refl (r : Row) : Kp r r := ⟨rfl, Int.le_refl _, SameW.refl r, rfl, fun _ _ _ => rfl⟩
theorem Kp.trans {r q s : Row} (h : Kp r q) (k : Kp q s) : Kp r s := ⟨k.1.trans h.1, Int.le_trans h.2.1 k.2.1, h.2.2.1.trans k.2.2.1, k.2.2.2.1.trans h.2.2.2.1, fun j a b => (k.2.2.2.2 j a b).trans (h.2.2.2.2 j a b)⟩
theorem Kp.sl {r q : Row} {m : Int} (h : Kp r q) (hb : r 0 ≤ 10) (k : Sl r m) : Sl q m := by
  obtain ⟨h1, h2, h3, h4, h5⟩ := h
  refine ⟨fun x x0 x1 => ?_, by rw [h4, h1]; exact k.2⟩
  rw [h3.1] at x1
  rw [h5 _ (by omega) (by omega), h1]
  exact k.1 x x0 x1
theorem arr_inv {r : Row} (hW : WF r) : ∀ n : Nat, (n : Int) ≤ r 2 → WF (itr arrS r n) ∧ Kp r (itr arrS r n) := by
  intro n
  induction n with
  | zero => intro _; exact ⟨hW, Kp.refl r⟩
  | succ n ih =>
    intro hn
    obtain ⟨h1, h2⟩ := ih (by omega)
    have e : itr arrS r (n + 1) = arrS n (itr arrS r n) := rfl
    rw [e]
    generalize itr arrS r n = q at h1 h2
    unfold arrS
    split
    · rename_i c
      obtain ⟨a1, a2, a3, a4, a5, a6, a7⟩ := WF_comes h1 (i := n) ⟨by omega, by have := h2.2.1; omega⟩ c.1
      exact ⟨a1, h2.trans ⟨a3, a4, a5, a6, a7⟩⟩
    · exact ⟨h1, h2⟩
theorem m_arrives {F : Nat} {w : aI} (hF : 100 ≤ F) (hW : WF (w 211)) : ∃ w', f_X11_arrives F 210 w = some w' ∧ w' 211 = arrT (w 211) ∧ Fm w w' := by
  have b2 := hW.1.2.2.1
  have key : ∀ (n i : Nat) (w1 : aI), (i : Int) ≤ w 211 2 → w 211 2 - i < n → w1 211 = itr arrS (w 211) i → Fm w w1 → ∃ w', f_X11_arrives_b9 F 210 n (w 211 2) i w1 = some w' ∧ w' 211 = arrT (w 211) ∧ Fm w w' := by
    intro n
    induction n with
    | zero => intro i w1 i1 i2; omega
    | succ n ih =>
      intro i w1 i1 i2 e1 f1
      show ∃ w', f_X11_arrives_b9_b F 210 (f_X11_arrives_b9 F 210 n) _ _ _ = _ ∧ _
      unfold f_X11_arrives_b9_b
      obtain ⟨h1, h2⟩ := arr_inv hW i i1
      rw [gd_t (by omega)]
      by_cases c : w 211 2 ≤ i
      · rw [if_pos c]
        have e : i = (w 211 2).toNat := by omega
        exact ⟨w1, rfl, by rw [e1, arrT_eq, ← e], f1⟩
      · rw [if_neg c]
        have nx : ∀ w2 : aI, w2 211 = arrS i (itr arrS (w 211) i) → Fm w w2 → ∃ w', f_X11_arrives_b9 F 210 n (w 211 2) ((i : Int) + 1) w2 = some w' ∧ w' 211 = arrT (w 211) ∧ Fm w w' := fun w2 g1 g2 => ih (i + 1) w2 (by omega) (by omega) g1 g2
        rw [← e1] at nx h1 h2
        have hi : 0 ≤ (i : Int) ∧ (i : Int) < w1 211 2 := ⟨by omega, by have := h2.2.1; omega⟩
        have hb := h1.1
        obtain ⟨b0, b1, b2', b3, b4, b5, b6⟩ := hb
        obtain ⟨y0, y1, y2, y3, y4, y5, y6, y7, y8, y9, y10, y11, y12, y13, y14, y15⟩ := h1.2.2.2.1 i hi.1 hi.2
        simp (disch := omega) only [m_t, bs, m0, n0, gd_t]
        by_cases c1 : w1 211 (220 + 27 * (i : Int) + 3) = 1
        · rw [if_pos c1]
          by_cases c2 : w1 211 (220 + 27 * (i : Int) + 5) = w1 211 3
          · rw [if_pos c2]
            obtain ⟨w2, g1, g2, g3⟩ := m_comes (F := F) (w := w1) (i := i) hF h1.1 h1.2.1 h1.2.2.2.1 hi
            rw [g1, bs]
            exact nx w2 (by rw [g2]; unfold arrS; rw [if_pos ⟨c1, c2⟩]) (f1.trans g3)
          · rw [if_neg c2]
            exact nx w1 (by unfold arrS; rw [if_neg (fun h => c2 h.2)]) f1
        · rw [if_neg c1]
          exact nx w1 (by unfold arrS; rw [if_neg (fun h => c1 h.1)]) f1
  unfold f_X11_arrives
  simp (disch := omega) only [m0, n0, gd_t, ltI]
  exact key F 0 w (by omega) (by omega) rfl (Fm.refl w)
noncomputable def loseS (i : Int) (q : Row) : Row := if q (220 + 27 * i + 3) = 0 ∧ dist q (-1) (q (220 + 27 * i + 1)) (q (220 + 27 * i + 4)) = -1 then rs (rs q (220 + 27 * i + 3) 3) 18 (q 18 + 1) else q
theorem loseT_eq (r : Row) : loseT r = itr loseS r (r 2).toNat := rfl
theorem WF_lose {q : Row} {i : Int} (hW : WF q) (hi : 0 ≤ i ∧ i < q 2) : WF (loseS i q) ∧ Kp q (loseS i q) ∧ loseS i q 2 = q 2 := by
  unfold loseS
  split
  · rename_i c
    have hb := hW.1
    obtain ⟨b0, b1, b2', b3, b4, b5, b6⟩ := hb
    obtain ⟨y0, y1, y2, y3, y4, y5, y6, y7, y8, y9, y10, y11, y12, y13, y14, y15⟩ := hW.2.2.2.1 i hi.1 hi.2
    have a := hW.2.2.2.2
    have o : ∀ k, ¬ k = 220 + 27 * i + 3 → ¬ k = 18 → rs (rs q (220 + 27 * i + 3) 3) 18 (q 18 + 1) k = q k := fun k k0 k1 => by rw [rs_ne k1, rs_ne k0]
    have o3 : rs (rs q (220 + 27 * i + 3) 3) 18 (q 18 + 1) (220 + 27 * i + 3) = 3 := by rw [rs_ne (by omega), rs_self]
    have o18 : rs (rs q (220 + 27 * i + 3) 3) 18 (q 18 + 1) 18 = q 18 + 1 := rs_self _ _ _
    generalize rs (rs q (220 + 27 * i + 3) 3) 18 (q 18 + 1) = s at o o3 o18
    refine ⟨WF_tune hW hi (fun k k0 k1 => o k (by omega) (by omega)) ?_ (o _ (by omega) (by omega)) (by rw [o3, c.1, o 15 (by omega) (by omega)]; show _ = _ + ((0 : Int) - 0); omega) (by rw [o3, c.1, o18]; rfl) (by rw [o 16 (by omega) (by omega), o 15 (by omega) (by omega)]; exact a.2.2.2.1), ⟨o 3 (by omega) (by omega), by rw [o 2 (by omega) (by omega)]; exact Int.le_refl _, ⟨o 0 (by omega) (by omega), o 1 (by omega) (by omega), fun k k0 k1 => o k (by omega) (by omega)⟩, o 13 (by omega) (by omega), fun k k0 k1 => o k (by omega) (by omega)⟩, o 2 (by omega) (by omega)⟩
    unfold Wy
    rw [o3, o 0 (by omega) (by omega), o 3 (by omega) (by omega), o (220 + 27 * i) (by omega) (by omega), o (220 + 27 * i + 1) (by omega) (by omega), o (220 + 27 * i + 2) (by omega) (by omega), o (220 + 27 * i + 4) (by omega) (by omega), o (220 + 27 * i + 5) (by omega) (by omega), o (220 + 27 * i + 6) (by omega) (by omega), o (220 + 27 * i + 7) (by omega) (by omega), o (220 + 27 * i + 8) (by omega) (by omega), o (220 + 27 * i + 9) (by omega) (by omega), o (220 + 27 * i + 10) (by omega) (by omega)]
    refine ⟨y0, y1, y2, y3, by omega, y5, y6, y7, y8, y9, y10, y11, fun k k0 k1 => ?_, fun k k0 k1 => ?_, (fun h => by omega), (fun h => by omega)⟩
    · rw [o k (by omega) (by omega)]; exact y12 k k0 k1
    · rw [o _ (by omega) (by omega), o _ (by omega) (by omega)]; exact y13 k k0 k1
  · exact ⟨hW, Kp.refl q, rfl⟩
theorem lose_inv {r : Row} (hW : WF r) : ∀ n : Nat, (n : Int) ≤ r 2 → WF (itr loseS r n) ∧ Kp r (itr loseS r n) ∧ itr loseS r n 2 = r 2 := by
  intro n
  induction n with
  | zero => intro _; exact ⟨hW, Kp.refl r, rfl⟩
  | succ n ih =>
    intro hn
    obtain ⟨h1, h2, h3⟩ := ih (by omega)
    have e : itr loseS r (n + 1) = loseS n (itr loseS r n) := rfl
    rw [e]
    obtain ⟨a1, a2, a3⟩ := WF_lose h1 (i := n) ⟨by omega, by omega⟩
    exact ⟨a1, h2.trans a2, by rw [a3, h3]⟩
theorem m_loses {F : Nat} {w : aI} (hF : 10010 ≤ F) (hW : WF (w 211)) : ∃ w', f_X11_loses F 210 w = some w' ∧ w' 211 = loseT (w 211) ∧ Fm w w' := by
  have b2 := hW.1.2.2.1
  have key : ∀ (n i : Nat) (w1 : aI), (i : Int) ≤ w 211 2 → w 211 2 - i < n → w1 211 = itr loseS (w 211) i → Fm w w1 → ∃ w', f_X11_loses_b2 F 210 n i w1 = some w' ∧ w' 211 = loseT (w 211) ∧ Fm w w' := by
    intro n
    induction n with
    | zero => intro i w1 i1 i2; omega
    | succ n ih =>
      intro i w1 i1 i2 e1 f1
      show ∃ w', f_X11_loses_b2_b F 210 (f_X11_loses_b2 F 210 n) _ _ = _ ∧ _
      unfold f_X11_loses_b2_b
      obtain ⟨h1, h2, h3⟩ := lose_inv hW i i1
      rw [← e1] at h1 h2 h3
      simp (disch := omega) only [m0, n0, gd_t]
      by_cases c : w1 211 2 ≤ i
      · rw [if_pos c]
        have e : i = (w 211 2).toNat := by omega
        exact ⟨w1, rfl, by rw [e1, loseT_eq, ← e], f1⟩
      · rw [if_neg c]
        have nx : ∀ w2 : aI, w2 211 = loseS i (w1 211) → Fm w w2 → ∃ w', f_X11_loses_b2 F 210 n ((i : Int) + 1) w2 = some w' ∧ w' 211 = loseT (w 211) ∧ Fm w w' := fun w2 g1 g2 => ih (i + 1) w2 (by omega) (by omega) (by rw [g1, e1]; rfl) g2
        have hi : 0 ≤ (i : Int) ∧ (i : Int) < w1 211 2 := ⟨by omega, by omega⟩
        have hb := h1.1
        obtain ⟨b0, b1, b2', b3, b4, b5, b6⟩ := hb
        obtain ⟨y0, y1, y2, y3, y4, y5, y6, y7, y8, y9, y10, y11, y12, y13, y14, y15⟩ := h1.2.2.2.1 i hi.1 hi.2
        simp (disch := omega) only [m_t, bs, m0, n0, gd_t]
        by_cases c1 : w1 211 (220 + 27 * (i : Int) + 3) = 0
        · rw [if_pos c1]
          obtain ⟨q, g1, g2, g3⟩ := m_sumTo (F := F) (w := w1) (g := w1 211 (220 + 27 * (i : Int) + 1)) (x := w1 211 (220 + 27 * (i : Int) + 4)) hF b0 b1 h1.2.2.1 y5 y1
          rw [g1, bj]
          have er : stc w1 216 q 211 = w1 211 := stc_ne (by decide)
          have dx := dist_of h1.2.2.1 g2 y5.1 y5.2
          have bx := g3 _ y5.1 (by omega)
          simp (disch := omega) only [gd_t, er, ltM, is_stc, stc_eq, stc_stc, m_counts, bs]
          by_cases c2 : dist (w1 211) (-1) (w1 211 (220 + 27 * (i : Int) + 1)) (w1 211 (220 + 27 * (i : Int) + 4)) = -1
          · rw [if_pos c2]
            refine nx _ ?_ ((f1.stc q (by omega)).stc _ (by omega))
            rw [stc_eq]
            unfold loseS
            rw [if_pos ⟨c1, c2⟩, rs_ne (show ¬ (10 : Int) + 8 = 220 + 27 * (i : Int) + 3 by omega)]
            rfl
          · rw [if_neg c2]
            exact nx _ (by rw [er]; unfold loseS; rw [if_neg (fun h => c2 h.2)]) (f1.stc q (by omega))
        · rw [if_neg c1]
          exact nx w1 (by unfold loseS; rw [if_neg (fun h => c1 h.1)]) f1
  exact key F 0 w (by omega) (by omega) rfl (Fm.refl w)
