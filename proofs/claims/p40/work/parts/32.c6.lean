/-! ===== the class: all that come; all that are lost ===== -/
theorem land_at {r : Row} {i : Int} (hW : WF r) (hi : 0 ≤ i ∧ i < r 2) : (∀ k, (k < 220 + 27 * i + 19 ∨ 220 + 27 * i + 27 ≤ k) → ¬ k = 14 → ¬ k = 220 + 27 * i + 5 → ¬ k = 220 + 27 * i + 3 → landT r i k = r k) ∧ (∀ k, 220 + 27 * i + 11 ≤ k → k < 220 + 27 * i + 27 → 0 ≤ landT r i k ∧ landT r i k ≤ 7) ∧ (∀ k, r (220 + 27 * i + 2) ≤ k → k < 8 → landT r i (220 + 27 * i + 11 + k) = 0 ∧ landT r i (220 + 27 * i + 19 + k) = 0) := by
  obtain ⟨y0, y1, y2, y3, y4, y5, y6, y7, y8, y9, y10, y11, y12, y13, y14, y15⟩ := hW.2.2.2.1 i hi.1 hi.2
  obtain ⟨g1, g2⟩ := blurT_hear hW hi
  refine ⟨fun k hk h14 h5 h3 => ?_, fun k k0 k1 => ?_, fun k k0 k1 => ?_⟩
  · unfold landT
    rw [rs_ne h3, rs_ne h5, blurT_ne (by omega) h14]
  · unfold landT
    rw [rs_ne (by omega), rs_ne (by omega)]
    exact g1 k k0 k1
  · unfold landT
    rw [rs_ne (by omega), rs_ne (by omega), rs_ne (by omega), rs_ne (by omega)]
    exact g2 k k0 k1
theorem c_landAll {F : Nat} {b : Nat} {w : aI} {r : Row} (hF : 100 ≤ F) (hP : Pb b) (h : Rep w b r) (hW : WF r) : ∃ w2, f_X8_landAll F b w = some w2 ∧ Rep w2 b (arrT r) ∧ Fc b w w2 := by
  have b2 := hW.1.2.2.1
  have key : ∀ (n i : Nat) (w1 : aI), (i : Int) ≤ r 2 → r 2 - i < n → Rep w1 b (itr arrS r i) → Fc b w w1 → ∃ w2, f_X8_landAll_b7 F b n (r 2) i w1 = some w2 ∧ Rep w2 b (arrT r) ∧ Fc b w w2 := by
    intro n
    induction n with
    | zero => intro i w1 i1 i2; omega
    | succ n ih =>
      intro i w1 i1 i2 e1 f1
      show ∃ w2, f_X8_landAll_b7_b F b (f_X8_landAll_b7 F b n) _ _ _ = _ ∧ _
      unfold f_X8_landAll_b7_b
      obtain ⟨h1, h2⟩ := arr_inv hW i i1
      rw [gd_t (by omega)]
      by_cases c : r 2 ≤ i
      · rw [if_pos c]
        have e : i = (r 2).toNat := by omega
        refine ⟨w1, rfl, ?_, f1⟩
        rw [arrT_eq, ← e]
        exact e1
      · rw [if_neg c]
        have nx : ∀ w2 : aI, Rep w2 b (arrS i (itr arrS r i)) → Fc b w w2 → ∃ w3, f_X8_landAll_b7 F b n (r 2) ((i : Int) + 1) w2 = some w3 ∧ Rep w3 b (arrT r) ∧ Fc b w w3 := fun w2 g1 g2 => ih (i + 1) w2 (by omega) (by omega) g1 g2
        generalize itr arrS r i = q at nx h1 h2 e1
        have hi : 0 ≤ (i : Int) ∧ (i : Int) < q 2 := ⟨by omega, by have := h2.2.1; omega⟩
        obtain ⟨b0, b1, b2', b3, b4, b5, b6⟩ := h1.1
        obtain ⟨y0, y1, y2, y3, y4, y5, y6, y7, y8, y9, y10, y11, y12, y13, y14, y15⟩ := h1.2.2.2.1 i hi.1 hi.2
        rw [pf6 hP, c_tune hP e1 b2' hi (by omega), bs, gd_t (by omega)]
        by_cases c1 : q (220 + 27 * (i : Int) + 3) = 1
        · rw [if_pos c1, c_tune hP e1 b2' hi (by omega), bs, e1.1.2.1, gd_t (by omega)]
          by_cases c2 : q (220 + 27 * (i : Int) + 5) = q 3
          · rw [if_pos c2]
            obtain ⟨w2, g1, g2, g3⟩ := c_land (F := F) hF hP e1 h1 hi
            obtain ⟨l1, l2, l3⟩ := land_at h1 hi
            have hc : arrS i q = if landT q i (220 + 27 * (i : Int) + 4) = landT q i (220 + 27 * (i : Int) + 1) then goalT (landT q i) i else landT q i := by
              unfold arrS comesT
              rw [if_pos ⟨c1, c2⟩, l1 (220 + 27 * (i : Int) + 4) (by omega) (by omega) (by omega) (by omega), l1 (220 + 27 * (i : Int) + 1) (by omega) (by omega) (by omega) (by omega)]
            rw [hc] at nx
            have L0 := l1 0 (by omega) (by omega) (by omega) (by omega)
            have L1 := l1 1 (by omega) (by omega) (by omega) (by omega)
            have L2 := l1 2 (by omega) (by omega) (by omega) (by omega)
            have L6 := l1 6 (by omega) (by omega) (by omega) (by omega)
            have T1 := l1 (220 + 27 * (i : Int) + 1) (by omega) (by omega) (by omega) (by omega)
            have T2 := l1 (220 + 27 * (i : Int) + 2) (by omega) (by omega) (by omega) (by omega)
            have T4 := l1 (220 + 27 * (i : Int) + 4) (by omega) (by omega) (by omega) (by omega)
            have T7 := l1 (220 + 27 * (i : Int) + 7) (by omega) (by omega) (by omega) (by omega)
            have T8 := l1 (220 + 27 * (i : Int) + 8) (by omega) (by omega) (by omega) (by omega)
            rw [g1, bs, c_tune hP g2 (by omega) (by omega) (by omega), bs, c_tune hP g2 (by omega) (by omega) (by omega), bs, gd_t (by omega)]
            by_cases c3 : landT q i (220 + 27 * (i : Int) + 4) = landT q i (220 + 27 * (i : Int) + 1)
            · rw [if_pos c3]
              rw [if_pos c3] at nx
              obtain ⟨w3, a1, a2, a3⟩ := c_reach (F := F) hF hP g2 (by omega) (by omega) (by omega) (by omega) (i := i) (by omega) (by omega) (by omega) (by omega) l2 (by rw [T2]; exact l3)
              rw [a1, bs]
              exact nx w3 a2 ((f1.trans g3).trans a3)
            · rw [if_neg c3]
              rw [if_neg c3] at nx
              exact nx w2 g2 (f1.trans g3)
          · rw [if_neg c2]
            refine nx w1 ?_ f1
            unfold arrS
            rw [if_neg (fun z => c2 z.2)]
            exact e1
        · rw [if_neg c1]
          refine nx w1 ?_ f1
          unfold arrS
          rw [if_neg (fun z => c1 z.1)]
          exact e1
  unfold f_X8_landAll
  rw [lti, h.1.2.2.2.2]
  exact key F 0 w (by omega) (by omega) h (Fc.refl b w)
theorem nxt_iff {r : Row} {x g : Int} (hW : WF r) (hx : 0 ≤ x ∧ x < r 0) (hg : 0 ≤ g ∧ g < r 0) (hxg : ¬ x = g) : nxt r x g = -1 ↔ dist r (-1) g x = -1 := by
  obtain ⟨b0, b1, -⟩ := hW.1
  constructor
  · intro e
    by_cases c : dist r (-1) g x = -1
    · exact c
    · obtain ⟨i, -, -, -, n1, -⟩ := nxt_ok b0 hW.2.2.1 b1.1 (isd b0 b1 hW.2.2.1 (by omega) hg) hx.1 hx.2 hxg c
      omega
  · intro e
    exact nxt_no (Or.inr e)
theorem nxt_rg (r : Row) (x g : Int) : -1 ≤ nxt r x g ∧ nxt r x g < 10 := by
  unfold nxt
  split
  · decide
  · rcases ff_spec (fun y => decide (¬ farB r x y = -1 ∧ ¬ dist r (-1) g y = -1 ∧ farB r x y + dist r (-1) g y = dist r (-1) g x)) 10 with ⟨e, -⟩ | ⟨e, e2, -⟩ <;> omega
theorem c_loseAll {F : Nat} {b : Nat} {w : aI} {r : Row} (hF : 100 ≤ F) (hP : Pb b) (h : Rep w b r) (hW : WF r) : ∃ w2, f_X8_loseAll F b w = some w2 ∧ Rep w2 b (loseT r) ∧ Fc b w w2 := by
  have b2 := hW.1.2.2.1
  have key : ∀ (n i : Nat) (w1 : aI), (i : Int) ≤ r 2 → r 2 - i < n → Rep w1 b (itr loseS r i) → Fc b w w1 → ∃ w2, f_X8_loseAll_b2 F b n i w1 = some w2 ∧ Rep w2 b (loseT r) ∧ Fc b w w2 := by
    intro n
    induction n with
    | zero => intro i w1 i1 i2; omega
    | succ n ih =>
      intro i w1 i1 i2 e1 f1
      show ∃ w2, f_X8_loseAll_b2_b F b (f_X8_loseAll_b2 F b n) _ _ = _ ∧ _
      unfold f_X8_loseAll_b2_b
      obtain ⟨h1, h2, h3⟩ := lose_inv hW i i1
      rw [e1.1.2.2.2.2, h3, gd_t (by omega)]
      by_cases c : r 2 ≤ i
      · rw [if_pos c]
        have e : i = (r 2).toNat := by omega
        refine ⟨w1, rfl, ?_, f1⟩
        rw [loseT_eq, ← e]
        exact e1
      · rw [if_neg c]
        have nx : ∀ w2 : aI, Rep w2 b (loseS i (itr loseS r i)) → Fc b w w2 → ∃ w3, f_X8_loseAll_b2 F b n ((i : Int) + 1) w2 = some w3 ∧ Rep w3 b (loseT r) ∧ Fc b w w3 := fun w2 g1 g2 => ih (i + 1) w2 (by omega) (by omega) g1 g2
        generalize itr loseS r i = q at nx h1 h2 h3 e1
        have hi : 0 ≤ (i : Int) ∧ (i : Int) < q 2 := ⟨by omega, by omega⟩
        obtain ⟨b0, b1, b2', b3, b4, b5, b6⟩ := h1.1
        obtain ⟨y0, y1, y2, y3, y4, y5, y6, y7, y8, y9, y10, y11, y12, y13, y14, y15⟩ := h1.2.2.2.1 i hi.1 hi.2
        rw [pf6 hP, c_tune hP e1 b2' hi (by omega), bs, gd_t (by omega)]
        by_cases c1 : q (220 + 27 * (i : Int) + 3) = 0
        · have nr := nxt_rg q (q (220 + 27 * (i : Int) + 4)) (q (220 + 27 * (i : Int) + 1))
          have ni := nxt_iff h1 y5 y1 (y14 c1)
          rw [if_pos c1, c_nextOf hP e1 b0.2 b2' hi y5 y1, bs, gd_t (by omega)]
          by_cases c2 : nxt q (q (220 + 27 * (i : Int) + 4)) (q (220 + 27 * (i : Int) + 1)) = -1
          · have K0 := e1.1.1
            rw [if_pos c2, putT hP K0 (by omega) (by omega), bs, c_enter hP (K0.stc (by omega)) (by omega), bs, stc_ne (show ¬ b + 10 = b + 6 by omega)]
            refine nx _ ?_ ((f1.stc _ (by omega)).stc _ (by omega))
            unfold loseS
            rw [if_pos ⟨c1, ni.mp c2⟩]
            have o : ∀ k, ¬ k = 220 + 27 * (i : Int) + 3 → ¬ k = 18 → rs (rs q (220 + 27 * (i : Int) + 3) 3) 18 (q 18 + 1) k = q k := fun k k0 k1 => by rw [rs_ne k1, rs_ne k0]
            have o3 : rs (rs q (220 + 27 * (i : Int) + 3) 3) 18 (q 18 + 1) (220 + 27 * (i : Int) + 3) = 3 := by rw [rs_ne (by omega), rs_self]
            have o18 : rs (rs q (220 + 27 * (i : Int) + 3) 3) 18 (q 18 + 1) 18 = q 18 + 1 := rs_self _ _ _
            generalize rs (rs q (220 + 27 * (i : Int) + 3) 3) 18 (q 18 + 1) = s at o o3 o18
            refine Rep_tune e1 b0.2 b1 b2' hi.1 (fun a a0 a1 a2 a3 => by rw [stc_ne a3, stc_ne a2]) (fun k hk => by rw [stc_ne (by omega), stc_eq, rs_ne (by omega)]) (fun k hk1 hk2 => o k (by omega) (by omega)) (fun k k0 k1 => ?_) ?_
            · rw [stc_eq]
              by_cases c8 : k = 8
              · subst c8
                rw [rs_self, e1.2.2.1 8 (by omega) (by omega)]
                exact o18.symm
              · rw [rs_ne c8, e1.2.2.1 k k0 k1, o _ (by omega) (by omega)]
            · obtain ⟨t0, t1, t2, t3, t4⟩ := e1.2.2.2.2.2.1 i hi.1 hi.2
              unfold RT
              rw [stc_ne (show ¬ b + 6 = b + 10 by omega), stc_eq]
              refine ⟨fun k k0 k1 => ?_, ?_, ?_, ?_, ?_⟩
              · by_cases c3 : k = 3
                · subst c3; rw [rs_self, o3]
                · rw [rs_ne (by omega), t0 k k0 k1, o _ (by omega) (by omega)]
              · rw [rs_ne (by omega), t1]; exact pk_congr fun j j0 j1 => (o _ (by omega) (by omega)).symm
              · rw [rs_ne (by omega), t2]; exact pk_congr fun j j0 j1 => (o _ (by omega) (by omega)).symm
              · rw [rs_ne (by omega), t3, o _ (by omega) (by omega)]
              · rw [rs_ne (by omega), t4, o _ (by omega) (by omega)]
          · rw [if_neg c2]
            refine nx w1 ?_ f1
            unfold loseS
            rw [if_neg (fun z => c2 (ni.mpr z.2))]
            exact e1
        · rw [if_neg c1]
          refine nx w1 ?_ f1
          unfold loseS
          rw [if_neg (fun z => c1 z.1)]
          exact e1
  exact key F 0 w (by omega) (by omega) h (Fc.refl b w)
