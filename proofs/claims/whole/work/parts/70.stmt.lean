/-! ===== a statement of a setup ===== -/
def FdzU (u u' : aI) : Prop := ∀ a, ¬ a = 5 → (a < 48 ∨ 66 ≤ a) → u' a = u a
def FvzM (v v' : aI) : Prop := (∀ a, ¬ a = 210 → ¬ a = 211 → ¬ a = 215 → v' a = v a) ∧ ∀ k, ¬ k = 8 → ¬ k = 16 → ¬ k = 17 → ¬ k = 18 → ¬ k = 19 → ¬ k = 20 → ¬ k = 21 → v' 210 k = v 210 k
theorem FdzU.trans {u v w : aI} (h : FdzU u v) (k : FdzU v w) : FdzU u w := fun a a1 a2 => (k a a1 a2).trans (h a a1 a2)
theorem Fk.fd {u u' : aI} (h : Fk u u') : FdzU u u' := fun a ha _ => h a ha
theorem Fc.fd {u u' : aI} (h : Fc 48 u u') : FdzU u u' := fun a _ ha => h a (by omega)
theorem FvzM.trans {u v w : aI} (h : FvzM u v) (k : FvzM v w) : FvzM u w := ⟨fun a a1 a2 a3 => (k.1 a a1 a2 a3).trans (h.1 a a1 a2 a3), fun j a b c d e f g => (k.2 j a b c d e f g).trans (h.2 j a b c d e f g)⟩
theorem Fz.fv {v v' : aI} (h : Fz v v') : FvzM v v' := ⟨fun a a1 _ a3 => h.1 a a1 a3, h.2⟩
theorem Fy.fv {v v' : aI} (h : Fy v v') : FvzM v v' := h.fz.fv
theorem FvzM.r211 (v : aI) (f : Int → Int) : FvzM v (stc v 211 f) := ⟨fun a _ a2 _ => stc_ne a2, fun k _ _ _ _ _ _ _ => by rw [stc_ne (by decide)]⟩
theorem MS.r211 {v : aI} {B : Int → Int} {N p : Int} (h : MS v B N p) (f : Int → Int) : MS (stc v 211 f) B N p := by
  unfold MS TM MT
  rw [stc_ne (show ¬ 210 = 211 by decide), stc_ne (show ¬ 218 = 211 by decide)]
  exact h
theorem CS.cut {u u' : aI} {B : Int → Int} {N p : Int} (h : CS u B N p) (f : Fc 48 u u') : CS u' B N p := by
  unfold CS TX CT
  rw [f 1 (by omega), f 2 (by omega), f 5 (by omega)]
  exact h
theorem p60 : shR 6 0 = 5 := by decide +kernel
theorem p61 : shR 6 1 = 48 := by decide +kernel
def Stt (u v : aI) (B : Int → Int) (N p : Int) (r : Row) : Prop := CS u B N p ∧ MS v B N p ∧ DR u 48 r ∧ v 211 = r ∧ DW r
def StO (u v : aI) (B : Int → Int) (N p : Int) (x : Option (Bool × aI)) (y : Option aI) : Prop := ∃ u' v', y = some v' ∧ FdzU u u' ∧ FvzM v v' ∧
  ((∃ p' r', x = some (true, u') ∧ p < p' ∧ Stt u' v' B N p' r') ∨ (∃ c a, x = some (false, u') ∧ TOK u' 48 ∧ CF u' B N c a ∧ MF v' B N c a ∧ rg (v' 211 0)))
theorem DR.fk {u u' : aI} {r : Row} (h : DR u 48 r) (f : Fk u u') : DR u' 48 r := h.of fun a a0 a1 => f a (by omega)
section St
variable {F : Nat} {u v : aI} {B : Int → Int} {N p : Int} {r : Row}
theorem StO_nozq {u0 v0 u' v' : aI} {c a : Int} {x : Option (Bool × aI)} {y : Option aI} (hx : x = some (false, u')) (hy : y = some v') (fu : FdzU u0 u') (fv : FvzM v0 v') (hT : TOK u' 48) (h1 : CF u' B N c a) (h2 : MF v' B N c a) (h3 : rg (v' 211 0)) : StO u0 v0 B N p x y := ⟨u', v', hy, fu, fv, Or.inr ⟨c, a, hx, hT, h1, h2, h3⟩⟩
theorem m_b50dead {c a z : Int} (hF : 1000 ≤ F) (h : MF v B N c a) : f_X11_readsRoof_b50 F 210 z 210 v = some v := by
  have hc := h.2.2.2.1
  unfold f_X11_readsRoof_b50
  rw [m_needDead h, bs, m_nextDead h, bs, m_numDead h (by decide) (by decide), bj, m_numDead h (by decide) (by decide), bj, m_numDead h (by decide) (by decide), bj, m_numDead h (by decide) (by decide), bj, h.2.1, gd_t (by omega), if_neg (by omega)]
theorem nb_v {lo hi : Int} (h : nbE B N p lo hi = 0) : lo ≤ tV B N p ∧ tV B N p ≤ hi := by
  unfold nbE at h
  split at h
  · split at h
    · assumption
    · omega
  · omega
theorem nb_k {lo hi : Int} (h : nbE B N p lo hi = 0) : tK B N p = 2 := by
  unfold nbE at h
  split at h
  · assumption
  · omega
theorem st_roof (hF : 1000 ≤ F) (h : Stt u v B N p r) (hk : ¬ tK B N p = 0) : StO u v B N p (f_X5_isRoofRead F 6 u) ((f_X11_readsRoof F 210 v).bind (fun w7 => (f_X11_semicolon F 210 w7).bind (fun w8 => some w8))) := by
  obtain ⟨hc, hm, hD, h1, hW⟩ := h
  have hb := hc.bd
  obtain ⟨b0, b1, b2, b4, b5, b6, hr, hw, hz, hs, hZ⟩ := hW
  have hW : DW r := ⟨b0, b1, b2, b4, b5, b6, hr, hw, hz, hs, hZ⟩
  unfold f_X5_isRoofRead f_X11_readsRoof
  rw [p60, p61, hD.2.1.2.1, gd_t (by omega), m0, n0, gd_t (by omega), h1, gd_t (by omega)]
  by_cases c10 : r 0 < 10
  · rw [if_pos c10, if_neg (by omega)]
    unfold f_X11_readsRoof_b17 f_X11_readsRoof_b45
    obtain ⟨u1, e1, e2, e3⟩ := c_next hF hc
    obtain ⟨v1, g1, g2, g3⟩ := m_next hF hm
    have D1 := hD.fk e3
    have hb1 := e2.bd
    rw [e1, bs, m_needOk hm rfl, bs, g1, bs]
    by_cases cn : IsNm B N (tE B N p)
    · have hnb := nmH_bd e2.1.2.1.2 e2.2.2.1 cn
      have hLt := cn.lt e2.1.2.1.2 e2.2.2.1
      obtain ⟨v2, k1, k2, k3, k4, k5⟩ := m_spells hF g2 cn
      have r2 : v2 211 = r := by rw [k3.1 211 (by decide) (by decide), g3.1 211 (by decide)]; exact h1
      have hnm : f_X11_named F 210 v2 = some (nmd r (nmH B N (tE B N p))) := m_named (F := F) hF r2 b0 hr k4 hLt k5
      have hx := nmd_bd r (nmH B N (tE B N p)) b0.1
      have fv2 : FvzM v v2 := g3.fv.trans k3.fv
      rw [c_nameHere hF e2 cn, bj, gd_t (by omega), if_neg (show ¬ nmH B N (tE B N p) = -1 by omega), c_roofNamed (by omega) P48 D1.1 D1.2.1.2.1 b0 hr D1.nmp.2.2 (by omega), bs, gd_t (by omega), k1, bs, k2.2.1.2.2.2.2.2, gd_t (by decide), if_neg (show ¬ (0 : Int) < 0 by decide), hnm, bs, gd_t (by omega)]
      by_cases cx : nmd r (nmH B N (tE B N p)) = -1
      · rw [if_pos cx, if_pos cx]
        obtain ⟨u2, a1, a2, a3⟩ := c_next hF e2
        obtain ⟨v3, l1, l2, l3⟩ := m_next hF k2
        have D2 := D1.fk a3
        have hb2 := a2.bd
        have fu2 : FdzU u u2 := e3.fd.trans a3.fd
        have fv3 : FvzM v v3 := fv2.trans l3.fv
        have x3 : (∀ k, 0 ≤ k → k < tE B N (tE B N p) - tS B N (tE B N p) → v3 215 k = B (tS B N (tE B N p) + k)) ∧ v3 210 8 = tE B N (tE B N p) - tS B N (tE B N p) ∧ v3 211 = r := ⟨fun k k0 k1 => by rw [l3.1 215 (by decide)]; exact k5 k k0 k1, by rw [l3.2 8 (by omega) (by omega) (by omega) (by omega) (by omega) (by omega)]; exact k4, by rw [l3.1 211 (by decide)]; exact r2⟩
        unfold f_X11_readsRoof_b50
        rw [a1, bs, m_needOk k2 rfl, bs, l1, bs]
        generalize hp2 : tE B N (tE B N p) = p2 at *
        have hnm2 : nmH B N (tE B N p) = nm (p2 - tS B N (tE B N p)) (fun k => B (tS B N (tE B N p) + k)) := by unfold nmH; rw [hp2]
        -- the first number
        obtain ⟨cA, cB⟩ := c_takeNum (F := F) (lo := 1) (hi := 8) hF a2 (by decide) (by decide)
        obtain ⟨mA, mB⟩ := m_num' (F := F) (lo := 1) (hi := 8) hF l2 (by decide) (by decide)
        by_cases q1 : nbE B N p2 1 8 = 0
        · obtain ⟨u3, s1, s2, s3⟩ := cA q1
          obtain ⟨v4, t1, t2, t3⟩ := mA q1
          have w1 := nb_v q1
          have hb3 := s2.bd
          rw [s1, bj, gd_t (by omega), if_neg (show ¬ tV B N p2 = -1 by omega), t1, bj]
          generalize tV B N p2 = br at *
          generalize tE B N p2 = p3 at *
          obtain ⟨cA2, cB2⟩ := c_takeNum (F := F) (lo := 0) (hi := 9) hF s2 (by decide) (by decide)
          obtain ⟨mA2, mB2⟩ := m_num' (F := F) (lo := 0) (hi := 9) hF t2 (by decide) (by decide)
          by_cases q2 : nbE B N p3 0 9 = 0
          · obtain ⟨u4, s4, s5, s6⟩ := cA2 q2
            obtain ⟨v5, t4, t5, t6⟩ := mA2 q2
            have w2 := nb_v q2
            have hb4 := s5.bd
            unfold f_X5_isRoofRead_b101
            rw [s4, bj, gd_t (by omega), if_neg (show ¬ tV B N p3 = -1 by omega), t4, bj]
            generalize tV B N p3 = ea at *
            generalize tE B N p3 = p4 at *
            obtain ⟨cA3, cB3⟩ := c_takeNum (F := F) (lo := 0) (hi := 9) hF s5 (by decide) (by decide)
            obtain ⟨mA3, mB3⟩ := m_num' (F := F) (lo := 0) (hi := 9) hF t5 (by decide) (by decide)
            by_cases q3 : nbE B N p4 0 9 = 0
            · obtain ⟨u5, s7, s8, s9⟩ := cA3 q3
              obtain ⟨v6, t7, t8, t9⟩ := mA3 q3
              have w3 := nb_v q3
              have hb5 := s8.bd
              unfold f_X5_isRoofRead_b121
              rw [p60, s7, bj, gd_t (by omega), if_neg (show ¬ tV B N p4 = -1 by omega), t7, bj]
              generalize tV B N p4 = fe at *
              generalize tE B N p4 = p5 at *
              obtain ⟨cA4, cB4⟩ := c_takeNum (F := F) (lo := 0) (hi := 999) hF s8 (by decide) (by decide)
              obtain ⟨mA4, mB4⟩ := m_num' (F := F) (lo := 0) (hi := 999) hF t8 (by decide) (by decide)
              by_cases q4 : nbE B N p5 0 999 = 0
              · obtain ⟨u6, i1, i2, i3⟩ := cA4 q4
                obtain ⟨v7, j1, j2, j3⟩ := mA4 q4
                have w4 := nb_v q4
                have hb6 := i2.bd
                unfold f_X5_isRoofRead_b144
                rw [i1, bj, gd_t (by omega), if_neg (show ¬ tV B N p5 = -1 by omega), j1, bj]
                generalize tV B N p5 = pu at *
                generalize tE B N p5 = p6 at *
                have F47 : Fy v3 v7 := ((t3.trans t6).trans t9).trans j3
                have z211 : v7 211 = r := by rw [F47.1 211 (by decide)]; exact x3.2.2
                have z8 := F47.2 8 (by omega) (by omega) (by omega) (by omega) (by omega) (by omega)
                have z215 : v7 215 = v3 215 := F47.1 215 (by decide)
                have hnr := m_newRoof (F := F) (v := v7) (r := r) (l := p2 - tS B N (tE B N p)) (f := fun k => B (tS B N (tE B N p) + k)) (br := br) (ea := ea) (fe := fe) (pu := pu) hF z211 ⟨b0.1, c10⟩ hLt.1 (by rw [z8]; exact x3.2.1) (fun k k0 k1 => by rw [z215]; exact x3.1 k k0 k1)
                rw [j2.2.1.2.2.2.2.2, gd_t (by decide), if_pos rfl, hnr, bs, bs]
                have M8 := j2.r211 (roofA r (p2 - tS B N (tE B N p)) (fun k => B (tS B N (tE B N p) + k)) br ea fe pu)
                have fu6 : Fk u2 u6 := ((s3.trans s6).trans s9).trans i3
                have D6 := D2.fk fu6
                have fv8 := (fv3.trans F47.fv).trans (FvzM.r211 v7 (roofA r (p2 - tS B N (tE B N p)) (fun k => B (tS B N (tE B N p) + k)) br ea fe pu))
                obtain ⟨cS, cS2⟩ := c_semi (F := F) hF i2
                obtain ⟨mS, mS2⟩ := m_semi (F := F) hF M8
                by_cases q5 : smE B N p6 = 0
                · obtain ⟨u7, o1, o2, o3⟩ := cS q5
                  obtain ⟨v9, o4, o5, o6⟩ := mS q5
                  have D7 := D6.fk o3
                  have hb7 := o2.bd
                  obtain ⟨u8, o7, o8, o9⟩ := c_addRoof (F := F) (l := p2 - tS B N (tE B N p)) (f := fun k => B (tS B N (tE B N p) + k)) (br := br) (ea := ea) (fe := fe) (pu := pu) P48 D7 hW c10 hLt w4
                  rw [p60, o1, bk, if_pos rfl, p61]
                  have o7' : f_X2_addRoof F 48 (nmH B N (tE B N p)) br ea fe pu u7 = some u8 := by rw [hnm2]; exact o7
                  rw [o7', bs, o4, bs]
                  refine ⟨u8, v9, rfl, (((fu2.trans fu6.fd).trans o3.fd).trans o9.fd), fv8.trans o6.fv, Or.inl ⟨tE B N p6, _, rfl, by omega, o2.cut o9, o5, o8, by rw [o6.1 211 (by decide), stc_eq], ?_⟩⟩
                  exact roofA_DW hW c10 hLt w1 w2 w3 w4
                · obtain ⟨u7, o1, o2, o3⟩ := cS2 q5
                  obtain ⟨v9, o4, o5, o6⟩ := mS2 q5
                  rw [p60, o1, bk, if_neg (by decide), o4, bs]
                  exact StO_nozq rfl rfl ((fu2.trans fu6.fd).trans o3.fd) (fv8.trans o6.fv) (D6.fk o3).1 o2 o5 (by rw [o6.1 211 (by decide), stc_eq, (roofA_at b0.1 hLt.1).1]; omega)
              · obtain ⟨u6, i1, i2, i3⟩ := cB4 q4
                obtain ⟨v7, j1, j2, j3⟩ := mB4 q4
                have hcc := j2.2.2.2.1
                unfold f_X5_isRoofRead_b144
                rw [i1, bj, gd_t (by decide), if_pos rfl, j1, bj, j2.2.1, gd_t (by omega), if_neg (by omega), bs, m_semiDead j2, bs]
                have fu6 : Fk u2 u6 := ((s3.trans s6).trans s9).trans i3
                exact StO_nozq rfl rfl (fu2.trans fu6.fd) (fv3.trans (((t3.trans t6).trans t9).trans j3).fv) (D2.fk fu6).1 i2 j2 (by rw [(((t3.trans t6).trans t9).trans j3).1 211 (by decide), x3.2.2]; omega)
            · obtain ⟨u5, s7, s8, s9⟩ := cB3 q3
              obtain ⟨v6, t7, t8, t9⟩ := mB3 q3
              have hcc := t8.2.2.2.1
              unfold f_X5_isRoofRead_b121 f_X5_isRoofRead_b144
              rw [p60, s7, bj, gd_t (by decide), if_pos rfl, gd_t (by decide), if_pos rfl, t7, bj, m_numDead t8 (by decide) (by decide), bj, t8.2.1, gd_t (by omega), if_neg (by omega), bs, m_semiDead t8, bs]
              have fu6 : Fk u2 u5 := (s3.trans s6).trans s9
              exact StO_nozq rfl rfl (fu2.trans fu6.fd) (fv3.trans ((t3.trans t6).trans t9).fv) (D2.fk fu6).1 s8 t8 (by rw [((t3.trans t6).trans t9).1 211 (by decide), x3.2.2]; omega)
          · obtain ⟨u4, s4, s5, s6⟩ := cB2 q2
            obtain ⟨v5, t4, t5, t6⟩ := mB2 q2
            have hcc := t5.2.2.2.1
            unfold f_X5_isRoofRead_b101 f_X5_isRoofRead_b121 f_X5_isRoofRead_b144
            rw [s4, bj, gd_t (by decide), if_pos rfl, gd_t (by decide), if_pos rfl, gd_t (by decide), if_pos rfl, t4, bj, m_numDead t5 (by decide) (by decide), bj, m_numDead t5 (by decide) (by decide), bj, t5.2.1, gd_t (by omega), if_neg (by omega), bs, m_semiDead t5, bs]
            have fu6 : Fk u2 u4 := s3.trans s6
            exact StO_nozq rfl rfl (fu2.trans fu6.fd) (fv3.trans (t3.trans t6).fv) (D2.fk fu6).1 s5 t5 (by rw [(t3.trans t6).1 211 (by decide), x3.2.2]; omega)
        · obtain ⟨u3, s1, s2, s3⟩ := cB q1
          obtain ⟨v4, t1, t2, t3⟩ := mB q1
          have hcc := t2.2.2.2.1
          unfold f_X5_isRoofRead_b101 f_X5_isRoofRead_b121 f_X5_isRoofRead_b144
          rw [s1, bj, gd_t (by decide), if_pos rfl, gd_t (by decide), if_pos rfl, gd_t (by decide), if_pos rfl, gd_t (by decide), if_pos rfl, t1, bj, m_numDead t2 (by decide) (by decide), bj, m_numDead t2 (by decide) (by decide), bj, m_numDead t2 (by decide) (by decide), bj, t2.2.1, gd_t (by omega), if_neg (by omega), bs, m_semiDead t2, bs]
          exact StO_nozq rfl rfl (fu2.trans s3.fd) (fv3.trans t3.fv) (D2.fk s3).1 s2 t2 (by rw [t3.1 211 (by decide), x3.2.2]; omega)
      · rw [if_neg cx, if_neg cx]
        obtain ⟨u2, a1, a2, a3⟩ := c_fail (F := F) (c := 3) e2
        obtain ⟨v3, l1, l2, l3⟩ := m_needNo (F := F) (c := 3) (x := 0) k2 (by omega) rfl
        have t := m_b50dead (F := F) (z := 1) hF l2
        have t0 : f_X11_readsRoof_b50 F 210 0 210 v2 = some v3 := by
          unfold f_X11_readsRoof_b50 at t ⊢
          rw [m_needDead l2, bs] at t
          rw [l1, bs]
          exact t
        rw [a1, bk, t0, bs, m_semiDead l2, bs]
        exact StO_nozq rfl rfl (e3.fd.trans a3.fd) (fv2.trans l3.fv) (D1.fk a3).1 a2 l2 (by rw [l3.1 211 (by decide), r2]; omega)
    · obtain ⟨u2, a1, a2, a3⟩ := c_nameNo hF e2 cn
      obtain ⟨v2, k1, k2, k3⟩ := m_spellsNo hF g2 cn
      have hcc := k2.2.2.2.1
      rw [a1, bj, gd_t (by decide), if_pos rfl, k1, bs, k2.2.1, gd_t (by omega), if_pos (by omega), m_b50dead hF k2, bs, m_semiDead k2, bs]
      exact StO_nozq rfl rfl (e3.fd.trans a3.fd) (g3.fv.trans k3.fv) (D1.fk a3).1 a2 k2 (by rw [k3.1 211 (by decide) (by decide), g3.1 211 (by decide), h1]; omega)
  · rw [if_neg c10, if_pos (by omega)]
    unfold f_X11_readsRoof_b17 f_X11_readsRoof_b45
    obtain ⟨u1, e1, e2, e3⟩ := c_fail (F := F) (c := 5) hc
    obtain ⟨v1, g1, g2, g3⟩ := m_needNo (F := F) (c := 5) (x := 0) hm (by omega) rfl
    obtain ⟨k1, k2⟩ := m_spellsDead hF g2
    have hcc := k2.2.2.2.1
    rw [e1, bk, g1, bs, m_nextDead g2, bs, k1, bs, k2.2.1, gd_t (by omega), if_pos (by omega), m_b50dead hF k2, bs, m_semiDead k2, bs]
    exact StO_nozq rfl rfl e3.fd (g3.fv.trans ⟨fun a a1 _ _ => is_ne a1, fun k k0 _ _ _ _ _ _ => by rw [is_eq, rs_ne k0]⟩) (hD.fk e3).1 e2 k2 (by rw [is_ne (by decide), g3.1 211 (by decide), h1]; omega)
end St
