/-! ===== a way, a setting; any statement of a setup ===== -/
section St2
variable {F : Nat} {u v : aI} {B : Int → Int} {N p : Int} {r : Row}
theorem m_b60dead {c a z x y : Int} (hF : 1000 ≤ F) (h : MF v B N c a) : f_X11_readsWay_b60 F 210 x y z 210 v = some v := by
  have hc := h.2.2.2.1
  unfold f_X11_readsWay_b60
  rw [m_needDead h, bs, m_nextDead h, bs, m_numDead h (by decide) (by decide), bj, h.2.1, gd_t (by omega), if_neg (by omega)]
theorem rhX_ok {un : Int} (b0 : 0 ≤ r 0) (h : rhE B N p r un = 0) : (0 ≤ rhX B N p r ∧ rhX B N p r < r 0) ∧ ¬ rhX B N p r = un := by
  unfold rhE at h
  unfold rhX
  have := nmd_bd r (nmH B N p) b0
  split at h
  · split at h
    · omega
    · rename_i c
      have c1 : ¬ nmd r (nmH B N p) = -1 := fun z => c (Or.inl z)
      have c2 : ¬ nmd r (nmH B N p) = un := fun z => c (Or.inr z)
      exact ⟨by omega, c2⟩
  · omega
theorem DW.rgw (h : DW r) : ∀ j, 0 ≤ j → j < r 1 → rg (r (160 + 3 * j)) ∧ rg (r (160 + 3 * j + 1)) := fun j j0 j1 => by
  have := h.2.2.2.2.2.2.2.1.1 j j0 j1
  have := h.1
  omega
theorem st_way (hF : 1000 ≤ F) (h : Stt u v B N p r) (hk : ¬ tK B N p = 0) : StO u v B N p (f_X5_isWayRead F 6 u) ((f_X11_readsWay F 210 v).bind (fun w7 => (f_X11_semicolon F 210 w7).bind (fun w8 => some w8))) := by
  obtain ⟨hc, hm, hD, h1, hW⟩ := h
  have hb := hc.bd
  have hrw := hW.rgw
  have hW' := hW
  obtain ⟨b0, b1, b2, b4, b5, b6, hr, hw, hz, hs, hZ⟩ := hW
  unfold f_X5_isWayRead f_X11_readsWay
  rw [p60, p61, hD.2.1.2.2.1, gd_t (by omega), m0, n0, gd_t (by omega), h1, gd_t (by omega)]
  by_cases c10 : r 1 < 20
  · rw [if_pos c10, if_neg (by omega)]
    unfold f_X11_readsWay_b17
    obtain ⟨u1, e1, e2, e3⟩ := c_next hF hc
    obtain ⟨v1, g1, g2, g3⟩ := m_next hF hm
    have D1 := hD.fk e3
    have hb1 := e2.bd
    have r1 : v1 211 = r := by rw [g3.1 211 (by decide)]; exact h1
    rw [e1, bs, m_needOk hm rfl, bs, g1, bs]
    generalize tE B N p = p1 at *
    obtain ⟨cA, cB⟩ := c_roofHere (F := F) (un := -1) hF P48 e2 D1.nmp b0 hr (by decide)
    obtain ⟨mA, mB⟩ := m_roofOf (F := F) (un := -1) hF g2 r1 b0 hr (by decide)
    by_cases q1 : rhE B N p1 r (-1) = 0
    · obtain ⟨v2, k1, k2, k3⟩ := mA q1
      have hx := rhX_ok b0.1 q1
      have r2 : v2 211 = r := by rw [k3.1 211 (by decide) (by decide)]; exact r1
      obtain ⟨u2, a1, a2, a3⟩ := c_next hF e2
      have D2 := D1.fk a3
      have hb2 := a2.bd
      rw [cA q1, bj, gd_t (by omega), if_neg (show ¬ rhX B N p1 r = -1 by omega), a1, bs, k1, bj]
      generalize rhX B N p1 r = x at *
      generalize tE B N p1 = p2 at *
      obtain ⟨cA2, cB2⟩ := c_roofHere (F := F) (un := x) hF P48 a2 D2.nmp b0 hr (by omega)
      obtain ⟨mA2, mB2⟩ := m_roofHere (F := F) (un := x) hF k2 r2 b0 hr (by omega)
      by_cases q2 : rhE B N p2 r x = 0
      · obtain ⟨v3, l1, l2, l3⟩ := mA2 q2
        have hy := rhX_ok b0.1 q2
        have r3 : v3 211 = r := by rw [l3.1 211 (by decide) (by decide)]; exact r2
        rw [cA2 q2, bj, gd_t (by omega), if_neg (show ¬ rhX B N p2 r = -1 by omega), l1, bj, l2.2.1.2.2.2.2.2, gd_t (by decide), if_neg (show ¬ (0 : Int) < 0 by decide)]
        generalize rhX B N p2 r = y at *
        have hv := wayB_r r x y b1.1
        rw [c_wayB (by omega) P48 D2.1 D2.2.1.2.2.1 D2.2.2.2.2.2 b0.2 b1 hw hx.1 hy.1, bs, gd_t (by omega), m_wayB (by omega) (by rw [r3]; exact b1) (by rw [r3]; exact hrw) (by omega) (by omega), bs, r3, gd_t (by omega)]
        by_cases q3 : wayB r x y = -1
        · rw [if_pos q3, if_pos q3]
          obtain ⟨u3, s1, s2, s3⟩ := c_next hF a2
          obtain ⟨v4, t1, t2, t3⟩ := m_next hF l2
          have D3 := D2.fk s3
          have hb3 := s2.bd
          have r4 : v4 211 = r := by rw [t3.1 211 (by decide)]; exact r3
          unfold f_X11_readsWay_b55 f_X11_readsWay_b60
          rw [s1, bs, m_needOk l2 rfl, bs, t1, bs]
          generalize tE B N p2 = p3 at *
          have fu3 : FdzU u u3 := (e3.fd.trans a3.fd).trans s3.fd
          have fv4 : FvzM v v4 := ((g3.fv.trans k3.fv).trans l3.fv).trans t3.fv
          obtain ⟨cA3, cB3⟩ := c_takeNum (F := F) (lo := 1) (hi := 9) hF s2 (by decide) (by decide)
          obtain ⟨mA3, mB3⟩ := m_num' (F := F) (lo := 1) (hi := 9) hF t2 (by decide) (by decide)
          by_cases q4 : nbE B N p3 1 9 = 0
          · obtain ⟨u4, s4, s5, s6⟩ := cA3 q4
            obtain ⟨v5, t4, t5, t6⟩ := mA3 q4
            have w3 := nb_v q4
            have hb4 := s5.bd
            have D4 := D3.fk s6
            have r5 : v5 211 = r := by rw [t6.1 211 (by decide)]; exact r4
            rw [s4, bj, gd_t (by omega), if_neg (show ¬ tV B N p3 = -1 by omega), t4, bj]
            generalize tV B N p3 = far at *
            generalize tE B N p3 = p4 at *
            rw [t5.2.1.2.2.2.2.2, gd_t (by decide), if_pos rfl, m_newWay r5 ⟨b1.1, c10⟩, bs, bs]
            have M6 := t5.r211 (wayA r x y far)
            have fv6 := (fv4.trans t6.fv).trans (FvzM.r211 v5 (wayA r x y far))
            obtain ⟨cS, cS2⟩ := c_semi (F := F) hF s5
            obtain ⟨mS, mS2⟩ := m_semi (F := F) hF M6
            by_cases q5 : smE B N p4 = 0
            · obtain ⟨u7, o1, o2, o3⟩ := cS q5
              obtain ⟨v9, o4, o5, o6⟩ := mS q5
              have D7 := D4.fk o3
              have hb7 := o2.bd
              obtain ⟨u8, o7, o8, o9⟩ := c_addWay (F := F) (x := x) (y := y) (far := far) P48 D7 hW' c10
              rw [o1, bk, if_pos rfl, o7, bs, o4, bs]
              refine ⟨u8, v9, rfl, (((fu3.trans s6.fd).trans o3.fd).trans o9.fd), fv6.trans o6.fv, Or.inl ⟨tE B N p4, _, rfl, Int.lt_of_lt_of_le (Int.lt_of_le_of_lt hb.2.1 (hb.2.2.2.2.2.2 hk)) (Int.le_trans (Int.le_trans hb1.2.1 hb1.2.2.1) (Int.le_trans (Int.le_trans hb2.2.1 hb2.2.2.1) (Int.le_trans (Int.le_trans hb3.2.1 hb3.2.2.1) (Int.le_trans hb4.2.1 hb4.2.2.1)))), o2.cut o9, o5, o8, by rw [o6.1 211 (by decide), stc_eq], ?_⟩⟩
              exact wayA_DW hW' c10 hx.1 hy.1 (fun z => hy.2 z.symm) w3 q3
            · obtain ⟨u7, o1, o2, o3⟩ := cS2 q5
              obtain ⟨v9, o4, o5, o6⟩ := mS2 q5
              rw [o1, bk, if_neg (by decide), o4, bs]
              exact StO_nozq rfl rfl ((fu3.trans s6.fd).trans o3.fd) (fv6.trans o6.fv) (D4.fk o3).1 o2 o5 (by rw [o6.1 211 (by decide), stc_eq, (wayA_at (r := r) (a := x) (b := y) (far := far) b1.1).2.2.2.2 0 (by omega) (by omega)]; omega)
          · obtain ⟨u4, s4, s5, s6⟩ := cB3 q4
            obtain ⟨v5, t4, t5, t6⟩ := mB3 q4
            have hcc := t5.2.2.2.1
            rw [s4, bj, gd_t (by decide), if_pos rfl, t4, bj, t5.2.1, gd_t (by omega), if_neg (by omega), bs, m_semiDead t5, bs]
            exact StO_nozq rfl rfl (fu3.trans s6.fd) (fv4.trans t6.fv) (D3.fk s6).1 s5 t5 (by rw [t6.1 211 (by decide), r4]; omega)
        · rw [if_neg q3, if_neg q3]
          obtain ⟨u3, s1, s2, s3⟩ := c_fail (F := F) (c := 4) a2
          obtain ⟨v4, t1, t2, t3⟩ := m_needNo (F := F) (c := 4) (x := 0) l2 (by omega) rfl
          have t := m_b60dead (F := F) (z := 1) (x := x) (y := y) hF t2
          have t0 : f_X11_readsWay_b60 F 210 x y 0 210 v3 = some v4 := by
            unfold f_X11_readsWay_b60 at t ⊢
            rw [m_needDead t2, bs] at t
            rw [t1, bs]
            exact t
          rw [s1, bk, t0, bs, m_semiDead t2, bs]
          exact StO_nozq rfl rfl ((e3.fd.trans a3.fd).trans s3.fd) (((g3.fv.trans k3.fv).trans l3.fv).trans t3.fv) (D2.fk s3).1 s2 t2 (by rw [t3.1 211 (by decide), r3]; omega)
      · obtain ⟨u3, s1, s2, s3⟩ := cB2 q2
        obtain ⟨v3, x', l1, l0, l2, l3⟩ := mB2 q2
        have hcc := l2.2.2.2.1
        unfold f_X11_readsWay_b55
        rw [s1, bj, gd_t (by decide), if_pos rfl, l1, bj, l2.2.1, gd_t (by omega), if_pos (by omega), m_b60dead hF l2, bs, m_semiDead l2, bs]
        exact StO_nozq rfl rfl ((e3.fd.trans a3.fd).trans s3.fd) ((g3.fv.trans k3.fv).trans l3.fv) (D2.fk s3).1 s2 l2 (by rw [l3.1 211 (by decide) (by decide), r2]; omega)
    · obtain ⟨u2, s1, s2, s3⟩ := cB q1
      obtain ⟨v2, x', l1, l0, l2, l3⟩ := mB q1
      obtain ⟨v3, y1, y2, y3⟩ := m_roofHereDead (un := x') hF l2
      have hcc := y2.2.2.2.1
      unfold f_X11_readsWay_b55
      rw [s1, bj, gd_t (by decide), if_pos rfl, l1, bj, y1, bj, y2.2.1, gd_t (by omega), if_pos (by omega), m_b60dead hF y2, bs, m_semiDead y2, bs]
      exact StO_nozq rfl rfl (e3.fd.trans s3.fd) ((g3.fv.trans l3.fv).trans y3.fv) (D1.fk s3).1 s2 y2 (by rw [y3.1 211 (by decide) (by decide), l3.1 211 (by decide) (by decide), r1]; omega)
  · rw [if_neg c10, if_pos (by omega)]
    unfold f_X11_readsWay_b17 f_X11_readsWay_b55
    obtain ⟨u1, e1, e2, e3⟩ := c_fail (F := F) (c := 5) hc
    obtain ⟨v1, g1, g2, g3⟩ := m_needNo (F := F) (c := 5) (x := 0) hm (by omega) rfl
    obtain ⟨v2, k1, k2, k3⟩ := m_roofOfDead (un := -1) hF g2
    obtain ⟨v3, y1, y2, y3⟩ := m_roofHereDead (un := 0) hF k2
    have hcc := y2.2.2.2.1
    rw [e1, bk, g1, bs, m_nextDead g2, bs, k1, bj, y1, bj, y2.2.1, gd_t (by omega), if_pos (by omega), m_b60dead hF y2, bs, m_semiDead y2, bs]
    exact StO_nozq rfl rfl e3.fd ((g3.fv.trans k3.fv).trans y3.fv) (hD.fk e3).1 e2 y2 (by rw [y3.1 211 (by decide) (by decide), k3.1 211 (by decide) (by decide), g3.1 211 (by decide), h1]; omega)
theorem lo_at (w : aI) {v : Int} (hv : v = 8 ∨ v = 9 ∨ v = 10) : f_X2_leastOf F v w = some (loV v) ∧ f_X2_mostOf F v w = some (hiV v) ∧ f_X11_lowOf F (v - 4) w = some (loV v) ∧ f_X11_highOf F (v - 4) w = some (hiV v) ∧ (0 ≤ loV v ∧ loV v ≤ 1) ∧ 3 ≤ hiV v ∧ hiV v ≤ 60 := by
  rcases hv with e | e | e <;> subst e
  · exact ⟨by unfold f_X2_leastOf; rw [gd_t (by decide)]; rfl, by unfold f_X2_mostOf; rw [gd_t (by decide)]; rfl, by unfold f_X11_lowOf; rw [gd_t (by decide)]; rfl, by unfold f_X11_highOf; rw [gd_t (by decide)]; rfl, by decide, by decide, by decide⟩
  · exact ⟨by unfold f_X2_leastOf; rw [gd_t (by decide)]; rfl, by unfold f_X2_mostOf; rw [gd_t (by decide)]; rfl, by unfold f_X11_lowOf; rw [gd_t (by decide)]; rfl, by unfold f_X11_highOf; rw [gd_t (by decide)]; rfl, by decide, by decide, by decide⟩
  · exact ⟨by unfold f_X2_leastOf; rw [gd_t (by decide)]; rfl, by unfold f_X2_mostOf; rw [gd_t (by decide)]; rfl, by unfold f_X11_lowOf; rw [gd_t (by decide)]; rfl, by unfold f_X11_highOf; rw [gd_t (by decide)]; rfl, by decide, by decide, by decide⟩
theorem st_set (hF : 1000 ≤ F) (h : Stt u v B N p r) (hk : ¬ tK B N p = 0) (hv : swd B N p = 8 ∨ swd B N p = 9 ∨ swd B N p = 10) : StO u v B N p (f_X5_isSettingRead F 6 (swd B N p) u) ((f_X11_readsSetting F 210 v).bind (fun w7 => (f_X11_semicolon F 210 w7).bind (fun w8 => some w8))) := by
  obtain ⟨hc, hm, hD, h1, hW⟩ := h
  have hb := hc.bd
  have hW' := hW
  obtain ⟨b0, b1, b2, b4, b5, b6, hr, hw, hz, hs, hZ⟩ := hW
  unfold f_X5_isSettingRead f_X11_readsSetting
  rw [p60, p61, m_setHere hF hm, bs]
  have hsm : swM B N p = swd B N p - 4 := by unfold swM; rw [if_neg (by omega)]
  rw [hsm, gd_t (by omega), if_neg (show ¬ swd B N p - 4 = -1 by omega)]
  generalize swd B N p = s at *
  unfold f_X11_readsSetting_b16
  obtain ⟨u1, e1, e2, e3⟩ := c_next hF hc
  obtain ⟨v1, g1, g2, g3⟩ := m_next hF hm
  have D1 := hD.fk e3
  have hb1 := e2.bd
  have r1 : v1 211 = r := by rw [g3.1 211 (by decide)]; exact h1
  obtain ⟨l1, l2, -, -, l5, l6⟩ := lo_at (F := F) u1 hv
  obtain ⟨-, -, l3, l4, -, -⟩ := lo_at (F := F) v1 hv
  rw [e1, bs, l1, bs, l2, bs, m_needOk hm rfl, bs, g1, bs, g2.2.1.2.2.2.2.2, gd_t (by decide), if_pos rfl, l3, bs, l4, bs]
  generalize tE B N p = p1 at *
  obtain ⟨cA3, cB3⟩ := c_takeNum (F := F) (lo := loV s) (hi := hiV s) hF e2 (by omega) (by omega)
  obtain ⟨mA3, mB3⟩ := m_num' (F := F) (lo := loV s) (hi := hiV s) hF g2 (by omega) (by omega)
  by_cases q4 : nbE B N p1 (loV s) (hiV s) = 0
  · obtain ⟨u4, s4, s5, s6⟩ := cA3 q4
    obtain ⟨v5, t4, t5, t6⟩ := mA3 q4
    have w3 := nb_v q4
    have hb4 := s5.bd
    have D4 := D1.fk s6
    have r5 : v5 211 = r := by rw [t6.1 211 (by decide)]; exact r1
    rw [s4, bj, gd_t (by omega), if_neg (show ¬ tV B N p1 = -1 by omega), t4, bj, m0, n0, gd_t (by omega), ltm, is_stc, r5, bs]
    generalize tV B N p1 = val at *
    generalize tE B N p1 = p4 at *
    have M6 := t5.r211 (rs r (s - 4) val)
    have fv6 := (g3.fv.trans t6.fv).trans (FvzM.r211 v5 (rs r (s - 4) val))
    obtain ⟨cS, cS2⟩ := c_semi (F := F) hF s5
    obtain ⟨mS, mS2⟩ := m_semi (F := F) hF M6
    by_cases q5 : smE B N p4 = 0
    · obtain ⟨u7, o1, o2, o3⟩ := cS q5
      obtain ⟨v9, o4, o5, o6⟩ := mS q5
      have D7 := D4.fk o3
      have hb7 := o2.bd
      obtain ⟨u8, o7, o8, o9⟩ := c_settleD (F := F) (v := s) (k := val) P48 D7 b0.2 b1.2 (by omega)
      rw [o1, bk, if_pos rfl, o7, bs, o4, bs]
      refine ⟨u8, v9, rfl, (((e3.fd.trans s6.fd).trans o3.fd).trans o9.fd), fv6.trans o6.fv, Or.inl ⟨tE B N p4, _, rfl, by omega, o2.cut o9, o5, o8, by rw [o6.1 211 (by decide), stc_eq]; rfl, ?_⟩⟩
      refine setT_DW hW' (by omega) ?_
      unfold loV hiV at w3
      rcases hv with e | e | e <;> subst e
      · simp at w3; omega
      · simp at w3; omega
      · simp at w3; omega
    · obtain ⟨u7, o1, o2, o3⟩ := cS2 q5
      obtain ⟨v9, o4, o5, o6⟩ := mS2 q5
      rw [o1, bk, if_neg (by decide), o4, bs]
      exact StO_nozq rfl rfl ((e3.fd.trans s6.fd).trans o3.fd) (fv6.trans o6.fv) (D4.fk o3).1 o2 o5 (by rw [o6.1 211 (by decide), stc_eq, rs_ne (by omega)]; omega)
  · obtain ⟨u4, s4, s5, s6⟩ := cB3 q4
    obtain ⟨v5, t4, t5, t6⟩ := mB3 q4
    have M6 : MF (stc v5 211 (rs (v5 211) (s - 4) (loV s))) B N (nbE B N p1 (loV s) (hiV s)) (tS B N p1) := t5.fy (fun k _ => by rw [stc_ne (by decide)]) (stc_ne (by decide))
    rw [s4, bj, gd_t (by decide), if_pos rfl, t4, bj, m0, n0, gd_t (by omega), ltm, is_stc, bs, m_semiDead M6, bs]
    exact StO_nozq rfl rfl (e3.fd.trans s6.fd) ((g3.fv.trans t6.fv).trans (FvzM.r211 v5 _)) (D1.fk s6).1 s5 M6 (by rw [stc_eq, rs_ne (by omega), t6.1 211 (by decide), r1]; omega)
/-- any statement -/
theorem st_any (hF : 1000 ≤ F) (h : Stt u v B N p r) (hk : ¬ tK B N p = 0) : StO u v B N p (f_X5_isStatementRead F 6 u) (f_X11_readsStatement F 210 v) := by
  have hc := h.1
  have hm := h.2.1
  obtain ⟨-, -, -, x4, x5, -⟩ := xB_same
  have id1 : ∀ (o : Option (Bool × aI)), bKW o (fun a b => some (a, b)) = o := fun o => by cases o <;> rfl
  unfold f_X5_isStatementRead f_X11_readsStatement
  rw [p60, c_isWord hF (by decide) hc, bs, m_isWord hF (by decide) hm, bs, id1, id1]
  by_cases c1 : Wd B N p 18
  · rw [if_pos (decide_eq_true c1), if_pos (decide_eq_true ((Wd_same x4).mpr c1))]
    exact st_roof hF h hk
  · rw [if_neg (by rw [decide_eq_true_iff]; exact c1), if_neg (by rw [decide_eq_true_iff]; exact fun z => c1 ((Wd_same x4).mp z)), c_isWord hF (by decide) hc, bs, m_isWord hF (by decide) hm, bs]
    by_cases c2 : Wd B N p 19
    · rw [if_pos (decide_eq_true c2), if_pos (decide_eq_true ((Wd_same x5).mpr c2))]
      exact st_way hF h hk
    · rw [if_neg (by rw [decide_eq_true_iff]; exact c2), if_neg (by rw [decide_eq_true_iff]; exact fun z => c2 ((Wd_same x5).mp z)), c_setWord hF hc, bs]
      have hs := swd_v B N p
      rw [gd_t (by omega)]
      by_cases c3 : swd B N p = -1
      · obtain ⟨u1, e1, e2, e3⟩ := c_fail (F := F) (c := 1) hc
        obtain ⟨v1, g1, g2, g3⟩ := m_needNo (F := F) (c := 1) (x := 0) hm (by omega) rfl
        have hcc := g2.2.2.2.1
        have hsm : swM B N p = -1 := by unfold swM; rw [if_pos c3]
        unfold f_X11_readsSetting f_X11_readsSetting_b16
        rw [if_pos c3, e1, m_setHere hF hm, bs, hsm, gd_t (by decide), if_pos rfl, g1, bs, m_nextDead g2, bs, g2.2.1, gd_t (by omega), if_neg (by omega), bs, m_semiDead g2, bs]
        exact StO_nozq rfl rfl e3.fd g3.fv (h.2.2.1.fk e3).1 e2 g2 (by rw [g3.1 211 (by decide), h.2.2.2.1]; have := h.2.2.2.2.1; omega)
      · rw [if_neg c3, id1]
        exact st_set hF h hk (by omega)
end St2
