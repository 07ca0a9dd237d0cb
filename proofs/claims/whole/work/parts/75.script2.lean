/-! ===== a script's statements, both sides ===== -/
def skW (B : Int → Int) (N p : Int) : Int := if Wd B N p 13 then 0 else if Wd B N p 14 then 1 else if Wd B N p 15 then 2 else if Wd B N p 16 then 3 else if Wd B N p 17 then 4 else swd B N p
def skK (B : Int → Int) (N p : Int) : Int := if skW B N p = -1 then -1 else if 5 ≤ skW B N p then 5 else skW B N p
/-- a row of the class and a deed of the reference that say the same -/
def Ddz (r : Row) (a b : Int → Int) (q : Int) : Prop :=
  ((a (5 * q) = 0 ∨ a (5 * q) = 1) ∧ b (12 * q) = a (5 * q) ∧ (0 ≤ a (5 * q + 1) ∧ a (5 * q + 1) < r 0) ∧ (0 ≤ a (5 * q + 2) ∧ a (5 * q + 2) < r 0) ∧ ¬ a (5 * q + 2) = a (5 * q + 1) ∧ b (12 * q + 1) = a (5 * q + 1) ∧ b (12 * q + 2) = a (5 * q + 2) ∧ Nzk a b q) ∨
  (a (5 * q) = 2 ∧ b (12 * q) = 2 ∧ b (12 * q + 1) = a (5 * q + 3) ∧ 1 ≤ a (5 * q + 3) ∧ a (5 * q + 3) ≤ 200) ∨
  (a (5 * q) = 3 ∧ b (12 * q) = 3 ∧ (0 ≤ a (5 * q + 1) ∧ a (5 * q + 1) < r 0) ∧ b (12 * q + 1) = a (5 * q + 1) ∧ b (12 * q + 2) = a (5 * q + 3) ∧ 1 ≤ a (5 * q + 3) ∧ a (5 * q + 3) ≤ 99) ∨
  (a (5 * q) = 4 ∧ b (12 * q) = 4 ∧ (0 ≤ a (5 * q + 1) ∧ a (5 * q + 1) < r 0) ∧ (0 ≤ a (5 * q + 2) ∧ a (5 * q + 2) < r 0) ∧ ¬ a (5 * q + 2) = a (5 * q + 1) ∧ b (12 * q + 1) = a (5 * q + 1) ∧ b (12 * q + 2) = a (5 * q + 2)) ∨
  ((a (5 * q) = 8 ∨ a (5 * q) = 9 ∨ a (5 * q) = 10) ∧ b (12 * q) = 5 ∧ b (12 * q + 1) = a (5 * q) - 4 ∧ b (12 * q + 2) = a (5 * q + 3) ∧ loV (a (5 * q)) ≤ a (5 * q + 3) ∧ a (5 * q + 3) ≤ hiV (a (5 * q)))
def SOz (u v : aI) (B : Int → Int) (N p : Int) (r : Row) (q : Int) (x : Option (Bool × aI)) (y : Option aI) : Prop := ∃ u' v', y = some v' ∧ FuzS q u u' ∧ FvzS q v v' ∧
  ((∃ p', x = some (true, u') ∧ p ≤ p' ∧ CS u' B N p' ∧ MS v' B N p' ∧ v' 210 23 = q + 1 ∧ Ddz r (u' 9) (v' 219) q) ∨ (∃ c a, x = some (false, u') ∧ CF u' B N c a ∧ MF v' B N c a))
section Sk2
variable {F : Nat} {u v : aI} {B : Int → Int} {N p : Int} {r : Row} {q : Int}
theorem SOz.pre {u0 v0 : aI} {p0 : Int} {x : Option (Bool × aI)} {y : Option aI} (h : SOz u v B N p r q x y) (f : FuzS q u0 u) (g : FvzS q v0 v) (hp : p0 ≤ p) : SOz u0 v0 B N p0 r q x y := by
  obtain ⟨u', v', h1, h2, h3, h4⟩ := h
  refine ⟨u', v', h1, f.trans h2, g.trans h3, ?_⟩
  rcases h4 with ⟨p', a1, a2, a3⟩ | h4
  · exact Or.inl ⟨p', a1, Int.le_trans hp a2, a3⟩
  · exact Or.inr h4
theorem c_wordHere (hF : 1000 ≤ F) (h : CS u B N p) : f_X4_wordHere F 7 u = some (skW B N p) := by
  unfold f_X4_wordHere skW
  rw [t70, c_isWord hF (by decide) h, bs, c_isWord hF (by decide) h, bs, c_isWord hF (by decide) h, bs, c_isWord hF (by decide) h, bs, c_isWord hF (by decide) h, bs, c_setWord hF h, bs]
  by_cases c1 : Wd B N p 13
  · rw [if_pos (decide_eq_true c1), if_pos c1]
  · rw [if_neg (by rw [decide_eq_true_iff]; exact c1), if_neg c1]
    by_cases c2 : Wd B N p 14
    · rw [if_pos (decide_eq_true c2), if_pos c2]
    · rw [if_neg (by rw [decide_eq_true_iff]; exact c2), if_neg c2]
      by_cases c3 : Wd B N p 15
      · rw [if_pos (decide_eq_true c3), if_pos c3]
      · rw [if_neg (by rw [decide_eq_true_iff]; exact c3), if_neg c3]
        by_cases c4 : Wd B N p 16
        · rw [if_pos (decide_eq_true c4), if_pos c4]
        · rw [if_neg (by rw [decide_eq_true_iff]; exact c4), if_neg c4]
          by_cases c5 : Wd B N p 17
          · rw [if_pos (decide_eq_true c5), if_pos c5]
          · rw [if_neg (by rw [decide_eq_true_iff]; exact c5), if_neg c5]
theorem m_kindHere (hF : 1000 ≤ F) (h : MS v B N p) : f_X11_kindHere F 210 v = some (skK B N p) := by
  obtain ⟨-, -, -, -, -, x1, x2, x3, x4, x5⟩ := xB_same
  have hs := swd_v B N p
  unfold f_X11_kindHere skK skW
  rw [m_isWord hF (by decide) h, bs, m_isWord hF (by decide) h, bs, m_isWord hF (by decide) h, bs, m_isWord hF (by decide) h, bs, m_isWord hF (by decide) h, bs, m_setHere hF h, bs]
  by_cases c1 : Wd B N p 13
  · rw [if_pos (decide_eq_true ((Wd_same x1).mpr c1)), if_pos c1, if_neg (by decide), if_neg (by decide)]
  · rw [if_neg (by rw [decide_eq_true_iff]; exact fun z => c1 ((Wd_same x1).mp z)), if_neg c1]
    by_cases c2 : Wd B N p 14
    · rw [if_pos (decide_eq_true ((Wd_same x2).mpr c2)), if_pos c2, if_neg (by decide), if_neg (by decide)]
    · rw [if_neg (by rw [decide_eq_true_iff]; exact fun z => c2 ((Wd_same x2).mp z)), if_neg c2]
      by_cases c3 : Wd B N p 15
      · rw [if_pos (decide_eq_true ((Wd_same x3).mpr c3)), if_pos c3, if_neg (by decide), if_neg (by decide)]
      · rw [if_neg (by rw [decide_eq_true_iff]; exact fun z => c3 ((Wd_same x3).mp z)), if_neg c3]
        by_cases c4 : Wd B N p 16
        · rw [if_pos (decide_eq_true ((Wd_same x4).mpr c4)), if_pos c4, if_neg (by decide), if_neg (by decide)]
        · rw [if_neg (by rw [decide_eq_true_iff]; exact fun z => c4 ((Wd_same x4).mp z)), if_neg c4]
          by_cases c5 : Wd B N p 17
          · rw [if_pos (decide_eq_true ((Wd_same x5).mpr c5)), if_pos c5, if_neg (by decide), if_neg (by decide)]
          · rw [if_neg (by rw [decide_eq_true_iff]; exact fun z => c5 ((Wd_same x5).mp z)), if_neg c5]
            unfold swM
            by_cases c6 : swd B N p = -1
            · rw [if_pos c6, if_pos c6, gd_t (by decide), if_pos rfl]
            · rw [if_neg c6, if_neg c6, gd_t (by omega), if_neg (by omega), if_pos (by omega)]
theorem skW_v (B : Int → Int) (N p : Int) : skW B N p = -1 ∨ skW B N p = 0 ∨ skW B N p = 1 ∨ skW B N p = 2 ∨ skW B N p = 3 ∨ skW B N p = 4 ∨ ((skW B N p = 8 ∨ skW B N p = 9 ∨ skW B N p = 10) ∧ swd B N p = skW B N p) := by
  have hs := swd_v B N p
  unfold skW
  split
  · omega
  · split
    · omega
    · split
      · omega
      · split
        · omega
        · split
          · omega
          · omega
/-- the reference after a fault -/
theorem md_end {c a : Int} (h : MF v B N c a) : ∃ v', f_X11_readsDeed_b264 F 210 v = some v' ∧ MF v' B N c a ∧ FvzS q v v' := by
  unfold f_X11_readsDeed_b264
  rw [m_semiDead h, bs, ltm]
  exact ⟨_, rfl, h.i23 _, FvzS.f23 v _⟩
theorem md_notes {c a : Int} (hq : 0 ≤ q ∧ q < 30) (h : MF v B N c a) : ∀ (n : Nat) (i : Int), 1 ≤ n → i = 0 → f_X11_readsNotes_b2 F 210 (12 * q) n i v = some (iset v 219 (12 * q + 3) i) := by
  intro n i hn hi
  obtain ⟨n, rfl⟩ : ∃ j, n = j + 1 := ⟨n - 1, by omega⟩
  have em : f_X11_readsNotes_b2 F 210 (12 * q) (n + 1) i v = f_X11_readsNotes_b2_b F 210 (12 * q) (f_X11_readsNotes_b2 F 210 (12 * q) n) i v := rfl
  rw [em]
  unfold f_X11_readsNotes_b2_b
  rw [m_numHereDead h (by decide) (by decide), bj, gd_t (by omega), m_b22dead hq h, m_b22dead hq h, ite_self]
theorem md_send3 {c a : Int} (hF : 1000 ≤ F) (hq : 0 ≤ q ∧ q < 30) (h : MF v B N c a) : ∃ v', (f_X11_readsNotes F 210 (12 * q) v).bind (fun w19 => f_X11_readsDeed_b264 F 210 w19) = some v' ∧ MF v' B N c a ∧ FvzS q v v' := by
  unfold f_X11_readsNotes
  rw [md_notes hq h F 0 (by omega) rfl, bs]
  obtain ⟨v', e1, e2, e3⟩ := md_end (F := F) (q := q) (h.i219 (12 * q + 3) 0)
  exact ⟨v', e1, e2, (FvzS.puq v (by omega)).trans e3⟩
theorem md_send2 {c a un : Int} (hF : 1000 ≤ F) (hq : 0 ≤ q ∧ q < 30) (h : MF v B N c a) : ∃ v', bJW (f_X11_roofOfText F 210 un v) (fun r16 w17 => gd (inI (12 * q + 2) 360) (ltM (iset w17 219 (12 * q + 2) r16) (fun w18 => (f_X11_readsNotes F 210 (12 * q) w18).bind (fun w19 => f_X11_readsDeed_b264 F 210 w19)))) = some v' ∧ MF v' B N c a ∧ FvzS q v v' := by
  obtain ⟨v1, e1, e2, e3⟩ := m_roofOfDead (un := un) hF h
  obtain ⟨v', g1, g2, g3⟩ := md_send3 hF hq (e2.i219 (12 * q + 2) 0)
  rw [e1, bj, gd_t (by omega), ltm, g1]
  exact ⟨v', rfl, g2, e3.fvS.trans ((FvzS.puq v1 (by omega)).trans g3)⟩
theorem md_cut2 {c a un : Int} (hF : 1000 ≤ F) (hq : 0 ≤ q ∧ q < 30) (h : MF v B N c a) : ∃ v', bJW (f_X11_roofOfText F 210 un v) (fun r16 w17 => gd (inI (12 * q + 2) 360) (ltM (iset w17 219 (12 * q + 2) r16) (fun w18 => f_X11_readsDeed_b264 F 210 w18))) = some v' ∧ MF v' B N c a ∧ FvzS q v v' := by
  obtain ⟨v1, e1, e2, e3⟩ := m_roofOfDead (un := un) hF h
  obtain ⟨v', g1, g2, g3⟩ := md_end (F := F) (q := q) (e2.i219 (12 * q + 2) 0)
  rw [e1, bj, gd_t (by omega), ltm, g1]
  exact ⟨v', rfl, g2, e3.fvS.trans ((FvzS.puq v1 (by omega)).trans g3)⟩
theorem md_give2 {c a : Int} (hq : 0 ≤ q ∧ q < 30) (h : MF v B N c a) : ∃ v', bJW (f_X11_number F 210 1 99 v) (fun r16 w17 => gd (inI (12 * q + 2) 360) (ltM (iset w17 219 (12 * q + 2) r16) (fun w18 => f_X11_readsDeed_b264 F 210 w18))) = some v' ∧ MF v' B N c a ∧ FvzS q v v' := by
  obtain ⟨v', g1, g2, g3⟩ := md_end (F := F) (q := q) (h.i219 (12 * q + 2) 1)
  rw [m_numDead h (by decide) (by decide), bj, gd_t (by omega), ltm, g1]
  exact ⟨v', rfl, g2, (FvzS.puq v (by omega)).trans g3⟩
theorem c_zero {pp : Int} : f_X4_isStatementRead_b128 F 7 pp u = some (false, u) ∧ f_X4_isStatementRead_b168 F 7 pp u = some (false, u) ∧ f_X4_isStatementRead_b206 F 7 pp u = some (false, u) ∧ f_X4_isStatementRead_b224 F 7 pp 0 u = some (false, u) := by
  unfold f_X4_isStatementRead_b128 f_X4_isStatementRead_b168 f_X4_isStatementRead_b206 f_X4_isStatementRead_b129 f_X4_isStatementRead_b169 f_X4_isStatementRead_b207 f_X4_isStatementRead_b224
  rw [gd_t (show rg (0 : Int) by decide), if_pos rfl]
  exact ⟨rfl, rfl, rfl, rfl⟩
/-- its semicolon -/
theorem sk_end {pp : Int} (hF : 1000 ≤ F) (hc : CS u B N p) (hm : MS v B N p) (h23 : v 210 23 = q) : ∃ u' v', f_X11_readsDeed_b264 F 210 v = some v' ∧ Fk u u' ∧ FvzS q v v' ∧ v' 219 = v 219 ∧
    ((f_X4_isStatementRead_b224 F 7 pp 1 u = some (true, u') ∧ CS u' B N (tE B N p) ∧ MS v' B N (tE B N p) ∧ v' 210 23 = q + 1) ∨ (∃ c a, f_X4_isStatementRead_b224 F 7 pp 1 u = some (false, u') ∧ CF u' B N c a ∧ MF v' B N c a)) := by
  unfold f_X4_isStatementRead_b224 f_X11_readsDeed_b264
  obtain ⟨cS, cS2⟩ := c_semi (F := F) hF hc
  obtain ⟨mS, mS2⟩ := m_semi (F := F) hF hm
  rw [t70, gd_t (by decide), if_neg (by decide)]
  by_cases q5 : smE B N p = 0
  · obtain ⟨u7, o1, o2, o3⟩ := cS q5
    obtain ⟨v9, o4, o5, o6⟩ := mS q5
    rw [o1, bk, if_pos rfl, o4, bs, ltm]
    refine ⟨u7, _, rfl, o3, o6.fz.fvS.trans (FvzS.f23 v9 _), by rw [is_ne (by decide), o6.1 219 (by decide)], Or.inl ⟨rfl, o2, o5.i23 _, ?_⟩⟩
    rw [is_eq, rs_self, o6.2 23 (by decide) (by decide) (by decide) (by decide) (by decide) (by decide), h23]
  · obtain ⟨u7, o1, o2, o3⟩ := cS2 q5
    obtain ⟨v9, o4, o5, o6⟩ := mS2 q5
    rw [o1, bk, if_neg (by decide), o4, bs, ltm]
    exact ⟨u7, _, rfl, o3, o6.fz.fvS.trans (FvzS.f23 v9 _), by rw [is_ne (by decide), o6.1 219 (by decide)], Or.inr ⟨_, _, rfl, o2, o5.i23 _⟩⟩
/-- the end of a statement that says the same -/
theorem sk_fin {pp : Int} (hF : 1000 ≤ F) (hc : CS u B N p) (hm : MS v B N p) (h23 : v 210 23 = q) (hd : Ddz r (u 9) (v 219) q) : SOz u v B N p r q (f_X4_isStatementRead_b224 F 7 pp 1 u) (f_X11_readsDeed_b264 F 210 v) := by
  obtain ⟨u', v', e1, e2, e3, e4, e5⟩ := sk_end (pp := pp) hF hc hm h23
  have hb := hc.bd
  refine ⟨u', v', e1, e2.fuS, e3, ?_⟩
  rcases e5 with ⟨a1, a2, a3, a4⟩ | e5
  · exact Or.inl ⟨tE B N p, a1, by omega, a2, a3, a4, by rw [e2 9 (by decide), e4]; exact hd⟩
  · exact Or.inr e5
theorem sk_tick {pp : Int} (hF : 1000 ≤ F) (hc : CS u B N p) (hm : MS v B N p) (h : Hcz u r q) (hq : 0 ≤ q ∧ q < 30) (h23 : v 210 23 = q) (hw : u 9 (5 * q) = 2) (hv : v 219 (12 * q) = 2) :
    SOz u v B N p r q (bKW (f_X4_isNumberRead F 7 1 200 u) (fun r25 w26 => f_X4_isStatementRead_b224 F 7 pp (bI r25) w26)) (bJW (f_X11_number F 210 1 200 v) (fun r31 w32 => gd (inI (12 * q + 1) 360) (ltM (iset w32 219 (12 * q + 1) r31) (fun w33 => f_X11_readsDeed_b264 F 210 w33)))) := by
  obtain ⟨cA, cB⟩ := c_skNum (F := F) (lo := 1) (hi := 200) hF hc h hq (by decide) (by decide)
  obtain ⟨mA, mB⟩ := m_num' (F := F) (lo := 1) (hi := 200) hF hm (by decide) (by decide)
  have hb := hc.bd
  by_cases q1 : nbE B N p 1 200 = 0
  · obtain ⟨u1, e1, e2, e3, e4⟩ := cA q1
    obtain ⟨v1, g1, g2, g3⟩ := mA q1
    have hx := nb_v q1
    rw [e1, bk, g1, bj, gd_t (by omega), ltm]
    generalize tV B N p = x at *
    refine (sk_fin (pp := pp) hF e2 (g2.i219 (12 * q + 1) x) ?_ (Or.inr (Or.inl ⟨?_, ?_, ?_, ?_, ?_⟩))).pre e4 (g3.fz.fvS.trans (FvzS.puq v1 (by omega))) (by omega)
    · rw [is_ne (by decide), g3.2 23 (by decide) (by decide) (by decide) (by decide) (by decide) (by decide)]; exact h23
    · rw [e3, rs_ne (by omega)]; exact hw
    · rw [is_eq, rs_ne (by omega), g3.1 219 (by decide)]; exact hv
    · rw [is_eq, rs_self, e3, rs_self]
    · rw [e3, rs_self]; exact hx.1
    · rw [e3, rs_self]; exact hx.2
  · obtain ⟨u1, e1, e2, e3⟩ := cB q1
    obtain ⟨v1, g1, g2, g3⟩ := mB q1
    obtain ⟨v2, k1, k2, k3⟩ := md_end (F := F) (q := q) (g2.i219 (12 * q + 1) 1)
    rw [e1, bk, show bI false = 0 from rfl, c_zero.2.2.2, g1, bj, gd_t (by omega), ltm, k1]
    exact ⟨u1, v2, rfl, e3, g3.fz.fvS.trans ((FvzS.puq v1 (by omega)).trans k3), Or.inr ⟨_, _, rfl, e2, k2⟩⟩
theorem sk_sett {s : Int} (hF : 1000 ≤ F) (hc : CS u B N p) (hm : MS v B N p) (h : Hcz u r q) (hq : 0 ≤ q ∧ q < 30) (h23 : v 210 23 = q) (hs : s = 8 ∨ s = 9 ∨ s = 10) (hw : u 9 (5 * q) = s) (hv : v 219 (12 * q) = 5) :
    SOz u v B N p r q ((f_X2_leastOf F s u).bind (fun r38 => (f_X2_mostOf F s u).bind (fun r39 => bKW (f_X4_isNumberRead F 7 r38 r39 u) (fun r40 w41 => f_X4_isStatementRead_b224 F 7 s (bI r40) w41)))) (gd (inI (12 * q + 1) 360) (ltM (iset v 219 (12 * q + 1) (s - 4)) (fun w48 => (f_X11_lowOf F (s - 4) w48).bind (fun r49 => (f_X11_highOf F (s - 4) w48).bind (fun r50 => bJW (f_X11_number F 210 r49 r50 w48) (fun r51 w52 => gd (inI (12 * q + 2) 360) (ltM (iset w52 219 (12 * q + 2) r51) (fun w53 => f_X11_readsDeed_b264 F 210 w53)))))))) := by
  obtain ⟨l1, l2, -, -, l5, l6⟩ := lo_at (F := F) u hs
  rw [gd_t (by omega), ltm]
  obtain ⟨v0, hv0⟩ : ∃ v0, v0 = iset v 219 (12 * q + 1) (s - 4) := ⟨_, rfl⟩
  rw [← hv0]
  have m0' : MS v0 B N p := hv0 ▸ hm.i219 _ _
  have f0 : FvzS q v v0 := hv0 ▸ FvzS.puq v (by omega)
  have x0 : v0 219 = rs (v 219) (12 * q + 1) (s - 4) := by rw [hv0, is_eq]
  obtain ⟨-, -, l3, l4, -, -⟩ := lo_at (F := F) v0 hs
  have h230 : v0 210 23 = q := by rw [hv0, is_ne (by decide)]; exact h23
  clear hv0
  rw [l1, bs, l2, bs, l3, bs, l4, bs]
  obtain ⟨cA, cB⟩ := c_skNum (F := F) (lo := loV s) (hi := hiV s) hF hc h hq (by omega) (by omega)
  obtain ⟨mA, mB⟩ := m_num' (F := F) (lo := loV s) (hi := hiV s) hF m0' (by omega) (by omega)
  have hb := hc.bd
  by_cases q1 : nbE B N p (loV s) (hiV s) = 0
  · obtain ⟨u1, e1, e2, e3, e4⟩ := cA q1
    obtain ⟨v1, g1, g2, g3⟩ := mA q1
    have hx := nb_v q1
    rw [e1, bk, g1, bj, gd_t (by omega), ltm]
    generalize tV B N p = x at *
    have w9 : u1 9 (5 * q) = s := by rw [e3, rs_ne (by omega)]; exact hw
    refine (sk_fin (pp := s) hF e2 (g2.i219 (12 * q + 2) x) ?_ (Or.inr (Or.inr (Or.inr (Or.inr ⟨?_, ?_, ?_, ?_, ?_, ?_⟩))))).pre e4 (f0.trans (g3.fz.fvS.trans (FvzS.puq v1 (by omega)))) (by omega)
    · rw [is_ne (by decide), g3.2 23 (by decide) (by decide) (by decide) (by decide) (by decide) (by decide)]; exact h230
    · rw [w9]; exact hs
    · rw [is_eq, rs_ne (by omega), g3.1 219 (by decide), x0, rs_ne (by omega)]; exact hv
    · rw [is_eq, rs_ne (by omega), g3.1 219 (by decide), x0, rs_self, w9]
    · rw [is_eq, rs_self, e3, rs_self]
    · rw [w9, e3, rs_self]; exact hx.1
    · rw [w9, e3, rs_self]; exact hx.2
  · obtain ⟨u1, e1, e2, e3⟩ := cB q1
    obtain ⟨v1, g1, g2, g3⟩ := mB q1
    obtain ⟨v2, k1, k2, k3⟩ := md_end (F := F) (q := q) (g2.i219 (12 * q + 2) (loV s))
    rw [e1, bk, show bI false = 0 from rfl, c_zero.2.2.2, g1, bj, gd_t (by omega), ltm, k1]
    exact ⟨u1, v2, rfl, e3, f0.trans (g3.fz.fvS.trans ((FvzS.puq v1 (by omega)).trans k3)), Or.inr ⟨_, _, rfl, e2, k2⟩⟩
theorem sk_give {pp : Int} (hF : 1000 ≤ F) (hc : CS u B N p) (hm : MS v B N p) (h : Hcz u r q) (hq : 0 ≤ q ∧ q < 30) (h1 : v 211 = r) (b0 : 0 ≤ r 0 ∧ r 0 ≤ 10) (hr : Wr r) (h23 : v 210 23 = q) (hw : u 9 (5 * q) = 3) (hv : v 219 (12 * q) = 3) :
    SOz u v B N p r q (bKW (f_X4_isRoofRead F 7 1 (-1) u) (fun r28 w29 => if r28 then (bKW (f_X4_isNumberRead F 7 1 99 w29) (fun r30 w31 => if r30 then (f_X4_isStatementRead_b169 F 7 pp 1 w31) else (f_X4_isStatementRead_b168 F 7 pp w31))) else (f_X4_isStatementRead_b168 F 7 pp w29)))
      (bJW (f_X11_roofOfText F 210 (-1) v) (fun r35 w36 => gd (inI (12 * q + 1) 360) (ltM (iset w36 219 (12 * q + 1) r35) (fun w37 => bJW (f_X11_number F 210 1 99 w37) (fun r38 w39 => gd (inI (12 * q + 2) 360) (ltM (iset w39 219 (12 * q + 2) r38) (fun w40 => f_X11_readsDeed_b264 F 210 w40))))))) := by
  obtain ⟨cA, cB⟩ := c_skRoof (F := F) (col := 1) (un := -1) hF hc h hq b0 hr (by decide) (by decide)
  obtain ⟨mA, mB⟩ := m_roofOf (F := F) (un := -1) hF hm h1 b0 hr (by decide)
  have hb := hc.bd
  by_cases q1 : rhE B N p r (-1) = 0
  · obtain ⟨u1, e1, e2, e3, e4⟩ := cA q1
    obtain ⟨v1, g1, g2, g3⟩ := mA q1
    have hx := rhX_ok b0.1 q1
    rw [e1, bk, if_pos rfl, g1, bj, gd_t (by omega), ltm]
    generalize rhX B N p r = x at *
    generalize tE B N p = p1 at *
    obtain ⟨v2, hv2⟩ : ∃ v2, v2 = iset v1 219 (12 * q + 1) x := ⟨_, rfl⟩
    rw [← hv2]
    have m2' : MS v2 B N p1 := hv2 ▸ g2.i219 _ _
    have f2 : FvzS q v v2 := g3.fvS.trans (hv2 ▸ FvzS.puq v1 (by omega))
    have x2 : v2 219 = rs (v 219) (12 * q + 1) x := by rw [hv2, is_eq, g3.1 219 (by decide) (by decide)]
    have h232 : v2 210 23 = q := by rw [hv2, is_ne (by decide), g3.2 23 (by decide) (by decide) (by decide) (by decide) (by decide) (by decide) (by decide)]; exact h23
    clear hv2
    obtain ⟨cA2, cB2⟩ := c_skNum (F := F) (lo := 1) (hi := 99) hF e2 (h.fu e4) hq (by decide) (by decide)
    obtain ⟨mA2, mB2⟩ := m_num' (F := F) (lo := 1) (hi := 99) hF m2' (by decide) (by decide)
    have hb1 := e2.bd
    by_cases q2 : nbE B N p1 1 99 = 0
    · obtain ⟨u2, s1, s2, s3, s4⟩ := cA2 q2
      obtain ⟨v3, t1, t2, t3⟩ := mA2 q2
      have hy := nb_v q2
      rw [s1, bk, if_pos rfl, t1, bj, gd_t (by omega), ltm]
      unfold f_X4_isStatementRead_b169
      generalize tV B N p1 = y at *
      refine (sk_fin (pp := pp) hF s2 (t2.i219 (12 * q + 2) y) ?_ (Or.inr (Or.inr (Or.inl ⟨?_, ?_, ?_, ?_, ?_, ?_, ?_⟩)))).pre (e4.trans s4) (f2.trans (t3.fz.fvS.trans (FvzS.puq v3 (by omega)))) (by omega)
      · rw [is_ne (by decide), t3.2 23 (by decide) (by decide) (by decide) (by decide) (by decide) (by decide)]; exact h232
      · rw [s3, rs_ne (by omega), e3, rs_ne (by omega)]; exact hw
      · rw [is_eq, rs_ne (by omega), t3.1 219 (by decide), x2, rs_ne (by omega)]; exact hv
      · rw [s3, rs_ne (by omega), e3, rs_self]; exact hx.1
      · rw [is_eq, rs_ne (by omega), t3.1 219 (by decide), x2, rs_self, s3, rs_ne (by omega), e3, rs_self]
      · rw [is_eq, rs_self, s3, rs_self]
      · rw [s3, rs_self]; exact hy.1
      · rw [s3, rs_self]; exact hy.2
    · obtain ⟨u2, s1, s2, s3⟩ := cB2 q2
      obtain ⟨v3, t1, t2, t3⟩ := mB2 q2
      obtain ⟨v4, k1, k2, k3⟩ := md_end (F := F) (q := q) (t2.i219 (12 * q + 2) 1)
      rw [s1, bk, if_neg (by decide), c_zero.2.1, t1, bj, gd_t (by omega), ltm, k1]
      exact ⟨u2, v4, rfl, e4.trans s3, f2.trans (t3.fz.fvS.trans ((FvzS.puq v3 (by omega)).trans k3)), Or.inr ⟨_, _, rfl, s2, k2⟩⟩
  · obtain ⟨u1, e1, e2, e3⟩ := cB q1
    obtain ⟨v1, x', g1, g0, g2, g3⟩ := mB q1
    obtain ⟨v2, k1, k2, k3⟩ := md_give2 (F := F) (q := q) hq (g2.i219 (12 * q + 1) x')
    rw [e1, bk, if_neg (by decide), c_zero.2.1, g1, bj, gd_t (by omega), ltm, k1]
    exact ⟨u1, v2, rfl, e3, g3.fvS.trans ((FvzS.puq v1 (by omega)).trans k3), Or.inr ⟨_, _, rfl, e2, k2⟩⟩
/-- two roofs, then the rest -/
theorem sk_two {K : Bool → aI → Option (Bool × aI)} {Z : aI → Option (Bool × aI)} {T : aI → Option aI} (hF : 1000 ≤ F) (hc : CS u B N p) (hm : MS v B N p) (h : Hcz u r q) (hq : 0 ≤ q ∧ q < 30) (h1 : v 211 = r) (b0 : 0 ≤ r 0 ∧ r 0 ≤ 10) (hr : Wr r) (h23 : v 210 23 = q)
    (hZ : ∀ w, Z w = some (false, w)) (hT : ∀ w c a, MF w B N c a → ∃ v', T w = some v' ∧ MF v' B N c a ∧ FvzS q w v') (hK0 : ∀ w, K false w = some (false, w))
    (hK : ∀ u1 v1 p1 x y, CS u1 B N p1 → MS v1 B N p1 → Hcz u1 r q → v1 210 23 = q → u1 9 = rs (rs (u 9) (5 * q + 1) x) (5 * q + 2) y → v1 219 = rs (rs (v 219) (12 * q + 1) x) (12 * q + 2) y → (0 ≤ x ∧ x < r 0) → (0 ≤ y ∧ y < r 0) → ¬ y = x → SOz u1 v1 B N p1 r q (K true u1) (T v1)) :
    SOz u v B N p r q (bKW (f_X4_isRoofRead F 7 1 (-1) u) (fun r6 w7 => if r6 then ((f_X7_get F 8 (w7 7 3) 1 w7).bind (fun r11 => bKW (f_X4_isRoofRead F 7 2 r11 w7) (fun r12 w13 => K r12 w13))) else (Z w7)))
      (bJW (f_X11_roofOfText F 210 (-1) v) (fun r13 w14 => gd (inI (12 * q + 1) 360) (ltM (iset w14 219 (12 * q + 1) r13) (fun w15 => gd (inI (12 * q + 1) 360) (bJW (f_X11_roofOfText F 210 (w15 219 (12 * q + 1)) w15) (fun r16 w17 => gd (inI (12 * q + 2) 360) (ltM (iset w17 219 (12 * q + 2) r16) (fun w18 => T w18)))))))) := by
  obtain ⟨cA, cB⟩ := c_skRoof (F := F) (col := 1) (un := -1) hF hc h hq b0 hr (by decide) (by decide)
  obtain ⟨mA, mB⟩ := m_roofOf (F := F) (un := -1) hF hm h1 b0 hr (by decide)
  have hb := hc.bd
  by_cases q1 : rhE B N p r (-1) = 0
  · obtain ⟨u1, e1, e2, e3, e4⟩ := cA q1
    obtain ⟨v1, g1, g2, g3⟩ := mA q1
    have hx := rhX_ok b0.1 q1
    have H1 := h.fu e4
    rw [e1, bk, if_pos rfl, H1.2.2, get9 H1.2.1 hq (by decide), bs, e3, rs_self, g1, bj, gd_t (by omega), ltm, gd_t (by omega), is_eq, rs_self]
    generalize rhX B N p r = x at *
    generalize tE B N p = p1 at *
    obtain ⟨v2, hv2⟩ : ∃ v2, v2 = iset v1 219 (12 * q + 1) x := ⟨_, rfl⟩
    have m2' : MS v2 B N p1 := hv2 ▸ g2.i219 _ _
    have f2 : FvzS q v v2 := g3.fvS.trans (hv2 ▸ FvzS.puq v1 (by omega))
    have x2 : v2 219 = rs (v 219) (12 * q + 1) x := by rw [hv2, is_eq, g3.1 219 (by decide) (by decide)]
    have h232 : v2 210 23 = q := by rw [hv2, is_ne (by decide), g3.2 23 (by decide) (by decide) (by decide) (by decide) (by decide) (by decide) (by decide)]; exact h23
    have h12 : v2 211 = r := by rw [f2.1 211 (by decide) (by decide) (by decide)]; exact h1
    rw [← hv2]
    clear hv2
    obtain ⟨cA2, cB2⟩ := c_skRoof (F := F) (col := 2) (un := x) hF e2 H1 hq b0 hr (by decide) (by omega)
    obtain ⟨mA2, mB2⟩ := m_roofOf (F := F) (un := x) hF m2' h12 b0 hr (by omega)
    have hb1 := e2.bd
    by_cases q2 : rhE B N p1 r x = 0
    · obtain ⟨u2, s1, s2, s3, s4⟩ := cA2 q2
      obtain ⟨v3, t1, t2, t3⟩ := mA2 q2
      have hy := rhX_ok b0.1 q2
      rw [s1, bk, t1, bj, gd_t (by omega), ltm]
      generalize rhX B N p1 r = y at *
      refine (hK u2 (iset v3 219 (12 * q + 2) y) _ x y s2 (t2.i219 _ _) (H1.fu s4) ?_ ?_ ?_ hx.1 hy.1 hy.2).pre (e4.trans s4) (f2.trans (t3.fvS.trans (FvzS.puq v3 (by omega)))) (by omega)
      · rw [is_ne (by decide), t3.2 23 (by decide) (by decide) (by decide) (by decide) (by decide) (by decide) (by decide)]; exact h232
      · rw [s3, e3]
      · rw [is_eq, t3.1 219 (by decide) (by decide), x2]
    · obtain ⟨u2, s1, s2, s3⟩ := cB2 q2
      obtain ⟨v3, x', t1, t0, t2, t3⟩ := mB2 q2
      obtain ⟨v4, k1, k2, k3⟩ := hT _ _ _ (t2.i219 (12 * q + 2) x')
      rw [s1, bk, hK0, t1, bj, gd_t (by omega), ltm, k1]
      exact ⟨u2, v4, rfl, e4.trans s3, f2.trans (t3.fvS.trans ((FvzS.puq v3 (by omega)).trans k3)), Or.inr ⟨_, _, rfl, s2, k2⟩⟩
  · obtain ⟨u1, e1, e2, e3⟩ := cB q1
    obtain ⟨v1, x', g1, g0, g2, g3⟩ := mB q1
    obtain ⟨v2, l1, l2, l3⟩ := m_roofOfDead (F := F) (un := x') hF (g2.i219 (12 * q + 1) x')
    obtain ⟨v3, k1, k2, k3⟩ := hT _ _ _ (l2.i219 (12 * q + 2) 0)
    rw [e1, bk, if_neg (by decide), hZ, g1, bj, gd_t (by omega), ltm, gd_t (by omega), is_eq, rs_self, l1, bj, gd_t (by omega), ltm, k1]
    exact ⟨u1, v3, rfl, e3, g3.fvS.trans ((FvzS.puq v1 (by omega)).trans (l3.fvS.trans ((FvzS.puq v2 (by omega)).trans k3))), Or.inr ⟨_, _, rfl, e2, k2⟩⟩
end Sk2
