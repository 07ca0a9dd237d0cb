/-! ===== a roof's name here; a setup as it grows ===== -/
def rhE (B : Int → Int) (N p : Int) (r : Row) (un : Int) : Int := if IsNm B N p then (if nmd r (nmH B N p) = -1 ∨ nmd r (nmH B N p) = un then 3 else 0) else 1
def rhX (B : Int → Int) (N p : Int) (r : Row) : Int := nmd r (nmH B N p)
def NmP (u : aI) (b : Nat) (r : Row) : Prop := TOK u b ∧ u b 1 = r 0 ∧ ∀ x, 0 ≤ x → x < r 0 → u (b + 2) (8 * x + 5) = nmR r x
theorem IsNm.lt {B : Int → Int} {N p : Int} (hN : N ≤ 800) (hp : 0 ≤ p ∧ p ≤ N) (h : IsNm B N p) : Lt (tE B N p - tS B N p) (fun k => B (tS B N p + k)) := by
  have hb := tok_bd (B := B) hN hp
  have h1 := h.1
  exact ⟨⟨by omega, h.2⟩, nm_let hN hp h⟩
theorem nmH_bd {B : Int → Int} {N p : Int} (hN : N ≤ 800) (hp : 0 ≤ p ∧ p ≤ N) (h : IsNm B N p) : 0 ≤ nmH B N p ∧ nmH B N p < 1073741824 := (nm_at (h.lt hN hp).2 (k := 0) (by omega)).1
section RH
variable {F : Nat} {u v : aI} {B : Int → Int} {N p : Int} {r : Row}
theorem c_roofHere {b : Nat} {un : Int} (hF : 1000 ≤ F) (hP : Pb b) (h : CS u B N p) (hn : NmP u b r) (b0 : 0 ≤ r 0 ∧ r 0 ≤ 10) (hr : Wr r) (hun : rg un) :
    (rhE B N p r un = 0 → f_X9_roofHere F 5 b un u = some (rhX B N p r, u)) ∧ (¬ rhE B N p r un = 0 → ∃ u', f_X9_roofHere F 5 b un u = some (-1, u') ∧ CF u' B N (rhE B N p r un) (tS B N p) ∧ Fk u u') := by
  unfold f_X9_roofHere rhE rhX
  by_cases c1 : IsNm B N p
  · have hb := nmH_bd h.1.2.1.2 h.2.2.1 c1
    have hx := nmd_bd r (nmH B N p) b0.1
    obtain ⟨w1, e1, e2, e3⟩ := c_fail (F := F) (c := 3) h
    rw [if_pos c1, c_nameHere hF h c1, bj, gd_t (by omega), if_neg (show ¬ nmH B N p = -1 by omega), c_roofNamed (by omega) hP hn.1 hn.2.1 b0 hr hn.2.2 (by omega), bs, gd_t (by omega), gd_t hun, e1, bk]
    by_cases c2 : nmd r (nmH B N p) = -1
    · rw [if_pos (Or.inl c2), if_pos c2]
      exact ⟨fun z => absurd z (by decide), fun _ => ⟨w1, rfl, e2, e3⟩⟩
    · rw [if_neg c2]
      by_cases c3 : nmd r (nmH B N p) = un
      · rw [if_pos (Or.inr c3), if_pos c3]
        exact ⟨fun z => absurd z (by decide), fun _ => ⟨w1, rfl, e2, e3⟩⟩
      · rw [if_neg (fun z => z.elim c2 c3), if_neg c3]
        exact ⟨fun _ => rfl, fun z => absurd rfl z⟩
  · obtain ⟨u', e1, e2, e3⟩ := c_nameNo hF h c1
    rw [if_neg c1, e1, bj, gd_t (by decide), if_pos rfl]
    exact ⟨fun z => absurd z (by decide), fun _ => ⟨u', rfl, e2, e3⟩⟩
theorem m_roofHere {un : Int} (hF : 1000 ≤ F) (h : MS v B N p) (h1 : v 211 = r) (b0 : 0 ≤ r 0 ∧ r 0 ≤ 10) (hr : Wr r) (hun : rg un) :
    (rhE B N p r un = 0 → ∃ v', f_X11_roofHere F 210 un v = some (rhX B N p r, v') ∧ MS v' B N p ∧ Fz v v') ∧ (¬ rhE B N p r un = 0 → ∃ v' x', f_X11_roofHere F 210 un v = some (x', v') ∧ rg x' ∧ MF v' B N (rhE B N p r un) (tS B N p) ∧ Fz v v') := by
  unfold f_X11_roofHere rhE rhX
  by_cases c1 : IsNm B N p
  · have hx := nmd_bd r (nmH B N p) b0.1
    obtain ⟨v', e1, e2, e3, e4, e5⟩ := m_spells hF h c1
    have h20 : v' 210 20 = 0 := e2.2.1.2.2.2.2.2
    have hnm := m_named (F := F) (v := v') hF (by rw [e3.1 211 (by decide) (by decide)]; exact h1) b0 hr e4 (c1.lt h.1.2.1.2 h.2.2) e5
    have hnm' : f_X11_named F 210 v' = some (nmd r (nmH B N p)) := hnm
    obtain ⟨w1, f1, f2, f3⟩ := m_needNo (F := F) (c := 3) (x := 0) e2 (by omega) rfl
    rw [if_pos c1, e1, bs, h20, gd_t (by decide), if_pos rfl, hnm', bs]
    unfold f_X11_roofHere_b19 f_X11_roofHere_b38
    rw [h20, gd_t (by decide), if_neg (show ¬ (0 : Int) < 0 by decide), gd_t (by omega), gd_t hun, f1, bs, m_needOk e2 rfl, bs, gd_t (by omega)]
    by_cases c2 : nmd r (nmH B N p) = -1
    · rw [if_pos (Or.inl c2), if_pos c2]
      exact ⟨fun z => absurd z (by decide), fun _ => ⟨w1, _, rfl, by omega, f2, e3.trans f3.fz⟩⟩
    · rw [if_neg c2]
      by_cases c3 : nmd r (nmH B N p) = un
      · rw [if_pos (Or.inr c3), if_pos c3]
        exact ⟨fun z => absurd z (by decide), fun _ => ⟨w1, _, rfl, by omega, f2, e3.trans f3.fz⟩⟩
      · rw [if_neg (fun z => z.elim c2 c3), if_neg c3, show max 0 (nmd r (nmH B N p)) = nmd r (nmH B N p) by omega]
        exact ⟨fun _ => ⟨v', rfl, e2, e3⟩, fun z => absurd rfl z⟩
  · obtain ⟨v', e1, e2, e3⟩ := m_spellsNo hF h c1
    rw [if_neg c1, e1, bs, e2.2.1, gd_t (by decide), if_neg (by decide)]
    unfold f_X11_roofHere_b19 f_X11_roofHere_b38
    rw [e2.2.1, gd_t (by decide), if_pos (by decide), m_needDead e2, bs, gd_t (by decide)]
    exact ⟨fun z => absurd z (by decide), fun _ => ⟨v', _, rfl, by decide, e2, e3⟩⟩
theorem m_roofHereDead {un c a : Int} (hF : 1000 ≤ F) (h : MF v B N c a) : ∃ v', f_X11_roofHere F 210 un v = some (0, v') ∧ MF v' B N c a ∧ Fz v v' := by
  obtain ⟨e1, e2⟩ := m_spellsDead hF h
  have hc := e2.2.2.2.1
  have h20 := e2.2.1
  unfold f_X11_roofHere
  rw [e1, bs, h20, gd_t (by omega), if_neg (by omega)]
  unfold f_X11_roofHere_b19 f_X11_roofHere_b38
  rw [h20, gd_t (by omega), if_pos (by omega), m_needDead e2, bs, gd_t (by decide)]
  exact ⟨_, rfl, e2, fun a a1 _ => is_ne a1, fun k k0 _ _ _ _ _ _ => by rw [is_eq, rs_ne k0]⟩
theorem m_roofOf {un : Int} (hF : 1000 ≤ F) (h : MS v B N p) (h1 : v 211 = r) (b0 : 0 ≤ r 0 ∧ r 0 ≤ 10) (hr : Wr r) (hun : rg un) :
    (rhE B N p r un = 0 → ∃ v', f_X11_roofOfText F 210 un v = some (rhX B N p r, v') ∧ MS v' B N (tE B N p) ∧ Fz v v') ∧ (¬ rhE B N p r un = 0 → ∃ v' x', f_X11_roofOfText F 210 un v = some (x', v') ∧ rg x' ∧ MF v' B N (rhE B N p r un) (tS B N p) ∧ Fz v v') := by
  obtain ⟨a1, a2⟩ := m_roofHere hF h h1 b0 hr hun
  unfold f_X11_roofOfText
  refine ⟨fun z => ?_, fun z => ?_⟩
  · obtain ⟨v1, e1, e2, e3⟩ := a1 z
    obtain ⟨v', f1, f2, f3⟩ := m_next hF e2
    rw [e1, bj, f1, bs]
    exact ⟨v', rfl, f2, e3.trans f3.fz⟩
  · obtain ⟨v1, x', e1, e2, e3, e4⟩ := a2 z
    rw [e1, bj, m_nextDead e3, bs]
    exact ⟨v1, x', rfl, e2, e3, e4⟩
theorem m_roofOfDead {un c a : Int} (hF : 1000 ≤ F) (h : MF v B N c a) : ∃ v', f_X11_roofOfText F 210 un v = some (0, v') ∧ MF v' B N c a ∧ Fz v v' := by
  obtain ⟨v', e1, e2, e3⟩ := m_roofHereDead (un := un) hF h
  unfold f_X11_roofOfText
  rw [e1, bj, m_nextDead e2, bs]
  exact ⟨v', rfl, e2, e3⟩
end RH
/-! the setup as it grows -/
def DW (r : Row) : Prop := (0 ≤ r 0 ∧ r 0 ≤ 10) ∧ (0 ≤ r 1 ∧ r 1 ≤ 20) ∧ (r 2 = 0 ∧ r 3 = 0) ∧ (0 ≤ r 4 ∧ r 4 ≤ 9) ∧ (1 ≤ r 5 ∧ r 5 ≤ 60) ∧ (0 ≤ r 6 ∧ r 6 ≤ 3) ∧ Wr r ∧ Ww r ∧ (∀ k, 10 ≤ k → k < 25 → r k = 0) ∧ sm (fun x => r (25 + 13 * x + 10)) (r 0).toNat = r 7 ∧ (∀ k, 25 + 13 * r 0 ≤ k → k < 155 → r k = 0)
def DR (u : aI) (b : Nat) (r : Row) : Prop := TOK u b ∧ (u b 0 = 0 ∧ u b 1 = r 0 ∧ u b 2 = r 1 ∧ u b 3 = 0) ∧ RepS u b r ∧ (∀ k, 0 ≤ k → k < 11 → u (b + 10) k = 0) ∧ RepX u b r ∧ RepW u b r
theorem DR.nmp {u : aI} {b : Nat} {r : Row} (h : DR u b r) : NmP u b r := ⟨h.1, h.2.1.2.1, fun x x0 x1 => (h.2.2.2.2.1.1 x x0 x1).2.2.2.2.2.1⟩
theorem DR.of {u w : aI} {b : Nat} {r : Row} (h : DR u b r) (he : ∀ a, b ≤ a → a < b + 18 → w a = u a) : DR w b r := by
  unfold DR RepS RepX RX RepW
  rw [he b (by omega) (by omega), he (b + 8) (by omega) (by omega), he (b + 10) (by omega) (by omega), he (b + 2) (by omega) (by omega), he (b + 4) (by omega) (by omega)]
  exact ⟨h.1.of he, h.2⟩
def roofA (r : Row) (l : Int) (f : Int → Int) (br ea fe pu : Int) : Row := fun k =>
  if 25 + 13 * r 0 + 1 ≤ k ∧ k < 25 + 13 * r 0 + 1 + l then f (k - (25 + 13 * r 0 + 1)) else if k = 25 + 13 * r 0 then l else if k = 25 + 13 * r 0 + 7 then br else if k = 25 + 13 * r 0 + 8 then ea else if k = 25 + 13 * r 0 + 9 then fe else if k = 25 + 13 * r 0 + 10 then pu else if k = 7 then r 7 + pu else if k = 0 then r 0 + 1 else r k
theorem roofA_at {r : Row} {l : Int} {f : Int → Int} {br ea fe pu : Int} (h0 : 0 ≤ r 0) (hl : 1 ≤ l ∧ l ≤ 6) :
    roofA r l f br ea fe pu 0 = r 0 + 1 ∧ roofA r l f br ea fe pu 7 = r 7 + pu ∧ roofA r l f br ea fe pu (25 + 13 * r 0) = l ∧ (∀ k, 0 ≤ k → k < l → roofA r l f br ea fe pu (25 + 13 * r 0 + 1 + k) = f k) ∧ roofA r l f br ea fe pu (25 + 13 * r 0 + 7) = br ∧ roofA r l f br ea fe pu (25 + 13 * r 0 + 8) = ea ∧ roofA r l f br ea fe pu (25 + 13 * r 0 + 9) = fe ∧ roofA r l f br ea fe pu (25 + 13 * r 0 + 10) = pu ∧ roofA r l f br ea fe pu (25 + 13 * r 0 + 11) = r (25 + 13 * r 0 + 11) ∧ roofA r l f br ea fe pu (25 + 13 * r 0 + 12) = r (25 + 13 * r 0 + 12) ∧
    ∀ k, (k < 25 + 13 * r 0 ∨ 25 + 13 * r 0 + 13 ≤ k) → ¬ k = 0 → ¬ k = 7 → roofA r l f br ea fe pu k = r k := by
  unfold roofA
  refine ⟨?_, ?_, ?_, fun k k0 k1 => ?_, ?_, ?_, ?_, ?_, ?_, ?_, fun k k0 k1 k2 => ?_⟩
  · simp (disch := omega) only [if_pos, if_neg, if_true]
  · simp (disch := omega) only [if_pos, if_neg, if_true]
  · simp (disch := omega) only [if_pos, if_neg, if_true]
  · rw [if_pos (by omega)]; congr 1; omega
  · simp (disch := omega) only [if_pos, if_neg, if_true]
  · simp (disch := omega) only [if_pos, if_neg, if_true]
  · simp (disch := omega) only [if_pos, if_neg, if_true]
  · simp (disch := omega) only [if_pos, if_neg, if_true]
  · simp (disch := omega) only [if_pos, if_neg, if_true]
  · simp (disch := omega) only [if_pos, if_neg, if_true]
  · simp (disch := omega) only [if_pos, if_neg, if_true]
theorem roofA_DW {r : Row} {l : Int} {f : Int → Int} {br ea fe pu : Int} (h : DW r) (h0 : r 0 < 10) (hf : Lt l f) (hbr : 1 ≤ br ∧ br ≤ 8) (hea : 0 ≤ ea ∧ ea ≤ 9) (hfe : 0 ≤ fe ∧ fe ≤ 9) (hpu : 0 ≤ pu ∧ pu ≤ 999) : DW (roofA r l f br ea fe pu) := by
  obtain ⟨b0, b1, b2, b4, b5, b6, hr, hw, hz, hs, hZ⟩ := h
  obtain ⟨a0, a7, aL, aF, q7, q8, q9, q10, q11, q12, o⟩ := roofA_at (r := r) (f := f) (br := br) (ea := ea) (fe := fe) (pu := pu) b0.1 hf.1
  have hl := hf.1
  generalize roofA r l f br ea fe pu = q at *
  have e1 := o 1 (by omega) (by omega) (by omega)
  have e2 := o 2 (by omega) (by omega) (by omega)
  have e3 := o 3 (by omega) (by omega) (by omega)
  have e4 := o 4 (by omega) (by omega) (by omega)
  have e5 := o 5 (by omega) (by omega) (by omega)
  have e6 := o 6 (by omega) (by omega) (by omega)
  refine ⟨by omega, by omega, by omega, by omega, by omega, by omega, fun x x0 x1 => ?_, ⟨fun i i0 i1 => ?_, fun i j x y i0 i1 j0 j1 ex ey => ?_⟩, fun k k0 k1 => ?_, ?_, fun k k0 k1 => ?_⟩
  · by_cases c : x = r 0
    · subst c
      have z11 := hZ (25 + 13 * r 0 + 11) (by omega) (by omega)
      unfold Wx
      rw [aL, q7, q8, q9, q10, q11, z11, e3, b2.2]
      refine ⟨hl, fun k k0 k1 => ?_, hbr, hea, hfe, by omega, by omega⟩
      rw [aF k k0 k1]
      exact hf.2 k k0 k1
    · exact Wx_congr (r := r) (by omega) (fun k k0 k1 => o k (by omega) (by omega) (by omega)) (hr x x0 (by omega))
  · have a := hw.1 i i0 (by omega)
    rw [o (160 + 3 * i) (by omega) (by omega) (by omega), o (160 + 3 * i + 1) (by omega) (by omega) (by omega), o (160 + 3 * i + 2) (by omega) (by omega) (by omega)]
    omega
  · unfold En2 at ex ey
    rw [o (160 + 3 * i) (by omega) (by omega) (by omega), o (160 + 3 * i + 1) (by omega) (by omega) (by omega)] at ex
    rw [o (160 + 3 * j) (by omega) (by omega) (by omega), o (160 + 3 * j + 1) (by omega) (by omega) (by omega)] at ey
    exact hw.2 i j x y i0 (by omega) j0 (by omega) ex ey
  · rw [o k (by omega) (by omega) (by omega)]; exact hz k k0 k1
  · have hN : (q 0).toNat = (r 0).toNat + 1 := by omega
    have hc : ((r 0).toNat : Int) = r 0 := by omega
    rw [hN, sm, hc, q10, a7, ← hs]
    congr 1
    exact sm_congr fun x x0 x1 => o _ (by omega) (by omega) (by omega)
  · rw [o k (by omega) (by omega) (by omega)]
    exact hZ k (by omega) k1
theorem is_st (w : aI) (a : Nat) (f : Int → Int) (k v : Int) : iset (stc w a f) a k v = stc w a (rs f k v) := by rw [is_stc, stc_stc, stc_eq]
theorem m_newRoof {F : Nat} {v : aI} {r : Row} {l : Int} {f : Int → Int} {br ea fe pu : Int} (hF : 1000 ≤ F) (h1 : v 211 = r) (b0 : 0 ≤ r 0 ∧ r 0 < 10) (hl : 1 ≤ l ∧ l ≤ 6) (h8 : v 210 8 = l) (h7 : ∀ k, 0 ≤ k → k < l → v 215 k = f k) : f_X11_newRoof F 210 br ea fe pu v = some (stc v 211 (roofA r l f br ea fe pu)) := by
  have key : ∀ (n i : Nat), (i : Int) ≤ l → l - i < n → f_X11_newRoof_b25 F 210 br ea fe pu n (25 + 13 * r 0) i (stc v 211 (fun k => if 25 + 13 * r 0 + 1 ≤ k ∧ k < 25 + 13 * r 0 + 1 + i then f (k - (25 + 13 * r 0 + 1)) else rs r (25 + 13 * r 0) l k)) = some (stc v 211 (roofA r l f br ea fe pu)) := by
    intro n
    induction n with
    | zero => intro i i1 i2; omega
    | succ n ih =>
      intro i i1 i2
      show f_X11_newRoof_b25_b F 210 br ea fe pu (f_X11_newRoof_b25 F 210 br ea fe pu n) _ _ _ = _
      unfold f_X11_newRoof_b25_b
      rw [stc_ne (show ¬ 210 = 211 by decide), h8, gd_t (by omega)]
      by_cases c : l ≤ i
      · have e : (i : Int) = l := by omega
        rw [if_pos c, m0, n0, e]
        obtain ⟨g, hg⟩ : ∃ g : Int → Int, g = fun k => if 25 + 13 * r 0 + 1 ≤ k ∧ k < 25 + 13 * r 0 + 1 + l then f (k - (25 + 13 * r 0 + 1)) else rs r (25 + 13 * r 0) l k := ⟨_, rfl⟩
        rw [← hg, gd_t (by omega), ltm, is_st, gd_t (by omega), ltm, is_st, gd_t (by omega), ltm, is_st, gd_t (by omega), ltm, is_st, gd_t (by omega), gd_t (by omega), ltm, stc_eq, is_st, gd_t (by omega), gd_t (by omega), ltm, stc_eq, is_st]
        congr 2
        funext k
        have g7 : g 7 = r 7 := by rw [hg]; dsimp only; rw [if_neg (by omega), rs_ne (by omega)]
        have g0 : g 0 = r 0 := by rw [hg]; dsimp only; rw [if_neg (by omega), rs_ne (by omega)]
        unfold roofA
        by_cases k0 : k = 0
        · rw [k0, rs_self, rs_ne (by omega), rs_ne (by omega), rs_ne (by omega), rs_ne (by omega), rs_ne (by omega), g0]
          simp (disch := omega) only [if_pos, if_neg, if_true]
        · rw [rs_ne k0]
          by_cases k7 : k = 7
          · rw [k7, rs_self, rs_ne (by omega), rs_ne (by omega), rs_ne (by omega), rs_ne (by omega), g7]
            simp (disch := omega) only [if_pos, if_neg, if_true]
          · rw [rs_ne k7]
            by_cases k10 : k = 25 + 13 * r 0 + 10
            · rw [k10, rs_self]
              simp (disch := omega) only [if_pos, if_neg, if_true]
            · rw [rs_ne k10]
              by_cases k9 : k = 25 + 13 * r 0 + 9
              · rw [k9, rs_self]
                simp (disch := omega) only [if_pos, if_neg, if_true]
              · rw [rs_ne k9]
                by_cases k8 : k = 25 + 13 * r 0 + 8
                · rw [k8, rs_self]
                  simp (disch := omega) only [if_pos, if_neg, if_true]
                · rw [rs_ne k8]
                  by_cases k77 : k = 25 + 13 * r 0 + 7
                  · rw [k77, rs_self]
                    simp (disch := omega) only [if_pos, if_neg, if_true]
                  · rw [rs_ne k77, hg, if_neg k77, if_neg k8, if_neg k9, if_neg k10, if_neg k7, if_neg k0]
                    dsimp only
                    rw [rs_def]
      · have e211 : ∀ g : Int → Int, stc v 211 g 215 = v 215 := fun g => stc_ne (by decide)
        rw [if_neg c, m7, n7, gd_t (by omega), m0, n0, gd_t (by omega), ltm, e211, h7 i (by omega) (by omega), is_stc, stc_stc, stc_eq]
        have e3 : rs (fun k => if 25 + 13 * r 0 + 1 ≤ k ∧ k < 25 + 13 * r 0 + 1 + i then f (k - (25 + 13 * r 0 + 1)) else rs r (25 + 13 * r 0) l k) (25 + 13 * r 0 + 1 + i) (f i) = fun k => if 25 + 13 * r 0 + 1 ≤ k ∧ k < 25 + 13 * r 0 + 1 + ((i + 1 : Nat) : Int) then f (k - (25 + 13 * r 0 + 1)) else rs r (25 + 13 * r 0) l k := by
          funext k
          by_cases c1 : k = 25 + 13 * r 0 + 1 + i
          · rw [c1, rs_self, if_pos (by omega)]
            congr 1; omega
          · rw [rs_ne c1, ite_iff (show (25 + 13 * r 0 + 1 ≤ k ∧ k < 25 + 13 * r 0 + 1 + (i : Int)) ↔ (25 + 13 * r 0 + 1 ≤ k ∧ k < 25 + 13 * r 0 + 1 + ((i + 1 : Nat) : Int)) by omega)]
        rw [e3]
        exact ih (i + 1) (by omega) (by omega)
  unfold f_X11_newRoof
  rw [m0, n0, gd_t (by omega), h1, m_r, bs, gd_t (by omega), ltm, h8, is_stc, h1]
  have h := key F 0 (by omega) (by omega)
  have e : (fun k => if 25 + 13 * r 0 + 1 ≤ k ∧ k < 25 + 13 * r 0 + 1 + ((0 : Nat) : Int) then f (k - (25 + 13 * r 0 + 1)) else rs r (25 + 13 * r 0) l k) = rs r (25 + 13 * r 0) l := by
    funext k; rw [if_neg (by omega)]
  rw [e] at h
  exact h
