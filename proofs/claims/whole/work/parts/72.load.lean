/-! ===== a setup is loaded ===== -/
theorem DW.wf {r : Row} (h : DW r) (h2 : 2 ≤ r 0) : WF r := by
  obtain ⟨b0, b1, b2, b4, b5, b6, hr, hw, hz, hs, hZ⟩ := h
  refine ⟨by unfold Wb; omega, hr, hw, fun i i0 i1 => by omega, ?_⟩
  have e : (r 2).toNat = 0 := by omega
  unfold Wa
  rw [e, hz 11 (by omega) (by omega), hz 15 (by omega) (by omega), hz 18 (by omega) (by omega), hz 16 (by omega) (by omega), hz 13 (by omega) (by omega), hz 20 (by omega) (by omega), hs]
  exact ⟨by omega, rfl, rfl, by omega, rfl, by omega, by omega⟩
section Ld
variable {F : Nat} {B : Int → Int} {N : Int}
theorem ld_loop (hF : 1000 ≤ F) : ∀ (n m : Nat) (i : Int) (u v : aI) (p : Int) (r : Row), Stt u v B N p r → 0 ≤ i → i ≤ p → N - p + 1 < n → N - p + 1 < m →
    ∃ u' v', FdzU u u' ∧ FvzM v v' ∧ f_X11_loadPost_b21 F 210 m v = f_X11_loadPost_b42 F 210 v' ∧ ((∃ p' r', f_X5_isRead_b16 F 6 n i u = f_X5_isRead_b48 F 6 u' ∧ Stt u' v' B N p' r' ∧ tK B N p' = 0) ∨ (∃ c a, f_X5_isRead_b16 F 6 n i u = some (false, u') ∧ TOK u' 48 ∧ CF u' B N c a ∧ MF v' B N c a ∧ rg (v' 211 0))) := by
  have dead : ∀ (m : Nat) (v : aI) (c a : Int), MF v B N c a → f_X11_loadPost_b21 F 210 (m + 1) v = f_X11_loadPost_b42 F 210 v := by
    intro m v c a h
    have hc := h.2.2.2.1
    show f_X11_loadPost_b21_b F 210 (f_X11_loadPost_b21 F 210 m) v = _
    unfold f_X11_loadPost_b21_b
    rw [h.2.1, gd_t (by omega), if_neg (by omega)]
  intro n
  induction n with
  | zero => intro m i u v p r h; have := h.1.2.2.1; omega
  | succ n ih =>
    intro m i u v p r h i0 i1 hn hm
    have hb := h.1.bd
    have hp := h.1.2.2.1
    obtain ⟨m, rfl⟩ : ∃ j, m = j + 1 := ⟨m - 1, by omega⟩
    have ec : f_X5_isRead_b16 F 6 (n + 1) i u = f_X5_isRead_b16_b F 6 (f_X5_isRead_b16 F 6 n) i u := rfl
    have em : f_X11_loadPost_b21 F 210 (m + 1) v = f_X11_loadPost_b21_b F 210 (f_X11_loadPost_b21 F 210 m) v := rfl
    rw [ec, em]
    unfold f_X5_isRead_b16_b f_X11_loadPost_b21_b
    rw [gd_t (show rg i by omega), p60, h.1.2.1.2.2.1, gd_t (show rg (tK B N p) by omega), h.2.1.2.1.2.2.2.2.2, gd_t (show rg (0 : Int) by decide), if_pos (show (0 : Int) = 0 from rfl), h.2.1.2.1.2.2.1, gd_t (show rg (tK B N p) by omega)]
    by_cases hk : tK B N p = 0
    · rw [if_pos hk, if_pos hk]
      refine ⟨u, v, fun _ _ _ => rfl, ⟨fun _ _ _ _ => rfl, fun _ _ _ _ _ _ _ _ => rfl⟩, rfl, Or.inl ⟨p, r, ?_, h, hk⟩⟩
      split <;> rfl
    · rw [if_neg (show ¬ 800 ≤ i by omega), if_neg hk, if_neg hk]
      obtain ⟨u1, v1, hy, fu, fv, ⟨p', r', hx, hpp, hS⟩ | ⟨c, a, hx, hT, h1, h2, h3⟩⟩ := st_any hF h hk
      · obtain ⟨u2, v2, f1, f2, f3, f4⟩ := ih m (i + 1) u1 v1 p' r' hS (by omega) (by omega) (by omega) (by omega)
        rw [hx, bk, if_pos rfl, hy, bs]
        exact ⟨u2, v2, fu.trans f1, fv.trans f2, f3, f4⟩
      · obtain ⟨m, rfl⟩ : ∃ j, m = j + 1 := ⟨m - 1, by omega⟩
        rw [hx, bk, if_neg (by decide), hy, bs, dead m v1 c a h2]
        exact ⟨u1, v1, fu, fv, rfl, Or.inr ⟨c, a, rfl, hT, h1, h2, h3⟩⟩
theorem ld_b48 {u v : aI} {p : Int} {r : Row} (hF : 1000 ≤ F) (h : Stt u v B N p r) : (2 ≤ r 0 → ∃ u', f_X5_isRead_b48 F 6 u = some (true, u') ∧ Rep u' 48 r ∧ Fc 48 u u') ∧ (¬ 2 ≤ r 0 → ∃ u', f_X5_isRead_b48 F 6 u = some (false, u') ∧ CF u' B N 6 (tS B N p) ∧ Fk u u') := by
  obtain ⟨hc, hm, hD, h1, hW⟩ := h
  obtain ⟨u1, e1, e2, e3⟩ := c_fail (F := F) (c := 6) hc
  have hr0 := hW.1
  unfold f_X5_isRead_b48
  rw [p60, p61, hD.2.1.2.1, gd_t (by omega), pf9 P48, e1, bk]
  refine ⟨fun h2 => ?_, fun h2 => ?_⟩
  · have hWF := hW.wf h2
    have hb := hWF.1
    obtain ⟨hK, ⟨d0, d1, d2, d3⟩, dS, dA, dX, dW⟩ := hD
    obtain ⟨u2, g1, g2, g3⟩ := c_lay (F := F) (b := 48) hF P48 hK d1 d2 dW hb.1 hb.2.1 hWF.2.2.1
    rw [if_pos h2, g1, bs]
    refine ⟨u2, rfl, ⟨⟨hK.lay g3, ?_⟩, ?_, ?_, ?_, ?_, fun i i0 i1 => ?_, g2⟩, fun a ha => g3 a (by omega) (by omega) (by omega)⟩
    · rw [g3 48 (by omega) (by omega) (by omega), hW.2.2.1.1, hW.2.2.1.2]
      exact ⟨d0, d1, d2, d3⟩
    · unfold RepS
      rw [g3 (48 + 8) (by omega) (by omega) (by omega)]
      exact dS
    · intro k k0 k1
      rw [g3 (48 + 10) (by omega) (by omega) (by omega), dA k k0 k1, hW.2.2.2.2.2.2.2.2.1 (10 + k) (by omega) (by omega)]
    · unfold RepX RX
      rw [g3 (48 + 2) (by omega) (by omega) (by omega)]
      exact dX
    · unfold RepW
      rw [g3 (48 + 4) (by omega) (by omega) (by omega)]
      exact dW
    · rw [hW.2.2.1.1] at i1; omega
  · rw [if_neg h2]
    exact ⟨u1, rfl, e2, e3⟩
def clrT (r : Row) : Row := fun k => if k = 4 then 3 else if k = 5 then 50 else if k = 6 then 1 else if 0 ≤ k ∧ k < 1030 then 0 else r k
theorem m_clears {v : aI} (hF : 2000 ≤ F) : f_X11_clears F 210 v = some (stc v 211 (clrT (v 211))) := by
  generalize hr : v 211 = r
  have key : ∀ (n i : Nat), i ≤ 1030 → 1030 - i < n → f_X11_clears_b2 F 210 n i (stc v 211 (fun k => if 0 ≤ k ∧ k < i then 0 else r k)) = some (stc v 211 (clrT r)) := by
    intro n
    induction n with
    | zero => intro i i1 i2; omega
    | succ n ih =>
      intro i i1 i2
      show f_X11_clears_b2_b F 210 (f_X11_clears_b2 F 210 n) _ _ = _
      unfold f_X11_clears_b2_b
      rw [gd_t (by omega)]
      by_cases c : (1030 : Int) ≤ i
      · have e : i = 1030 := by omega
        subst e
        rw [if_pos c, m0, n0, gd_t (by decide), ltm, is_st, gd_t (by decide), ltm, is_st, gd_t (by decide), ltm, is_st]
        congr 2
        funext k
        unfold clrT
        by_cases c6 : k = 6
        · rw [c6, rs_self]; rfl
        · rw [rs_ne c6]
          by_cases c5 : k = 5
          · rw [c5, rs_self]; rfl
          · rw [rs_ne c5]
            by_cases c4 : k = 4
            · rw [c4, rs_self]; rfl
            · rw [rs_ne c4, if_neg c4, if_neg c5, if_neg c6]
              rfl
      · rw [if_neg c, m0, n0, gd_t (by omega), ltm, is_st]
        have e3 : rs (fun k => if 0 ≤ k ∧ k < (i : Int) then 0 else r k) i 0 = fun k => if 0 ≤ k ∧ k < ((i + 1 : Nat) : Int) then 0 else r k := by
          funext k
          by_cases c1 : k = i
          · rw [c1, rs_self, if_pos (by omega)]
          · rw [rs_ne c1, ite_iff (show (0 ≤ k ∧ k < (i : Int)) ↔ (0 ≤ k ∧ k < ((i + 1 : Nat) : Int)) by omega)]
        rw [e3]
        exact ih (i + 1) (by omega) (by omega)
  have h := key F 0 (by omega) (by omega)
  have e : (fun k : Int => if 0 ≤ k ∧ k < ((0 : Nat) : Int) then 0 else r k) = v 211 := by
    funext k; rw [if_neg (by omega), hr]
  rw [e, stc_self] at h
  exact h
theorem clrT_DW (r : Row) : DW (clrT r) := by
  have z : ∀ k, 0 ≤ k → k < 1030 → ¬ k = 4 → ¬ k = 5 → ¬ k = 6 → clrT r k = 0 := fun k k0 k1 k4 k5 k6 => by unfold clrT; rw [if_neg k4, if_neg k5, if_neg k6, if_pos ⟨k0, k1⟩]
  have z0 := z 0 (by decide) (by decide) (by decide) (by decide) (by decide)
  have z1 := z 1 (by decide) (by decide) (by decide) (by decide) (by decide)
  have z2 := z 2 (by decide) (by decide) (by decide) (by decide) (by decide)
  have z3 := z 3 (by decide) (by decide) (by decide) (by decide) (by decide)
  have z7 := z 7 (by decide) (by decide) (by decide) (by decide) (by decide)
  have z4 : clrT r 4 = 3 := rfl
  have z5 : clrT r 5 = 50 := rfl
  have z6 : clrT r 6 = 1 := rfl
  refine ⟨by omega, by omega, by omega, by omega, by omega, by omega, fun x x0 x1 => by omega, ⟨fun i i0 i1 => by omega, fun i j x y i0 i1 => by omega⟩, fun k k0 k1 => z k (by omega) (by omega) (by omega) (by omega) (by omega), ?_, fun k k0 k1 => z k (by omega) (by omega) (by omega) (by omega) (by omega)⟩
  rw [z0, z7]; rfl
theorem putS' {b : Nat} {u : aI} (hP : Pb b) {f : Int → Int} (hK : TOK (stc u (b + 8) f) b) {j v : Int} (hj : 0 ≤ j ∧ j < 3) : f_X7_put F (b + 7) 0 j v (stc u (b + 8) f) = some (stc u (b + 8) (rs f j v)) := by
  rw [putS hP hK hj, stc_stc, stc_eq]
theorem c_clearD {w : aI} {r : Row} (hF : 2000 ≤ F) (hT : TOK w 48) : ∃ u, f_X2_clear F 48 w = some u ∧ DR u 48 (clrT r) ∧ Fc 48 w u := by
  unfold f_X2_clear f_X2_settle
  rw [ltm, ltm, ltm, ltm, pf7 P48, pf8 P48]
  obtain ⟨x, hx⟩ : ∃ x, x = iset (iset (iset (iset w 48 0 0) 48 1 0) 48 2 0) 48 3 0 := ⟨_, rfl⟩
  rw [← hx]
  have xo : ∀ a, ¬ a = 48 → x a = w a := fun a ha => by rw [hx, is_ne ha, is_ne ha, is_ne ha, is_ne ha]
  have x0 : x 48 0 = 0 ∧ x 48 1 = 0 ∧ x 48 2 = 0 ∧ x 48 3 = 0 := by
    rw [hx]
    refine ⟨?_, ?_, ?_, ?_⟩
    · rw [is_eq, rs_ne (by omega), is_eq, rs_ne (by omega), is_eq, rs_ne (by omega), is_eq, rs_self]
    · rw [is_eq, rs_ne (by omega), is_eq, rs_ne (by omega), is_eq, rs_self]
    · rw [is_eq, rs_ne (by omega), is_eq, rs_self]
    · rw [is_eq, rs_self]
  clear hx
  have Kx : TOK x 48 := by
    unfold TOK at hT ⊢
    rw [xo (48 + 1) (by omega), xo (48 + 3) (by omega), xo (48 + 5) (by omega), xo (48 + 7) (by omega), xo (48 + 9) (by omega), xo (48 + 12) (by omega), xo (48 + 14) (by omega), xo (48 + 16) (by omega)]
    exact hT
  have K1 : ∀ f, TOK (stc x (48 + 8) f) 48 := fun f => Kx.stc (by omega)
  rw [show (8 : Int) - 8 = 0 from rfl, show (9 : Int) - 8 = 1 from rfl, show (10 : Int) - 8 = 2 from rfl, putS P48 Kx (by omega), bs, bs, putS' P48 (K1 _) (by omega), bs, bs, putS' P48 (K1 _) (by omega), bs, bs, c_clearTo (by omega) (ptA P48) (plA P48) (by omega), bs]
  refine ⟨_, rfl, ⟨?_, ?_, ?_, fun k k0 k1 => ?_, ⟨fun y y0 y1 => ?_, ?_⟩, fun i i0 i1 => ?_⟩, fun a ha => by rw [stc_ne (by omega), stc_ne (by omega), xo a (by omega)]⟩
  · exact (K1 _).stc (by omega)
  · rw [stc_ne (by omega), stc_ne (by omega)]
    exact x0
  · unfold RepS
    rw [stc_ne (by omega), stc_eq]
    refine ⟨?_, ?_, ?_⟩
    · show rs (rs (rs (x (48 + 8)) 0 3) 1 50) 2 1 0 = 3
      rw [rs_ne (by decide), rs_ne (by decide), rs_self]
    · show rs (rs (rs (x (48 + 8)) 0 3) 1 50) 2 1 1 = 50
      rw [rs_ne (by decide), rs_self]
    · show rs (rs (rs (x (48 + 8)) 0 3) 1 50) 2 1 2 = 1
      rw [rs_self]
  · rw [stc_eq, if_pos (by omega)]
  · have : clrT r 0 = 0 := rfl
    omega
  · rfl
  · have : clrT r 1 = 0 := rfl
    omega
theorem c_open {u : aI} (hF : 1000 ≤ F) (hT : TX u B N) : ∃ u', f_X9_open F 5 u = some u' ∧ CS u' B N 0 ∧ Fk u u' := by
  have hN := hT.2.1
  unfold f_X9_open
  rw [ltm, ltm, ltm]
  obtain ⟨x, hx⟩ : ∃ x, x = iset (iset (iset u 5 5 0) 5 6 (-1)) 5 2 0 := ⟨_, rfl⟩
  rw [← hx]
  have xo : ∀ a, ¬ a = 5 → x a = u a := fun a ha => by rw [hx, is_ne ha, is_ne ha, is_ne ha]
  have x2 : x 5 2 = 0 := by rw [hx, is_eq, rs_self]
  have x5 : x 5 5 = 0 := by rw [hx, is_eq, rs_ne (by omega), is_eq, rs_ne (by omega), is_eq, rs_self]
  have x6 : x 5 6 = -1 := by rw [hx, is_eq, rs_ne (by omega), is_eq, rs_self]
  clear hx
  have Tx : TX x B N := by
    unfold TX
    rw [xo 1 (by decide), xo 2 (by decide)]
    exact hT
  obtain ⟨g, e1, g1, g2, g3, g4, g5, g6⟩ := c_step (F := F) hF Tx (p := 0) (by omega) x2
  rw [e1, bs]
  refine ⟨_, rfl, ⟨Tx.at5 g, ?_, by omega, by rw [stc_eq, g5, x5], by rw [stc_eq, g6, x6]⟩, fun a ha => by rw [stc_ne ha, xo a ha]⟩
  unfold CT
  rw [stc_eq]
  exact ⟨g1, g2, g3, g4⟩
theorem m_starts {v : aI} (hF : 1000 ≤ F) (hT : TM v B N) (h19 : rg (v 210 19)) : ∃ v', f_X11_starts F 210 v = some v' ∧ MS v' B N 0 ∧ Fy v v' := by
  have hN := hT.2.1
  unfold f_X11_starts
  rw [ltm, ltm]
  obtain ⟨x, hx⟩ : ∃ x, x = iset (iset v 210 20 0) 210 17 0 := ⟨_, rfl⟩
  rw [← hx]
  have xo : ∀ a, ¬ a = 210 → x a = v a := fun a ha => by rw [hx, is_ne ha, is_ne ha]
  have xf : ∀ k, ¬ k = 17 → ¬ k = 20 → x 210 k = v 210 k := fun k k1 k2 => by rw [hx, is_eq, rs_ne k1, is_eq, rs_ne k2]
  have x17 : x 210 17 = 0 := by rw [hx, is_eq, rs_self]
  have x20 : x 210 20 = 0 := by rw [hx, is_eq, rs_ne (by omega), is_eq, rs_self]
  clear hx
  have Tx : TM x B N := by
    unfold TM
    rw [xf 13 (by omega) (by omega), xo 218 (by decide)]
    exact hT
  obtain ⟨g, e1, ⟨g1, g2, g3, g4, g5⟩, g6⟩ := m_goesOn (F := F) hF Tx (p := 0) (by omega) x20 x17 (by rw [xf 19 (by omega) (by omega)]; exact h19)
  have fy : Fy v (stc x 210 g) := ⟨fun a ha => by rw [stc_ne ha, xo a ha], fun k a b c d e f => by rw [stc_eq, g6 k a b c d, xf k b e]⟩
  rw [e1, bs]
  refine ⟨_, rfl, ⟨hT.fy fy, ?_, by omega⟩, fy⟩
  unfold MT
  rw [stc_eq]
  exact ⟨g1, g2, g3, g4, g5, by rw [g6 20 (by omega) (by omega) (by omega) (by omega)]; exact x20⟩
theorem m_ending {v : aI} (h : rg (v 210 20)) : f_X11_ending F 210 v = some (iset (iset (iset v 210 14 (v 210 20)) 210 15 (if v 210 20 = 0 then -1 else v 210 21)) 210 13 0) := by
  unfold f_X11_ending
  have e20 : iset v 210 14 (v 210 20) 210 20 = v 210 20 := by rw [is_eq, rs_ne (by omega)]
  have e21 : iset v 210 14 (v 210 20) 210 21 = v 210 21 := by rw [is_eq, rs_ne (by omega)]
  rw [ltm, e20, e21, gd_t h]
  split
  · rw [ltm, ltm]
  · rw [ltm, ltm]
end Ld
