/-! ===== cut ===== -/
def cutT (r : Row) (v : Int) : Row := fun k => if 160 + 3 * v ≤ k ∧ k < 160 + 3 * (r 1 - 1) then r (k + 3) else if k = 1 then r 1 - 1 else r k
theorem cutT_o {r : Row} {v k : Int} (h : k < 160 ∨ 220 ≤ k) (h1 : ¬ k = 1) (hv : 0 ≤ v) (hr : r 1 ≤ 20) : cutT r v k = r k := by
  unfold cutT; rw [if_neg (by omega), if_neg h1]
theorem cutT_1 {r : Row} {v : Int} (hv : 0 ≤ v) : cutT r v 1 = r 1 - 1 := by
  unfold cutT; rw [if_neg (by omega), if_pos rfl]
theorem cutT_w {r : Row} {v i c : Int} (hv : 0 ≤ v ∧ v < r 1) (hi : 0 ≤ i ∧ i < r 1 - 1) (hc : 0 ≤ c ∧ c < 3) : cutT r v (160 + 3 * i + c) = r (160 + 3 * (if i < v then i else i + 1) + c) := by
  unfold cutT
  by_cases c1 : i < v
  · rw [if_pos c1, if_neg (by omega), if_neg (by omega)]
  · rw [if_neg c1, if_pos (by omega)]
    congr 1; omega
theorem cutT_en {r : Row} {v i x y : Int} (hv : 0 ≤ v ∧ v < r 1) (hi : 0 ≤ i ∧ i < r 1 - 1) : En2 (cutT r v) i x y ↔ En2 r (if i < v then i else i + 1) x y := by
  have e0 := cutT_w (c := 0) hv hi (by omega)
  have e1 := cutT_w (c := 1) hv hi (by omega)
  rw [Int.add_zero, Int.add_zero] at e0
  unfold En2
  rw [e0, e1]
theorem cutT_WF {r : Row} {v : Int} (hW : WF r) (hv : 0 ≤ v ∧ v < r 1) : WF (cutT r v) := by
  obtain ⟨hb, hr, hw, ht, ha⟩ := hW
  obtain ⟨b0, b1, b2, b3, b4, b5, b6⟩ := hb
  have o : ∀ k, (k < 160 ∨ 220 ≤ k) → ¬ k = 1 → cutT r v k = r k := fun k h h1 => cutT_o h h1 hv.1 b1.2
  have e1 := cutT_1 (r := r) hv.1
  have ew := fun i c => cutT_w (r := r) (v := v) (i := i) (c := c) hv
  have een := fun i x y => cutT_en (r := r) (v := v) (i := i) (x := x) (y := y) hv
  generalize cutT r v = q at o e1 ew een
  have e0 := o 0 (by omega) (by omega)
  have e2 := o 2 (by omega) (by omega)
  have e3 := o 3 (by omega) (by omega)
  have e4 := o 4 (by omega) (by omega)
  have e5 := o 5 (by omega) (by omega)
  have e6 := o 6 (by omega) (by omega)
  refine ⟨by unfold Wb; omega, fun x x0 x1 => Wx_congr (r := r) (by omega) (fun k k0 k1 => o k (by omega) (by omega)) (hr x x0 (by omega)), ⟨fun i i0 i1 => ?_, fun i j x y i0 i1 j0 j1 ex ey => ?_⟩, fun j j0 j1 => Wy_congr (r := r) e0 (by omega) (fun k k0 k1 => o k (by omega) (by omega)) (ht j j0 (by omega)), ?_⟩
  · have a := hw.1 (if i < v then i else i + 1) (by split <;> omega) (by split <;> omega)
    have w0 := ew i 0 (by omega) (by omega)
    rw [Int.add_zero, Int.add_zero] at w0
    rw [w0, ew i 1 (by omega) (by omega), ew i 2 (by omega) (by omega), e0]
    exact a
  · rw [een i x y (by omega)] at ex
    rw [een j x y (by omega)] at ey
    have := hw.2 _ _ x y (by split <;> omega) (by split <;> omega) (by split <;> omega) (by split <;> omega) ex ey
    revert this
    split <;> split <;> omega
  · obtain ⟨a1, a2, a3, a4, a5, a6, a7⟩ := ha
    have hcc : ∀ u, cnt (fun i => decide (q (220 + 27 * i + 3) = u)) (q 2).toNat = cnt (fun i => decide (r (220 + 27 * i + 3) = u)) (r 2).toNat := fun u => by
      rw [e2]
      exact cnt_congr fun j j0 j1 => by rw [o _ (by omega) (by omega)]
    refine ⟨by rw [o 11 (by omega) (by omega), e2]; exact a1, by rw [o 15 (by omega) (by omega), a2, hcc 2], by rw [o 18 (by omega) (by omega), a3, hcc 3], by rw [o 16 (by omega) (by omega), o 15 (by omega) (by omega)]; exact a4, ?_, by rw [o 13 (by omega) (by omega), e3]; exact a6, ?_⟩
    · rw [o 13 (by omega) (by omega), a5, e2]
      exact sm_congr fun j j0 j1 => (o _ (by omega) (by omega)).symm
    · rw [o 7 (by omega) (by omega), o 20 (by omega) (by omega), e0, ← a7]
      exact sm_congr fun j j0 j1 => o _ (by omega) (by omega)
theorem m_cuts {F : Nat} {w : aI} {v : Int} (hF : 100 ≤ F) (h1 : 0 ≤ w 211 1 ∧ w 211 1 ≤ 20) (hv : 0 ≤ v ∧ v < w 211 1) : f_X11_cuts F 210 v w = some (w 211 1 - 1, stc w 211 (cutT (w 211) v)) := by
  generalize hr : w 211 = r at h1 hv ⊢
  have key : ∀ (n : Nat) (i : Int), 160 + 3 * v ≤ i → i ≤ 160 + 3 * (r 1 - 1) → 160 + 3 * (r 1 - 1) - i < n → f_X11_cuts_b5 F 210 v n i (stc w 211 (fun k => if 160 + 3 * v ≤ k ∧ k < i then r (k + 3) else r k)) = some (r 1 - 1, stc w 211 (cutT r v)) := by
    intro n
    induction n with
    | zero => intro i i0 i1 i2; omega
    | succ n ih =>
      intro i i0 i1 i2
      show f_X11_cuts_b5_b F 210 v (f_X11_cuts_b5 F 210 v n) _ _ = _
      unfold f_X11_cuts_b5_b
      have e1 : (if 160 + 3 * v ≤ (1 : Int) ∧ (1 : Int) < i then r (1 + 3) else r 1) = r 1 := if_neg (by omega)
      rw [m0, n0, gd_t (by omega), m_w, bs, stc_eq, e1, gd_t (by omega)]
      by_cases c : 160 + 3 * (r 1 - 1) ≤ i
      · have e : i = 160 + 3 * (r 1 - 1) := by omega
        subst e
        rw [if_pos c, gd_t (by omega), gd_t (by omega), ltm, gd_t (by omega), is_stc, stc_stc, stc_eq, stc_eq, rs_self]
        congr 2
        congr 1
        funext k
        unfold cutT
        by_cases c1 : k = 1
        · rw [c1, rs_self, if_neg (by omega), if_pos rfl]
        · rw [rs_ne c1, if_neg c1]
      · have e2 : (if 160 + 3 * v ≤ i + 3 ∧ i + 3 < i then r (i + 3 + 3) else r (i + 3)) = r (i + 3) := if_neg (by omega)
        rw [if_neg c, gd_t (by omega), gd_t (by omega), ltm, is_stc, stc_stc, stc_eq, e2]
        have e3 : rs (fun k => if 160 + 3 * v ≤ k ∧ k < i then r (k + 3) else r k) i (r (i + 3)) = fun k => if 160 + 3 * v ≤ k ∧ k < i + 1 then r (k + 3) else r k := by
          funext k
          by_cases c1 : k = i
          · rw [c1, rs_self, if_pos (by omega)]
          · rw [rs_ne c1, ite_iff (show (160 + 3 * v ≤ k ∧ k < i) ↔ (160 + 3 * v ≤ k ∧ k < i + 1) by omega)]
        rw [e3]
        exact ih (i + 1) (by omega) (by omega) (by omega)
  have h := key F (160 + 3 * v) (by omega) (by omega) (by omega)
  have e : (fun k : Int => if 160 + 3 * v ≤ k ∧ k < 160 + 3 * v then r (k + 3) else r k) = w 211 := by
    funext k; rw [if_neg (by omega), hr]
  rw [e, stc_self] at h
  unfold f_X11_cuts
  rw [m_w, bs]
  exact h
/-- a way's other end, without more than the ways -/
theorem c_acrossW {F : Nat} {b : Nat} {w : aI} {r : Row} {i x : Int} (hP : Pb b) (hK : TOK w b) (hRW : RepW w b r) (h0 : r 0 ≤ 10) (h1 : r 1 ≤ 20) (hw : Ww r) (hi : 0 ≤ i ∧ i < r 1) (hx : rg x) : f_X2_acrossFrom F b x i w = some (if r (160 + 3 * i) = x then r (160 + 3 * i + 1) else if r (160 + 3 * i + 1) = x then r (160 + 3 * i) else -1) := by
  have a := hw.1 i hi.1 hi.2
  obtain ⟨g0, g1, g2⟩ := hRW i hi.1 hi.2
  unfold f_X2_acrossFrom
  rw [pf5 hP, getW hP hK (by omega) (by omega), bs, getW hP hK (by omega) (by omega), bs, Int.add_zero, g0, g1, gd_t (by omega)]
  split
  · rfl
  · rw [gd_t (by omega)]
    split <;> rfl
theorem c_wayB {F : Nat} {b : Nat} {w : aI} {r : Row} {x y : Int} (hF : 100 ≤ F) (hP : Pb b) (hK : TOK w b) (h2 : w b 2 = r 1) (hRW : RepW w b r) (h0 : r 0 ≤ 10) (h1 : 0 ≤ r 1 ∧ r 1 ≤ 20) (hw : Ww r) (hx : 0 ≤ x ∧ x < r 0) (hy : 0 ≤ y ∧ y < r 0) : f_X2_wayBetween F b x y w = some (wayB r x y) := by
  have key : ∀ (n i : Nat), (i : Int) ≤ r 1 → r 1 - i < n → (∀ j : Int, 0 ≤ j → j < i → decide (¬ x = y ∧ (r (160 + 3 * j) = x ∨ r (160 + 3 * j + 1) = x) ∧ (r (160 + 3 * j) = y ∨ r (160 + 3 * j + 1) = y)) = false) → f_X2_wayBetween_b2 F b x y w n i = some (wayB r x y) := by
    intro n
    induction n with
    | zero => intro i i1 i2; omega
    | succ n ih =>
      intro i i1 i2 hi
      show f_X2_wayBetween_b2_b F b x y w (f_X2_wayBetween_b2 F b x y w n) _ = _
      unfold f_X2_wayBetween_b2_b
      rw [h2, gd_t (by omega)]
      by_cases c : r 1 ≤ i
      · have e : i = (r 1).toNat := by omega
        rw [if_pos c]
        unfold wayB
        rw [← e, ff_none hi]
      · have a := hw.1 i (by omega) (by omega)
        rw [if_neg c, c_acrossW hP hK hRW h0 h1.2 hw (by omega) (by omega), bs]
        have hr : rg (if r (160 + 3 * (i : Int)) = x then r (160 + 3 * (i : Int) + 1) else if r (160 + 3 * (i : Int) + 1) = x then r (160 + 3 * (i : Int)) else -1) := by
          split
          · omega
          · split <;> omega
        rw [gd_t ⟨hr, by omega⟩]
        by_cases c2 : ¬ x = y ∧ (r (160 + 3 * (i : Int)) = x ∨ r (160 + 3 * (i : Int) + 1) = x) ∧ (r (160 + 3 * (i : Int)) = y ∨ r (160 + 3 * (i : Int) + 1) = y)
        · have e : (if r (160 + 3 * (i : Int)) = x then r (160 + 3 * (i : Int) + 1) else if r (160 + 3 * (i : Int) + 1) = x then r (160 + 3 * (i : Int)) else -1) = y := by
            split
            · omega
            · split <;> omega
          rw [if_pos e]
          congr 1
          exact (ff_at (by omega) (decide_eq_true c2) hi (by omega)).symm
        · have e : ¬ (if r (160 + 3 * (i : Int)) = x then r (160 + 3 * (i : Int) + 1) else if r (160 + 3 * (i : Int) + 1) = x then r (160 + 3 * (i : Int)) else -1) = y := by
            split
            · omega
            · split <;> omega
          rw [if_neg e]
          refine ih (i + 1) (by omega) (by omega) (fun j j0 j1 => ?_)
          by_cases e : j = i
          · rw [e]; exact decide_eq_false c2
          · exact hi j j0 (by omega)
  exact key F 0 (by omega) (by omega) (fun j j0 j1 => by omega)
theorem c_remove {F : Nat} {b : Nat} {w : aI} {v : Int} (hF : 100 ≤ F) (hP : Pb b) (hK : TOK w b) (hv : 0 ≤ v ∧ v < 20) : f_X7_removeRow F (b + 3) v w = some (stc w (b + 4) (fun k => if 3 * v ≤ k ∧ k < 57 then w (b + 4) (k + 3) else w (b + 4) k)) := by
  have K1 : ∀ f, TOK (stc w (b + 4) f) b := fun f => hK.stc (by omega)
  have k14 : ∀ (k4 : Int → aI → Option aI) (u : Int), (v + 1 ≤ u ∧ u < 20) → ∀ (n : Nat) (c : Int), 0 ≤ c → c ≤ 3 → 3 - c < n → f_X7_removeRow_b14 F (b + 3) v k4 n u c (stc w (b + 4) (fun k => if 3 * v ≤ k ∧ k < 3 * (u - 1) + c then w (b + 4) (k + 3) else w (b + 4) k)) = k4 (u + 1) (stc w (b + 4) (fun k => if 3 * v ≤ k ∧ k < 3 * u then w (b + 4) (k + 3) else w (b + 4) k)) := by
    intro k4 u hu n
    induction n with
    | zero => intro c c0 c1 c2; omega
    | succ n ih =>
      intro c c0 c1 c2
      show f_X7_removeRow_b14_b F (b + 3) v k4 (f_X7_removeRow_b14 F (b + 3) v k4 n) _ _ _ = _
      unfold f_X7_removeRow_b14_b
      rw [(K1 _).cW, gd_t (by omega)]
      by_cases c3 : 3 ≤ c
      · have e : c = 3 := by omega
        subst e
        rw [if_pos (by omega), show 3 * (u - 1) + 3 = 3 * u by omega]
      · have e1 : (if 3 * v ≤ 3 * u + c ∧ 3 * u + c < 3 * (u - 1) + c then w (b + 4) (3 * u + c + 3) else w (b + 4) (3 * u + c)) = w (b + 4) (3 * u + c) := if_neg (by omega)
        rw [if_neg c3, getW hP (K1 _) (by omega) (by omega), bs, putW hP (K1 _) (by omega) (by omega), bs, stc_stc, stc_eq, e1]
        have e2 : rs (fun k => if 3 * v ≤ k ∧ k < 3 * (u - 1) + c then w (b + 4) (k + 3) else w (b + 4) k) (3 * (u - 1) + c) (w (b + 4) (3 * u + c)) = fun k => if 3 * v ≤ k ∧ k < 3 * (u - 1) + (c + 1) then w (b + 4) (k + 3) else w (b + 4) k := by
          funext k
          by_cases c4 : k = 3 * (u - 1) + c
          · rw [c4, rs_self, if_pos (by omega)]
            congr 1; omega
          · rw [rs_ne c4, ite_iff (show (3 * v ≤ k ∧ k < 3 * (u - 1) + c) ↔ (3 * v ≤ k ∧ k < 3 * (u - 1) + (c + 1)) by omega)]
        rw [e2]
        exact ih (c + 1) (by omega) (by omega) (by omega)
  have k4 : ∀ (n : Nat) (u : Int), v + 1 ≤ u → u ≤ 20 → 20 - u < n → f_X7_removeRow_b4 F (b + 3) v n u (stc w (b + 4) (fun k => if 3 * v ≤ k ∧ k < 3 * (u - 1) then w (b + 4) (k + 3) else w (b + 4) k)) = some (stc w (b + 4) (fun k => if 3 * v ≤ k ∧ k < 57 then w (b + 4) (k + 3) else w (b + 4) k)) := by
    intro n
    induction n with
    | zero => intro u u0 u1 u2; omega
    | succ n ih =>
      intro u u0 u1 u2
      show f_X7_removeRow_b4_b F (b + 3) v (f_X7_removeRow_b4 F (b + 3) v n) _ _ = _
      unfold f_X7_removeRow_b4_b
      rw [(K1 _).rW, gd_t (by omega)]
      by_cases c : 20 ≤ u
      · have e : u = 20 := by omega
        subst e
        rw [if_pos c]; rfl
      · have h := k14 (f_X7_removeRow_b4 F (b + 3) v n) u (by omega) F 0 (by omega) (by omega) (by omega)
        rw [Int.add_zero] at h
        rw [if_neg c, h]
        have h2 := ih (u + 1) (by omega) (by omega) (by omega)
        rw [show u + 1 - 1 = u by omega] at h2
        exact h2
  have h := k4 F (v + 1) (by omega) (by omega) (by omega)
  have e : (fun k : Int => if 3 * v ≤ k ∧ k < 3 * (v + 1 - 1) then w (b + 4) (k + 3) else w (b + 4) k) = w (b + 4) := by
    funext k; rw [if_neg (by omega)]
  rw [e, stc_self] at h
  unfold f_X7_removeRow
  rw [lti]
  exact h
theorem c_cutWay {F : Nat} {b : Nat} {w : aI} {r : Row} {x y : Int} (hF : 1000 ≤ F) (hP : Pb b) (h : Rep w b r) (hW : WF r) (hx : 0 ≤ x ∧ x < r 0) (hy : 0 ≤ y ∧ y < r 0) (hv : ¬ wayB r x y = -1) :
    ∃ w2, f_X2_cutWay F b x y w = some (true, w2) ∧ Rep w2 b (cutT r (wayB r x y)) ∧ Fc b w w2 := by
  obtain ⟨b0, b1, b2, b3, b4, b5, b6⟩ := hW.1
  have hK := h.1.1
  obtain ⟨d0, d1, d2, d3⟩ := h.1.2
  have hV := wayB_en b1.1 hv
  unfold f_X2_cutWay
  rw [c_wayB (by omega) hP hK d2 h.2.2.2.2.1 b0.2 b1 hW.2.2.1 hx hy, bs]
  generalize wayB r x y = v at hv hV ⊢
  have hv1 : 0 ≤ v ∧ v < r 1 := ⟨hV.1, hV.2.1⟩
  rw [gd_t (by omega), if_neg hv, pf5 hP, c_remove (by omega) hP hK (by omega), bs, ltm]
  have hG := cutT_WF hW hv1
  have o : ∀ k, (k < 160 ∨ 220 ≤ k) → ¬ k = 1 → cutT r v k = r k := fun k h h1 => cutT_o h h1 hv1.1 b1.2
  have e1 := cutT_1 (r := r) hv1.1
  have ew := fun i c => cutT_w (r := r) (v := v) (i := i) (c := c) hv1
  generalize cutT r v = q at o e1 ew hG ⊢
  have e0 := o 0 (by omega) (by omega)
  have e2 := o 2 (by omega) (by omega)
  have e3 := o 3 (by omega) (by omega)
  obtain ⟨z, hz⟩ : ∃ z, z = iset (stc w (b + 4) (fun k => if 3 * v ≤ k ∧ k < 57 then w (b + 4) (k + 3) else w (b + 4) k)) b 2 (stc w (b + 4) (fun k => if 3 * v ≤ k ∧ k < 57 then w (b + 4) (k + 3) else w (b + 4) k) b 2 - 1) := ⟨_, rfl⟩
  rw [← hz]
  have zb : z b = rs (w b) 2 (r 1 - 1) := by rw [hz, is_eq, stc_ne (by omega), d2]
  have z4 : ∀ k, z (b + 4) k = if 3 * v ≤ k ∧ k < 57 then w (b + 4) (k + 3) else w (b + 4) k := fun k => by rw [hz, is_ne (by omega), stc_eq]
  have zo : ∀ a, ¬ a = b → ¬ a = b + 4 → z a = w a := fun a a0 a1 => by rw [hz, is_ne a0, stc_ne a1]
  clear hz
  have Kz : TOK z b := by
    unfold TOK at hK ⊢
    rw [zo (b + 1) (by omega) (by omega), zo (b + 3) (by omega) (by omega), zo (b + 5) (by omega) (by omega), zo (b + 7) (by omega) (by omega), zo (b + 9) (by omega) (by omega), zo (b + 12) (by omega) (by omega), zo (b + 14) (by omega) (by omega), zo (b + 16) (by omega) (by omega)]
    exact hK
  have zW : RepW z b q := by
    intro i i0 i1
    have a := h.2.2.2.2.1 (if i < v then i else i + 1) (by split <;> omega) (by split <;> omega)
    have w0 := ew i 0 (by omega) (by omega)
    rw [Int.add_zero, Int.add_zero] at w0
    rw [w0, ew i 1 (by omega) (by omega), ew i 2 (by omega) (by omega), z4, z4, z4]
    by_cases c : i < v
    · rw [if_pos c] at a ⊢
      rw [if_neg (by omega), if_neg (by omega), if_neg (by omega)]
      exact a
    · rw [if_neg c] at a ⊢
      rw [if_pos (by omega), if_pos (by omega), if_pos (by omega), show 3 * i + 3 = 3 * (i + 1) by omega, show 3 * i + 1 + 3 = 3 * (i + 1) + 1 by omega, show 3 * i + 2 + 3 = 3 * (i + 1) + 2 by omega]
      exact a
  obtain ⟨w2, g1, g2, g3⟩ := c_lay (F := F) (r := q) hF hP Kz (by rw [zb, rs_ne (by omega), d1, e0]) (by rw [zb, rs_self, e1]) zW hG.1.1 hG.1.2.1 hG.2.2.1
  rw [pf9 hP, g1, bs]
  have gz : ∀ a, ¬ a = b + 13 → ¬ a = b + 15 → ¬ a = b + 17 → ¬ a = b → ¬ a = b + 4 → w2 a = w a := fun a a1 a2 a3 a4 a5 => by rw [g3 a a1 a2 a3, zo a a4 a5]
  refine ⟨w2, rfl, ⟨⟨Kz.lay g3, ?_⟩, ?_, ?_, ?_, ?_, ?_, g2⟩, fun a ha => by rw [gz a (by omega) (by omega) (by omega) (by omega) (by omega)]⟩
  · rw [g3 b (by omega) (by omega) (by omega), zb, rs_ne (by omega), rs_ne (by omega), rs_self, rs_ne (by omega), e3, e0, e1, e2]
    exact ⟨d0, d1, rfl, d3⟩
  · unfold RepS
    rw [gz (b + 8) (by omega) (by omega) (by omega) (by omega) (by omega), o 4 (by omega) (by omega), o 5 (by omega) (by omega), o 6 (by omega) (by omega)]
    exact h.2.1
  · intro k k0 k1
    rw [gz (b + 10) (by omega) (by omega) (by omega) (by omega) (by omega), h.2.2.1 k k0 k1, o _ (by omega) (by omega)]
  · have w2x := gz (b + 2) (by omega) (by omega) (by omega) (by omega) (by omega)
    refine ⟨fun x x0 x1 => RX_congr (fun k _ _ => by rw [w2x]) (fun k c d => o k (by omega) (by omega)) (h.2.2.2.1.1 x x0 (by omega)), ?_⟩
    rw [w2x, e0, h.2.2.2.1.2, o 7 (by omega) (by omega)]
  · intro i i0 i1
    rw [g3 (b + 4) (by omega) (by omega) (by omega)]
    exact zW i i0 i1
  · intro j j0 j1
    exact RT_congr (fun k c d => by rw [gz (b + 6) (by omega) (by omega) (by omega) (by omega) (by omega)]) (fun k c d => o k (by omega) (by omega)) (h.2.2.2.2.2.1 j j0 (by omega))
theorem top_cut {F : Nat} (hF : 20000 ≤ F) {x y : Int} (hx : rg x) (hy : rg y) : Top [eIO, eIS] (f_X10_cut F 0 x y) (f_X11_cut F 210 x y) := by
  intro w hI
  obtain ⟨hN, hW, h3⟩ := hI.2.2.2.2.1
  obtain ⟨b0, b1, b2, b3, b4, b5, b6⟩ := hW.1
  have hww : ∀ j, 0 ≤ j → j < w 211 1 → rg (w 211 (160 + 3 * j)) ∧ rg (w 211 (160 + 3 * j + 1)) := fun j j0 j1 => by
    have := hW.2.2.1.1 j j0 j1
    omega
  unfold f_X10_cut f_X11_cut
  rw [two_roofs hN hx hy (by omega), k5, k8]
  by_cases c : (0 ≤ x ∧ x < w 211 0) ∧ 0 ≤ y ∧ y < w 211 0
  · rw [if_pos c, c_wayB (by omega) P12 hN.1.1 hN.1.2.2.2.1 hN.2.2.2.2.1 b0.2 b1 hW.2.2.1 c.1 c.2, bs]
    have hv := wayB_r (w 211) x y b1.1
    by_cases c2 : wayB (w 211) x y = -1
    · rw [gd_t (by omega), if_pos c2]
      refine ⟨.inr eIS, w, 0, iset w 210 6 2, rfl, ?_, hI.thr 2, ?_⟩
      · rw [m_areRoofs hx hy (by omega), bs, decide_eq_true c, if_pos rfl, m_wayB (by omega) b1 hww hx hy, bs, gd_t (by omega), if_pos c2]
        unfold f_X11_cut_b27 f_X11_cut_b28
        rw [show f_X11_may F 210 (bI true) 0 1 w = some (false, iset w 210 6 2) from may2f, bk]
        rfl
      · rw [thr_at]; exact ⟨by decide, by decide, by decide⟩
    · have hV := wayB_en b1.1 c2
      rw [gd_t (by omega), if_neg c2]
      obtain ⟨w1, e1, e2, e0, e3⟩ := hI.did hF
      obtain ⟨w2, e4, e5, e6⟩ := c_cutWay (F := F) (x := x) (y := y) (by omega) P12 e2 hW c.1 c.2 c2
      obtain ⟨wm, e7, e8, e9, e11, e12⟩ := e3 w2 e6
      have hG := cutT_WF (v := wayB (w 211) x y) hW ⟨hV.1, hV.2.1⟩
      have g3 : Fm wm (stc wm 211 (cutT (w 211) (wayB (w 211) x y))) := (Fm.refl wm).stc _ (by omega)
      have hg := m_cuts (F := F) (w := wm) (v := wayB (w 211) x y) (by omega) (by rw [e8]; exact b1) (by rw [e8]; exact ⟨hV.1, hV.2.1⟩)
      rw [e8] at hg
      obtain ⟨q1, q2⟩ := e12 _ g3 (by rw [stc_eq]; exact ⟨e5.of fun a a0 a1 => by rw [stc_ne (by omega), e11 a (by omega) (by omega)], hG, by rw [cutT_o (by omega) (by omega) hV.1 b1.2]; exact h3⟩)
      have hw2 : w2 211 = w 211 := by rw [e6 211 (by omega), e0 211 (by omega)]
      rw [e1, bs, e4, bk, e5.1.2.2.2.1, cutT_1 hV.1]
      refine ⟨.inl (w 211 1 - 1), w2, w 211 1 - 1, _, rfl, ?_, q1, q2, rfl⟩
      rw [m_areRoofs hx hy (by rw [hw2]; omega), bs, hw2, decide_eq_true c, if_pos rfl, m_wayB (by omega) (by rw [hw2]; exact b1) (by rw [hw2]; exact hww) hx hy, bs, hw2, gd_t (by omega), if_neg c2]
      unfold f_X11_cut_b28
      rw [show f_X11_may F 210 (bI true) 1 1 w2 = some (true, iset w2 210 6 0) from may2t, bk, if_pos rfl, e7, bs, m_wayB (by omega) (by rw [e8]; exact b1) (by rw [e8]; exact hww) hx hy, bs, e8, hg, bj]
  · rw [if_neg c]
    refine ⟨.inr eIO, w, 0, iset w 210 6 1, rfl, ?_, hI.thr 1, ?_⟩
    · rw [m_areRoofs hx hy (by omega), bs, decide_eq_false c, if_neg (by decide)]
      unfold f_X11_cut_b27 f_X11_cut_b28
      rw [show f_X11_may F 210 (bI false) 0 1 w = some (false, iset w 210 6 1) from may2g (b := false), bk]
      rfl
    · rw [thr_at]; exact ⟨by decide, by decide, by decide⟩
