/-! ===== the class: all whistle; ticks go by ===== -/
theorem whT_st {r : Row} {i x j : Int} (hj : 0 ≤ j ∧ j < 30) (hs : 0 ≤ r (220 + 27 * i) ∧ r (220 + 27 * i) < 10) (hx : 0 ≤ x ∧ x < 10) : whT r i x (220 + 27 * j + 3) = (if j = i then 1 else r (220 + 27 * j + 3)) ∧ (¬ j = i → whT r i x (220 + 27 * j + 4) = r (220 + 27 * j + 4)) := by
  unfold whT
  constructor
  · by_cases c : j = i
    · subst c
      rw [if_pos rfl]
      simp (disch := omega) only [rs_ne, rs_self]
    · rw [if_neg c]
      simp (disch := omega) only [rs_ne]
  · intro c
    simp (disch := omega) only [rs_ne]
theorem wh_mono {r : Row} (hW : WF r) (hS : Sl r 0) : ∀ n : Nat, (n : Int) ≤ r 0 → ∀ j, 0 ≤ j → j < r 2 → itr whS r n (220 + 27 * j + 3) = 0 → r (220 + 27 * j + 3) = 0 ∧ itr whS r n (220 + 27 * j + 4) = r (220 + 27 * j + 4) := by
  intro n
  have b2 := hW.1.2.2.1
  have b0 := hW.1.1
  induction n with
  | zero => intro _ j j0 j1 h; exact ⟨h, rfl⟩
  | succ n ih =>
    intro hn j j0 j1 h
    obtain ⟨h1, h2, h3, h4, h5, h6⟩ := wh_inv hW hS n (by omega)
    have ih := ih (by omega) j j0 j1
    have e : itr whS r (n + 1) = whS n (itr whS r n) := rfl
    rw [e] at h ⊢
    generalize itr whS r n = q at *
    unfold whS at h ⊢
    split at h
    · rename_i c
      rw [if_pos c]
      exact ih h
    · rename_i c
      have c2 : ¬ firstG q n = -1 := fun z => c (Or.inr z)
      have hc := first_can h1 (x := n) ⟨by omega, by have := h3.1; omega⟩ c2
      have y0 := (h1.2.2.2.1 _ hc.1.1 hc.1.2).1
      have hq0 := h1.1.1
      obtain ⟨a1, a2⟩ := whT_st (r := q) (i := firstG q n) (x := n) (j := j) (by omega) (by omega) (by omega)
      rw [a1] at h
      split at h
      · omega
      · rename_i c3
        rw [if_neg c, a2 c3]
        exact ih h
theorem c_whistleAll {F : Nat} {b : Nat} {w : aI} {r : Row} (hF : 100 ≤ F) (hP : Pb b) (h : Rep w b r) (hW : WF r) (hS : Sl r 0) : ∃ w2, f_X8_whistleAll F b w = some w2 ∧ Rep w2 b (itr whS r (r 0).toNat) ∧ Fc b w w2 := by
  have b0 := hW.1.1
  have b2 := hW.1.2.2.1
  obtain ⟨C, hC, hC1, hCx⟩ := c_crowd (F := F) hF hP h hW
  have key : ∀ (n i : Nat) (w1 : aI), (i : Int) ≤ r 0 → r 0 - i < n → Rep w1 b (itr whS r i) → Fc b w w1 → ∃ w2, f_X8_whistleAll_b7 F b n (C : Int) i w1 = some w2 ∧ Rep w2 b (itr whS r (r 0).toNat) ∧ Fc b w w2 := by
    intro n
    induction n with
    | zero => intro i w1 i1 i2; omega
    | succ n ih =>
      intro i w1 i1 i2 e1 f1
      show ∃ w2, f_X8_whistleAll_b7_b F b (f_X8_whistleAll_b7 F b n) _ _ _ = _ ∧ _
      unfold f_X8_whistleAll_b7_b
      obtain ⟨h1, h2, h3, h4, h5, h6⟩ := wh_inv hW hS i i1
      have hm := wh_mono hW hS i i1
      rw [e1.1.2.2.1, h3.1, gd_t (by omega)]
      by_cases c : r 0 ≤ i
      · rw [if_pos c]
        have e : i = (r 0).toNat := by omega
        rw [← e]
        exact ⟨w1, rfl, e1, f1⟩
      · rw [if_neg c]
        have nx : ∀ w2 : aI, Rep w2 b (whS i (itr whS r i)) → Fc b w w2 → ∃ w3, f_X8_whistleAll_b7 F b n (C : Int) ((i : Int) + 1) w2 = some w3 ∧ Rep w3 b (itr whS r (r 0).toNat) ∧ Fc b w w3 := fun w2 g1 g2 => ih (i + 1) w2 (by omega) (by omega) g1 g2
        generalize itr whS r i = q at *
        have hx : 0 ≤ (i : Int) ∧ (i : Int) < q 0 := ⟨by omega, by have := h3.1; omega⟩
        obtain ⟨q0, q1, q2, q3, q4, q5, q6⟩ := h1.1
        obtain ⟨x0, x1, x2, x3, x4, x5, x6⟩ := h1.2.1 i hx.1 hx.2
        have hbit := shr_bit hC1 hx.1
        have hrg : rg (andI (shr (C : Int) i) 1) := by rw [hbit]; split <;> decide
        rw [gd_t (by omega), gd_t (by omega), gd_t hrg, hbit]
        by_cases cb : C.testBit (i : Int).toNat = true
        · rw [if_pos cb, if_pos rfl, e1.1.2.1, c_busy hP e1 q0.2 hx (by omega) (by omega), bs]
          by_cases c1 : busy q i (q 3) = true
          · rw [if_pos c1]
            exact nx w1 (by unfold whS; rw [if_pos (Or.inl c1)]; exact e1) f1
          · rw [if_neg c1, c_first hP e1 h1 hF hx, bs]
            have fr := firstG_ok q i (q 2).toNat
            rw [← firstG_eq] at fr
            rw [gd_t (by omega)]
            by_cases c2 : firstG q i = -1
            · rw [if_pos c2]
              exact nx w1 (by unfold whS; rw [if_pos (Or.inr c2)]; exact e1) f1
            · rw [if_neg c2]
              obtain ⟨w2, g1, g2, g3⟩ := c_whistle (F := F) hP e1 h1 (first_can h1 hx c2)
              rw [g1, bs]
              exact nx w2 (by unfold whS; rw [if_neg (fun z => z.elim c1 c2)]; exact g2) (f1.trans g3)
        · rw [if_neg cb, if_neg (by decide)]
          refine nx w1 ?_ f1
          have c2 : firstG q i = -1 := by
            by_cases c2 : firstG q i = -1
            · exact c2
            · exfalso
              obtain ⟨k1, k2, k3, k4, -⟩ := first_can h1 hx c2
              obtain ⟨m1, m2⟩ := hm _ k1.1 (by omega) k3
              exact cb ((hCx i hx.1 (by omega)).mpr ⟨firstG q i, k1.1, by omega, m1, by omega⟩)
          unfold whS
          rw [if_pos (Or.inr c2)]
          exact e1
  unfold f_X8_whistleAll
  rw [hC, bs]
  exact key F 0 w (by omega) (by omega) h (Fc.refl b w)
theorem c_tick {F : Nat} {b : Nat} {w : aI} {r : Row} (hF : 100 ≤ F) (hP : Pb b) (h : Rep w b r) (hW : WF r) (h3 : r 3 < 20000) (K : aI → Option aI) :
    ∃ w2, (ltM (iset w b 0 ((w b 0) + 1)) (fun w2 => (f_X2_enter F b 0 1 w2).bind (fun w3 => (f_X8_landAll F b w3).bind (fun w4 => gd (rg (w4 b 0)) ((f_X2_setting F b 9 w4).bind (fun r6 => gd (rg (Int.tmod (w4 b 0) 60) ∧ rg r6) (if r6 ≤ (Int.tmod (w4 b 0) 60) then ((f_X8_loseAll F b w4).bind (fun w8 => K w8)) else ((f_X8_whistleAll F b w4).bind (fun w9 => (f_X8_loseAll F b w9).bind (fun w10 => K w10)))))))))) = K w2 ∧ Rep w2 b (tickT r) ∧ Fc b w w2 := by
  obtain ⟨g1, g2⟩ := WF_time hW h3
  obtain ⟨b0, b1, b2, b3, b4, b5, b6⟩ := hW.1
  have K0 := h.1.1
  obtain ⟨d0, d1, d2, d3⟩ := h.1.2
  rw [ltm, is_stc, c_enter hP (K0.stc (by omega)) (by omega), bs, stc_ne (show ¬ b + 10 = b by omega), d0]
  have hr : Rep (stc (stc w b (rs (w b) 0 (r 3 + 1))) (b + 10) (rs (w (b + 10)) 0 (w (b + 10) 0 + 1))) b (rs (rs r 3 (r 3 + 1)) 10 (r 10 + 1)) := by
    have o : ∀ k, ¬ k = 3 → ¬ k = 10 → rs (rs r 3 (r 3 + 1)) 10 (r 10 + 1) k = r k := fun k k0 k1 => by rw [rs_ne k1, rs_ne k0]
    have o3 : rs (rs r 3 (r 3 + 1)) 10 (r 10 + 1) 3 = r 3 + 1 := by rw [rs_ne (by omega), rs_self]
    have o10 : rs (rs r 3 (r 3 + 1)) 10 (r 10 + 1) 10 = r 10 + 1 := rs_self _ _ _
    generalize rs (rs r 3 (r 3 + 1)) 10 (r 10 + 1) = q at o o3 o10
    refine Rep_gen h b0.2 b1 (fun a a0 a1 a2 a3 => by rw [stc_ne a3, stc_ne (by omega)]) ?_ ⟨o 0 (by omega) (by omega), o 1 (by omega) (by omega), fun k k0 k1 => o k (by omega) (by omega)⟩ ⟨o 4 (by omega) (by omega), o 5 (by omega) (by omega), o 6 (by omega) (by omega), o 7 (by omega) (by omega)⟩ (fun k k0 k1 => o k (by omega) (by omega)) (fun k k0 k1 => ?_) (fun j j0 j1 => ?_)
    · rw [stc_ne (show ¬ b = b + 10 by omega), stc_eq, rs_self, rs_ne (by omega), rs_ne (by omega), rs_ne (by omega), d1, d2, d3, o3, o 0 (by omega) (by omega), o 1 (by omega) (by omega), o 2 (by omega) (by omega)]
      exact ⟨rfl, rfl, rfl, rfl⟩
    · rw [stc_eq]
      by_cases c : k = 0
      · subst c
        rw [rs_self, h.2.2.1 0 (by omega) (by omega)]
        exact o10.symm
      · rw [rs_ne c, h.2.2.1 k k0 k1, o _ (by omega) (by omega)]
    · rw [o 2 (by omega) (by omega)] at j1
      exact RT_congr (fun k k0 k1 => by rw [stc_ne (show ¬ b + 6 = b + 10 by omega), stc_ne (show ¬ b + 6 = b by omega)]) (fun k k0 k1 => o k (by omega) (by omega)) (h.2.2.2.2.2.1 j j0 j1)
  have f0 : Fc b w (stc (stc w b (rs (w b) 0 (r 3 + 1))) (b + 10) (rs (w (b + 10)) 0 (w (b + 10) 0 + 1))) := ((Fc.refl b w).stc _ (by omega)).stc _ (by omega)
  generalize stc (stc w b (rs (w b) 0 (r 3 + 1))) (b + 10) (rs (w (b + 10)) 0 (w (b + 10) 0 + 1)) = w1 at hr f0
  unfold tickT
  generalize rs (rs r 3 (r 3 + 1)) 10 (r 10 + 1) = q at *
  obtain ⟨w2, a1, a2, a3⟩ := c_landAll (F := F) hF hP hr g1
  have c2 := g1.1.2.2.1
  obtain ⟨k1, k2⟩ := arr_inv g1 (q 2).toNat (by omega)
  rw [← arrT_eq] at k1 k2
  have k3 := k2.sl g1.1.1.2 g2
  rw [a1, bs]
  generalize arrT q = s at *
  obtain ⟨q0, q1, q2, q3, q4, q5, q6⟩ := k1.1
  rw [a2.1.2.1, c_set9 hP a2, bs, gd_t (by omega), tm 60 (by omega), gd_t (by omega), whAllT_eq]
  by_cases c : s 5 ≤ s 3 % 60
  · rw [if_pos c, if_neg (by omega)]
    obtain ⟨w3, l1, l2, l3⟩ := c_loseAll (F := F) hF hP a2 k1
    rw [l1, bs]
    exact ⟨w3, rfl, l2, (f0.trans a3).trans l3⟩
  · rw [if_neg c, if_pos (by omega)]
    obtain ⟨w3, l1, l2, l3⟩ := c_whistleAll (F := F) hF hP a2 k1 k3
    obtain ⟨u1, -⟩ := wh_inv k1 k3 (s 0).toNat (by omega)
    obtain ⟨w4, v1, v2, v3⟩ := c_loseAll (F := F) hF hP l2 u1
    rw [l1, bs, v1, bs]
    exact ⟨w4, rfl, v2, ((f0.trans a3).trans l3).trans v3⟩
theorem c_run {F : Nat} {b : Nat} {w : aI} {r : Row} {t : Int} (hF : 1000 ≤ F) (hP : Pb b) (h : Rep w b r) (hW : WF r) (ht : 0 ≤ t ∧ t ≤ 300) (h3 : r 3 + t ≤ 20000) : ∃ w2, f_X8_run F b t w = some w2 ∧ Rep w2 b (goT r t.toNat) ∧ Fc b w w2 := by
  have key : ∀ (n i : Nat) (w1 : aI), (i : Int) ≤ t → t - i < n → Rep w1 b (goT r i) → Fc b w w1 → ∃ w2, f_X8_run_b2 F b t n i w1 = some w2 ∧ Rep w2 b (goT r t.toNat) ∧ Fc b w w2 := by
    intro n
    induction n with
    | zero => intro i w1 i1 i2; omega
    | succ n ih =>
      intro i w1 i1 i2 e1 f1
      show ∃ w2, f_X8_run_b2_b F b t (f_X8_run_b2 F b t n) _ _ = _ ∧ _
      unfold f_X8_run_b2_b
      rw [gd_t (by omega)]
      by_cases c : t ≤ i
      · rw [if_pos c]
        have e : i = t.toNat := by omega
        rw [← e]
        exact ⟨w1, rfl, e1, f1⟩
      · rw [if_neg c]
        obtain ⟨k1, k2, -⟩ := goT_WF hW i (by omega)
        obtain ⟨w2, a1, a2, a3⟩ := c_tick (F := F) (by omega) hP e1 k1 (by omega) (fun w => f_X8_run_b2 F b t n ((i : Int) + 1) w)
        rw [a1]
        exact ih (i + 1) w2 (by omega) (by omega) a2 (f1.trans a3)
  exact key F 0 w (by omega) (by omega) h (Fc.refl b w)
