/-! ===== the class: whistling, ticks ===== -/
theorem shr_bit {C : Nat} (hC : C < 1024) {x : Int} (x0 : 0 ≤ x) : andI (shr (C : Int) x) 1 = if C.testBit x.toNat = true then 1 else 0 := by
  have e : shr (C : Int) x = ((C / 2 ^ x.toNat : Nat) : Int) := by
    unfold shr
    rw [Int.natCast_ediv, Int.natCast_pow]
    rfl
  have h1 := Nat.div_le_self C (2 ^ x.toNat)
  rw [e, Nat.testBit_eq_decide_div_mod_eq]
  generalize C / 2 ^ x.toNat = D at h1
  rw [andI_1 (by omega)]
  by_cases c : D % 2 = 1
  · rw [if_pos (decide_eq_true c)]; omega
  · rw [if_neg (by simp only [decide_eq_true_iff]; exact c)]; omega
theorem or_bit {C : Nat} (hC : C < 1024) {a : Int} (ha : 0 ≤ a ∧ a < 10) : orI (C : Int) (shl 1 a) = ((C ||| 2 ^ a.toNat : Nat) : Int) ∧ (C ||| 2 ^ a.toNat) < 1024 := by
  have h2 : (2 : Nat) ^ a.toNat < 2 ^ 10 := Nat.pow_lt_pow_right (by decide) (by omega)
  have e : shl 1 a = ((2 ^ a.toNat : Nat) : Int) := by
    unfold shl
    rw [Int.one_mul, Int.natCast_pow]
    rfl
  rw [e]
  exact ⟨orI_nat (by omega) (by omega), Nat.or_lt_two_pow (n := 10) hC h2⟩
/-- a tune waits at the roof -/
def Wat (r : Row) (x : Int) (n : Int) : Prop := ∃ j, 0 ≤ j ∧ j < n ∧ r (220 + 27 * j + 3) = 0 ∧ r (220 + 27 * j + 4) = x
theorem c_crowd {F : Nat} {b : Nat} {w : aI} {r : Row} (hF : 100 ≤ F) (hP : Pb b) (h : Rep w b r) (hW : WF r) : ∃ C : Nat, f_X8_roofsWithTunes F b w = some (C : Int) ∧ C < 1024 ∧ ∀ x : Int, 0 ≤ x → x < 10 → (C.testBit x.toNat = true ↔ Wat r x (r 2)) := by
  obtain ⟨b0, b1, b2, b3, b4, b5, b6⟩ := hW.1
  have key : ∀ (n i C : Nat), (i : Int) ≤ r 2 → r 2 - i < n → C < 1024 → (∀ x : Int, 0 ≤ x → x < 10 → (C.testBit x.toNat = true ↔ Wat r x i)) → ∃ C2 : Nat, f_X8_roofsWithTunes_b4 F b w n C i = some (C2 : Int) ∧ C2 < 1024 ∧ ∀ x : Int, 0 ≤ x → x < 10 → (C2.testBit x.toNat = true ↔ Wat r x (r 2)) := by
    intro n
    induction n with
    | zero => intro i C i1 i2; omega
    | succ n ih =>
      intro i C i1 i2 hC hx
      show ∃ C2 : Nat, f_X8_roofsWithTunes_b4_b F b w (f_X8_roofsWithTunes_b4 F b w n) C i = _ ∧ _
      unfold f_X8_roofsWithTunes_b4_b
      rw [h.1.2.2.2.2, gd_t (by omega)]
      by_cases c : r 2 ≤ i
      · rw [if_pos c]
        have e : (i : Int) = r 2 := by omega
        rw [e] at hx
        exact ⟨C, rfl, hC, hx⟩
      · rw [if_neg c]
        have hi : 0 ≤ (i : Int) ∧ (i : Int) < r 2 := ⟨by omega, by omega⟩
        obtain ⟨y0, y1, y2, y3, y4, y5, y6, y7, y8, y9, y10, y11, y12, y13, y14, y15⟩ := hW.2.2.2.1 i hi.1 hi.2
        rw [pf6 hP, c_tune hP h b2 hi (by omega), bs, gd_t (by omega)]
        by_cases c1 : r (220 + 27 * (i : Int) + 3) = 0
        · obtain ⟨e1, e2⟩ := or_bit hC (a := r (220 + 27 * (i : Int) + 4)) (by omega)
          rw [if_pos c1, c_tune hP h b2 hi (by omega), bs, gd_t (by omega), lti, e1]
          refine ih (i + 1) _ (by omega) (by omega) e2 fun x x0 x1 => ?_
          rw [Nat.testBit_or, Nat.testBit_two_pow, Bool.or_eq_true, decide_eq_true_iff, hx x x0 x1]
          constructor
          · rintro (⟨j, j0, j1, j2⟩ | e)
            · exact ⟨j, j0, by omega, j2⟩
            · exact ⟨i, by omega, by omega, c1, by omega⟩
          · rintro ⟨j, j0, j1, j2, j3⟩
            by_cases cj : j = i
            · subst cj; right; omega
            · left; exact ⟨j, j0, by omega, j2, j3⟩
        · rw [if_neg c1]
          refine ih (i + 1) C (by omega) (by omega) hC fun x x0 x1 => ?_
          rw [hx x x0 x1]
          constructor
          · rintro ⟨j, j0, j1, j2⟩
            exact ⟨j, j0, by omega, j2⟩
          · rintro ⟨j, j0, j1, j2, j3⟩
            by_cases cj : j = i
            · subst cj; exact absurd j2 c1
            · exact ⟨j, j0, by omega, j2, j3⟩
  exact key F 0 0 (by omega) (by omega) (by decide) fun x x0 x1 => by
    rw [Nat.zero_testBit]
    constructor
    · intro e; cases e
    · rintro ⟨j, j0, j1, -⟩; omega
/-- roofs, one tune and the accounts are written -/
theorem Rep_wh {w w2 : aI} {b : Nat} {r q : Row} {i : Int} (h : Rep w b r) (h0 : r 0 ≤ 10) (h1 : 0 ≤ r 1 ∧ r 1 ≤ 20) (h2 : 0 ≤ r 2 ∧ r 2 ≤ 30) (hi : 0 ≤ i) (hw : ∀ a, b ≤ a → a < b + 18 → ¬ a = b + 2 → ¬ a = b + 6 → ¬ a = b + 10 → w2 a = w a)
    (hw6 : ∀ k, (k < 13 * i ∨ 13 * i + 13 ≤ k) → w2 (b + 6) k = w (b + 6) k) (hq : ∀ k, (k < 25 ∨ (160 ≤ k ∧ (k < 220 + 27 * i ∨ 220 + 27 * i + 27 ≤ k))) → (k < 10 ∨ 20 < k) → q k = r k) (hA : RepA w2 b q) (hT : RT w2 b q i)
    (hX : ∀ x, 0 ≤ x → x < r 0 → RX w2 b q x) (hL : ∀ x, 0 ≤ x → x < r 0 → w2 (b + 2) (8 * x + 6) = w (b + 2) (8 * x + 6)) : Rep w2 b q := by
  obtain ⟨⟨k1, k1a, k1b, k1c, k1d⟩, k2, k3, k4, k5, k6, k7⟩ := h
  have hS : SameW r q := ⟨hq 0 (by omega) (by omega), hq 1 (by omega) (by omega), fun k c d => hq k (by omega) (by omega)⟩
  have e2 := hq 2 (by omega) (by omega)
  have w0 := hw b (by omega) (by omega) (by omega) (by omega) (by omega)
  refine ⟨⟨?_, ?_⟩, ?_, hA, ⟨fun x x0 x1 => hX x x0 (by rw [← hS.1]; exact x1), ?_⟩, RepW_congr h1.2 hS (hw _ (by omega) (by omega) (by omega) (by omega) (by omega)) k5, ?_, RepR_congr h1 hS (hw _ (by omega) (by omega) (by omega) (by omega) (by omega)) (hw _ (by omega) (by omega) (by omega) (by omega) (by omega)) (hw _ (by omega) (by omega) (by omega) (by omega) (by omega)) k7⟩
  · unfold TOK at k1 ⊢
    rw [hw (b + 1) (by omega) (by omega) (by omega) (by omega) (by omega), hw (b + 3) (by omega) (by omega) (by omega) (by omega) (by omega), hw (b + 5) (by omega) (by omega) (by omega) (by omega) (by omega), hw (b + 7) (by omega) (by omega) (by omega) (by omega) (by omega), hw (b + 9) (by omega) (by omega) (by omega) (by omega) (by omega), hw (b + 12) (by omega) (by omega) (by omega) (by omega) (by omega), hw (b + 14) (by omega) (by omega) (by omega) (by omega) (by omega), hw (b + 16) (by omega) (by omega) (by omega) (by omega) (by omega)]
    exact k1
  · rw [w0, hq 3 (by omega) (by omega), hS.1, hS.2.1, e2]
    exact ⟨k1a, k1b, k1c, k1d⟩
  · unfold RepS
    rw [hw (b + 8) (by omega) (by omega) (by omega) (by omega) (by omega), hq 4 (by omega) (by omega), hq 5 (by omega) (by omega), hq 6 (by omega) (by omega)]
    exact k2
  · rw [hS.1, hq 7 (by omega) (by omega), ← k4.2]
    exact sm_congr fun x x0 x1 => hL x x0 (by omega)
  · intro j j0 j1
    rw [e2] at j1
    by_cases c : j = i
    · subst c; exact hT
    · exact RT_congr (fun k c d => hw6 k (by omega)) (fun k c d => hq k (by omega) (by omega)) (k6 j j0 j1)
theorem c_whistle {F : Nat} {b : Nat} {w : aI} {r : Row} {i x : Int} (hP : Pb b) (h : Rep w b r) (hW : WF r) (hc : CanW r i x) : ∃ w2, f_X8_whistle F b x i w = some w2 ∧ Rep w2 b (whT r i x) ∧ Fc b w w2 := by
  obtain ⟨n1, n2, -⟩ := hc.nx hW
  obtain ⟨b0, b1, b2, b3, b4, b5, b6⟩ := hW.1
  obtain ⟨h1, h2, h3, h4, h5, h6⟩ := hc
  obtain ⟨y0, y1, y2, y3, y4, y5, y6, y7, y8, y9, y10, y11, y12, y13, y14, y15⟩ := hW.2.2.2.1 i h1.1 h1.2
  obtain ⟨x0, x1, x2, x3, x4, x5, x6⟩ := hW.2.1 x h2.1 h2.2
  have hbr := breath_bd y3 x2
  have K0 := h.1.1
  have K1 : ∀ f, TOK (stc w (b + 2) f) b := fun f => K0.stc (by omega)
  have K2 : ∀ f g, TOK (stc (stc w (b + 2) f) (b + 10) g) b := fun f g => (K1 f).stc (by omega)
  have K3 : ∀ f g k, TOK (stc (stc (stc w (b + 2) f) (b + 10) g) (b + 2) k) b := fun f g k => (K2 f g).stc (by omega)
  have K4 : ∀ f g k l, TOK (stc (stc (stc (stc w (b + 2) f) (b + 10) g) (b + 2) k) (b + 6) l) b := fun f g k l => (K3 f g k).stc (by omega)
  obtain ⟨t0, t1, t2, t3, t4⟩ := h.2.2.2.2.2.1 i h1.1 h1.2
  have s0 := t0 0 (by omega) (by omega)
  rw [Int.add_zero, Int.add_zero] at s0
  have s1 := t0 1 (by omega) (by omega)
  have s2 := t0 2 (by omega) (by omega)
  have s4 := t0 4 (by omega) (by omega)
  obtain ⟨r0, r1, r2, r3, r4, r5, r7, r6⟩ := h.2.2.2.1.1 x h2.1 h2.2
  have hR := h.2.2.2.2.2.2
  have fee_eq : r (25 + 13 * x + 9) * bar r i = feeA r i x := rfl
  have hff := fee_bd (x := x) hW.1 hW.2.1 hW.2.2.2.1 h1 h2
  unfold f_X8_whistle
  rw [pf4 hP, pf6 hP, c_roof hP h b0.2 h2 (by omega), bs, c_bars hP h b2 h1 y3, bs, lti, show 25 + 13 * x + 7 + 2 = 25 + 13 * x + 9 by omega, fee_eq, getT hP K0 (by omega) (by omega), bs, Int.add_zero, s0]
  rw [growX hP K0 (by omega) (by omega), bs, growX hP (K1 _) (by omega) (by omega), bs, stc_stc, stc_eq, c_enter hP (K1 _) (by omega), bs, stc_ne (show ¬ b + 10 = b + 2 by omega)]
  unfold f_X2_nextOf
  rw [pf6 hP, getT hP (K2 _ _) (by omega) (by omega), bs, stc_ne (show ¬ b + 6 = b + 10 by omega), stc_ne (show ¬ b + 6 = b + 2 by omega), s4, getT hP (K2 _ _) (by omega) (by omega), bs, stc_ne (show ¬ b + 6 = b + 10 by omega), stc_ne (show ¬ b + 6 = b + 2 by omega), s1, h4, pf9 hP, pr2 hP, getN hP (K2 _ _) (by omega) (by omega), bs, bs, stc_ne (show ¬ b + 17 = b + 10 by omega), stc_ne (show ¬ b + 17 = b + 2 by omega), ((hR x (r (220 + 27 * i + 1)) h2.1 h2.2 y1.1 (by omega)).2 y1.2).2]
  rw [pr0 hP, getF hP (K2 _ _) (by omega) (by omega), bs, stc_ne (show ¬ b + 13 = b + 10 by omega), stc_ne (show ¬ b + 13 = b + 2 by omega), (hR x (nxt r x (r (220 + 27 * i + 1))) h2.1 h2.2 n1.1 (by omega)).1]
  unfold f_X8_breathsFor
  rw [pf4 hP, getX hP (K2 _ _) (by omega) (by omega), bs, stc_ne (show ¬ b + 2 = b + 10 by omega), stc_eq]
  simp (disch := omega) only [rs_ne, Int.add_zero, r0]
  rw [gd_t (by omega), lti, pf6 hP, getT hP (K2 _ _) (by omega) (by omega), bs, stc_ne (show ¬ b + 6 = b + 10 by omega), stc_ne (show ¬ b + 6 = b + 2 by omega), s2, show max 1 (r (25 + 13 * x + 7)) = r (25 + 13 * x + 7) by omega, gd_t (by omega), gd_t (by omega), td _ (by omega), bs, lti]
  rw [stc_ne (show ¬ b = b + 10 by omega), stc_ne (show ¬ b = b + 2 by omega), h.1.2.1]
  rw [putX hP (K2 _ _) (by omega) (by omega), bs, stc_ne (show ¬ b + 2 = b + 10 by omega), stc_eq, growX hP (K3 _ _ _) (by omega) (by omega), bs, stc_eq, stc_stc]
  rw [putT hP (K3 _ _ _) (by omega) (by omega), bs, putT hP (K4 _ _ _ _) (by omega) (by omega), bs, stc_stc, stc_eq, putT hP (K4 _ _ _ _) (by omega) (by omega), bs, stc_stc, stc_eq, putT hP (K4 _ _ _ _) (by omega) (by omega), bs, stc_stc, stc_eq, growT hP (K4 _ _ _ _) (by omega) (by omega), bs, stc_stc, stc_eq, c_enter hP (K4 _ _ _ _) (by omega), bs]
  rw [stc_ne (show ¬ b + 6 = b + 2 by omega), stc_ne (show ¬ b + 6 = b + 10 by omega), stc_ne (show ¬ b + 6 = b + 2 by omega), stc_ne (show ¬ b + 10 = b + 6 by omega), stc_ne (show ¬ b + 10 = b + 2 by omega), stc_eq]
  refine ⟨_, rfl, ?_, (((((Fc.refl b w).stc _ (by omega)).stc _ (by omega)).stc _ (by omega)).stc _ (by omega)).stc _ (by omega)⟩
  unfold whT pur
  generalize nxt r x (r (220 + 27 * i + 1)) = nx at n1 n2
  generalize farB r x nx = fr at n2
  generalize (r (220 + 27 * i + 2) + r (25 + 13 * x + 7) - 1) / r (25 + 13 * x + 7) = br at hbr
  generalize feeA r i x = fe at hff
  generalize r (220 + 27 * i) = s at y0 y2 s0
  refine Rep_wh h b0.2 b1 b2 h1.1 (fun a a0 a1 a2 a3 a4 => by rw [stc_ne a4, stc_ne a3, stc_ne a2, stc_ne a4, stc_ne a2]) (fun k hk => by rw [stc_ne (show ¬ b + 6 = b + 10 by omega), stc_eq]; simp (disch := omega) only [rs_ne]) (fun k hk1 hk2 => by simp (disch := omega) only [rs_ne]) ?_ ?_ ?_ ?_
  · intro k k0 k1
    rw [stc_eq]
    have hA := h.2.2.1
    by_cases c3 : k = 3
    · subst c3
      rw [rs_self, rs_ne (by omega), hA 3 (by omega) (by omega)]
      rw [show (10 : Int) + 3 = 13 from rfl]
      simp (disch := omega) only [rs_ne, rs_self]
    · by_cases c9 : k = 9
      · subst c9
        rw [rs_ne (by omega), rs_self, hA 9 (by omega) (by omega)]
        rw [show (10 : Int) + 9 = 19 from rfl, rs_self]
      · rw [rs_ne c3, rs_ne c9, hA k k0 k1]
        simp (disch := omega) only [rs_ne]
  · unfold RT
    rw [stc_ne (show ¬ b + 6 = b + 10 by omega), stc_eq]
    refine ⟨fun k k0 k1 => ?_, ?_, ?_, ?_, ?_⟩
    · by_cases c3 : k = 3
      · subst c3; simp (disch := omega) only [rs_ne, rs_self]
      · by_cases c4 : k = 4
        · subst c4; simp (disch := omega) only [rs_ne, rs_self]
        · by_cases c5 : k = 5
          · subst c5; simp (disch := omega) only [rs_ne, rs_self]
          · simp (disch := omega) only [rs_ne]
            exact t0 k k0 k1
    · simp (disch := omega) only [rs_ne]
      rw [t1]
      exact pk_congr fun j j0 j1 => by simp (disch := omega) only [rs_ne]
    · simp (disch := omega) only [rs_ne]
      rw [t2]
      exact pk_congr fun j j0 j1 => by simp (disch := omega) only [rs_ne]
    · simp (disch := omega) only [rs_ne, rs_self]
      rw [t3]
    · simp (disch := omega) only [rs_ne, rs_self]
  · intro y z0 z1
    obtain ⟨u0, u1, u2, u3, u4, u5, u7, u6⟩ := h.2.2.2.1.1 y z0 z1
    have us := (h.2.2.2.1.1 s y0.1 y0.2).2.2.2.1
    have hN : ∀ k, 25 + 13 * y ≤ k → k < 25 + 13 * y + 10 → rs (rs (rs (rs (rs (rs (rs (rs (rs (rs (rs r (25 + 13 * s + 10) (r (25 + 13 * s + 10) - fe)) (25 + 13 * x + 10) (rs r (25 + 13 * s + 10) (r (25 + 13 * s + 10) - fe) (25 + 13 * x + 10) + fe)) (25 + 13 * x + 11) (r 3 + br)) (25 + 13 * x + 12) (r (25 + 13 * x + 12) + 1)) (220 + 27 * i + 10) fr) (220 + 27 * i + 5) (r 3 + br + fr)) (220 + 27 * i + 4) nx) (220 + 27 * i + 3) 1) (220 + 27 * i + 9) (r (220 + 27 * i + 9) + 1)) 13 (r 13 + 1)) 19 (r 19 + fe) k = r k := fun k k0 k1 => by
      simp (disch := omega) only [rs_ne]
    unfold RX
    rw [stc_ne (show ¬ b + 2 = b + 10 by omega), stc_ne (show ¬ b + 2 = b + 6 by omega), stc_eq]
    rw [hN _ (by omega) (by omega), hN _ (by omega) (by omega), hN _ (by omega) (by omega)]
    refine ⟨?_, ?_, ?_, ?_, ?_, ?_, ?_, ?_⟩
    · simp (disch := omega) only [rs_ne]; exact u0
    · simp (disch := omega) only [rs_ne]; exact u1
    · simp (disch := omega) only [rs_ne]; exact u2
    · simp (disch := omega) only [rs_ne]
      have hp : rs (w (b + 2)) (8 * s + 3) (w (b + 2) (8 * s + 3) + -fe) (8 * y + 3) = rs r (25 + 13 * s + 10) (r (25 + 13 * s + 10) - fe) (25 + 13 * y + 10) := by
        by_cases c : y = s
        · subst c; rw [rs_self, rs_self, u3]; omega
        · rw [rs_ne (by omega), rs_ne (by omega), u3]
      by_cases c : y = x
      · subst c
        rw [rs_self, rs_self, hp]
      · rw [rs_ne (show ¬ 8 * y + 3 = 8 * x + 3 by omega), rs_ne (show ¬ 25 + 13 * y + 10 = 25 + 13 * x + 10 by omega), hp]
    · by_cases c : y = x
      · subst c
        simp (disch := omega) only [rs_ne, rs_self]
      · simp (disch := omega) only [rs_ne]
        exact u4
    · simp (disch := omega) only [rs_ne]
      rw [u5]
      unfold nmR
      rw [hN _ (by omega) (by omega)]
      exact nm_congr fun k k0 k1 => (hN _ (by omega) (by omega)).symm
    · by_cases c : y = x
      · subst c
        simp (disch := omega) only [rs_ne, rs_self]
        rw [u7]
      · simp (disch := omega) only [rs_ne]
        exact u7
    · simp (disch := omega) only [rs_ne]
      exact u6
  · intro y z0 z1
    rw [stc_ne (show ¬ b + 2 = b + 10 by omega), stc_ne (show ¬ b + 2 = b + 6 by omega), stc_eq]
    simp (disch := omega) only [rs_ne]
