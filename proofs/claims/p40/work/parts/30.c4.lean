/-! ===== the class: a new tune, a tune at its goal ===== -/
theorem newT_at {r : Row} {s g n rp wa : Int} {f : Int → Int} (h2 : 0 ≤ r 2) : newT r s g n f rp wa 2 = r 2 + 1 ∧ newT r s g n f rp wa 11 = r 11 + 1 ∧ newT r s g n f rp wa 12 = r 12 + rp ∧ newT r s g n f rp wa (220 + 27 * r 2) = s ∧ newT r s g n f rp wa (220 + 27 * r 2 + 1) = g ∧ newT r s g n f rp wa (220 + 27 * r 2 + 2) = n ∧ newT r s g n f rp wa (220 + 27 * r 2 + 3) = 0 ∧ newT r s g n f rp wa (220 + 27 * r 2 + 4) = s ∧ newT r s g n f rp wa (220 + 27 * r 2 + 5) = -1 ∧ newT r s g n f rp wa (220 + 27 * r 2 + 6) = rp ∧ newT r s g n f rp wa (220 + 27 * r 2 + 7) = wa ∧ (∀ k, 220 + 27 * r 2 + 8 ≤ k → k < 220 + 27 * r 2 + 11 → newT r s g n f rp wa k = 0) ∧
    (∀ j, 0 ≤ j → j < 8 → newT r s g n f rp wa (220 + 27 * r 2 + 11 + j) = (if j < n then f j else 0) ∧ newT r s g n f rp wa (220 + 27 * r 2 + 19 + j) = (if j < n then f j else 0)) := by
  refine ⟨?_, ?_, ?_, ?_, ?_, ?_, ?_, ?_, ?_, ?_, ?_, fun k k0 k1 => ?_, fun j j0 j1 => ⟨?_, ?_⟩⟩
  · unfold newT; simp (disch := omega) only [if_pos, if_neg, if_true]
  · unfold newT; simp (disch := omega) only [if_pos, if_neg, if_true]
  · unfold newT; simp (disch := omega) only [if_pos, if_neg, if_true]
  · unfold newT; simp (disch := omega) only [if_pos, if_neg, if_true]
  · unfold newT; simp (disch := omega) only [if_pos, if_neg, if_true]
  · unfold newT; simp (disch := omega) only [if_pos, if_neg, if_true]
  · unfold newT; simp (disch := omega) only [if_pos, if_neg, if_true]
  · unfold newT; simp (disch := omega) only [if_pos, if_neg, if_true]
  · unfold newT; simp (disch := omega) only [if_pos, if_neg, if_true]
  · unfold newT; simp (disch := omega) only [if_pos, if_neg, if_true]
  · unfold newT; simp (disch := omega) only [if_pos, if_neg, if_true]
  · unfold newT; simp (disch := omega) only [if_pos, if_neg, if_true]
  · unfold newT
    rw [if_pos (by omega), if_neg (by omega), if_neg (by omega), if_neg (by omega), if_neg (by omega), if_neg (by omega), if_neg (by omega), if_neg (by omega), if_neg (by omega), if_neg (by omega), if_pos (by omega), show 220 + 27 * r 2 + 11 + j - (220 + 27 * r 2 + 11) = j by omega]
  · unfold newT
    rw [if_pos (by omega), if_neg (by omega), if_neg (by omega), if_neg (by omega), if_neg (by omega), if_neg (by omega), if_neg (by omega), if_neg (by omega), if_neg (by omega), if_neg (by omega), if_neg (by omega), show 220 + 27 * r 2 + 19 + j - (220 + 27 * r 2 + 19) = j by omega]
theorem Rep_gen {w w2 : aI} {b : Nat} {r q : Row} (h : Rep w b r) (h0 : r 0 ≤ 10) (h1 : 0 ≤ r 1 ∧ r 1 ≤ 20) (hw : ∀ a, b < a → a < b + 18 → ¬ a = b + 6 → ¬ a = b + 10 → w2 a = w a) (hb : w2 b 0 = q 3 ∧ w2 b 1 = q 0 ∧ w2 b 2 = q 1 ∧ w2 b 3 = q 2)
    (hS : SameW r q) (hq : q 4 = r 4 ∧ q 5 = r 5 ∧ q 6 = r 6 ∧ q 7 = r 7) (hqx : ∀ k, 25 ≤ k → k < 160 → q k = r k) (hA : RepA w2 b q) (hT : RepT w2 b q) : Rep w2 b q := by
  obtain ⟨⟨k1, k1a, k1b, k1c, k1d⟩, k2, k3, k4, k5, k6, k7⟩ := h
  have w22 := hw (b + 2) (by omega) (by omega) (by omega) (by omega)
  refine ⟨⟨?_, hb⟩, ?_, hA, ?_, RepW_congr h1.2 hS (hw _ (by omega) (by omega) (by omega) (by omega)) k5, hT, RepR_congr h1 hS (hw _ (by omega) (by omega) (by omega) (by omega)) (hw _ (by omega) (by omega) (by omega) (by omega)) (hw _ (by omega) (by omega) (by omega) (by omega)) k7⟩
  · unfold TOK at k1 ⊢
    rw [hw (b + 1) (by omega) (by omega) (by omega) (by omega), hw (b + 3) (by omega) (by omega) (by omega) (by omega), hw (b + 5) (by omega) (by omega) (by omega) (by omega), hw (b + 7) (by omega) (by omega) (by omega) (by omega), hw (b + 9) (by omega) (by omega) (by omega) (by omega), hw (b + 12) (by omega) (by omega) (by omega) (by omega), hw (b + 14) (by omega) (by omega) (by omega) (by omega), hw (b + 16) (by omega) (by omega) (by omega) (by omega)]
    exact k1
  · unfold RepS
    rw [hw (b + 8) (by omega) (by omega) (by omega) (by omega), hq.1, hq.2.1, hq.2.2.1]
    exact k2
  · refine ⟨fun x x0 x1 => ?_, ?_⟩
    · rw [hS.1] at x1
      exact RX_congr (fun k _ _ => by rw [w22]) (fun k c d => hqx k (by omega) (by omega)) (k4.1 x x0 x1)
    · rw [w22, hS.1, hq.2.2.2]
      exact k4.2
theorem if01 {T : Type} {v : Int} {f : Int → T} (h : v = 0 ∨ v = 1) : (if v = 0 then f 0 else f 1) = f v := by
  rcases h with h | h <;> subst h <;> rfl
theorem c_addTune {F : Nat} {b : Nat} {w : aI} {r : Row} {s g n sent rp wa : Int} {f : Int → Int} (hP : Pb b) (h : Rep w b r) (h0 : r 0 ≤ 10) (h1 : 0 ≤ r 1 ∧ r 1 ≤ 20) (h2 : 0 ≤ r 2 ∧ r 2 < 30) (hrp : rp = 0 ∨ rp = 1) (hwa : wa = 0 ∨ wa = 1) (hs : sent = pk (fun j => if j < n then f j else 0)) :
    ∃ w2, f_X2_addTune F b s g n sent rp wa w = some (r 2, w2) ∧ Rep w2 b (rs (newT r s g n f rp wa) 12 (r 12)) ∧ Fc b w w2 := by
  have K0 := h.1.1
  have K1 : ∀ f, TOK (stc w (b + 6) f) b := fun f => K0.stc (by omega)
  have K2 : ∀ f f2, TOK (stc (stc w (b + 6) f) b f2) b := fun f f2 => (K1 f).stc (by omega)
  have e90 : ∀ z w1, f_X2_addTune_b90 F b s g n sent rp wa (r 2) z 6 (r 2) (b + 5) w1 = (f_X7_put F (b + 5) (r 2) 6 z w1).bind (fun w9 => f_X2_addTune_b111 F b s g n sent rp wa (r 2) wa 7 (r 2) (b + 5) w9) := fun z w1 => by
    unfold f_X2_addTune_b90
    rw [pf6 hP]
    congr 1
    funext w9
    rw [gd_t (by omega)]
    exact if01 (f := fun v => f_X2_addTune_b111 F b s g n sent rp wa (r 2) v 7 (r 2) (b + 5) w9) hwa
  unfold f_X2_addTune
  rw [lti, h.1.2.2.2.2, pf6 hP, putT hP K0 (by omega) (by omega), bs, putT hP (K1 _) (by omega) (by omega), bs, stc_stc, stc_eq, putT hP (K1 _) (by omega) (by omega), bs, stc_stc, stc_eq, putT hP (K1 _) (by omega) (by omega), bs, stc_stc, stc_eq, putT hP (K1 _) (by omega) (by omega), bs, stc_stc, stc_eq, putT hP (K1 _) (by omega) (by omega), bs, stc_stc, stc_eq, gd_t (by omega)]
  rw [if01 (f := fun v => f_X2_addTune_b90 F b s g n sent rp wa (r 2) v 6 (r 2) (b + 5) _) hrp, e90, putT hP (K1 _) (by omega) (by omega), bs, stc_stc, stc_eq]
  unfold f_X2_addTune_b111
  rw [pf6 hP, putT hP (K1 _) (by omega) (by omega), bs, stc_stc, stc_eq, putT hP (K1 _) (by omega) (by omega), bs, stc_stc, stc_eq, putT hP (K1 _) (by omega) (by omega), bs, stc_stc, stc_eq, putT hP (K1 _) (by omega) (by omega), bs, stc_stc, stc_eq, putT hP (K1 _) (by omega) (by omega), bs, stc_stc, stc_eq, putT hP (K1 _) (by omega) (by omega), bs, stc_stc, stc_eq, ltm, is_stc, stc_ne (show ¬ b = b + 6 by omega), c_enter hP (K2 _ _) (by omega), bs]
  rw [stc_ne (show ¬ b + 10 = b by omega), stc_ne (show ¬ b + 10 = b + 6 by omega)]
  refine ⟨_, rfl, ?_, (((Fc.refl b w).stc _ (by omega)).stc _ (by omega)).stc _ (by omega)⟩
  obtain ⟨t2, t11, t12, u0, u1, u2, u3, u4, u5, u6, u7, u8, uN⟩ := newT_at (r := r) (s := s) (g := g) (n := n) (rp := rp) (wa := wa) (f := f) h2.1
  have out : ∀ k, (k < 220 + 27 * r 2 ∨ 220 + 27 * r 2 + 27 ≤ k) → ¬ k = 2 → ¬ k = 11 → ¬ k = 12 → newT r s g n f rp wa k = r k := fun k => newT_out
  generalize newT r s g n f rp wa = q at *
  have o : ∀ k, (k < 220 + 27 * r 2 ∨ 220 + 27 * r 2 + 27 ≤ k) → ¬ k = 2 → ¬ k = 11 → rs q 12 (r 12) k = r k := fun k k0 k1 k2 => by
    by_cases c : k = 12
    · subst c; rw [rs_self]
    · rw [rs_ne c, out k k0 k1 k2 c]
  have oT : ∀ k, 13 ≤ k → rs q 12 (r 12) k = q k := fun k hk => rs_ne (by omega)
  have q2 : rs q 12 (r 12) 2 = r 2 + 1 := by rw [rs_ne (by omega), t2]
  have q11 : rs q 12 (r 12) 11 = r 11 + 1 := by rw [rs_ne (by omega), t11]
  generalize rs q 12 (r 12) = p at *
  obtain ⟨d0, d1, d2, d3⟩ := h.1.2
  refine Rep_gen h h0 h1 (fun a a0 a1 a2 a3 => by rw [stc_ne a3, stc_ne (by omega), stc_ne a2]) ?_ ⟨o 0 (by omega) (by omega) (by omega), o 1 (by omega) (by omega) (by omega), fun k k0 k1 => o k (by omega) (by omega) (by omega)⟩ ⟨o 4 (by omega) (by omega) (by omega), o 5 (by omega) (by omega) (by omega), o 6 (by omega) (by omega) (by omega), o 7 (by omega) (by omega) (by omega)⟩ (fun k k0 k1 => o k (by omega) (by omega) (by omega)) ?_ ?_
  · rw [stc_ne (show ¬ b = b + 10 by omega), stc_eq, rs_ne (by omega), rs_ne (by omega), rs_ne (by omega), rs_self, d0, d1, d2, d3, o 3 (by omega) (by omega) (by omega), o 0 (by omega) (by omega) (by omega), o 1 (by omega) (by omega) (by omega), q2]
    exact ⟨rfl, rfl, rfl, rfl⟩
  · intro k k0 k1
    rw [stc_eq]
    by_cases c : k = 1
    · subst c
      rw [rs_self, h.2.2.1 1 (by omega) (by omega)]
      exact q11.symm
    · rw [rs_ne c, h.2.2.1 k k0 k1, o _ (by omega) (by omega) (by omega)]
  · intro i i0 i1
    rw [q2] at i1
    by_cases c : i = r 2
    · subst c
      unfold RT
      rw [stc_ne (show ¬ b + 6 = b + 10 by omega), stc_ne (show ¬ b + 6 = b by omega), stc_eq]
      refine ⟨fun k k0 k1 => ?_, ?_, ?_, ?_, ?_⟩
      · rw [oT _ (by omega)]
        have hk : k = 0 ∨ k = 1 ∨ k = 2 ∨ k = 3 ∨ k = 4 ∨ k = 5 ∨ k = 6 ∨ k = 7 ∨ k = 8 := by omega
        rcases hk with e | e | e | e | e | e | e | e | e <;> subst e
        · simp (disch := omega) only [rs_ne, rs_self]
          rw [Int.add_zero, u0]
        · simp (disch := omega) only [rs_ne, rs_self]
          rw [u1]
        · simp (disch := omega) only [rs_ne, rs_self]
          rw [u2]
        · simp (disch := omega) only [rs_ne, rs_self]
          rw [u3]
        · simp (disch := omega) only [rs_ne, rs_self]
          rw [u4]
        · simp (disch := omega) only [rs_ne, rs_self]
          rw [u5]
        · simp (disch := omega) only [rs_ne, rs_self]
          rw [u6]
        · simp (disch := omega) only [rs_ne, rs_self]
          rw [u7]
        · simp (disch := omega) only [rs_ne, rs_self]
          rw [u8 _ (by omega) (by omega)]
      · simp (disch := omega) only [rs_ne, rs_self]
        rw [hs]
        exact pk_congr fun j j0 j1 => by rw [oT _ (by omega), (uN j j0 j1).1]
      · simp (disch := omega) only [rs_ne, rs_self]
        rw [hs]
        exact pk_congr fun j j0 j1 => by rw [oT _ (by omega), (uN j j0 j1).2]
      · simp (disch := omega) only [rs_ne, rs_self]
        rw [oT _ (by omega), u8 _ (by omega) (by omega)]
      · simp (disch := omega) only [rs_ne, rs_self]
        rw [oT _ (by omega), u8 _ (by omega) (by omega)]
    · refine RT_congr (w := w) (r := r) (fun k k0 k1 => ?_) (fun k k0 k1 => o k (by omega) (by omega) (by omega)) (h.2.2.2.2.2.1 i i0 (by omega))
      rw [stc_ne (show ¬ b + 6 = b + 10 by omega), stc_ne (show ¬ b + 6 = b by omega), stc_eq]
      simp (disch := omega) only [rs_ne]
