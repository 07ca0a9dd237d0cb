/-! ===== the class: a tune at its goal; all that come ===== -/
theorem cnt_zero {p : Int → Bool} : ∀ {n : Nat}, cnt p n = 0 → ∀ i : Int, 0 ≤ i → i < n → p i = false := by
  intro n
  induction n with
  | zero => intro _ i i0 i1; omega
  | succ n ih =>
    intro h i i0 i1
    rw [cnt] at h
    have a := cnt_le p n
    have b : 0 ≤ bI (p n) ∧ bI (p n) ≤ 1 := by cases p n <;> decide
    by_cases c : i = n
    · subst c
      cases e : p n with
      | false => rfl
      | true => rw [e] at h b; have : bI true = 1 := rfl; omega
    · exact ih (by omega) i i0 (by omega)
theorem cnt_all0 {p : Int → Bool} {n : Nat} (h : ∀ i : Int, 0 ≤ i → i < n → p i = false) : cnt p n = 0 := by
  rw [cnt_congr (q := fun _ => false) h]
  induction n with
  | zero => rfl
  | succ n ih => rw [cnt, ih fun i i0 i1 => h i i0 (by omega)]; rfl
/-- HEARD as SENT, in one number and note by note -/
theorem unl_pk {L : Row} {i : Int} (y3 : 1 ≤ L (220 + 27 * i + 2) ∧ L (220 + 27 * i + 2) ≤ 8) (y12 : ∀ k, 220 + 27 * i + 11 ≤ k → k < 220 + 27 * i + 27 → 0 ≤ L k ∧ L k ≤ 7) (y13 : ∀ k, L (220 + 27 * i + 2) ≤ k → k < 8 → L (220 + 27 * i + 11 + k) = 0 ∧ L (220 + 27 * i + 19 + k) = 0) :
    (pk (fun j => L (220 + 27 * i + 19 + j)) = pk (fun j => L (220 + 27 * i + 11 + j))) ↔ unl L i = 0 := by
  obtain ⟨h1, h2⟩ := tuneN7 y12
  constructor
  · intro e
    unfold unl
    refine cnt_all0 fun j j0 j1 => ?_
    have := pk_inj h2 h1 e (j := j) j0 (by omega)
    rw [this]
    simp
  · intro e
    refine pk_congr fun j j0 j1 => ?_
    by_cases c : j < L (220 + 27 * i + 2)
    · have := cnt_zero e j j0 (by omega)
      simp at this
      exact this.symm
    · have := y13 j (by omega) j1
      rw [this.1, this.2]
section Reach
variable {F : Nat} {b : Nat} {w : aI} {L : Row} {i : Int}
theorem c_done (hP : Pb b) (h : Rep w b L) (b0 : L 0 ≤ 10) (b1 : 0 ≤ L 1 ∧ L 1 ≤ 20) (b2 : 0 ≤ L 2 ∧ L 2 ≤ 30) (hi : 0 ≤ i ∧ i < L 2) {v : Int} (hv : v = if unl L i = 0 then 1 else 0) :
    ∃ w2, Rep w2 b (doneT L i) ∧ Fc b w w2 ∧ ∀ K : aI → Option aI, ((f_X7_put F (b + 5) i 3 2 w).bind (fun w5 => (f_X2_enter F b 5 1 w5).bind (fun w6 => if v = 0 then K w6 else (f_X2_enter F b 6 1 w6).bind K))) = K w2 := by
  have K0 := h.1.1
  have K1 : ∀ f, TOK (stc w (b + 6) f) b := fun f => K0.stc (by omega)
  have K2 : ∀ f f2, TOK (stc (stc w (b + 6) f) (b + 10) f2) b := fun f f2 => (K1 f).stc (by omega)
  have qn : ∀ k, ¬ k = 220 + 27 * i + 3 → ¬ k = 15 → ¬ k = 16 → doneT L i k = L k := fun k k0 k1 k2 => by
    unfold doneT
    rw [rs_ne k2, rs_ne k1, rs_ne k0]
  have q3 : doneT L i (220 + 27 * i + 3) = 2 := by unfold doneT; rw [rs_ne (by omega), rs_ne (by omega), rs_self]
  have q15 : doneT L i 15 = L 15 + 1 := by unfold doneT; rw [rs_ne (by omega), rs_self]
  have q16 : doneT L i 16 = L 16 + v := by unfold doneT; rw [rs_self, hv]
  generalize doneT L i = q at *
  obtain ⟨t0, t1, t2, t3, t4⟩ := h.2.2.2.2.2.1 i hi.1 hi.2
  have hRep : ∀ R, (∀ k, 0 ≤ k → k < 11 → R k = q (10 + k)) → Rep (stc (stc w (b + 6) (rs (w (b + 6)) (13 * i + 3) 2)) (b + 10) R) b q := fun R hR => by
    refine Rep_tune h b0 b1 b2 hi.1 (fun a a0 a1 a2 a3 => by rw [stc_ne a3, stc_ne a2]) (fun k hk => by rw [stc_ne (by omega), stc_eq, rs_ne (by omega)]) (fun k hk1 hk2 => qn k (by omega) (by omega) (by omega)) (fun k k0 k1 => by rw [stc_eq]; exact hR k k0 k1) ?_
    unfold RT
    rw [stc_ne (show ¬ b + 6 = b + 10 by omega), stc_eq]
    refine ⟨fun k k0 k1 => ?_, ?_, ?_, ?_, ?_⟩
    · by_cases c : k = 3
      · subst c; rw [rs_self, q3]
      · rw [rs_ne (by omega), t0 k k0 k1, qn _ (by omega) (by omega) (by omega)]
    · rw [rs_ne (by omega), t1]; exact pk_congr fun j j0 j1 => (qn _ (by omega) (by omega) (by omega)).symm
    · rw [rs_ne (by omega), t2]; exact pk_congr fun j j0 j1 => (qn _ (by omega) (by omega) (by omega)).symm
    · rw [rs_ne (by omega), t3, qn _ (by omega) (by omega) (by omega)]
    · rw [rs_ne (by omega), t4, qn _ (by omega) (by omega) (by omega)]
  have hA := h.2.2.1
  by_cases c : unl L i = 0
  · rw [if_pos c] at hv
    refine ⟨_, hRep (rs (rs (w (b + 10)) 5 (w (b + 10) 5 + 1)) 6 (rs (w (b + 10)) 5 (w (b + 10) 5 + 1) 6 + 1)) (fun k k0 k1 => ?_), ((Fc.refl b w).stc _ (by omega)).stc _ (by omega), fun K => ?_⟩
    · by_cases c6 : k = 6
      · subst c6
        rw [rs_self, rs_ne (by omega), hA 6 (by omega) (by omega)]
        show L 16 + 1 = q 16
        omega
      · rw [rs_ne c6]
        by_cases c5 : k = 5
        · subst c5
          rw [rs_self, hA 5 (by omega) (by omega)]
          exact q15.symm
        · rw [rs_ne c5, hA k k0 k1, qn _ (by omega) (by omega) (by omega)]
    · rw [putT hP K0 (by omega) (by omega), bs, c_enter hP (K1 _) (by omega), bs, if_neg (by omega), c_enter hP (K2 _ _) (by omega), bs, stc_stc, stc_eq, stc_ne (show ¬ b + 10 = b + 6 by omega)]
  · rw [if_neg c] at hv
    refine ⟨_, hRep (rs (w (b + 10)) 5 (w (b + 10) 5 + 1)) (fun k k0 k1 => ?_), ((Fc.refl b w).stc _ (by omega)).stc _ (by omega), fun K => ?_⟩
    · by_cases c5 : k = 5
      · subst c5
        rw [rs_self, hA 5 (by omega) (by omega)]
        exact q15.symm
      · rw [rs_ne c5, hA k k0 k1]
        by_cases c6 : k = 6
        · subst c6
          show L 16 = q 16
          omega
        · rw [qn _ (by omega) (by omega) (by omega)]
    · rw [putT hP K0 (by omega) (by omega), bs, c_enter hP (K1 _) (by omega), bs, if_pos (by omega), stc_ne (show ¬ b + 10 = b + 6 by omega)]
theorem c_reach (hF : 100 ≤ F) (hP : Pb b) (h : Rep w b L) (b0 : L 0 ≤ 10) (b1 : 0 ≤ L 1 ∧ L 1 ≤ 20) (b2 : 0 ≤ L 2 ∧ L 2 ≤ 30) (b6 : 0 ≤ L 6 ∧ L 6 ≤ 3) (hi : 0 ≤ i ∧ i < L 2) (y3 : 1 ≤ L (220 + 27 * i + 2) ∧ L (220 + 27 * i + 2) ≤ 8) (y7 : 0 ≤ L (220 + 27 * i + 7) ∧ L (220 + 27 * i + 7) ≤ 1) (y8 : 0 ≤ L (220 + 27 * i + 8) ∧ L (220 + 27 * i + 8) ≤ 3)
    (y12 : ∀ k, 220 + 27 * i + 11 ≤ k → k < 220 + 27 * i + 27 → 0 ≤ L k ∧ L k ≤ 7) (y13 : ∀ k, L (220 + 27 * i + 2) ≤ k → k < 8 → L (220 + 27 * i + 11 + k) = 0 ∧ L (220 + 27 * i + 19 + k) = 0) :
    ∃ w2, f_X8_reachGoal F b i w = some w2 ∧ Rep w2 b (goalT L i) ∧ Fc b w w2 := by
  obtain ⟨hN1, hN2⟩ := tuneN7 y12
  have hU := unl_pk y3 y12 y13
  have hub := unl_bd (r := L) (i := i) y3
  have p1 := pk_bd hN1
  have p2 := pk_bd hN2
  obtain ⟨v, hv⟩ : ∃ v : Int, v = if unl L i = 0 then 1 else 0 := ⟨_, rfl⟩
  have hv01 : v = 0 ∨ v = 1 := by rw [hv]; split <;> omega
  -- behind the arrival
  have k102 : (¬ (0 < unl L i ∧ L (220 + 27 * i + 8) < L 6)) → ∃ w2, f_X8_reachGoal_b102 F b i (pk (fun j => L (220 + 27 * i + 11 + j))) v w = some w2 ∧ Rep w2 b (goalT L i) ∧ Fc b w w2 := by
    intro hno
    unfold f_X8_reachGoal_b102 goalT
    rw [if_neg hno, pf6 hP]
    obtain ⟨w3, d1, d2, d3⟩ := c_done (F := F) hP h b0 b1 b2 hi hv
    have qn : ∀ k, ¬ k = 220 + 27 * i + 3 → ¬ k = 15 → ¬ k = 16 → doneT L i k = L k := fun k k0 k1 k2 => by
      unfold doneT
      rw [rs_ne k2, rs_ne k1, rs_ne k0]
    have eU : unl (doneT L i) i = unl L i := unl_congr (qn _ (by omega) (by omega) (by omega)) y3.2 fun k k0 k1 => qn k (by omega) (by omega) (by omega)
    by_cases c : unl L i = 0
    · rw [if_pos c] at hv
      subst hv
      have d4 := d3 (fun w8 => (f_X7_get F (b + 5) i 7 w8).bind (fun r9 => gd (rg r9) (if r9 = 1 then (gd (rg (w8 b 3)) (if 30 ≤ (w8 b 3) then (some w8) else ((f_X7_get F (b + 5) i 2 w8).bind (fun r12 => (f_X7_get F (b + 5) i 1 w8).bind (fun r13 => (f_X7_get F (b + 5) i 0 w8).bind (fun r14 => (f_X8_turned F (pk (fun j => L (220 + 27 * i + 11 + j))) r12 w8).bind (fun r15 => bJW (f_X2_addTune F b r13 r14 r12 r15 1 0 w8) (fun r16 w17 => (f_X2_enter F b 2 1 w17).bind (fun w18 => some w18))))))))) else (some w8))))
      have e4 : ∀ X Y : aI → Option aI, (f_X7_put F (b + 5) i 3 2 w).bind (fun w5 => (f_X2_enter F b 5 1 w5).bind (fun w6 => gd (rg 1) (if (1 : Int) = 0 then X w6 else Y w6))) = (f_X7_put F (b + 5) i 3 2 w).bind (fun w5 => (f_X2_enter F b 5 1 w5).bind (fun w6 => Y w6)) := fun X Y => by
        congr 1
      rw [e4]
      have d5 := d4
      simp only [show ¬ (1 : Int) = 0 by decide, if_false] at d5
      rw [d5]
      have D2 : doneT L i 2 = L 2 := qn 2 (by omega) (by omega) (by omega)
      have g7 := c_tune (F := F) hP d1 (i := i) (k := 7) (by rw [D2]; exact b2) (by rw [D2]; exact hi) (by omega)
      rw [qn _ (by omega) (by omega) (by omega)] at g7
      rw [g7, bs, gd_t (by omega), d1.1.2.2.2.2, D2, gd_t (by omega)]
      unfold replyT
      rw [eU, qn _ (by omega) (by omega) (by omega), D2]
      by_cases c7 : L (220 + 27 * i + 7) = 1
      · rw [if_pos c7]
        by_cases c30 : 30 ≤ L 2
        · rw [if_pos c30, if_pos (Or.inr (Or.inr (by omega)))]
          exact ⟨w3, rfl, d1, d2⟩
        · rw [if_neg c30, if_neg (by omega)]
          have g2 := c_tune (F := F) hP d1 (i := i) (k := 2) (by rw [D2]; exact b2) (by rw [D2]; exact hi) (by omega)
          have g1 := c_tune (F := F) hP d1 (i := i) (k := 1) (by rw [D2]; exact b2) (by rw [D2]; exact hi) (by omega)
          have g0 := c_tune (F := F) hP d1 (i := i) (k := 0) (by rw [D2]; exact b2) (by rw [D2]; exact hi) (by omega)
          rw [Int.add_zero] at g0
          rw [qn _ (by omega) (by omega) (by omega)] at g2 g1 g0
          rw [g2, bs, g1, bs, g0, bs, c_turned hF hN1 (by omega), bs, tka_pk y3]
          obtain ⟨w4, a1, a2, a3⟩ := c_addTune (F := F) (s := L (220 + 27 * i + 1)) (g := L (220 + 27 * i)) (n := L (220 + 27 * i + 2)) (rp := 1) (wa := 0) (sent := pk (fun j => if j < L (220 + 27 * i + 2) then L (220 + 27 * i + 11 + (L (220 + 27 * i + 2) - 1 - j)) else 0)) (f := fun j => L (220 + 27 * i + 11 + (L (220 + 27 * i + 2) - 1 - j))) hP d1 (by rw [qn 0 (by omega) (by omega) (by omega)]; exact b0) (by rw [qn 1 (by omega) (by omega) (by omega)]; exact b1) (by rw [D2]; omega) (Or.inr rfl) (Or.inl rfl) rfl
          rw [a1, bj, c_enter hP a2.1.1 (by omega), bs]
          refine ⟨_, rfl, ?_, (d2.trans a3).stc _ (by omega)⟩
          obtain ⟨n2, n11, n12, -⟩ := newT_at (r := doneT L i) (s := L (220 + 27 * i + 1)) (g := L (220 + 27 * i)) (n := L (220 + 27 * i + 2)) (rp := 1) (wa := 0) (f := fun j => L (220 + 27 * i + 11 + (L (220 + 27 * i + 2) - 1 - j))) (by rw [D2]; omega)
          have eN : newT (doneT L i) (doneT L i (220 + 27 * i + 1)) (doneT L i (220 + 27 * i)) (doneT L i (220 + 27 * i + 2)) (fun j => doneT L i (220 + 27 * i + 11 + doneT L i (220 + 27 * i + 2) - 1 - j)) 1 0 = newT (doneT L i) (L (220 + 27 * i + 1)) (L (220 + 27 * i)) (L (220 + 27 * i + 2)) (fun j => L (220 + 27 * i + 11 + (L (220 + 27 * i + 2) - 1 - j))) 1 0 := by
            rw [qn (220 + 27 * i + 1) (by omega) (by omega) (by omega), qn (220 + 27 * i) (by omega) (by omega) (by omega), qn (220 + 27 * i + 2) (by omega) (by omega) (by omega)]
            refine newT_congr fun j j0 j1 => ?_
            rw [qn _ (by omega) (by omega) (by omega)]
            exact congrArg L (by omega)
          rw [eN]
          have f0 := newT_out (r := doneT L i) (s := L (220 + 27 * i + 1)) (g := L (220 + 27 * i)) (n := L (220 + 27 * i + 2)) (rp := 1) (wa := 0) (f := fun j => L (220 + 27 * i + 11 + (L (220 + 27 * i + 2) - 1 - j))) (k := 0) (by rw [D2]; omega) (by omega) (by omega) (by omega)
          have f1 := newT_out (r := doneT L i) (s := L (220 + 27 * i + 1)) (g := L (220 + 27 * i)) (n := L (220 + 27 * i + 2)) (rp := 1) (wa := 0) (f := fun j => L (220 + 27 * i + 11 + (L (220 + 27 * i + 2) - 1 - j))) (k := 1) (by rw [D2]; omega) (by omega) (by omega) (by omega)
          generalize newT (doneT L i) (L (220 + 27 * i + 1)) (L (220 + 27 * i)) (L (220 + 27 * i + 2)) (fun j => L (220 + 27 * i + 11 + (L (220 + 27 * i + 2) - 1 - j))) 1 0 = Q at *
          rw [qn 0 (by omega) (by omega) (by omega)] at f0
          rw [qn 1 (by omega) (by omega) (by omega)] at f1
          have hA := a2.2.2.1
          refine Rep_gen a2 (by rw [rs_ne (by omega), f0]; exact b0) (by rw [rs_ne (by omega), f1]; exact b1) (fun a a0 a1 a2 a3 => by rw [stc_ne a3]) ?_ ⟨(rs_ne (by omega)).symm, (rs_ne (by omega)).symm, fun k k0 k1 => (rs_ne (by omega)).symm⟩ ⟨(rs_ne (by omega)).symm, (rs_ne (by omega)).symm, (rs_ne (by omega)).symm, (rs_ne (by omega)).symm⟩ (fun k k0 k1 => (rs_ne (by omega)).symm) ?_ ?_
          · rw [stc_ne (show ¬ b = b + 10 by omega)]
            have z := a2.1.2
            rw [rs_ne (by omega), rs_ne (by omega), rs_ne (by omega), rs_ne (by omega)] at z
            exact z
          · intro k k0 k1
            rw [stc_eq]
            by_cases c2 : k = 2
            · subst c2
              rw [rs_self, hA 2 (by omega) (by omega)]
              show rs Q 12 (doneT L i 12) 12 + 1 = Q 12
              rw [rs_self, n12]
            · rw [rs_ne c2, hA k k0 k1, rs_ne (by omega)]
          · intro j j0 j1
            refine RT_congr (fun k k0 k1 => by rw [stc_ne (show ¬ b + 6 = b + 10 by omega)]) (fun k k0 k1 => (rs_ne (by omega)).symm) (a2.2.2.2.2.2.1 j j0 (by rw [rs_ne (by omega)]; exact j1))
      · rw [if_neg c7, if_pos (Or.inl (by omega))]
        exact ⟨w3, rfl, d1, d2⟩
    · rw [if_neg c] at hv
      subst hv
      have d4 := d3 some
      simp only [if_true] at d4
      have e4 : ∀ X Y : aI → Option aI, (f_X7_put F (b + 5) i 3 2 w).bind (fun w5 => (f_X2_enter F b 5 1 w5).bind (fun w6 => gd (rg 0) (if (0 : Int) = 0 then X w6 else Y w6))) = (f_X7_put F (b + 5) i 3 2 w).bind (fun w5 => (f_X2_enter F b 5 1 w5).bind (fun w6 => X w6)) := fun X Y => by
        congr 1
      rw [e4, d4]
      refine ⟨w3, rfl, ?_, d2⟩
      unfold replyT
      rw [eU, if_pos (Or.inr (Or.inl (by omega)))]
      exact d1
  unfold f_X8_reachGoal
  rw [pf6 hP, c_tune9 hP h b2 hi, bs, c_tune10 hP h b2 hi, bs, gd_t (by omega)]
  by_cases c : unl L i = 0
  · rw [if_pos (hU.mpr c)]
    unfold f_X8_reachGoal_b30
    rw [gd_t (by decide), if_neg (by decide)]
    rw [if_pos c] at hv
    subst hv
    exact k102 (by omega)
  · rw [if_neg (fun z => c (hU.mp z))]
    unfold f_X8_reachGoal_b30
    rw [gd_t (by decide), if_pos rfl, pf6 hP, c_tune hP h b2 hi (by omega), bs, c_set10 hP h, bs, gd_t (by omega)]
    rw [if_neg c] at hv
    subst hv
    by_cases c2 : L 6 ≤ L (220 + 27 * i + 8)
    · rw [if_pos c2]
      exact k102 (by omega)
    · rw [if_neg c2]
      have K0 := h.1.1
      have K1 : ∀ f, TOK (stc w (b + 6) f) b := fun f => K0.stc (by omega)
      unfold goalT
      rw [if_pos (by omega)]
      obtain ⟨t0, t1, t2, t3, t4⟩ := h.2.2.2.2.2.1 i hi.1 hi.2
      have s0 := t0 0 (by omega) (by omega)
      rw [Int.add_zero, Int.add_zero] at s0
      have s8 := t0 8 (by omega) (by omega)
      rw [growT hP K0 (by omega) (by omega), bs, putT hP (K1 _) (by omega) (by omega), bs, stc_stc, stc_eq, getT hP (K1 _) (by omega) (by omega), bs, stc_eq, rs_ne (by omega), rs_ne (by omega), Int.add_zero, s0, putT hP (K1 _) (by omega) (by omega), bs, stc_stc, stc_eq, c_enter hP (K1 _) (by omega), bs, stc_ne (show ¬ b + 10 = b + 6 by omega)]
      refine ⟨_, rfl, ?_, ((Fc.refl b w).stc _ (by omega)).stc _ (by omega)⟩
      have qn : ∀ k, (k < 220 + 27 * i + 19 ∨ 220 + 27 * i + 27 ≤ k) → ¬ k = 220 + 27 * i + 8 → ¬ k = 220 + 27 * i + 4 → ¬ k = 17 → backT L i k = L k := fun k k0 k1 k2 k3 => by
        unfold backT hearT
        rw [rs_ne k3, rs_ne k2, if_neg (by omega), rs_ne k1]
      have q4 : backT L i (220 + 27 * i + 4) = L (220 + 27 * i) := by unfold backT; rw [rs_ne (by omega), rs_self]
      have q8 : backT L i (220 + 27 * i + 8) = L (220 + 27 * i + 8) + 1 := by unfold backT hearT; rw [rs_ne (by omega), rs_ne (by omega), if_neg (by omega), rs_self]
      have q17 : backT L i 17 = L 17 + 1 := by unfold backT; rw [rs_self]
      have qH : ∀ k, 220 + 27 * i + 19 ≤ k → k < 220 + 27 * i + 27 → backT L i k = L (k - 8) := fun k k0 k1 => by
        unfold backT hearT
        rw [rs_ne (by omega), rs_ne (by omega), if_pos (by omega), rs_ne (by omega)]
      generalize backT L i = q at qn q4 q8 qH q17
      refine Rep_tune h b0 b1 b2 hi.1 (fun a a0 a1 a2 a3 => by rw [stc_ne a3, stc_ne a2]) (fun k hk => by rw [stc_ne (by omega), stc_eq]; simp (disch := omega) only [rs_ne]) (fun k hk1 hk2 => qn k (by omega) (by omega) (by omega) (by omega)) ?_ ?_
      · intro k k0 k1
        rw [stc_eq]
        by_cases c7 : k = 7
        · subst c7
          rw [rs_self, h.2.2.1 7 (by omega) (by omega)]
          exact q17.symm
        · rw [rs_ne c7, h.2.2.1 k k0 k1, qn _ (by omega) (by omega) (by omega) (by omega)]
      · unfold RT
        rw [stc_ne (show ¬ b + 6 = b + 10 by omega), stc_eq]
        refine ⟨fun k k0 k1 => ?_, ?_, ?_, ?_, ?_⟩
        · by_cases c4 : k = 4
          · subst c4
            rw [rs_self, q4]
          · by_cases c8 : k = 8
            · subst c8
              rw [rs_ne (by omega), rs_ne (by omega), rs_self, s8, q8]
            · rw [rs_ne (by omega), rs_ne (by omega), rs_ne (by omega), t0 k k0 k1, qn _ (by omega) (by omega) (by omega) (by omega)]
        · rw [rs_ne (by omega), rs_ne (by omega), rs_ne (by omega), t1]
          exact pk_congr fun j j0 j1 => (qn _ (by omega) (by omega) (by omega) (by omega)).symm
        · rw [rs_ne (by omega), rs_self]
          refine pk_congr fun j j0 j1 => ?_
          rw [qH _ (by omega) (by omega)]
          exact congrArg L (by omega)
        · rw [rs_ne (by omega), rs_ne (by omega), rs_ne (by omega), t3, qn _ (by omega) (by omega) (by omega) (by omega)]
        · rw [rs_ne (by omega), rs_ne (by omega), rs_ne (by omega), t4, qn _ (by omega) (by omega) (by omega) (by omega)]
end Reach
