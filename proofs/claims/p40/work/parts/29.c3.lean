/-! ===== the class: a tune comes ===== -/
def Fc (b : Nat) (w w2 : aI) : Prop := ∀ a, (a < b ∨ b + 18 ≤ a) → w2 a = w a
theorem Fc.refl (b : Nat) (w : aI) : Fc b w w := fun _ _ => rfl
theorem Fc.trans {b : Nat} {w w2 w3 : aI} (h : Fc b w w2) (k : Fc b w2 w3) : Fc b w w3 := fun a ha => (k a ha).trans (h a ha)
theorem Fc.stc {b : Nat} {w w2 : aI} (h : Fc b w w2) {a : Nat} (f : Int → Int) (ha : b ≤ a ∧ a < b + 18) : Fc b w (stc w2 a f) := fun c hc => by
  rw [stc_ne (by omega)]; exact h c hc
theorem nm_congr {l : Int} {f f2 : Int → Int} (h : ∀ k, 0 ≤ k → k < 6 → f k = f2 k) : nm l f = nm l f2 := by
  unfold nm
  rw [h 0 (by decide) (by decide), h 1 (by decide) (by decide), h 2 (by decide) (by decide), h 3 (by decide) (by decide), h 4 (by decide) (by decide), h 5 (by decide) (by decide)]
theorem RX_congr {w w2 : aI} {b : Nat} {r q : Row} {x : Int} (hw : ∀ k, 8 * x ≤ k → k < 8 * x + 8 → w2 (b + 2) k = w (b + 2) k) (h : ∀ k, 25 + 13 * x ≤ k → k < 25 + 13 * x + 13 → q k = r k) (k : RX w b r x) : RX w2 b q x := by
  obtain ⟨a0, a1, a2, a3, a4, a5, a6, a7⟩ := k
  have e : nmR q x = nmR r x := by
    unfold nmR
    rw [h (25 + 13 * x) (by omega) (by omega)]
    exact nm_congr fun k k0 k1 => h _ (by omega) (by omega)
  unfold RX
  rw [hw (8 * x) (by omega) (by omega), hw (8 * x + 1) (by omega) (by omega), hw (8 * x + 2) (by omega) (by omega), hw (8 * x + 3) (by omega) (by omega), hw (8 * x + 4) (by omega) (by omega), hw (8 * x + 5) (by omega) (by omega), hw (8 * x + 6) (by omega) (by omega), hw (8 * x + 7) (by omega) (by omega), e,
    h (25 + 13 * x + 7) (by omega) (by omega), h (25 + 13 * x + 8) (by omega) (by omega), h (25 + 13 * x + 9) (by omega) (by omega), h (25 + 13 * x + 10) (by omega) (by omega), h (25 + 13 * x + 11) (by omega) (by omega), h (25 + 13 * x + 12) (by omega) (by omega)]
  exact ⟨a0, a1, a2, a3, a4, a5, a6, a7⟩
theorem RT_congr {w w2 : aI} {b : Nat} {r q : Row} {i : Int} (hw : ∀ k, 13 * i ≤ k → k < 13 * i + 13 → w2 (b + 6) k = w (b + 6) k) (h : ∀ k, 220 + 27 * i ≤ k → k < 220 + 27 * i + 27 → q k = r k) (k : RT w b r i) : RT w2 b q i := by
  obtain ⟨a0, a1, a2, a3, a4⟩ := k
  refine ⟨fun k k0 k1 => by rw [hw _ (by omega) (by omega), h _ (by omega) (by omega)]; exact a0 k k0 k1, ?_, ?_, ?_, ?_⟩
  · rw [hw _ (by omega) (by omega), a1]
    exact pk_congr fun j j0 j1 => (h _ (by omega) (by omega)).symm
  · rw [hw _ (by omega) (by omega), a2]
    exact pk_congr fun j j0 j1 => (h _ (by omega) (by omega)).symm
  · rw [hw _ (by omega) (by omega), h _ (by omega) (by omega)]; exact a3
  · rw [hw _ (by omega) (by omega), h _ (by omega) (by omega)]; exact a4
theorem RepR_congr {w w2 : aI} {b : Nat} {r q : Row} (h1 : 0 ≤ r 1 ∧ r 1 ≤ 20) (hS : SameW r q) (h13 : w2 (b + 13) = w (b + 13)) (h15 : w2 (b + 15) = w (b + 15)) (h17 : w2 (b + 17) = w (b + 17)) (k : RepR w b r) : RepR w2 b q := by
  intro x y x0 x1 y0 y1
  rw [h13, h15, h17, hS.fE h1, hS.dE h1.2, hS.nE h1, hS.1]
  rw [hS.1] at x1
  exact k x y x0 x1 y0 y1
theorem RepW_congr {w w2 : aI} {b : Nat} {r q : Row} (h1 : r 1 ≤ 20) (hS : SameW r q) (h4 : w2 (b + 4) = w (b + 4)) (k : RepW w b r) : RepW w2 b q := by
  intro i i0 i1
  rw [hS.2.1] at i1
  rw [h4, hS.2.2 (160 + 3 * i) (by omega) (by omega), hS.2.2 (160 + 3 * i + 1) (by omega) (by omega), hS.2.2 (160 + 3 * i + 2) (by omega) (by omega)]
  exact k i i0 i1
/-- one tune and the accounts are written -/
theorem Rep_tune {w w2 : aI} {b : Nat} {r q : Row} {i : Int} (h : Rep w b r) (h0 : r 0 ≤ 10) (h1 : 0 ≤ r 1 ∧ r 1 ≤ 20) (h2 : 0 ≤ r 2 ∧ r 2 ≤ 30) (hi : 0 ≤ i) (hw : ∀ a, b ≤ a → a < b + 18 → ¬ a = b + 6 → ¬ a = b + 10 → w2 a = w a)
    (hw6 : ∀ k, (k < 13 * i ∨ 13 * i + 13 ≤ k) → w2 (b + 6) k = w (b + 6) k) (hq : ∀ k, (k < 220 + 27 * i ∨ 220 + 27 * i + 27 ≤ k) → (k < 10 ∨ 20 < k) → q k = r k) (hA : RepA w2 b q) (hT : RT w2 b q i) : Rep w2 b q := by
  obtain ⟨⟨k1, k1a, k1b, k1c, k1d⟩, k2, k3, k4, k5, k6, k7⟩ := h
  have hS : SameW r q := ⟨hq 0 (by omega) (by omega), hq 1 (by omega) (by omega), fun k c d => hq k (by omega) (by omega)⟩
  have e2 := hq 2 (by omega) (by omega)
  have w0 := hw b (by omega) (by omega) (by omega) (by omega)
  have w22 := hw (b + 2) (by omega) (by omega) (by omega) (by omega)
  refine ⟨⟨?_, ?_⟩, ?_, hA, ?_, RepW_congr h1.2 hS (hw _ (by omega) (by omega) (by omega) (by omega)) k5, ?_, RepR_congr h1 hS (hw _ (by omega) (by omega) (by omega) (by omega)) (hw _ (by omega) (by omega) (by omega) (by omega)) (hw _ (by omega) (by omega) (by omega) (by omega)) k7⟩
  · unfold TOK at k1 ⊢
    rw [hw (b + 1) (by omega) (by omega) (by omega) (by omega), hw (b + 3) (by omega) (by omega) (by omega) (by omega), hw (b + 5) (by omega) (by omega) (by omega) (by omega), hw (b + 7) (by omega) (by omega) (by omega) (by omega), hw (b + 9) (by omega) (by omega) (by omega) (by omega), hw (b + 12) (by omega) (by omega) (by omega) (by omega), hw (b + 14) (by omega) (by omega) (by omega) (by omega), hw (b + 16) (by omega) (by omega) (by omega) (by omega)]
    exact k1
  · rw [w0, hq 3 (by omega) (by omega), hS.1, hS.2.1, e2]
    exact ⟨k1a, k1b, k1c, k1d⟩
  · unfold RepS
    rw [hw (b + 8) (by omega) (by omega) (by omega) (by omega), hq 4 (by omega) (by omega), hq 5 (by omega) (by omega), hq 6 (by omega) (by omega)]
    exact k2
  · refine ⟨fun x x0 x1 => ?_, ?_⟩
    · rw [hS.1] at x1
      exact RX_congr (fun k _ _ => by rw [w22]) (fun k c d => hq k (by omega) (by omega)) (k4.1 x x0 x1)
    · rw [w22, hS.1, hq 7 (by omega) (by omega)]
      exact k4.2
  · intro j j0 j1
    rw [e2] at j1
    by_cases c : j = i
    · subst c; exact hT
    · exact RT_congr (fun k c d => hw6 k (by omega)) (fun k c d => hq k (by omega) (by omega)) (k6 j j0 j1)
theorem tuneN7 {r : Row} {i : Int} (h : ∀ k, 220 + 27 * i + 11 ≤ k → k < 220 + 27 * i + 27 → 0 ≤ r k ∧ r k ≤ 7) : N7 (fun j => r (220 + 27 * i + 11 + j)) ∧ N7 (fun j => r (220 + 27 * i + 19 + j)) :=
  ⟨fun j j0 j1 => h _ (by omega) (by omega), fun j j0 j1 => h _ (by omega) (by omega)⟩
theorem c_land {F : Nat} {b : Nat} {w : aI} {r : Row} {i : Int} (hF : 100 ≤ F) (hP : Pb b) (h : Rep w b r) (hW : WF r) (hi : 0 ≤ i ∧ i < r 2) : ∃ w2, f_X8_land F b i w = some w2 ∧ Rep w2 b (landT r i) ∧ Fc b w w2 := by
  obtain ⟨b0, b1, b2, b3, b4, b5, b6⟩ := hW.1
  obtain ⟨y0, y1, y2, y3, y4, y5, y6, y7, y8, y9, y10, y11, y12, y13, y14, y15⟩ := hW.2.2.2.1 i hi.1 hi.2
  have he := (hW.2.1 _ y5.1 y5.2).2.2.2.1
  have hwr := wrg_bd (r := r) (wind := r 4) (far := r (220 + 27 * i + 10)) (x := r (220 + 27 * i + 4)) (n := r (220 + 27 * i + 2)) (by omega)
  obtain ⟨hN1, hN2⟩ := tuneN7 y12
  generalize hWr : wrg r (r 4) (r (220 + 27 * i + 10)) (r (220 + 27 * i + 4)) (r (220 + 27 * i + 2)) = W at hwr
  generalize hN : r (220 + 27 * i + 2) = N at y3 hwr hWr
  have hv7 : ∀ v, N7 (fun j => if j < N ∧ (j - i) % N < v then (r (220 + 27 * i + 19 + j) + 1) % 8 else r (220 + 27 * i + 19 + j)) := fun v j j0 j1 => by
    have := hN2 j j0 j1
    dsimp only at this ⊢
    split <;> omega
  have fin : ∃ w2, f_X8_land_b85 F b i W (pk (fun j => if j < N ∧ (j - i) % N < W then (r (220 + 27 * i + 19 + j) + 1) % 8 else r (220 + 27 * i + 19 + j))) w = some w2 ∧ Rep w2 b (landT r i) ∧ Fc b w w2 := by
    unfold f_X8_land_b85
    have K0 := h.1.1
    have K1 : ∀ f, TOK (stc w (b + 6) f) b := fun f => K0.stc (by omega)
    rw [pf6 hP, putT hP K0 (by omega) (by omega), bs, putT hP (K1 _) (by omega) (by omega), bs, stc_stc, putT hP (K1 _) (by omega) (by omega), bs, stc_stc, c_enter hP (K1 _) (by omega), bs]
    rw [stc_eq, stc_eq, stc_ne (show ¬ b + 10 = b + 6 by omega)]
    refine ⟨_, rfl, ?_, ((Fc.refl b w).stc _ (by omega)).stc _ (by omega)⟩
    have ln : ∀ k, (k < 220 + 27 * i + 19 ∨ 220 + 27 * i + 27 ≤ k) → ¬ k = 14 → ¬ k = 220 + 27 * i + 5 → ¬ k = 220 + 27 * i + 3 → landT r i k = r k := fun k hk h14 h5 h3 => by
      unfold landT
      rw [rs_ne h3, rs_ne h5, blurT_ne (by omega) h14]
    refine Rep_tune h b0.2 b1 b2 hi.1 (fun a a0 a1 a2 a3 => by rw [stc_ne a3, stc_ne a2]) (fun k hk => by rw [stc_ne (by omega), stc_eq, rs_ne (by omega), rs_ne (by omega), rs_ne (by omega)]) (fun k hk1 hk2 => ln k (by omega) (by omega) (by omega) (by omega)) ?_ ?_
    · intro k k0 k1
      rw [stc_eq]
      have hk := h.2.2.1 k k0 k1
      by_cases c : k = 4
      · subst c
        rw [rs_self, h.2.2.1 4 (by omega) (by omega)]
        unfold landT blurT
        rw [rs_ne (by omega), rs_ne (by omega), if_neg (by omega), if_pos (by omega), hN, hWr]
        rfl
      · rw [rs_ne c, hk, ln _ (by omega) (by omega) (by omega) (by omega)]
    · obtain ⟨t0, t1, t2, t3, t4⟩ := h.2.2.2.2.2.1 i hi.1 hi.2
      unfold RT
      rw [stc_ne (show ¬ b + 6 = b + 10 by omega), stc_eq]
      refine ⟨fun k k0 k1 => ?_, ?_, ?_, ?_, ?_⟩
      · by_cases c3 : k = 3
        · subst c3
          rw [rs_ne (by omega), rs_self]
          unfold landT
          rw [rs_self]
        · by_cases c5 : k = 5
          · subst c5
            rw [rs_self]
            unfold landT
            rw [rs_ne (by omega), rs_self]
          · rw [rs_ne (by omega), rs_ne (by omega), rs_ne (by omega), t0 k k0 k1, ln _ (by omega) (by omega) (by omega) (by omega)]
      · rw [rs_ne (by omega), rs_ne (by omega), rs_ne (by omega), t1]
        exact pk_congr fun j j0 j1 => (ln _ (by omega) (by omega) (by omega) (by omega)).symm
      · rw [rs_ne (by omega), rs_ne (by omega), rs_self]
        refine pk_congr fun j j0 j1 => ?_
        unfold landT blurT
        rw [rs_ne (by omega), rs_ne (by omega), hN, hWr, show 220 + 27 * i + 19 + j - (220 + 27 * i + 19) - i = j - i by omega, if_neg (show ¬ 220 + 27 * i + 19 + j = 14 by omega)]
        exact ite_iff (by omega)
      · rw [rs_ne (by omega), rs_ne (by omega), rs_ne (by omega), t3, ln _ (by omega) (by omega) (by omega) (by omega)]
      · rw [rs_ne (by omega), rs_ne (by omega), rs_ne (by omega), t4, ln _ (by omega) (by omega) (by omega) (by omega)]
  have key : ∀ (n : Nat) (v : Int), 0 ≤ v → v ≤ W → W - v < n → f_X8_land_b56 F b i n N W (pk (fun j => if j < N ∧ (j - i) % N < v then (r (220 + 27 * i + 19 + j) + 1) % 8 else r (220 + 27 * i + 19 + j))) v w = f_X8_land_b85 F b i W (pk (fun j => if j < N ∧ (j - i) % N < W then (r (220 + 27 * i + 19 + j) + 1) % 8 else r (220 + 27 * i + 19 + j))) w := by
    intro n
    induction n with
    | zero => intro v v0 v1 v2; omega
    | succ n ih =>
      intro v v0 v1 v2
      show f_X8_land_b56_b F b i (f_X8_land_b56 F b i n) _ _ _ _ _ = _
      unfold f_X8_land_b56_b
      rw [gd_t (by omega)]
      by_cases c : W ≤ v
      · have e : v = W := by omega
        rw [if_pos c, e]
      · have hp := mod_rg (n := N) y3 (i + v)
        rw [if_neg c, gd_t (by omega), if_neg (by omega), gd_t (by omega), gd_t (by omega), tm N (show 0 ≤ i + v by omega), c_raised (hv7 v) hp.1 (by omega), bs]
        rw [← ih (v + 1) (by omega) (by omega) (by omega)]
        congr 1
        refine pk_congr fun j j0 j1 => ?_
        have hme := (mod_at (n := N) y3 i v ((i + v) % N) (by omega) hp).mpr rfl
        by_cases cj : j = (i + v) % N
        · rw [if_pos cj, if_neg (by omega), cj, if_pos (by omega)]
        · rw [if_neg cj]
          refine ite_iff ?_
          by_cases cr : j < N
          · have hm2 := mod_at (n := N) y3 i v j (by omega) ⟨j0, cr⟩
            have : ¬ (j - i) % N = v := fun h => cj (hm2.mp h)
            omega
          · omega
  unfold f_X8_land
  rw [pf6 hP, c_tune hP h b2 hi (by omega), bs, c_tune12 hP h b2 hi, bs, c_tune hP h b2 hi (by omega), bs, c_set8 hP h, bs, hN, c_wrong hP h b0.2 y5 b4 y11 (by omega) he, bs, hWr, c_tune10 hP h b2 hi, bs]
  have e0 : pk (fun j => r (220 + 27 * i + 19 + j)) = pk (fun j => if j < N ∧ (j - i) % N < 0 then (r (220 + 27 * i + 19 + j) + 1) % 8 else r (220 + 27 * i + 19 + j)) := pk_congr fun j j0 j1 => by
    have := mod_rg (n := N) y3 (j - i)
    rw [if_neg (by omega)]
  rw [e0, key F 0 (by omega) (by omega) (by omega)]
  exact fin
