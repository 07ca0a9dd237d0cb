/-! ===== changes that are kept ===== -/
theorem pst1 : shR 10 0 = 11 := by decide +kernel
theorem pst2 : shL 11 = 8 := by decide +kernel
theorem pst3 {i : Nat} (h : i < 8) : shR 11 i = 66 + 18 * i := by
  have : ∀ i, i < 8 → shR 11 i = 66 + 18 * i := by decide +kernel
  exact this i h
theorem pst4 {b : Nat} (h : Pb b) : shK b = 10 + 2 := Pb.of (P := fun b => shK b = 10 + 2) (by decide +kernel) h
theorem c_postAt {F : Nat} {w : aI} {k : Int} (hf : 0 ≤ w 10 1 ∧ w 10 1 < 8) (hk : 0 ≤ k ∧ k ≤ 8) : f_X1_postAt F 10 k w = some (some (pb ((w 10 1 + k) % 8))) := by
  unfold f_X1_postAt
  have e : Int.tmod (w 10 1 + k) 8 = (w 10 1 + k) % 8 := tm 8 (by omega)
  rw [gd_t (by omega), lti, e, pst1, pst2, gd_t (by omega), if_neg (by omega), if_neg (by omega), gd_t (by omega), pst3 (by omega)]
  rfl
/-- the class keeps the post of now -/
theorem c_keep {F : Nat} {w : aI} {r : Row} (hT : IvT w) (hN : Rep w 12 r) (hW : WF r) (hK : 0 ≤ w 10 2 ∧ w 10 2 ≤ 8) (hf : 0 ≤ w 10 1 ∧ w 10 1 < 8) :
    ∃ (w2 : aI) (f K : Int), f_X1_keep F 10 12 w = some w2 ∧ w2 10 1 = f ∧ w2 10 2 = K ∧ ((w 10 2 < 8 ∧ K = w 10 2 + 1 ∧ f = w 10 1) ∨ (w 10 2 = 8 ∧ K = 8 ∧ f = (w 10 1 + 1) % 8)) ∧ Rep w2 (pb ((f + (K - 1)) % 8)) r ∧ (∀ a, ¬ a = 10 → (a < pb ((f + (K - 1)) % 8) ∨ pb ((f + (K - 1)) % 8) + 18 ≤ a) → w2 a = w a) := by
  have core : ∀ w : aI, IvT w → Rep w 12 r → (0 ≤ w 10 2 ∧ w 10 2 < 8) → (0 ≤ w 10 1 ∧ w 10 1 < 8) → ∃ w2, f_X1_keep_b28 F 10 12 w = some w2 ∧ w2 10 1 = w 10 1 ∧ w2 10 2 = w 10 2 + 1 ∧ Rep w2 (pb ((w 10 1 + w 10 2) % 8)) r ∧ (∀ a, ¬ a = 10 → (a < pb ((w 10 1 + w 10 2) % 8) ∨ pb ((w 10 1 + w 10 2) % 8) + 18 ≤ a) → w2 a = w a) := by
    intro w hT hN hK hf
    unfold f_X1_keep_b28
    rw [c_postAt hf (by omega), bs]
    have hP := pb_Pb (m := (w 10 1 + w 10 2) % 8) (by omega)
    have hbd := pb_bd (m := (w 10 1 + w 10 2) % 8) (by omega)
    generalize pb ((w 10 1 + w 10 2) % 8) = b at hP hbd ⊢
    obtain ⟨w1, e1, e2, e3⟩ := c_copy (F := F) hP P12 (by omega) hW hN (hT.1 b hP)
    show ∃ w2, gd (shK b = 10 + 2) ((f_X2_copyFrom F b 12 w).bind (fun w5 => ltM (iset w5 10 2 ((w5 10 2) + 1)) (fun w6 => some w6))) = some w2 ∧ _
    have h10 := e3 10 (by omega)
    rw [gd_t (pst4 hP), e1, bs, ltm]
    refine ⟨_, rfl, ?_, ?_, e2.of (fun a a0 a1 => is_ne (by omega)), fun a a0 a1 => by rw [is_ne a0]; exact e3 a (by omega)⟩
    · rw [is_eq, rs_ne (by omega), h10]
    · rw [is_eq, rs_self, h10]
  unfold f_X1_keep
  rw [gd_t (by omega)]
  by_cases c : w 10 2 < 8
  · rw [if_pos c]
    obtain ⟨w2, e1, e2, e3, e4, e5⟩ := core w hT hN ⟨hK.1, c⟩ hf
    have e6 : w 10 2 + 1 - 1 = w 10 2 := by omega
    exact ⟨w2, w 10 1, w 10 2 + 1, e1, e2, e3, Or.inl ⟨c, rfl, rfl⟩, by rw [e6]; exact e4, by rw [e6]; exact e5⟩
  · rw [if_neg c, gd_t (by omega), ltm, ltm]
    have et : Int.tmod (w 10 1 + 1) 8 = (w 10 1 + 1) % 8 := tm 8 (by omega)
    rw [et]
    obtain ⟨w1, ew⟩ : ∃ w1, w1 = iset (iset w 10 1 ((w 10 1 + 1) % 8)) 10 2 7 := ⟨_, rfl⟩
    rw [← ew]
    have n1 : w1 10 1 = (w 10 1 + 1) % 8 := by rw [ew, is_eq, rs_ne (by omega), is_eq, rs_self]
    have n2 : w1 10 2 = 7 := by rw [ew, is_eq, rs_self]
    have n3 : ∀ a, ¬ a = 10 → w1 a = w a := fun a ha => by rw [ew, is_ne ha, is_ne ha]
    have hbd : ∀ b, Pb b → b + 18 ≤ 10 ∨ 10 < b := fun b hb => by
      have : ∀ b ∈ [12, 30, 48, 66, 84, 102, 120, 138, 156, 174, 192], b + 18 ≤ 10 ∨ 10 < b := by decide
      exact this b hb
    obtain ⟨w2, e1, e2, e3, e4, e5⟩ := core w1 ⟨fun b hb => (hT.1 b hb).of fun a a0 a1 => n3 a (by have := hbd b hb; omega), by rw [n3 8 (by omega)]; exact hT.2⟩ (hN.of fun a a0 a1 => n3 a (by omega)) (by omega) (by omega)
    rw [n1] at e2
    rw [n2] at e3
    rw [n1, n2] at e4 e5
    refine ⟨w2, (w 10 1 + 1) % 8, 8, e1, e2, e3, Or.inr ⟨by omega, rfl, rfl⟩, e4, fun a a0 a1 => ?_⟩
    rw [e5 a a0 a1, n3 a a0]
/-- both have kept what was -/
theorem Inv.keeps {w w1 w2 : aI} {f K s : Int} {P : Int → Int} (hI : Inv w)
    (h1 : w1 10 1 = f) (h2 : w1 10 2 = K) (hc : (w 10 2 < 8 ∧ K = w 10 2 + 1 ∧ f = w 10 1) ∨ (w 10 2 = 8 ∧ K = 8 ∧ f = (w 10 1 + 1) % 8)) (hR : Rep w1 (pb ((f + (K - 1)) % 8)) (w 211))
    (h3 : ∀ a, ¬ a = 10 → (a < pb ((f + (K - 1)) % 8) ∨ pb ((f + (K - 1)) % 8) + 18 ≤ a) → w1 a = w a)
    (hw2 : ∀ a, ¬ a = 210 → ¬ a = 214 → w2 a = w1 a) (h210 : ∀ k, ¬ k = 4 → ¬ k = 6 → w2 210 k = w 210 k) (h4 : w2 210 4 = K) (h214 : w2 214 = P)
    (hs : (w 210 4 < 8 ∧ s = 0) ∨ (w 210 4 = 8 ∧ s = 1)) (hP1 : ∀ j k, 0 ≤ j → j < K - 1 → 0 ≤ k → k < 1030 → P (1030 * j + k) = w 214 (1030 * (j + s) + k)) (hP2 : ∀ k, 0 ≤ k → k < 1030 → P (1030 * (K - 1) + k) = w 211 k) : Inv w2 := by
  obtain ⟨hT, hI2, hO, hE, hN, hS, hP⟩ := hI
  obtain ⟨p1, p2, p3, p4⟩ := hP
  have hfK : (0 ≤ f ∧ f < 8) ∧ 1 ≤ K ∧ K ≤ 8 := by omega
  have hbP := pb_Pb (m := (f + (K - 1)) % 8) (by omega)
  have hbd := pb_bd (m := (f + (K - 1)) % 8) (by omega)
  have lo : ∀ a, ¬ a = 10 → (a < pb ((f + (K - 1)) % 8) ∨ pb ((f + (K - 1)) % 8) + 18 ≤ a) → a < 210 → w2 a = w a := fun a a0 a1 a2 => by rw [hw2 a (by omega) (by omega), h3 a a0 a1]
  have hi : ∀ a, 210 < a → ¬ a = 214 → w2 a = w a := fun a a0 a1 => by rw [hw2 a (by omega) a1, h3 a (by omega) (by omega)]
  have lo0 := lo 0 (by omega) (by omega) (by omega)
  have lo1 := lo 1 (by omega) (by omega) (by omega)
  have lo2 := lo 2 (by omega) (by omega) (by omega)
  have lo3 := lo 3 (by omega) (by omega) (by omega)
  have lo4 := lo 4 (by omega) (by omega) (by omega)
  have lo5 := lo 5 (by omega) (by omega) (by omega)
  have lo8 := lo 8 (by omega) (by omega) (by omega)
  have w2r : Rep w2 (pb ((f + (K - 1)) % 8)) (w 211) := hR.of fun a a0 a1 => hw2 a (by omega) (by omega)
  have hten : ∀ b, Pb b → 10 < b ∧ b + 18 ≤ 210 := fun b hb => by
    have : ∀ b ∈ [12, 30, 48, 66, 84, 102, 120, 138, 156, 174, 192], 10 < b ∧ b + 18 ≤ 210 := by decide
    exact this b hb
  refine ⟨⟨fun b hb => ?_, ?_⟩, ?_, ?_, ?_, ?_, ?_, ?_⟩
  · by_cases c : b = pb ((f + (K - 1)) % 8)
    · subst c; exact w2r.1.1
    · have hd := hb.pd hbP c
      have ht := hten b hb
      unfold Pd at hd
      exact (hT.1 b hb).of fun a a0 a1 => lo a (by omega) (by omega) (by omega)
  · rw [lo8]; exact hT.2
  · unfold IvI
    rw [lo1, lo2, h210 13 (by omega) (by omega), hi 218 (by omega) (by omega)]; exact hI2
  · unfold IvO
    rw [lo3, lo4, h210 27 (by omega) (by omega), hi 222 (by omega) (by omega)]; exact hO
  · unfold IvE
    rw [lo5, h210 14 (by omega) (by omega), h210 15 (by omega) (by omega)]; exact hE
  · unfold IvN
    rw [hi 211 (by omega) (by omega)]
    exact PR.of hN fun a a0 a1 => lo a (by omega) (by omega) (by omega)
  · unfold IvS
    rw [lo0, h210 5 (by omega) (by omega), hi 213 (by omega) (by omega)]
    exact ⟨hS.1, hS.2.1, fun e => (hS.2.2 e).of fun a a0 a1 => lo a (by omega) (by omega) (by omega)⟩
  · have t1 : w2 10 1 = f := by rw [hw2 10 (by omega) (by omega)]; exact h1
    have t2 : w2 10 2 = K := by rw [hw2 10 (by omega) (by omega)]; exact h2
    unfold IvP
    rw [t1, t2, h4, h214]
    refine ⟨rfl, by omega, hfK.1, fun j j0 j1 => ?_⟩
    by_cases c : j = K - 1
    · subst c
      exact (PR.cp (r := w 211) ⟨w2r, hN.2.1, hN.2.2⟩ fun k k0 k1 => hP2 k k0 k1)
    · have old := p4 (j + s) (by omega) (by omega)
      have ej : (w 10 1 + (j + s)) % 8 = (f + j) % 8 := by omega
      rw [ej] at old
      have hbj := pb_bd (m := (f + j) % 8) (by omega)
      have hd : pb ((f + j) % 8) + 18 ≤ pb ((f + (K - 1)) % 8) ∨ pb ((f + (K - 1)) % 8) + 18 ≤ pb ((f + j) % 8) := by unfold pb; omega
      exact (old.of fun a a0 a1 => lo a (by omega) (by omega) (by omega)).cp fun k k0 k1 => hP1 j k j0 (by omega) k0 k1
