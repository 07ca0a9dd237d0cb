/-! ===== what holds of a row, step by step ===== -/
theorem Wy_congr {r q : Row} {j : Int} (h0 : q 0 = r 0) (h3 : r 3 ≤ q 3) (h : ∀ k, 220 + 27 * j ≤ k → k < 220 + 27 * j + 27 → q k = r k) (k : Wy r j) : Wy q j := by
  obtain ⟨y0, y1, y2, y3, y4, y5, y6, y7, y8, y9, y10, y11, y12, y13, y14, y15⟩ := k
  unfold Wy
  rw [h0, h (220 + 27 * j) (by omega) (by omega), h (220 + 27 * j + 1) (by omega) (by omega), h (220 + 27 * j + 2) (by omega) (by omega), h (220 + 27 * j + 3) (by omega) (by omega), h (220 + 27 * j + 4) (by omega) (by omega), h (220 + 27 * j + 5) (by omega) (by omega), h (220 + 27 * j + 6) (by omega) (by omega), h (220 + 27 * j + 7) (by omega) (by omega), h (220 + 27 * j + 8) (by omega) (by omega), h (220 + 27 * j + 9) (by omega) (by omega), h (220 + 27 * j + 10) (by omega) (by omega)]
  refine ⟨y0, y1, y2, y3, y4, y5, ⟨y6.1, by omega⟩, y7, y8, y9, y10, y11, fun k k0 k1 => ?_, fun k k0 k1 => ?_, y14, y15⟩
  · rw [h k (by omega) (by omega)]; exact y12 k k0 k1
  · rw [h _ (by omega) (by omega), h _ (by omega) (by omega)]; exact y13 k k0 k1
theorem Wx_congr {r q : Row} {x : Int} (h3 : r 3 ≤ q 3) (h : ∀ k, 25 + 13 * x ≤ k → k < 25 + 13 * x + 13 → q k = r k) (k : Wx r x) : Wx q x := by
  obtain ⟨x0, x1, x2, x3, x4, x5, x6⟩ := k
  unfold Wx
  rw [h (25 + 13 * x) (by omega) (by omega), h (25 + 13 * x + 7) (by omega) (by omega), h (25 + 13 * x + 8) (by omega) (by omega), h (25 + 13 * x + 9) (by omega) (by omega), h (25 + 13 * x + 10) (by omega) (by omega), h (25 + 13 * x + 11) (by omega) (by omega)]
  refine ⟨x0, fun k k0 k1 => ?_, x2, x3, x4, ⟨x5.1, by omega⟩, ⟨x6.1, by omega⟩⟩
  rw [h (25 + 13 * x + 1 + k) (by omega) (by omega)]
  exact x1 k k0 k1
/-- a row that is another one but for one tune and the accounts 4 to 8 -/
theorem WF_tune {r q : Row} {i : Int} (hW : WF r) (hi : 0 ≤ i ∧ i < r 2) (h : ∀ k, (k < 220 + 27 * i ∨ 220 + 27 * i + 27 ≤ k) → (k < 14 ∨ 18 < k) → q k = r k) (hy : Wy q i) (h9 : q (220 + 27 * i + 9) = r (220 + 27 * i + 9))
    (h15 : q 15 = r 15 + (bI (decide (q (220 + 27 * i + 3) = 2)) - bI (decide (r (220 + 27 * i + 3) = 2)))) (h18 : q 18 = r 18 + (bI (decide (q (220 + 27 * i + 3) = 3)) - bI (decide (r (220 + 27 * i + 3) = 3)))) (h16 : 0 ≤ q 16 ∧ q 16 ≤ q 15) : WF q := by
  obtain ⟨hb, hr, hw, ht, a1, a2, a3, a4, a5, a6, a7⟩ := hW
  obtain ⟨b0, b1, b2, b3, b4, b5, b6⟩ := hb
  have e0 := h 0 (by omega) (by omega)
  have e1 := h 1 (by omega) (by omega)
  have e2 := h 2 (by omega) (by omega)
  have e3 := h 3 (by omega) (by omega)
  have e4 := h 4 (by omega) (by omega)
  have e5 := h 5 (by omega) (by omega)
  have e6 := h 6 (by omega) (by omega)
  refine ⟨by unfold Wb; omega, fun x x0 x1 => Wx_congr (r := r) (by omega) (fun k k0 k1 => h k (by omega) (by omega)) (hr x x0 (by omega)), SameW.ww (r := r) ⟨e0, e1, fun k k0 k1 => h k (by omega) (by omega)⟩ (by omega) hw, fun j j0 j1 => ?_, ?_⟩
  · by_cases c : j = i
    · subst c; exact hy
    · exact Wy_congr (r := r) (by omega) (by omega) (fun k k0 k1 => h k (by omega) (by omega)) (ht j j0 (by omega))
  · refine ⟨by rw [h 11 (by omega) (by omega), e2]; exact a1, ?_, ?_, h16, ?_, ?_, ?_⟩
    · rw [h15, a2, e2]
      exact (cnt_up (p := fun i => decide (r (220 + 27 * i + 3) = 2)) (p' := fun i => decide (q (220 + 27 * i + 3) = 2)) (k := i) (fun j hj => by rw [h (220 + 27 * j + 3) (by omega) (by omega)]) hi.1 (by omega)).symm
    · rw [h18, a3, e2]
      exact (cnt_up (p := fun i => decide (r (220 + 27 * i + 3) = 3)) (p' := fun i => decide (q (220 + 27 * i + 3) = 3)) (k := i) (fun j hj => by rw [h (220 + 27 * j + 3) (by omega) (by omega)]) hi.1 (by omega)).symm
    · rw [h 13 (by omega) (by omega), a5, e2]
      refine sm_congr fun j j0 j1 => ?_
      by_cases c : j = i
      · subst c; exact h9.symm
      · exact (h _ (by omega) (by omega)).symm
    · rw [h 13 (by omega) (by omega), e3]; exact a6
    · rw [h 7 (by omega) (by omega), h 20 (by omega) (by omega), ← a7, e0]
      exact sm_congr fun x x0 x1 => h _ (by omega) (by omega)
theorem newT_out {r : Row} {s g n rp wa : Int} {f : Int → Int} {k : Int} (h : k < 220 + 27 * r 2 ∨ 220 + 27 * r 2 + 27 ≤ k) (h2 : ¬ k = 2) (h11 : ¬ k = 11) (h12 : ¬ k = 12) : newT r s g n f rp wa k = r k := by
  unfold newT
  rw [if_neg (by omega), if_neg h2, if_neg h11, if_neg h12]
theorem WF_new {r : Row} {s g n rp wa : Int} {f : Int → Int} (hW : WF r) (h2 : r 2 < 30) (hs : 0 ≤ s ∧ s < r 0) (hg : 0 ≤ g ∧ g < r 0) (hsg : ¬ s = g) (hn : 1 ≤ n ∧ n ≤ 8) (hf : ∀ j, 0 ≤ j → j < n → 0 ≤ f j ∧ f j ≤ 7) (hrp : rp = 0 ∨ rp = 1) (hwa : wa = 0 ∨ wa = 1) : WF (newT r s g n f rp wa) := by
  obtain ⟨hb, hr, hw, ht, a1, a2, a3, a4, a5, a6, a7⟩ := hW
  obtain ⟨b0, b1, b2, b3, b4, b5, b6⟩ := hb
  have out : ∀ k, (k < 220 + 27 * r 2 ∨ 220 + 27 * r 2 + 27 ≤ k) → ¬ k = 2 → ¬ k = 11 → ¬ k = 12 → newT r s g n f rp wa k = r k := fun k => newT_out
  have e0 := out 0 (by omega) (by omega) (by omega) (by omega)
  have e1 := out 1 (by omega) (by omega) (by omega) (by omega)
  have e3 := out 3 (by omega) (by omega) (by omega) (by omega)
  have e4 := out 4 (by omega) (by omega) (by omega) (by omega)
  have e5 := out 5 (by omega) (by omega) (by omega) (by omega)
  have e6 := out 6 (by omega) (by omega) (by omega) (by omega)
  have e2 : newT r s g n f rp wa 2 = r 2 + 1 := by unfold newT; simp (disch := omega) only [if_pos, if_neg, if_true]
  have e11 : newT r s g n f rp wa 11 = r 11 + 1 := by unfold newT; simp (disch := omega) only [if_pos, if_neg, if_true]
  have t0 : newT r s g n f rp wa (220 + 27 * r 2) = s := by unfold newT; simp (disch := omega) only [if_pos, if_neg, if_true]
  have t1 : newT r s g n f rp wa (220 + 27 * r 2 + 1) = g := by unfold newT; simp (disch := omega) only [if_pos, if_neg, if_true]
  have t2 : newT r s g n f rp wa (220 + 27 * r 2 + 2) = n := by unfold newT; simp (disch := omega) only [if_pos, if_neg, if_true]
  have t3 : newT r s g n f rp wa (220 + 27 * r 2 + 3) = 0 := by unfold newT; simp (disch := omega) only [if_pos, if_neg, if_true]
  have t4 : newT r s g n f rp wa (220 + 27 * r 2 + 4) = s := by unfold newT; simp (disch := omega) only [if_pos, if_neg, if_true]
  have t5 : newT r s g n f rp wa (220 + 27 * r 2 + 5) = -1 := by unfold newT; simp (disch := omega) only [if_pos, if_neg, if_true]
  have t6 : newT r s g n f rp wa (220 + 27 * r 2 + 6) = rp := by unfold newT; simp (disch := omega) only [if_pos, if_neg, if_true]
  have t7 : newT r s g n f rp wa (220 + 27 * r 2 + 7) = wa := by unfold newT; simp (disch := omega) only [if_pos, if_neg, if_true]
  have t8 : ∀ k, 220 + 27 * r 2 + 8 ≤ k → k < 220 + 27 * r 2 + 11 → newT r s g n f rp wa k = 0 := fun k k0 k1 => by unfold newT; simp (disch := omega) only [if_pos, if_neg, if_true]
  have tS : ∀ k, 220 + 27 * r 2 + 11 ≤ k → k < 220 + 27 * r 2 + 19 → newT r s g n f rp wa k = if k - (220 + 27 * r 2 + 11) < n then f (k - (220 + 27 * r 2 + 11)) else 0 := fun k k0 k1 => by
    unfold newT
    rw [if_pos (by omega), if_neg (by omega), if_neg (by omega), if_neg (by omega), if_neg (by omega), if_neg (by omega), if_neg (by omega), if_neg (by omega), if_neg (by omega), if_neg (by omega), if_pos (by omega)]
  have tH : ∀ k, 220 + 27 * r 2 + 19 ≤ k → k < 220 + 27 * r 2 + 27 → newT r s g n f rp wa k = if k - (220 + 27 * r 2 + 19) < n then f (k - (220 + 27 * r 2 + 19)) else 0 := fun k k0 k1 => by
    unfold newT
    rw [if_pos (by omega), if_neg (by omega), if_neg (by omega), if_neg (by omega), if_neg (by omega), if_neg (by omega), if_neg (by omega), if_neg (by omega), if_neg (by omega), if_neg (by omega), if_neg (by omega)]
  generalize newT r s g n f rp wa = q at *
  have hN : (q 2).toNat = (r 2).toNat + 1 := by omega
  have hc : ((r 2).toNat : Int) = r 2 := by omega
  refine ⟨by unfold Wb; omega, fun x x0 x1 => Wx_congr (r := r) (by omega) (fun k k0 k1 => out k (by omega) (by omega) (by omega) (by omega)) (hr x x0 (by omega)), SameW.ww (r := r) ⟨e0, e1, fun k k0 k1 => out k (by omega) (by omega) (by omega) (by omega)⟩ (by omega) hw, fun j j0 j1 => ?_, ?_⟩
  · by_cases c : j = r 2
    · subst c
      unfold Wy
      rw [e0, t0, t1, t2, t3, t4, t5, t6, t7, t8 (220 + 27 * r 2 + 8) (by omega) (by omega), t8 (220 + 27 * r 2 + 9) (by omega) (by omega), t8 (220 + 27 * r 2 + 10) (by omega) (by omega)]
      refine ⟨hs, hg, hsg, hn, by omega, hs, by omega, by omega, by omega, by omega, by omega, by omega, fun k k0 k1 => ?_, fun k k0 k1 => ?_, fun _ => hsg, (fun h => by omega)⟩
      · by_cases c2 : k < 220 + 27 * r 2 + 19
        · rw [tS k k0 c2]
          split
          · exact hf _ (by omega) (by assumption)
          · omega
        · rw [tH k (by omega) k1]
          split
          · exact hf _ (by omega) (by assumption)
          · omega
      · rw [tS _ (by omega) (by omega), tH _ (by omega) (by omega), if_neg (by omega), if_neg (by omega)]
        exact ⟨rfl, rfl⟩
    · exact Wy_congr (r := r) (by omega) (by omega) (fun k k0 k1 => out k (by omega) (by omega) (by omega) (by omega)) (ht j j0 (by omega))
  · have hcc : ∀ v, ¬ v = 0 → cnt (fun i => decide (q (220 + 27 * i + 3) = v)) (q 2).toNat = cnt (fun i => decide (r (220 + 27 * i + 3) = v)) (r 2).toNat := fun v hv => by
      rw [hN, cnt, hc, t3, decide_eq_false (fun h => hv h.symm)]
      show _ + 0 = _
      rw [Int.add_zero]
      exact cnt_congr fun i i0 i1 => by rw [out _ (by omega) (by omega) (by omega) (by omega)]
    have o15 := out 15 (by omega) (by omega) (by omega) (by omega)
    refine ⟨by omega, by rw [o15, a2, hcc 2 (by omega)], by rw [out 18 (by omega) (by omega) (by omega) (by omega), a3, hcc 3 (by omega)], by rw [out 16 (by omega) (by omega) (by omega) (by omega), o15]; exact a4, ?_, by rw [out 13 (by omega) (by omega) (by omega) (by omega), e3]; exact a6, ?_⟩
    · rw [out 13 (by omega) (by omega) (by omega) (by omega), a5, hN, sm, hc, t8 _ (by omega) (by omega), Int.add_zero]
      exact sm_congr fun i i0 i1 => (out _ (by omega) (by omega) (by omega) (by omega)).symm
    · rw [out 7 (by omega) (by omega) (by omega) (by omega), out 20 (by omega) (by omega) (by omega) (by omega), ← a7, e0]
      exact sm_congr fun x x0 x1 => out _ (by omega) (by omega) (by omega) (by omega)
theorem blurT_hear {r : Row} {i : Int} (hW : WF r) (hi : 0 ≤ i ∧ i < r 2) : (∀ k, 220 + 27 * i + 11 ≤ k → k < 220 + 27 * i + 27 → 0 ≤ blurT r i k ∧ blurT r i k ≤ 7) ∧ (∀ k, r (220 + 27 * i + 2) ≤ k → k < 8 → blurT r i (220 + 27 * i + 11 + k) = 0 ∧ blurT r i (220 + 27 * i + 19 + k) = 0) := by
  obtain ⟨y0, y1, y2, y3, y4, y5, y6, y7, y8, y9, y10, y11, y12, y13, y14, y15⟩ := hW.2.2.2.1 i hi.1 hi.2
  refine ⟨fun k k0 k1 => blurT_rg (by omega) (y12 k k0 k1), fun k k0 k1 => ?_⟩
  rw [blurT_ne (by omega) (by omega), blurT_ne (by omega) (by omega)]
  exact y13 k k0 k1
theorem WF_comes {r : Row} {i : Int} (hW : WF r) (hi : 0 ≤ i ∧ i < r 2) (h3 : r (220 + 27 * i + 3) = 1) : WF (comesT r i) ∧ comesT r i 0 = r 0 ∧ comesT r i 3 = r 3 ∧ r 2 ≤ comesT r i 2 ∧ SameW r (comesT r i) ∧ comesT r i 13 = r 13 ∧ (∀ k, 25 ≤ k → k < 160 → comesT r i k = r k) := by
  have hW0 := hW
  obtain ⟨hb, hr, hw, ht, a1, a2, a3, a4, a5, a6, a7⟩ := hW0
  obtain ⟨b0, b1, b2, b3, b4, b5, b6⟩ := hb
  obtain ⟨y0, y1, y2, y3, y4, y5, y6, y7, y8, y9, y10, y11, y12, y13, y14, y15⟩ := ht i hi.1 hi.2
  obtain ⟨g1, g2⟩ := blurT_hear hW hi
  have bn : ∀ k, (k < 220 + 27 * i + 19 ∨ 220 + 27 * i + 27 ≤ k) → ¬ k = 14 → blurT r i k = r k := fun k hk h14 => blurT_ne (by omega) h14
  have ln : ∀ k, (k < 220 + 27 * i + 19 ∨ 220 + 27 * i + 27 ≤ k) → ¬ k = 14 → ¬ k = 220 + 27 * i + 5 → ¬ k = 220 + 27 * i + 3 → landT r i k = r k := fun k hk h14 h5 h3 => by
    unfold landT
    rw [rs_ne h3, rs_ne h5, bn k hk h14]
  have l5 : landT r i (220 + 27 * i + 5) = -1 := by unfold landT; rw [rs_ne (by omega), rs_self]
  have l3 : landT r i (220 + 27 * i + 3) = 0 := by unfold landT; rw [rs_self]
  have l12 : ∀ k, 220 + 27 * i + 11 ≤ k → k < 220 + 27 * i + 27 → landT r i k = blurT r i k := fun k k0 k1 => by
    unfold landT
    rw [rs_ne (by omega), rs_ne (by omega)]
  unfold comesT
  generalize landT r i = L at ln l5 l3 l12
  have e0 := ln 0 (by omega) (by omega) (by omega) (by omega)
  have e1 := ln 1 (by omega) (by omega) (by omega) (by omega)
  have e2 := ln 2 (by omega) (by omega) (by omega) (by omega)
  have e3 := ln 3 (by omega) (by omega) (by omega) (by omega)
  have e6 := ln 6 (by omega) (by omega) (by omega) (by omega)
  have e15 := ln 15 (by omega) (by omega) (by omega) (by omega)
  have e16 := ln 16 (by omega) (by omega) (by omega) (by omega)
  have e18 := ln 18 (by omega) (by omega) (by omega) (by omega)
  have f0 := ln (220 + 27 * i) (by omega) (by omega) (by omega) (by omega)
  have f1 := ln (220 + 27 * i + 1) (by omega) (by omega) (by omega) (by omega)
  have f2 := ln (220 + 27 * i + 2) (by omega) (by omega) (by omega) (by omega)
  have f4 := ln (220 + 27 * i + 4) (by omega) (by omega) (by omega) (by omega)
  have f6 := ln (220 + 27 * i + 6) (by omega) (by omega) (by omega) (by omega)
  have f7 := ln (220 + 27 * i + 7) (by omega) (by omega) (by omega) (by omega)
  have f8 := ln (220 + 27 * i + 8) (by omega) (by omega) (by omega) (by omega)
  have f9 := ln (220 + 27 * i + 9) (by omega) (by omega) (by omega) (by omega)
  have f10 := ln (220 + 27 * i + 10) (by omega) (by omega) (by omega) (by omega)
  have hS : ∀ k, 220 + 27 * i + 11 ≤ k → k < 220 + 27 * i + 27 → 0 ≤ L k ∧ L k ≤ 7 := fun k k0 k1 => by rw [l12 k k0 k1]; exact g1 k k0 k1
  have hZ : ∀ k, r (220 + 27 * i + 2) ≤ k → k < 8 → L (220 + 27 * i + 11 + k) = 0 ∧ L (220 + 27 * i + 19 + k) = 0 := fun k k0 k1 => by
    rw [l12 _ (by omega) (by omega), l12 _ (by omega) (by omega)]; exact g2 k k0 k1
  by_cases c1 : r (220 + 27 * i + 4) = r (220 + 27 * i + 1)
  · rw [if_pos c1]
    unfold goalT
    by_cases c2 : 0 < unl L i ∧ L (220 + 27 * i + 8) < L 6
    · rw [if_pos c2]
      have qn : ∀ k, (k < 220 + 27 * i + 19 ∨ 220 + 27 * i + 27 ≤ k) → ¬ k = 220 + 27 * i + 8 → ¬ k = 220 + 27 * i + 4 → ¬ k = 17 → backT L i k = L k := fun k k0 k1 k2 k3 => by
        unfold backT hearT
        rw [rs_ne k3, rs_ne k2, if_neg (by omega), rs_ne k1]
      have q4 : backT L i (220 + 27 * i + 4) = L (220 + 27 * i) := by unfold backT; rw [rs_ne (by omega), rs_self]
      have q8 : backT L i (220 + 27 * i + 8) = L (220 + 27 * i + 8) + 1 := by unfold backT hearT; rw [rs_ne (by omega), rs_ne (by omega), if_neg (by omega), rs_self]
      have qH : ∀ k, 220 + 27 * i + 19 ≤ k → k < 220 + 27 * i + 27 → backT L i k = L (k - 8) := fun k k0 k1 => by
        unfold backT hearT
        rw [rs_ne (by omega), rs_ne (by omega), if_pos (by omega), rs_ne (by omega)]
      generalize backT L i = q at qn q4 q8 qH
      have o : ∀ k, (k < 220 + 27 * i ∨ 220 + 27 * i + 27 ≤ k) → (k < 14 ∨ 18 < k) → q k = r k := fun k k0 k1 => by
        rw [qn k (by omega) (by omega) (by omega) (by omega), ln k (by omega) (by omega) (by omega) (by omega)]
      have p0 := qn (220 + 27 * i) (by omega) (by omega) (by omega) (by omega)
      have p1 := qn (220 + 27 * i + 1) (by omega) (by omega) (by omega) (by omega)
      have p2 := qn (220 + 27 * i + 2) (by omega) (by omega) (by omega) (by omega)
      have p3 := qn (220 + 27 * i + 3) (by omega) (by omega) (by omega) (by omega)
      have p5 := qn (220 + 27 * i + 5) (by omega) (by omega) (by omega) (by omega)
      have p6 := qn (220 + 27 * i + 6) (by omega) (by omega) (by omega) (by omega)
      have p7 := qn (220 + 27 * i + 7) (by omega) (by omega) (by omega) (by omega)
      have p9 := qn (220 + 27 * i + 9) (by omega) (by omega) (by omega) (by omega)
      have p10 := qn (220 + 27 * i + 10) (by omega) (by omega) (by omega) (by omega)
      have s15 := qn 15 (by omega) (by omega) (by omega) (by omega)
      have s16 := qn 16 (by omega) (by omega) (by omega) (by omega)
      have s18 := qn 18 (by omega) (by omega) (by omega) (by omega)
      have z3 : q (220 + 27 * i + 3) = 0 := by omega
      refine ⟨WF_tune hW hi o ?_ (by omega) (by rw [z3, h3, s15, e15]; show _ = _ + ((0 : Int) - 0); omega) (by rw [z3, h3, s18, e18]; show _ = _ + ((0 : Int) - 0); omega) (by omega), o 0 (by omega) (by omega), o 3 (by omega) (by omega), by rw [o 2 (by omega) (by omega)]; exact Int.le_refl _, ⟨o 0 (by omega) (by omega), o 1 (by omega) (by omega), fun k k0 k1 => o k (by omega) (by omega)⟩, o 13 (by omega) (by omega), fun k k0 k1 => o k (by omega) (by omega)⟩
      unfold Wy
      rw [p0, p1, p2, p3, q4, p5, p6, p7, q8, p9, p10, o 0 (by omega) (by omega), o 3 (by omega) (by omega), f0, f1, f2, l3, l5, f6, f7, f8, f9, f10]
      refine ⟨y0, y1, y2, y3, by omega, y0, by omega, y7, y8, by omega, y10, y11, fun k k0 k1 => ?_, fun k k0 k1 => ?_, fun _ => y2, (fun h => by omega)⟩
      · by_cases c3 : k < 220 + 27 * i + 19
        · rw [qn k (by omega) (by omega) (by omega) (by omega)]; exact hS k k0 (by omega)
        · rw [qH k (by omega) k1]; exact hS _ (by omega) (by omega)
      · have := hZ k k0 k1
        rw [qn _ (by omega) (by omega) (by omega) (by omega), qH _ (by omega) (by omega), show 220 + 27 * i + 19 + k - 8 = 220 + 27 * i + 11 + k by omega]
        exact ⟨this.1, this.1⟩
    · rw [if_neg c2]
      have qn : ∀ k, ¬ k = 220 + 27 * i + 3 → ¬ k = 15 → ¬ k = 16 → doneT L i k = L k := fun k k0 k1 k2 => by
        unfold doneT
        rw [rs_ne k2, rs_ne k1, rs_ne k0]
      have q3 : doneT L i (220 + 27 * i + 3) = 2 := by unfold doneT; rw [rs_ne (by omega), rs_ne (by omega), rs_self]
      have q15 : doneT L i 15 = L 15 + 1 := by unfold doneT; rw [rs_ne (by omega), rs_self]
      have q16 : L 16 ≤ doneT L i 16 ∧ doneT L i 16 ≤ L 16 + 1 := by
        unfold doneT
        rw [rs_self]
        split <;> omega
      generalize doneT L i = q at qn q3 q15 q16
      have o : ∀ k, (k < 220 + 27 * i ∨ 220 + 27 * i + 27 ≤ k) → (k < 14 ∨ 18 < k) → q k = r k := fun k k0 k1 => by
        rw [qn k (by omega) (by omega) (by omega), ln k (by omega) (by omega) (by omega) (by omega)]
      have p0 := qn (220 + 27 * i) (by omega) (by omega) (by omega)
      have p1 := qn (220 + 27 * i + 1) (by omega) (by omega) (by omega)
      have p2 := qn (220 + 27 * i + 2) (by omega) (by omega) (by omega)
      have p4 := qn (220 + 27 * i + 4) (by omega) (by omega) (by omega)
      have p5 := qn (220 + 27 * i + 5) (by omega) (by omega) (by omega)
      have p6 := qn (220 + 27 * i + 6) (by omega) (by omega) (by omega)
      have p7 := qn (220 + 27 * i + 7) (by omega) (by omega) (by omega)
      have p8 := qn (220 + 27 * i + 8) (by omega) (by omega) (by omega)
      have p9 := qn (220 + 27 * i + 9) (by omega) (by omega) (by omega)
      have p10 := qn (220 + 27 * i + 10) (by omega) (by omega) (by omega)
      have s18 := qn 18 (by omega) (by omega) (by omega)
      have hWq : WF q := by
        refine WF_tune hW hi o ?_ (by omega) (by rw [q3, h3, q15, e15]; rfl) (by rw [q3, h3, s18, e18]; show _ = _ + ((0 : Int) - 0); omega) (by omega)
        unfold Wy
        rw [p0, p1, p2, q3, p4, p5, p6, p7, p8, p9, p10, o 0 (by omega) (by omega), o 3 (by omega) (by omega), f0, f1, f2, l5, f4, f6, f7, f8, f9, f10]
        refine ⟨y0, y1, y2, y3, by omega, y5, by omega, y7, y8, y9, y10, y11, fun k k0 k1 => ?_, fun k k0 k1 => ?_, (fun h => by omega), fun _ => c1⟩
        · rw [qn k (by omega) (by omega) (by omega)]; exact hS k k0 k1
        · rw [qn _ (by omega) (by omega) (by omega), qn _ (by omega) (by omega) (by omega)]; exact hZ k k0 k1
      have oo : q 0 = r 0 ∧ q 3 = r 3 ∧ r 2 ≤ q 2 ∧ SameW r q ∧ q 13 = r 13 ∧ (∀ k, 25 ≤ k → k < 160 → q k = r k) := ⟨o 0 (by omega) (by omega), o 3 (by omega) (by omega), by rw [o 2 (by omega) (by omega)]; exact Int.le_refl _, ⟨o 0 (by omega) (by omega), o 1 (by omega) (by omega), fun k k0 k1 => o k (by omega) (by omega)⟩, o 13 (by omega) (by omega), fun k k0 k1 => o k (by omega) (by omega)⟩
      have o2 := o 2 (by omega) (by omega)
      unfold replyT
      split
      · exact ⟨hWq, oo⟩
      · rename_i c3
        have hnew := WF_new (s := q (220 + 27 * i + 1)) (g := q (220 + 27 * i)) (n := q (220 + 27 * i + 2)) (rp := 1) (wa := 0) (f := fun j => q (220 + 27 * i + 11 + q (220 + 27 * i + 2) - 1 - j)) hWq (by omega) (by omega) (by omega) (by omega) (by omega) (fun j j0 j1 => by
          have := hS (220 + 27 * i + 11 + q (220 + 27 * i + 2) - 1 - j) (by omega) (by omega)
          rw [← qn _ (by omega) (by omega) (by omega)] at this
          exact this) (Or.inr rfl) (Or.inl rfl)
        have out : ∀ k, (k < 220 + 27 * q 2 ∨ 220 + 27 * q 2 + 27 ≤ k) → ¬ k = 2 → ¬ k = 11 → ¬ k = 12 → newT q (q (220 + 27 * i + 1)) (q (220 + 27 * i)) (q (220 + 27 * i + 2)) (fun j => q (220 + 27 * i + 11 + q (220 + 27 * i + 2) - 1 - j)) 1 0 k = q k := fun k => newT_out
        have e22 : newT q (q (220 + 27 * i + 1)) (q (220 + 27 * i)) (q (220 + 27 * i + 2)) (fun j => q (220 + 27 * i + 11 + q (220 + 27 * i + 2) - 1 - j)) 1 0 2 = q 2 + 1 := by unfold newT; simp (disch := omega) only [if_pos, if_neg, if_true]
        refine ⟨hnew, by rw [out 0 (by omega) (by omega) (by omega) (by omega)]; exact oo.1, by rw [out 3 (by omega) (by omega) (by omega) (by omega)]; exact oo.2.1, by rw [e22]; omega, oo.2.2.2.1.trans ⟨out 0 (by omega) (by omega) (by omega) (by omega), out 1 (by omega) (by omega) (by omega) (by omega), fun k k0 k1 => out k (by omega) (by omega) (by omega) (by omega)⟩, by rw [out 13 (by omega) (by omega) (by omega) (by omega)]; exact oo.2.2.2.2.1, fun k k0 k1 => by rw [out k (by omega) (by omega) (by omega) (by omega)]; exact oo.2.2.2.2.2 k k0 k1⟩
  · rw [if_neg c1]
    have o : ∀ k, (k < 220 + 27 * i ∨ 220 + 27 * i + 27 ≤ k) → (k < 14 ∨ 18 < k) → L k = r k := fun k k0 k1 => ln k (by omega) (by omega) (by omega) (by omega)
    refine ⟨WF_tune hW hi o ?_ f9 (by rw [l3, h3, e15]; show _ = _ + ((0 : Int) - 0); omega) (by rw [l3, h3, e18]; show _ = _ + ((0 : Int) - 0); omega) (by omega), e0, e3, by rw [e2]; exact Int.le_refl _, ⟨e0, e1, fun k k0 k1 => o k (by omega) (by omega)⟩, o 13 (by omega) (by omega), fun k k0 k1 => o k (by omega) (by omega)⟩
    unfold Wy
    rw [e0, e3, f0, f1, f2, l3, f4, l5, f6, f7, f8, f9, f10]
    exact ⟨y0, y1, y2, y3, by omega, y5, by omega, y7, y8, y9, y10, y11, hS, hZ, fun _ => c1, (fun h => by omega)⟩
