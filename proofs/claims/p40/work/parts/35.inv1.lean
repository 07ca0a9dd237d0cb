/-! ===== what both sides ask first; copies ===== -/
theorem m_in {F : Nat} {v lo hi : Int} {w : aI} (h1 : rgL v) (h2 : rgL lo) (h3 : rgL hi) : f_X11_in F v lo hi w = some (decide (lo ≤ v ∧ v ≤ hi)) := by
  unfold f_X11_in lcmpI
  rw [gd_t h1, gd_t h2]
  by_cases c : v < lo
  · have e0 : (if lo < v then (1 : Int) else if v = lo then 0 else -1) = -1 := by rw [if_neg (by omega), if_neg (by omega)]
    rw [e0, if_pos (by decide), decide_eq_false (by omega)]
  · have e1 : ¬ (if lo < v then (1 : Int) else if v = lo then 0 else -1) < 0 := by
      split
      · decide
      · rw [if_pos (by omega)]; decide
    rw [if_neg e1, gd_t h1, gd_t h3]
    by_cases c2 : hi < v
    · have e2 : (if hi < v then (1 : Int) else if v = hi then 0 else -1) = 1 := if_pos c2
      rw [e2, if_pos (by decide), decide_eq_false (by omega)]
    · have e2 : ¬ 0 < (if hi < v then (1 : Int) else if v = hi then 0 else -1) := by
        rw [if_neg c2]
        split <;> decide
      rw [if_neg e2, decide_eq_true (by omega)]
/-- which exception of its list: the first that does not hold -/
def thr (a b c : Bool) : Int := if a = false then 1 else if b = false then 2 else if c = false then 3 else 0
theorem bI_eq0 (a : Bool) : (bI a = 0) = (a = false) := by cases a <;> simp [bI]
theorem m_may {F : Nat} {a b c : Bool} {w : aI} : f_X11_may F 210 (bI a) (bI b) (bI c) w = some (decide (thr a b c = 0), iset w 210 6 (thr a b c)) := by
  have h : ∀ p1 p2 p3 z w, rg z → f_X11_may_b26 F 210 p1 p2 p3 z 210 w = some (decide (z = 0), iset w 210 6 z) := fun p1 p2 p3 z w hz => by
    unfold f_X11_may_b26
    rw [ltm, is_eq, rs_self, gd_t hz]
    by_cases e : z = 0
    · rw [if_pos e, decide_eq_true e]
    · rw [if_neg e, decide_eq_false e]
  unfold f_X11_may
  rw [gd_t (bI_rg a), gd_t (bI_rg b), gd_t (bI_rg c), h _ _ _ 1 w (by decide), h _ _ _ 2 w (by decide), h _ _ _ 3 w (by decide), h _ _ _ 0 w (by decide)]
  cases a <;> cases b <;> cases c <;> rfl
theorem bI_1 : (1 : Int) = bI true := rfl
theorem bI_0 : (0 : Int) = bI false := rfl
theorem m_isRoof {F : Nat} {x : Int} {w : aI} (hx : rg x) (h0 : 0 ≤ w 211 0 ∧ w 211 0 ≤ 10) : f_X11_isRoof F 210 x w = some (decide (0 ≤ x ∧ x < w 211 0)) := by
  unfold f_X11_isRoof
  rw [m0, n0, gd_t hx, gd_t (by omega), gd_t (by omega), m_in (by omega) (by decide) (by omega), bs]
  congr 1
  exact decide_eq_decide.mpr (by omega)
theorem m_isTune {F : Nat} {x : Int} {w : aI} (hx : rg x) (h0 : 0 ≤ w 211 2 ∧ w 211 2 ≤ 30) : f_X11_isTune F 210 x w = some (decide (0 ≤ x ∧ x < w 211 2)) := by
  unfold f_X11_isTune
  rw [m0, n0, gd_t hx, gd_t (by omega), gd_t (by omega), m_in (by omega) (by decide) (by omega), bs]
  congr 1
  exact decide_eq_decide.mpr (by omega)
theorem m_areRoofs {F : Nat} {x y : Int} {w : aI} (hx : rg x) (hy : rg y) (h0 : 0 ≤ w 211 0 ∧ w 211 0 ≤ 10) : f_X11_areRoofs F 210 x y w = some (decide ((0 ≤ x ∧ x < w 211 0) ∧ 0 ≤ y ∧ y < w 211 0)) := by
  unfold f_X11_areRoofs
  rw [m_isRoof hx h0, bs, m_isRoof hy h0, bs]
  by_cases c : 0 ≤ x ∧ x < w 211 0
  · rw [if_pos (decide_eq_true c)]
    by_cases c2 : 0 ≤ y ∧ y < w 211 0
    · rw [if_pos (decide_eq_true c2), decide_eq_true ⟨c, c2⟩]
    · rw [if_neg (by rw [decide_eq_true_iff]; exact c2), decide_eq_false (fun z => c2 z.2)]
  · rw [if_neg (by rw [decide_eq_true_iff]; exact c), decide_eq_false (fun z => c z.1)]
abbrev eIO : String := "java/lang/IndexOutOfBoundsException"
abbrev eIA : String := "java/lang/IllegalArgumentException"
abbrev eIS : String := "java/lang/IllegalStateException"
abbrev eNS : String := "java/util/NoSuchElementException"
theorem k5 : shR 0 5 = 12 := by decide +kernel
theorem k6 : shR 0 6 = 30 := by decide +kernel
theorem k7 : shR 0 7 = 48 := by decide +kernel
theorem k8 : shR 0 8 = 10 := by decide +kernel
theorem k0 : shR 0 0 = 1 := by decide +kernel
theorem k1 : shR 0 1 = 3 := by decide +kernel
theorem k2 : shR 0 2 = 5 := by decide +kernel
theorem k3 : shR 0 3 = 6 := by decide +kernel
theorem k4 : shR 0 4 = 7 := by decide +kernel
theorem c_needNumber {F : Nat} {a : Nat} {v lo hi : Int} {w : aI} (h1 : rg v) (h2 : rg lo) (h3 : rg hi) : f_X10_needNumber F a v lo hi w = some (if lo ≤ v ∧ v ≤ hi then none else some eIA) := by
  unfold f_X10_needNumber
  rw [gd_t ⟨h1, h2⟩]
  by_cases c : v < lo
  · rw [if_pos c, if_neg (by omega)]
  · rw [if_neg c, gd_t h3]
    by_cases c2 : v ≤ hi
    · rw [if_pos c2, if_pos (by omega)]
    · rw [if_neg c2, if_neg (by omega)]
theorem c_needRoof {F : Nat} {x : Int} {w : aI} {r : Row} (h : Rep w 12 r) (hx : rg x) (h0 : 0 ≤ r 0 ∧ r 0 ≤ 10) : f_X10_needRoof F 0 x w = some (if 0 ≤ x ∧ x < r 0 then none else some eIO) := by
  unfold f_X10_needRoof
  rw [k5, h.1.2.2.1, gd_t hx]
  by_cases c : x < 0
  · rw [if_pos c, if_neg (by omega)]
  · rw [if_neg c, gd_t (by omega)]
    by_cases c2 : x < r 0
    · rw [if_pos c2, if_pos (by omega)]
    · rw [if_neg c2, if_neg (by omega)]
theorem c_needTune {F : Nat} {x : Int} {w : aI} {r : Row} (h : Rep w 12 r) (hx : rg x) (h0 : 0 ≤ r 2 ∧ r 2 ≤ 30) : f_X10_needTune F 0 x w = some (if 0 ≤ x ∧ x < r 2 then none else some eIO) := by
  unfold f_X10_needTune
  rw [k5, h.1.2.2.2.2, gd_t hx]
  by_cases c : x < 0
  · rw [if_pos c, if_neg (by omega)]
  · rw [if_neg c, gd_t (by omega)]
    by_cases c2 : x < r 2
    · rw [if_pos c2, if_pos (by omega)]
    · rw [if_neg c2, if_neg (by omega)]
/-- rows that are the same where they count -/
def Cp (r q : Row) : Prop := ∀ k, 0 ≤ k → k < 1030 → q k = r k
theorem Cp.refl (r : Row) : Cp r r := fun _ _ _ => rfl
theorem Cp.same {r q : Row} (h : Cp r q) : SameW r q := ⟨h 0 (by omega) (by omega), h 1 (by omega) (by omega), fun k k0 k1 => h k (by omega) (by omega)⟩
theorem Cp.wf {r q : Row} (h : Cp r q) (hW : WF r) : WF q := by
  obtain ⟨hb, hr, hw, ht, a1, a2, a3, a4, a5, a6, a7⟩ := hW
  obtain ⟨b0, b1, b2, b3, b4, b5, b6⟩ := hb
  have e0 := h 0 (by omega) (by omega)
  have e1 := h 1 (by omega) (by omega)
  have e2 := h 2 (by omega) (by omega)
  have e3 := h 3 (by omega) (by omega)
  have e4 := h 4 (by omega) (by omega)
  have e5 := h 5 (by omega) (by omega)
  have e6 := h 6 (by omega) (by omega)
  refine ⟨by unfold Wb; omega, fun x x0 x1 => Wx_congr (r := r) (by omega) (fun k k0 k1 => h k (by omega) (by omega)) (hr x x0 (by omega)), h.same.ww (by omega) hw, fun j j0 j1 => Wy_congr (r := r) e0 (by omega) (fun k k0 k1 => h k (by omega) (by omega)) (ht j j0 (by omega)), ?_⟩
  refine ⟨by rw [h 11 (by omega) (by omega), e2]; exact a1, ?_, ?_, by rw [h 16 (by omega) (by omega), h 15 (by omega) (by omega)]; exact a4, ?_, by rw [h 13 (by omega) (by omega), e3]; exact a6, ?_⟩
  · rw [h 15 (by omega) (by omega), a2, e2]
    exact cnt_congr fun i i0 i1 => by rw [h _ (by omega) (by omega)]
  · rw [h 18 (by omega) (by omega), a3, e2]
    exact cnt_congr fun i i0 i1 => by rw [h _ (by omega) (by omega)]
  · rw [h 13 (by omega) (by omega), a5, e2]
    exact sm_congr fun i i0 i1 => (h _ (by omega) (by omega)).symm
  · rw [h 7 (by omega) (by omega), h 20 (by omega) (by omega), ← a7, e0]
    exact sm_congr fun i i0 i1 => h _ (by omega) (by omega)
theorem Cp.rep {w : aI} {b : Nat} {r q : Row} (h : Cp r q) (hW : WF r) (k : Rep w b r) : Rep w b q := by
  obtain ⟨b0, b1, b2, b3, b4, b5, b6⟩ := hW.1
  obtain ⟨⟨k1, k1a, k1b, k1c, k1d⟩, k2, k3, k4, k5, k6, k7⟩ := k
  have e0 := h 0 (by omega) (by omega)
  refine ⟨⟨k1, ?_⟩, ?_, fun j j0 j1 => ?_, ⟨fun x x0 x1 => ?_, ?_⟩, RepW_congr b1.2 h.same rfl k5, fun j j0 j1 => ?_, RepR_congr b1 h.same rfl rfl rfl k7⟩
  · rw [h 3 (by omega) (by omega), e0, h 1 (by omega) (by omega), h 2 (by omega) (by omega)]
    exact ⟨k1a, k1b, k1c, k1d⟩
  · unfold RepS
    rw [h 4 (by omega) (by omega), h 5 (by omega) (by omega), h 6 (by omega) (by omega)]
    exact k2
  · rw [h _ (by omega) (by omega)]; exact k3 j j0 j1
  · rw [e0] at x1
    exact RX_congr (fun _ _ _ => rfl) (fun k c d => h k (by omega) (by omega)) (k4.1 x x0 x1)
  · rw [e0, h 7 (by omega) (by omega)]; exact k4.2
  · rw [h 2 (by omega) (by omega)] at j1
    exact RT_congr (fun _ _ _ => rfl) (fun k c d => h k (by omega) (by omega)) (k6 j j0 j1)
/-! ===== a post is taken over ===== -/
theorem ic_stc (w : aI) (a0 a : Nat) (n : Int) : icpy w a0 a n = stc w a (fun j => if 0 ≤ j ∧ j < n then w a0 j else w a j) := by
  funext b j
  unfold icpy stc
  by_cases c : b = a
  · subst c
    by_cases d : 0 ≤ j ∧ j < n
    · rw [if_pos ⟨rfl, d⟩, if_pos rfl, if_pos d]
    · rw [if_neg (fun z => d z.2), if_pos rfl, if_neg d]
  · rw [if_neg (fun z => c z.1), if_neg c]
theorem cp_tab {F t1 t2 c1 c2 : Nat} {L : Nat} (w : aI) (h1 : shR t1 2 = c1) (h2 : shR t2 2 = c2) (l1 : shL c1 = L) (l2 : shL c2 = L) : ∃ w2, f_X7_copyFrom F t1 t2 w = some w2 ∧ (∀ a, ¬ a = c1 → w2 a = w a) ∧ ∀ j, 0 ≤ j → j < (L : Int) → w2 c1 j = w c2 j := by
  refine ⟨stc w c1 (fun j => if 0 ≤ j ∧ j < (L : Int) then w c2 j else w c1 j), ?_, fun a ha => stc_ne ha, fun j j0 j1 => ?_⟩
  · unfold f_X7_copyFrom
    rw [h1, h2, l1, l2, Int.min_self, gd_t (by omega), ltm, ic_stc]
  · rw [stc_eq]; exact if_pos ⟨j0, j1⟩
def Pd (b c : Nat) : Prop := b + 18 ≤ c ∨ c + 18 ≤ b
theorem Pb.pd {b c : Nat} (hb : Pb b) (hc : Pb c) (h : ¬ b = c) : Pd b c := by
  have : ∀ b ∈ [12, 30, 48, 66, 84, 102, 120, 138, 156, 174, 192], ∀ c ∈ [12, 30, 48, 66, 84, 102, 120, 138, 156, 174, 192], ¬ b = c → (b + 18 ≤ c ∨ c + 18 ≤ b) := by decide +kernel
  exact this b hb c hc h
theorem c_copy {F b c : Nat} {w : aI} {r : Row} (hb : Pb b) (hc : Pb c) (hbc : ¬ b = c) (hW : WF r) (h : Rep w c r) (hT : TOK w b) : ∃ w2, f_X2_copyFrom F b c w = some w2 ∧ Rep w2 b r ∧ Fc b w w2 := by
  have hd := hb.pd hc hbc
  unfold Pd at hd
  obtain ⟨b0, b1, b2, b3, b4, b5, b6⟩ := hW.1
  unfold f_X2_copyFrom f_X3_copyFrom
  rw [pf4 hb, pf5 hb, pf6 hb, pf7 hb, pf8 hb, pf9 hb, pf4 hc, pf5 hc, pf6 hc, pf7 hc, pf8 hc, pf9 hc, pr0 hb, pr1 hb, pr2 hb, pr0 hc, pr1 hc, pr2 hc, ltm, ltm, ltm, ltm]
  obtain ⟨w0, e0⟩ : ∃ w0, w0 = iset (iset (iset (iset w b 0 (w c 0)) b 1 (iset w b 0 (w c 0) c 1)) b 2 (iset (iset w b 0 (w c 0)) b 1 (iset w b 0 (w c 0) c 1) c 2)) b 3 (iset (iset (iset w b 0 (w c 0)) b 1 (iset w b 0 (w c 0) c 1)) b 2 (iset (iset w b 0 (w c 0)) b 1 (iset w b 0 (w c 0) c 1) c 2) c 3) := ⟨_, rfl⟩
  rw [← e0]
  have cb : ¬ c = b := fun e => hbc e.symm
  have n0 : ∀ a, ¬ a = b → w0 a = w a := fun a ha => by rw [e0, is_ne ha, is_ne ha, is_ne ha, is_ne ha]
  have f0 : w0 b 0 = w c 0 := by rw [e0, is_eq, rs_ne (by omega), is_eq, rs_ne (by omega), is_eq, rs_ne (by omega), is_eq, rs_self]
  have f1 : w0 b 1 = w c 1 := by rw [e0, is_eq, rs_ne (by omega), is_eq, rs_ne (by omega), is_eq, rs_self, is_ne cb]
  have f2 : w0 b 2 = w c 2 := by rw [e0, is_eq, rs_ne (by omega), is_eq, rs_self, is_ne cb, is_ne cb]
  have f3 : w0 b 3 = w c 3 := by rw [e0, is_eq, rs_self, is_ne cb, is_ne cb, is_ne cb]
  clear e0
  obtain ⟨w1, e1, n1, g1⟩ := cp_tab (F := F) w0 (ptX hb) (ptX hc) (plX hb) (plX hc)
  rw [e1, bs]
  obtain ⟨w2, e2, n2, g2⟩ := cp_tab (F := F) w1 (ptW hb) (ptW hc) (plW hb) (plW hc)
  rw [e2, bs]
  obtain ⟨w3, e3, n3, g3⟩ := cp_tab (F := F) w2 (ptT hb) (ptT hc) (plT hb) (plT hc)
  rw [e3, bs]
  obtain ⟨w4, e4, n4, g4⟩ := cp_tab (F := F) w3 (ptS hb) (ptS hc) (plS hb) (plS hc)
  rw [e4, bs]
  obtain ⟨w5, e5, n5, g5⟩ := cp_tab (F := F) w4 (ptA hb) (ptA hc) (plA hb) (plA hc)
  rw [e5, bs]
  obtain ⟨w6, e6, n6, g6⟩ := cp_tab (F := F) w5 (ptF hb) (ptF hc) (plF hb) (plF hc)
  rw [e6, bs]
  obtain ⟨w7, e7, n7, g7⟩ := cp_tab (F := F) w6 (ptM hb) (ptM hc) (plM hb) (plM hc)
  rw [e7, bs]
  obtain ⟨w8, e8, n8, g8⟩ := cp_tab (F := F) w7 (ptN hb) (ptN hc) (plN hb) (plN hc)
  rw [e8, bs, bs]
  refine ⟨w8, rfl, ?_, fun a ha => by rw [n8 a (by omega), n7 a (by omega), n6 a (by omega), n5 a (by omega), n4 a (by omega), n3 a (by omega), n2 a (by omega), n1 a (by omega), n0 a (by omega)]⟩
  have k2 : ∀ j, 0 ≤ j → j < 80 → w8 (b + 2) j = w (c + 2) j := fun j j0 j1 => by rw [n8 _ (by omega), n7 _ (by omega), n6 _ (by omega), n5 _ (by omega), n4 _ (by omega), n3 _ (by omega), n2 _ (by omega), g1 j j0 j1, n0 _ (by omega)]
  have k4 : ∀ j, 0 ≤ j → j < 60 → w8 (b + 4) j = w (c + 4) j := fun j j0 j1 => by rw [n8 _ (by omega), n7 _ (by omega), n6 _ (by omega), n5 _ (by omega), n4 _ (by omega), n3 _ (by omega), g2 j j0 j1, n1 _ (by omega), n0 _ (by omega)]
  have k6 : ∀ j, 0 ≤ j → j < 390 → w8 (b + 6) j = w (c + 6) j := fun j j0 j1 => by rw [n8 _ (by omega), n7 _ (by omega), n6 _ (by omega), n5 _ (by omega), n4 _ (by omega), g3 j j0 j1, n2 _ (by omega), n1 _ (by omega), n0 _ (by omega)]
  have k8 : ∀ j, 0 ≤ j → j < 3 → w8 (b + 8) j = w (c + 8) j := fun j j0 j1 => by rw [n8 _ (by omega), n7 _ (by omega), n6 _ (by omega), n5 _ (by omega), g4 j j0 j1, n3 _ (by omega), n2 _ (by omega), n1 _ (by omega), n0 _ (by omega)]
  have k10 : ∀ j, 0 ≤ j → j < 11 → w8 (b + 10) j = w (c + 10) j := fun j j0 j1 => by rw [n8 _ (by omega), n7 _ (by omega), n6 _ (by omega), g5 j j0 j1, n4 _ (by omega), n3 _ (by omega), n2 _ (by omega), n1 _ (by omega), n0 _ (by omega)]
  have k13 : ∀ j, 0 ≤ j → j < 100 → w8 (b + 13) j = w (c + 13) j := fun j j0 j1 => by rw [n8 _ (by omega), n7 _ (by omega), g6 j j0 j1, n5 _ (by omega), n4 _ (by omega), n3 _ (by omega), n2 _ (by omega), n1 _ (by omega), n0 _ (by omega)]
  have k15 : ∀ j, 0 ≤ j → j < 100 → w8 (b + 15) j = w (c + 15) j := fun j j0 j1 => by rw [n8 _ (by omega), g7 j j0 j1, n6 _ (by omega), n5 _ (by omega), n4 _ (by omega), n3 _ (by omega), n2 _ (by omega), n1 _ (by omega), n0 _ (by omega)]
  have k17 : ∀ j, 0 ≤ j → j < 100 → w8 (b + 17) j = w (c + 17) j := fun j j0 j1 => by rw [g8 j j0 j1, n7 _ (by omega), n6 _ (by omega), n5 _ (by omega), n4 _ (by omega), n3 _ (by omega), n2 _ (by omega), n1 _ (by omega), n0 _ (by omega)]
  obtain ⟨⟨z1, z2⟩, z3, z4, z5, z6, z7, z8⟩ := h
  have hS : ∀ a, (a = b + 1 ∨ a = b + 3 ∨ a = b + 5 ∨ a = b + 7 ∨ a = b + 9 ∨ a = b + 12 ∨ a = b + 14 ∨ a = b + 16) → w8 a = w a := fun a ha => by
    rw [n8 _ (by omega), n7 _ (by omega), n6 _ (by omega), n5 _ (by omega), n4 _ (by omega), n3 _ (by omega), n2 _ (by omega), n1 _ (by omega), n0 _ (by omega)]
  refine ⟨⟨?_, ?_⟩, ?_, fun k k0 k1 => ?_, ⟨fun x x0 x1 => ?_, ?_⟩, fun i i0 i1 => ?_, fun i i0 i1 => ?_, fun x y x0 x1 y0 y1 => ?_⟩
  · unfold TOK at hT ⊢
    rw [hS (b + 1) (by omega), hS (b + 3) (by omega), hS (b + 5) (by omega), hS (b + 7) (by omega), hS (b + 9) (by omega), hS (b + 12) (by omega), hS (b + 14) (by omega), hS (b + 16) (by omega)]
    exact hT
  · have eb : w8 b = w0 b := by rw [n8 _ (by omega), n7 _ (by omega), n6 _ (by omega), n5 _ (by omega), n4 _ (by omega), n3 _ (by omega), n2 _ (by omega), n1 _ (by omega)]
    rw [eb, f0, f1, f2, f3]; exact z2
  · unfold RepS
    rw [k8 0 (by omega) (by omega), k8 1 (by omega) (by omega), k8 2 (by omega) (by omega)]
    exact z3
  · rw [k10 k k0 k1]; exact z4 k k0 k1
  · have u := z5.1 x x0 x1
    unfold RX at u ⊢
    rw [k2 _ (by omega) (by omega), k2 _ (by omega) (by omega), k2 _ (by omega) (by omega), k2 _ (by omega) (by omega), k2 _ (by omega) (by omega), k2 _ (by omega) (by omega), k2 _ (by omega) (by omega), k2 _ (by omega) (by omega)]
    exact u
  · rw [← z5.2]
    exact sm_congr fun x x0 x1 => k2 _ (by omega) (by omega)
  · rw [k4 _ (by omega) (by omega), k4 _ (by omega) (by omega), k4 _ (by omega) (by omega)]
    exact z6 i i0 i1
  · obtain ⟨t0, t1, t2, t3, t4⟩ := z7 i i0 i1
    refine ⟨fun k k0 k1 => ?_, ?_, ?_, ?_, ?_⟩
    · rw [k6 _ (by omega) (by omega)]; exact t0 k k0 k1
    · rw [k6 _ (by omega) (by omega)]; exact t1
    · rw [k6 _ (by omega) (by omega)]; exact t2
    · rw [k6 _ (by omega) (by omega)]; exact t3
    · rw [k6 _ (by omega) (by omega)]; exact t4
  · rw [k13 _ (by omega) (by omega), k15 _ (by omega) (by omega), k17 _ (by omega) (by omega)]
    exact z8 x y x0 x1 y0 y1
