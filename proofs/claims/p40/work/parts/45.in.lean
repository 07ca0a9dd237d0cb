/-! ===== what is fed in ===== -/
theorem Inv.inp {w w3 : aI} (h : Inv w) (f1 : ∀ a, ¬ a = 1 → ¬ a = 2 → ¬ a = 210 → ¬ a = 218 → w3 a = w a) (f2 : ∀ k, ¬ k = 6 → ¬ k = 13 → w3 210 k = w 210 k) (hI : IvI w3) : Inv w3 := by
  obtain ⟨hT, -, hO, hE, hN, hS, hP⟩ := h
  have pbd : ∀ b, Pb b → 12 ≤ b ∧ b + 18 ≤ 210 := fun b hb => by
    have : ∀ b ∈ [12, 30, 48, 66, 84, 102, 120, 138, 156, 174, 192], 12 ≤ b ∧ b + 18 ≤ 210 := by decide
    exact this b hb
  have lo : ∀ a, 2 < a → ¬ a = 210 → ¬ a = 218 → w3 a = w a := fun a a0 a1 a2 => f1 a (by omega) (by omega) a1 a2
  refine ⟨⟨fun b hb => (hT.1 b hb).of fun a a0 a1 => ?_, ?_⟩, hI, ?_, ?_, ?_, ?_, ?_⟩
  · have := pbd b hb
    exact lo a (by omega) (by omega) (by omega)
  · rw [lo 8 (by decide) (by decide) (by decide)]; exact hT.2
  · unfold IvO
    rw [lo 3 (by decide) (by decide) (by decide), lo 4 (by decide) (by decide) (by decide), f2 27 (by decide) (by decide), lo 222 (by decide) (by decide) (by decide)]; exact hO
  · unfold IvE
    rw [lo 5 (by decide) (by decide) (by decide), f2 14 (by decide) (by decide), f2 15 (by decide) (by decide)]; exact hE
  · unfold IvN
    rw [lo 211 (by decide) (by decide) (by decide)]
    exact PR.of hN fun a a0 a1 => lo a (by omega) (by omega) (by omega)
  · unfold IvS
    rw [f1 0 (by decide) (by decide) (by decide) (by decide), f2 5 (by decide) (by decide), lo 213 (by decide) (by decide) (by decide)]
    exact ⟨hS.1, hS.2.1, fun e => (hS.2.2 e).of fun a a0 a1 => lo a (by omega) (by omega) (by omega)⟩
  · unfold IvP
    rw [lo 10 (by decide) (by decide) (by decide), f2 4 (by decide) (by decide), lo 214 (by decide) (by decide) (by decide)]
    refine ⟨hP.1, hP.2.1, hP.2.2.1, fun j j0 j1 => (hP.2.2.2 j j0 j1).of fun a a0 a1 => ?_⟩
    have h9 := hP.2.2.1
    have := pb_bd (m := (w 10 1 + j) % 8) (by omega)
    exact lo a (by omega) (by omega) (by omega)
theorem top_truncateInput {F : Nat} {n : Int} (hn : rg n) : TopBW (f_X10_truncateInput F 0 n) (f_X11_truncateInput F 210 n) := by
  intro w hI
  obtain ⟨i1, i2, i3⟩ := hI.2.1
  unfold f_X10_truncateInput f_X0_cutTo f_X11_truncateInput
  rw [k0, gd_t hn, i1, gd_t (by omega)]
  have e13 : iset w 210 6 0 210 13 = w 210 13 := by rw [is_eq, rs_ne (by decide)]
  by_cases c : 0 ≤ n ∧ n ≤ w 210 13
  · rw [if_neg (by omega), if_pos c.2, ltm, bk]
    refine ⟨true, iset w 1 1 n, iset (iset (iset w 1 1 n) 210 6 0) 210 13 n, rfl, ?_, ?_⟩
    · have e14 : iset (iset w 1 1 n) 210 6 0 210 13 = w 210 13 := by rw [is_eq, rs_ne (by decide), is_ne (by decide)]
      rw [ltm, gd_t hn, e14, gd_t (by omega), m_in (by omega) (by decide) (by omega), bs, decide_eq_true c, if_pos rfl, ltm]
    · refine hI.inp (fun a a0 a1 a2 a3 => by rw [is_ne a2, is_ne a2, is_ne a0]) (fun k k0 k1 => by rw [is_eq, rs_ne k1, is_eq, rs_ne k0, is_ne (by decide)]) ?_
      unfold IvI
      rw [is_ne (show ¬ (1 : Nat) = 210 by decide), is_ne (show ¬ (1 : Nat) = 210 by decide), is_eq, rs_self, is_eq, rs_self]
      refine ⟨rfl, by omega, fun k k0 k1 => ?_⟩
      rw [is_ne (by decide), is_ne (by decide), is_ne (by decide), is_ne (by decide), is_ne (by decide), is_ne (by decide)]
      exact i3 k k0 (by omega)
  · refine ⟨false, w, iset w 210 6 0, ?_, ?_, hI.thr 0⟩
    · by_cases c2 : n < 0
      · rw [if_pos c2, bk]
      · rw [if_neg c2, if_neg (by omega), bk]
    · rw [ltm, gd_t hn, e13, gd_t (by omega), m_in (by omega) (by decide) (by omega), bs, decide_eq_false c, if_neg (by decide)]
theorem ius_v {a : Int32} (v : Nat) (hv : v = 0 ∨ v = 8 ∨ v = 16 ∨ v = 24) : (ius a (oI (v : Int))).toBitVec.toNat = a.toBitVec.toNat / 2 ^ v := by
  rcases hv with rfl | rfl | rfl | rfl
  · have e : (ius a (oI ((0 : Nat) : Int))).toBitVec = a.toBitVec >>> 0 := rfl
    rw [e, BitVec.toNat_ushiftRight, Nat.shiftRight_eq_div_pow]
  · have e : (ius a (oI ((8 : Nat) : Int))).toBitVec = a.toBitVec >>> 8 := rfl
    rw [e, BitVec.toNat_ushiftRight, Nat.shiftRight_eq_div_pow]
  · have e : (ius a (oI ((16 : Nat) : Int))).toBitVec = a.toBitVec >>> 16 := rfl
    rw [e, BitVec.toNat_ushiftRight, Nat.shiftRight_eq_div_pow]
  · have e : (ius a (oI ((24 : Nat) : Int))).toBitVec = a.toBitVec >>> 24 := rfl
    rw [e, BitVec.toNat_ushiftRight, Nat.shiftRight_eq_div_pow]
theorem ius_and {p : Int} (hp : rg p) (v : Nat) (hv : v = 0 ∨ v = 8 ∨ v = 16 ∨ v = 24) : andI (iusI p v) 255 = p / 2 ^ v % 256 := by
  have hle := Nat.and_le_right (n := (ius (oI p) (oI (v : Int))).toBitVec.toNat) (m := 255)
  have e1 : andI (iusI p v) 255 = ((ius (oI p) (oI (v : Int))).toBitVec &&& BitVec.ofNat 32 255).toInt := by
    show ((oI (iusI p v)).toBitVec &&& (oI ((255 : Nat) : Int)).toBitVec).toInt = _
    rw [oI_bv]
    have : oI (iusI p v) = ius (oI p) (oI (v : Int)) := Int32.ofInt_toInt _
    rw [this]
  have e2 : ((ius (oI p) (oI (v : Int))).toBitVec &&& BitVec.ofNat 32 255).toNat = (ius (oI p) (oI (v : Int))).toBitVec.toNat &&& 255 := by
    rw [BitVec.toNat_and, BitVec.toNat_ofNat]
  rw [e1, BitVec.toInt_eq_toNat_of_lt (by rw [e2]; omega), e2, ius_v v hv, show (255 : Nat) = 2 ^ 8 - 1 from rfl, Nat.and_two_pow_sub_one_eq_mod]
  have e3 : ((oI p).toBitVec.toNat : Int) = p % 4294967296 := by
    show ((BitVec.ofInt 32 p).toNat : Int) = _
    rw [BitVec.toNat_ofInt]
    omega
  have hp' : -2147483648 ≤ p ∧ p ≤ 2147483647 := hp
  rcases hv with rfl | rfl | rfl | rfl
  · simp only [Nat.pow_zero, Int.pow_zero]; omega
  · show (((oI p).toBitVec.toNat / 256 % 256 : Nat) : Int) = p / 256 % 256
    omega
  · show (((oI p).toBitVec.toNat / 65536 % 256 : Nat) : Int) = p / 65536 % 256
    omega
  · show (((oI p).toBitVec.toNat / 16777216 % 256 : Nat) : Int) = p / 16777216 % 256
    omega
def addB (w : aI) (b : Int) : aI := iset (iset w 2 (w 1 1) b) 1 1 (w 1 1 + 1)
def addM (w : aI) (b : Int) : aI := iset (iset w 218 (w 210 13) (i2bI b)) 210 13 (w 210 13 + 1)
theorem addB_n (w : aI) (b : Int) : addB w b 1 1 = w 1 1 + 1 := by unfold addB; rw [is_eq, rs_self]
theorem addM_n (w : aI) (b : Int) : addM w b 210 13 = w 210 13 + 1 := by unfold addM; rw [is_eq, rs_self]
theorem addB_o {w : aI} {b : Int} {a : Nat} (h1 : ¬ a = 1) (h2 : ¬ a = 2) : addB w b a = w a := by unfold addB; rw [is_ne h1, is_ne h2]
theorem addM_o {w : aI} {b : Int} {a : Nat} (h1 : ¬ a = 210) (h2 : ¬ a = 218) : addM w b a = w a := by unfold addM; rw [is_ne h1, is_ne h2]
theorem addM_f {w : aI} {b k : Int} (h : ¬ k = 13) : addM w b 210 k = w 210 k := by unfold addM; rw [is_eq, rs_ne h, is_ne (by decide)]
theorem c_add {F : Nat} {w : aI} {b : Int} (h : 0 ≤ w 1 1 ∧ w 1 1 < 800) : f_X0_add F 1 b w = some (addB w b) := by
  unfold f_X0_add addB
  rw [show shR 1 0 = 2 by decide +kernel, show shL 2 = 800 by decide +kernel, gd_t (by omega), if_neg (by omega), if_neg (by omega), gd_t (by omega), ltm, is_ne (show ¬ (1 : Nat) = 2 by decide), ltm]
/-- what the two have in hand -/
def JI (u v : aI) : Prop := u 1 1 = v 210 13 ∧ 0 ≤ v 210 13 ∧ ∀ k, 0 ≤ k → k < v 210 13 → (0 ≤ u 2 k ∧ u 2 k ≤ 255) ∧ v 218 k = i2bI (u 2 k)
theorem JI.add {u v : aI} {b : Int} (h : JI u v) (hb : 0 ≤ b ∧ b ≤ 255) : JI (addB u b) (addM v b) := by
  obtain ⟨h1, h2, h3⟩ := h
  unfold JI
  rw [addB_n, addM_n, h1]
  refine ⟨rfl, by omega, fun k k0 k1 => ?_⟩
  have e1 : addB u b 2 = rs (u 2) (v 210 13) b := by unfold addB; rw [is_ne (by decide), is_eq, h1]
  have e2 : addM v b 218 = rs (v 218) (v 210 13) (i2bI b) := by unfold addM; rw [is_ne (by decide), is_eq]
  rw [e1, e2]
  by_cases c : k = v 210 13
  · rw [c, rs_self, rs_self]
    exact ⟨hb, rfl⟩
  · rw [rs_ne c, rs_ne c]
    exact h3 k k0 (by omega)
def addB4 (w : aI) (p : Int) : aI := addB (addB (addB (addB w (p / 16777216 % 256)) (p / 65536 % 256)) (p / 256 % 256)) (p % 256)
def addM4 (w : aI) (p : Int) : aI := addM (addM (addM (addM w (p / 16777216 % 256)) (p / 65536 % 256)) (p / 256 % 256)) (p % 256)
theorem JI.add4 {u v : aI} {p : Int} (h : JI u v) : JI (addB4 u p) (addM4 v p) := (((h.add (by omega)).add (by omega)).add (by omega)).add (by omega)
theorem addB4_n (w : aI) (p : Int) : addB4 w p 1 1 = w 1 1 + 4 := by
  unfold addB4; rw [addB_n, addB_n, addB_n, addB_n]; omega
theorem addM4_n (w : aI) (p : Int) : addM4 w p 210 13 = w 210 13 + 4 := by
  unfold addM4; rw [addM_n, addM_n, addM_n, addM_n]; omega
theorem addB4_o {w : aI} {p : Int} {a : Nat} (h1 : ¬ a = 1) (h2 : ¬ a = 2) : addB4 w p a = w a := by
  unfold addB4; rw [addB_o h1 h2, addB_o h1 h2, addB_o h1 h2, addB_o h1 h2]
theorem addM4_o {w : aI} {p : Int} {a : Nat} (h1 : ¬ a = 210) (h2 : ¬ a = 218) : addM4 w p a = w a := by
  unfold addM4; rw [addM_o h1 h2, addM_o h1 h2, addM_o h1 h2, addM_o h1 h2]
theorem addM4_f {w : aI} {p k : Int} (h : ¬ k = 13) : addM4 w p 210 k = w 210 k := by
  unfold addM4; rw [addM_f h, addM_f h, addM_f h, addM_f h]
theorem c_four {F : Nat} (hF : 10 ≤ F) {w : aI} {p : Int} (hp : rg p) (h : 0 ≤ w 1 1 ∧ w 1 1 ≤ 796) : f_X10_appendFour F 0 p w = some (addB4 w p) := by
  obtain ⟨n, rfl⟩ : ∃ n, F = n + 5 := ⟨F - 5, by omega⟩
  have st : ∀ (F m : Nat) (v : Nat) (w : aI), (v = 0 ∨ v = 8 ∨ v = 16 ∨ v = 24) → 0 ≤ w 1 1 ∧ w 1 1 < 800 → f_X10_appendFour_b3 F 0 p (m + 1) v w = f_X10_appendFour_b3 F 0 p m ((v : Int) + -8) (addB w (p / 2 ^ v % 256)) := by
    intro F m v w hv hw
    show f_X10_appendFour_b3_b F 0 p (f_X10_appendFour_b3 F 0 p m) _ _ = _
    unfold f_X10_appendFour_b3_b
    rw [gd_t (by omega), if_neg (by omega), k0, ius_and hp v hv, c_add hw, bs]
  unfold f_X10_appendFour
  have e1 := st (n + 5) (n + 4) 24 w (by omega) (by omega)
  have e2 := st (n + 5) (n + 3) 16 (addB w (p / 2 ^ 24 % 256)) (by omega) (by rw [addB_n]; omega)
  have e3 := st (n + 5) (n + 2) 8 (addB (addB w (p / 2 ^ 24 % 256)) (p / 2 ^ 16 % 256)) (by omega) (by rw [addB_n, addB_n]; omega)
  have e4 := st (n + 5) (n + 1) 0 (addB (addB (addB w (p / 2 ^ 24 % 256)) (p / 2 ^ 16 % 256)) (p / 2 ^ 8 % 256)) (by omega) (by rw [addB_n, addB_n, addB_n]; omega)
  refine e1.trans (e2.trans (e3.trans (e4.trans ?_)))
  have en : ∀ (F m : Nat) (v : Int) (w : aI), v = -8 → f_X10_appendFour_b3 F 0 p (m + 1) v w = some w := by
    intro F m v w hv
    show f_X10_appendFour_b3_b F 0 p (f_X10_appendFour_b3 F 0 p m) _ _ = _
    unfold f_X10_appendFour_b3_b
    rw [gd_t (by omega), if_pos (by omega)]
  rw [en (n + 5) n _ _ (by decide), show (p / 2 ^ 0 : Int) = p by omega]
  rfl
theorem m_four {F : Nat} (hF : 10 ≤ F) {w : aI} {p : Int} (hp : rg p) (h : 0 ≤ w 210 13 ∧ w 210 13 ≤ 796) : f_X11_four F 210 p w = some (addM4 w p) := by
  obtain ⟨n, rfl⟩ : ∃ n, F = n + 5 := ⟨F - 5, by omega⟩
  have st : ∀ (F m : Nat) (v : Int) (w : aI) (b : Int), 0 ≤ v ∧ v ≤ 3 → 0 ≤ w 210 13 ∧ w 210 13 < 800 → i2bI (shr p (8 * v)) = i2bI b → f_X11_four_b2 F 210 p (m + 1) v w = f_X11_four_b2 F 210 p m (v + -1) (addM w b) := by
    intro F m v w b hv hw hb
    show f_X11_four_b2_b F 210 p (f_X11_four_b2 F 210 p m) _ _ = _
    unfold f_X11_four_b2_b addM
    have hr : -128 ≤ i2bI b ∧ i2bI b ≤ 127 := by unfold i2bI; omega
    rw [gd_t (by omega), if_neg (by omega), gd_t hp, gd_t (by omega), m12, n12, hb, gd_t ⟨by unfold inI; omega, hr⟩, ltm, is_ne (show ¬ (210 : Nat) = 218 by decide), ltm]
  unfold f_X11_four
  have e1 := st (n + 5) (n + 4) 3 w (p / 16777216 % 256) (by omega) (by omega) (by unfold i2bI shr; show (p / 16777216 + 128) % 256 - 128 = _; omega)
  have e2 := st (n + 5) (n + 3) 2 (addM w (p / 16777216 % 256)) (p / 65536 % 256) (by omega) (by rw [addM_n]; omega) (by unfold i2bI shr; show (p / 65536 + 128) % 256 - 128 = _; omega)
  have e3 := st (n + 5) (n + 2) 1 (addM (addM w (p / 16777216 % 256)) (p / 65536 % 256)) (p / 256 % 256) (by omega) (by rw [addM_n, addM_n]; omega) (by unfold i2bI shr; show (p / 256 + 128) % 256 - 128 = _; omega)
  have e4 := st (n + 5) (n + 1) 0 (addM (addM (addM w (p / 16777216 % 256)) (p / 65536 % 256)) (p / 256 % 256)) (p % 256) (by omega) (by rw [addM_n, addM_n, addM_n]; omega) (by unfold i2bI shr; show (p / 1 + 128) % 256 - 128 = _; omega)
  refine e1.trans (e2.trans (e3.trans (e4.trans ?_)))
  have en : ∀ (F m : Nat) (v : Int) (w : aI), v = -1 → f_X11_four_b2 F 210 p (m + 1) v w = some w := by
    intro F m v w hv
    show f_X11_four_b2_b F 210 p (f_X11_four_b2 F 210 p m) _ _ = _
    unfold f_X11_four_b2_b
    rw [gd_t (by omega), if_pos (by omega)]
  rw [en (n + 5) n _ _ (by decide)]
  rfl
theorem top_appendInput {F : Nat} (hF : 20000 ≤ F) {p1 p2 p3 p4 p5 : Int} (h1 : rg p1) (h2 : rg p2) (h3 : rg p3) (h4 : rg p4) (h5 : rg p5) : TopW (f_X10_appendInput F 0 p1 p2 p3 p4 p5) (f_X11_appendInput F 210 p1 p2 p3 p4 p5) := by
  intro w hI
  obtain ⟨i1, i2, i3⟩ := hI.2.1
  unfold f_X10_appendInput f_X0_size f_X11_appendInput
  rw [k0, bs, i1, gd_t (by omega)]
  by_cases c : w 210 13 + 20 ≤ 800
  · rw [if_pos c, c_four (by omega) h1 (by omega), bs, c_four (by omega) h2 (by rw [addB4_n]; omega), bs, c_four (by omega) h3 (by rw [addB4_n, addB4_n]; omega), bs, c_four (by omega) h4 (by rw [addB4_n, addB4_n, addB4_n]; omega), bs, c_four (by omega) h5 (by rw [addB4_n, addB4_n, addB4_n, addB4_n]; omega), bs, bs]
    obtain ⟨u, hu⟩ : ∃ u, u = addB4 (addB4 (addB4 (addB4 (addB4 w p1) p2) p3) p4) p5 := ⟨_, rfl⟩
    rw [← hu]
    have un : u 1 1 = w 210 13 + 20 := by rw [hu, addB4_n, addB4_n, addB4_n, addB4_n, addB4_n]; omega
    have uo : ∀ a, ¬ a = 1 → ¬ a = 2 → u a = w a := fun a a0 a1 => by rw [hu, addB4_o a0 a1, addB4_o a0 a1, addB4_o a0 a1, addB4_o a0 a1, addB4_o a0 a1]
    obtain ⟨x, hx⟩ : ∃ x, x = iset u 210 6 0 := ⟨_, rfl⟩
    have x13 : x 210 13 = w 210 13 := by rw [hx, is_eq, rs_ne (by decide), uo 210 (by decide) (by decide)]
    obtain ⟨w3, hw3⟩ : ∃ w3, w3 = addM4 (addM4 (addM4 (addM4 (addM4 x p1) p2) p3) p4) p5 := ⟨_, rfl⟩
    have n3 : w3 210 13 = w 210 13 + 20 := by rw [hw3, addM4_n, addM4_n, addM4_n, addM4_n, addM4_n]; omega
    refine ⟨w 210 13 + 20, u, w3, by rw [un], ?_, ?_⟩
    · rw [ltm, ← hx, x13, gd_t (by omega), if_pos (by omega), m_four (by omega) h1 (by omega), bs, m_four (by omega) h2 (by rw [addM4_n]; omega), bs, m_four (by omega) h3 (by rw [addM4_n, addM4_n]; omega), bs, m_four (by omega) h4 (by rw [addM4_n, addM4_n, addM4_n]; omega), bs, m_four (by omega) h5 (by rw [addM4_n, addM4_n, addM4_n, addM4_n]; omega), bs, ← hw3, n3]
    · have J0 : JI w x := ⟨by rw [x13]; exact i1, by omega, fun k k0 k1 => by rw [hx, is_ne (by decide), uo 218 (by decide) (by decide)]; exact i3 k k0 (by omega)⟩
      have J5 : JI u w3 := by rw [hu, hw3]; exact J0.add4.add4.add4.add4.add4
      have o3 : ∀ a, ¬ a = 210 → ¬ a = 218 → w3 a = u a := fun a a0 a1 => by rw [hw3, addM4_o a0 a1, addM4_o a0 a1, addM4_o a0 a1, addM4_o a0 a1, addM4_o a0 a1, hx, is_ne a0]
      refine hI.inp (fun a a0 a1 a2 a3 => by rw [o3 a a2 a3, uo a a0 a1]) (fun k k0 k1 => ?_) ?_
      · rw [hw3, addM4_f k1, addM4_f k1, addM4_f k1, addM4_f k1, addM4_f k1, hx, is_eq, rs_ne k0, uo 210 (by decide) (by decide)]
      · unfold IvI
        rw [o3 1 (by decide) (by decide), o3 2 (by decide) (by decide)]
        exact ⟨J5.1, by omega, J5.2.2⟩
  · rw [if_neg c]
    refine ⟨-1, w, iset w 210 6 0, rfl, ?_, hI.thr 0⟩
    have e13 : iset w 210 6 0 210 13 = w 210 13 := by rw [is_eq, rs_ne (by decide)]
    rw [ltm, e13, gd_t (by omega), if_neg (by omega)]
