/-! ===== what is fed in ===== -/
theorem Inv.inp {w w3 : aI} (h : Inv w) (f1 : ∀ a, ¬ a = 1 → ¬ a = 2 → ¬ a = 210 → ¬ a = 218 → w3 a = w a) (f2 : ∀ k, ¬ k = 6 → ¬ k = 13 → w3 210 k = w 210 k) (hI : IvI w3) : Inv w3 := by
  obtain ⟨hT, -, hO, hE, hN, hS, hP⟩ := h
  have pbd : ∀ b, Pb b → 12 ≤ b ∧ b + 18 ≤ 210 := fun b hb => by
    have : ∀ b ∈ [12, 30, 48, 66, 84, 102, 120, 138, 156, 174, 192], 12 ≤ b ∧ b + 18 ≤ 210 := by decide
    exact this b hb
  have lo : ∀ a, 2 < a → ¬ a = 210 → ¬ a = 218 → w3 a = w a := fun a a0 a1 a2 => f1 a (by omega) (by omega) a1 a2
  refine ⟨⟨fun b hb => (hT.1 b hb).of fun a a0 a1 => ?_, ?_⟩, hI, ?_, ?_, ?_, ?_, ?_⟩
  · have := pbd b hb
    exact lo a (by omega) (by omega) (by omega)
  · rw [lo 8 (by decide) (by decide) (by decide)]; exact hT.2
  · unfold IvO
    rw [lo 3 (by decide) (by decide) (by decide), lo 4 (by decide) (by decide) (by decide), f2 27 (by decide) (by decide), lo 222 (by decide) (by decide) (by decide)]; exact hO
  · unfold IvE
    rw [lo 5 (by decide) (by decide) (by decide), f2 14 (by decide) (by decide), f2 15 (by decide) (by decide)]; exact hE
  · unfold IvN
    rw [lo 211 (by decide) (by decide) (by decide)]
    exact PR.of hN fun a a0 a1 => lo a (by omega) (by omega) (by omega)
  · unfold IvS
    rw [f1 0 (by decide) (by decide) (by decide) (by decide), f2 5 (by decide) (by decide), lo 213 (by decide) (by decide) (by decide)]
    exact ⟨hS.1, hS.2.1, fun e => (hS.2.2 e).of fun a a0 a1 => lo a (by omega) (by omega) (by omega)⟩
  · unfold IvP
    rw [lo 10 (by decide) (by decide) (by decide), f2 4 (by decide) (by decide), lo 214 (by decide) (by decide) (by decide)]
    refine ⟨hP.1, hP.2.1, hP.2.2.1, fun j j0 j1 => (hP.2.2.2 j j0 j1).of fun a a0 a1 => ?_⟩
    have h9 := hP.2.2.1
    have := pb_bd (m := (w 10 1 + j) % 8) (by omega)
    exact lo a (by omega) (by omega) (by omega)
theorem top_truncateInput {F : Nat} {n : Int} (hn : rg n) : TopBW (f_X10_truncateInput F 0 n) (f_X11_truncateInput F 210 n) := by
  intro w hI
  obtain ⟨i1, i2, i3⟩ := hI.2.1
  unfold f_X10_truncateInput f_X0_cutTo f_X11_truncateInput
  rw [k0, gd_t hn, i1, gd_t (by omega)]
  have e13 : iset w 210 6 0 210 13 = w 210 13 := by rw [is_eq, rs_ne (by decide)]
  by_cases c : 0 ≤ n ∧ n ≤ w 210 13
  · rw [if_neg (by omega), if_pos c.2, ltm, bk]
    refine ⟨true, iset w 1 1 n, iset (iset (iset w 1 1 n) 210 6 0) 210 13 n, rfl, ?_, ?_⟩
    · have e14 : iset (iset w 1 1 n) 210 6 0 210 13 = w 210 13 := by rw [is_eq, rs_ne (by decide), is_ne (by decide)]
      rw [ltm, gd_t hn, e14, gd_t (by omega), m_in (by omega) (by decide) (by omega), bs, decide_eq_true c, if_pos rfl, ltm]
    · refine hI.inp (fun a a0 a1 a2 a3 => by rw [is_ne a2, is_ne a2, is_ne a0]) (fun k k0 k1 => by rw [is_eq, rs_ne k1, is_eq, rs_ne k0, is_ne (by decide)]) ?_
      unfold IvI
      rw [is_ne (show ¬ (1 : Nat) = 210 by decide), is_ne (show ¬ (1 : Nat) = 210 by decide), is_eq, rs_self, is_eq, rs_self]
      refine ⟨rfl, by omega, fun k k0 k1 => ?_⟩
      rw [is_ne (by decide), is_ne (by decide), is_ne (by decide), is_ne (by decide), is_ne (by decide), is_ne (by decide)]
      exact i3 k k0 (by omega)
  · refine ⟨false, w, iset w 210 6 0, ?_, ?_, hI.thr 0⟩
    · by_cases c2 : n < 0
      · rw [if_pos c2, bk]
      · rw [if_neg c2, if_neg (by omega), bk]
    · rw [ltm, gd_t hn, e13, gd_t (by omega), m_in (by omega) (by decide) (by omega), bs, decide_eq_false c, if_neg (by decide)]
theorem ius_v {a : Int32} (v : Nat) (hv : v = 0 ∨ v = 8 ∨ v = 16 ∨ v = 24) : (ius a (oI (v : Int))).toBitVec.toNat = a.toBitVec.toNat / 2 ^ v := by
  rcases hv with rfl | rfl | rfl | rfl
  · have e : (ius a (oI ((0 : Nat) : Int))).toBitVec = a.toBitVec >>> 0 := rfl
    rw [e, BitVec.toNat_ushiftRight, Nat.shiftRight_eq_div_pow]
  · have e : (ius a (oI ((8 : Nat) : Int))).toBitVec = a.toBitVec >>> 8 := rfl
    rw [e, BitVec.toNat_ushiftRight, Nat.shiftRight_eq_div_pow]
  · have e : (ius a (oI ((16 : Nat) : Int))).toBitVec = a.toBitVec >>> 16 := rfl
    rw [e, BitVec.toNat_ushiftRight, Nat.shiftRight_eq_div_pow]
  · have e : (ius a (oI ((24 : Nat) : Int))).toBitVec = a.toBitVec >>> 24 := rfl
    rw [e, BitVec.toNat_ushiftRight, Nat.shiftRight_eq_div_pow]
theorem ius_and {p : Int} (hp : rg p) (v : Nat) (hv : v = 0 ∨ v = 8 ∨ v = 16 ∨ v = 24) : andI (iusI p v) 255 = p / 2 ^ v % 256 := by
  have hle := Nat.and_le_right (n := (ius (oI p) (oI (v : Int))).toBitVec.toNat) (m := 255)
  have e1 : andI (iusI p v) 255 = ((ius (oI p) (oI (v : Int))).toBitVec &&& BitVec.ofNat 32 255).toInt := by
    show ((oI (iusI p v)).toBitVec &&& (oI ((255 : Nat) : Int)).toBitVec).toInt = _
    rw [oI_bv]
    have : oI (iusI p v) = ius (oI p) (oI (v : Int)) := Int32.ofInt_toInt _
    rw [this]
  have e2 : ((ius (oI p) (oI (v : Int))).toBitVec &&& BitVec.ofNat 32 255).toNat = (ius (oI p) (oI (v : Int))).toBitVec.toNat &&& 255 := by
    rw [BitVec.toNat_and, BitVec.toNat_ofNat]
  rw [e1, BitVec.toInt_eq_toNat_of_lt (by rw [e2]; omega), e2, ius_v v hv, show (255 : Nat) = 2 ^ 8 - 1 from rfl, Nat.and_two_pow_sub_one_eq_mod]
  have e3 : ((oI p).toBitVec.toNat : Int) = p % 4294967296 := by
    show ((BitVec.ofInt 32 p).toNat : Int) = _
    rw [BitVec.toNat_ofInt]
    omega
  have hp' : -2147483648 ≤ p ∧ p ≤ 2147483647 := hp
  rcases hv with rfl | rfl | rfl | rfl
  · simp only [Nat.pow_zero, Int.pow_zero]; omega
  · show (((oI p).toBitVec.toNat / 256 % 256 : Nat) : Int) = p / 256 % 256
    omega
  · show (((oI p).toBitVec.toNat / 65536 % 256 : Nat) : Int) = p / 65536 % 256
    omega
  · show (((oI p).toBitVec.toNat / 16777216 % 256 : Nat) : Int) = p / 16777216 % 256
    omega
