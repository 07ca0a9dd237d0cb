/-! ===== bits ===== -/
theorem oI_bv {m : Nat} : (oI (m : Int)).toBitVec = BitVec.ofNat 32 m := by
  show BitVec.ofInt 32 (m : Int) = _
  exact BitVec.ofInt_natCast 32 m
theorem andI_nat {m n : Nat} (hm : m < 2 ^ 31) (hn : n < 2 ^ 32) : andI (m : Int) (n : Int) = ((m &&& n : Nat) : Int) := by
  have h := Nat.and_le_left (n := m) (m := n)
  show ((oI (m : Int)).toBitVec &&& (oI (n : Int)).toBitVec).toInt = _
  rw [oI_bv, oI_bv, BitVec.toInt_eq_toNat_of_lt]
  · rw [BitVec.toNat_and, BitVec.toNat_ofNat, BitVec.toNat_ofNat, Nat.mod_eq_of_lt (by omega), Nat.mod_eq_of_lt hn]
  · rw [BitVec.toNat_and, BitVec.toNat_ofNat, BitVec.toNat_ofNat, Nat.mod_eq_of_lt (by omega), Nat.mod_eq_of_lt hn]
    omega
theorem orI_nat {m n : Nat} (hm : m < 2 ^ 31) (hn : n < 2 ^ 31) : orI (m : Int) (n : Int) = ((m ||| n : Nat) : Int) := by
  have h := Nat.or_lt_two_pow hm hn
  show ((oI (m : Int)).toBitVec ||| (oI (n : Int)).toBitVec).toInt = _
  rw [oI_bv, oI_bv, BitVec.toInt_eq_toNat_of_lt]
  · rw [BitVec.toNat_or, BitVec.toNat_ofNat, BitVec.toNat_ofNat, Nat.mod_eq_of_lt (by omega), Nat.mod_eq_of_lt (by omega)]
  · rw [BitVec.toNat_or, BitVec.toNat_ofNat, BitVec.toNat_ofNat, Nat.mod_eq_of_lt (by omega), Nat.mod_eq_of_lt (by omega)]
    omega
theorem oI_neg1 {c : Nat} (hc : c < 2 ^ 32) : oI (-(c : Int) - 1) = oI ((2 ^ 32 - 1 - c : Nat) : Int) := by
  apply Int32.toBitVec_inj.mp
  show BitVec.ofInt 32 (-(c : Int) - 1) = BitVec.ofInt 32 ((2 ^ 32 - 1 - c : Nat) : Int)
  apply BitVec.eq_of_toNat_eq
  rw [BitVec.toNat_ofInt, BitVec.toNat_ofInt]
  congr 1
  omega
theorem andI_mod {a : Int} (h : 0 ≤ a ∧ a < 2147483648) (k : Nat) (hk : k < 31) : andI a (2 ^ k - 1) = a % 2 ^ k := by
  obtain ⟨m, rfl⟩ : ∃ m : Nat, a = m := ⟨a.toNat, by omega⟩
  have h1 : (2 : Nat) ^ k < 2 ^ 31 := Nat.pow_lt_pow_right (by decide) hk
  have h2 : 0 < (2 : Nat) ^ k := Nat.pow_pos (by decide)
  have e : ((2 : Int) ^ k - 1) = ((2 ^ k - 1 : Nat) : Int) := by
    rw [Int.natCast_sub (by omega)]
    norm_cast
  rw [e, andI_nat (by omega) (by omega), Nat.and_two_pow_sub_one_eq_mod]
  norm_cast
theorem andI_7 {a : Int} (h : 0 ≤ a ∧ a < 2147483648) : andI a 7 = a % 8 := andI_mod h 3 (by decide)
theorem andI_1 {a : Int} (h : 0 ≤ a ∧ a < 2147483648) : andI a 1 = a % 2 := andI_mod h 1 (by decide)
theorem andI_255 {a : Int} (h : 0 ≤ a ∧ a < 2147483648) : andI a 255 = a % 256 := andI_mod h 8 (by decide)
theorem andI_31 {a : Int} (h : 0 ≤ a ∧ a < 2147483648) : andI a 31 = a % 32 := andI_mod h 5 (by decide)
/-- a number shifted, and less bits behind it -/
theorem orI_shl {a d : Int} (k : Nat) (hk : k < 31) (h0 : 0 ≤ a) (ha : a * 2 ^ k < 2147483648) (hd : 0 ≤ d ∧ d < 2 ^ k) : orI (a * 2 ^ k) d = a * 2 ^ k + d := by
  obtain ⟨m, rfl⟩ : ∃ m : Nat, a = m := ⟨a.toNat, by omega⟩
  obtain ⟨n, rfl⟩ : ∃ n : Nat, d = n := ⟨d.toNat, by omega⟩
  have h1 : (2 : Nat) ^ k < 2 ^ 31 := Nat.pow_lt_pow_right (by decide) hk
  have e0 : ((2 : Int) ^ k) = ((2 ^ k : Nat) : Int) := by rw [Int.natCast_pow]; rfl
  rw [e0] at hd ha ⊢
  have hn : n < 2 ^ k := by omega
  rw [← Int.natCast_mul, Nat.mul_comm] at ha ⊢
  rw [orI_nat (by omega) (by omega), ← Nat.two_pow_add_eq_or_of_lt hn, Int.natCast_add]
theorem nat_clear {p mask j a s : Nat} (h1 : mask / 2 ^ j = 2 ^ a - 1) (h2 : p / 2 ^ j < 2 ^ a) (h3 : mask % 2 ^ j = 2 ^ s - 1) : p &&& mask = p / 2 ^ j * 2 ^ j + p % 2 ^ j % 2 ^ s := by
  have e1 : (p &&& mask) / 2 ^ j = p / 2 ^ j := by rw [Nat.and_div_two_pow, h1, Nat.and_two_pow_sub_one_eq_mod, Nat.mod_eq_of_lt h2]
  have e2 : (p &&& mask) % 2 ^ j = p % 2 ^ j % 2 ^ s := by rw [Nat.and_mod_two_pow, h3, Nat.and_two_pow_sub_one_eq_mod]
  have := Nat.div_add_mod (p &&& mask) (2 ^ j)
  rw [e1, e2, Nat.mul_comm] at this
  exact this.symm
theorem nat_set {hi lo v j s : Nat} (hs : s ≤ j) (hl : lo < 2 ^ s) (hv : v * 2 ^ s < 2 ^ j) : (hi * 2 ^ j + lo) ||| (v * 2 ^ s) = hi * 2 ^ j + v * 2 ^ s + lo := by
  have hj : (2 : Nat) ^ s ≤ 2 ^ j := Nat.pow_le_pow_right (by decide) hs
  have e1 : ((hi * 2 ^ j + lo) ||| (v * 2 ^ s)) / 2 ^ j = hi := by
    rw [Nat.or_div_two_pow, Nat.div_eq_of_lt hv, Nat.or_zero, Nat.mul_comm, Nat.mul_add_div (Nat.pow_pos (by decide)), Nat.div_eq_of_lt (by omega), Nat.add_zero]
  have e2 : ((hi * 2 ^ j + lo) ||| (v * 2 ^ s)) % 2 ^ j = v * 2 ^ s + lo := by
    rw [Nat.or_mod_two_pow, Nat.mod_eq_of_lt hv, Nat.mul_comm hi, Nat.mul_add_mod, Nat.mod_eq_of_lt (by omega), Nat.or_comm, Nat.mul_comm v, Nat.two_pow_add_eq_or_of_lt hl]
  have := Nat.div_add_mod ((hi * 2 ^ j + lo) ||| (v * 2 ^ s)) (2 ^ j)
  rw [e1, e2, Nat.mul_comm] at this
  omega
/-- notes in one number, the first one lowest -/
def pk (n : Int → Int) : Int := n 0 + 8 * n 1 + 64 * n 2 + 512 * n 3 + 4096 * n 4 + 32768 * n 5 + 262144 * n 6 + 2097152 * n 7
def N7 (n : Int → Int) : Prop := ∀ j, 0 ≤ j → j < 8 → 0 ≤ n j ∧ n j ≤ 7
theorem N7.all {n : Int → Int} (h : N7 n) : (0 ≤ n 0 ∧ n 0 ≤ 7) ∧ (0 ≤ n 1 ∧ n 1 ≤ 7) ∧ (0 ≤ n 2 ∧ n 2 ≤ 7) ∧ (0 ≤ n 3 ∧ n 3 ≤ 7) ∧ (0 ≤ n 4 ∧ n 4 ≤ 7) ∧ (0 ≤ n 5 ∧ n 5 ≤ 7) ∧ (0 ≤ n 6 ∧ n 6 ≤ 7) ∧ (0 ≤ n 7 ∧ n 7 ≤ 7) :=
  ⟨h 0 (by decide) (by decide), h 1 (by decide) (by decide), h 2 (by decide) (by decide), h 3 (by decide) (by decide), h 4 (by decide) (by decide), h 5 (by decide) (by decide), h 6 (by decide) (by decide), h 7 (by decide) (by decide)⟩
theorem pk_bd {n : Int → Int} (h : N7 n) : 0 ≤ pk n ∧ pk n < 16777216 := by
  obtain ⟨h0, h1, h2, h3, h4, h5, h6, h7⟩ := h.all
  unfold pk
  omega
theorem pk_congr {n n' : Int → Int} (h : ∀ j, 0 ≤ j → j < 8 → n j = n' j) : pk n = pk n' := by
  unfold pk
  rw [h 0 (by decide) (by decide), h 1 (by decide) (by decide), h 2 (by decide) (by decide), h 3 (by decide) (by decide), h 4 (by decide) (by decide), h 5 (by decide) (by decide), h 6 (by decide) (by decide), h 7 (by decide) (by decide)]
theorem pk_inj {n n' : Int → Int} (h : N7 n) (h' : N7 n') (e : pk n = pk n') {j : Int} (j0 : 0 ≤ j) (j1 : j < 8) : n j = n' j := by
  obtain ⟨a0, a1, a2, a3, a4, a5, a6, a7⟩ := h.all
  obtain ⟨b0, b1, b2, b3, b4, b5, b6, b7⟩ := h'.all
  unfold pk at e
  have hj : j = 0 ∨ j = 1 ∨ j = 2 ∨ j = 3 ∨ j = 4 ∨ j = 5 ∨ j = 6 ∨ j = 7 := by omega
  rcases hj with hj | hj | hj | hj | hj | hj | hj | hj <;> subst hj <;> omega
theorem c_noteOf {F : Nat} {n : Int → Int} {w : aI} {j : Int} (h : N7 n) (j0 : 0 ≤ j) (j1 : j < 8) : f_X10_noteOf F (pk n) j w = some (n j) := by
  have hb := pk_bd h
  obtain ⟨a0, a1, a2, a3, a4, a5, a6, a7⟩ := h.all
  unfold f_X10_noteOf
  rw [gd_t (by omega), gd_t (by omega)]
  have hd : ∀ k : Nat, 0 ≤ pk n / 2 ^ k ∧ pk n / 2 ^ k < 2147483648 := fun k => by
    have h1 : (0 : Int) < 2 ^ k := Int.pow_pos (by decide)
    refine ⟨Int.ediv_nonneg hb.1 (by omega), ?_⟩
    have := Int.ediv_le_self (2 ^ k : Int) hb.1
    omega
  unfold shr
  rw [andI_7 (hd _)]
  congr 1
  unfold pk
  have hj : j = 0 ∨ j = 1 ∨ j = 2 ∨ j = 3 ∨ j = 4 ∨ j = 5 ∨ j = 6 ∨ j = 7 := by omega
  rcases hj with hj | hj | hj | hj | hj | hj | hj | hj <;> subst hj
  · show _ / 1 % 8 = _; omega
  · show _ / 8 % 8 = _; omega
  · show _ / 64 % 8 = _; omega
  · show _ / 512 % 8 = _; omega
  · show _ / 4096 % 8 = _; omega
  · show _ / 32768 % 8 = _; omega
  · show _ / 262144 % 8 = _; omega
  · show _ / 2097152 % 8 = _; omega
theorem raise_nat {p v j s a mask : Nat} (hs : s ≤ j) (h1 : mask / 2 ^ j = 2 ^ a - 1) (h2 : p / 2 ^ j < 2 ^ a) (h3 : mask % 2 ^ j = 2 ^ s - 1) (hv : v * 2 ^ s < 2 ^ j) : (p &&& mask) ||| (v * 2 ^ s) = p / 2 ^ j * 2 ^ j + v * 2 ^ s + p % 2 ^ j % 2 ^ s := by
  rw [nat_clear h1 h2 h3, nat_set hs (Nat.mod_lt _ (Nat.pow_pos (by decide))) hv]
theorem raise_int {p v : Int} (s : Nat) (hs : s ≤ 21) (hp : 0 ≤ p ∧ p < 16777216) (hv : 0 ≤ v ∧ v ≤ 7) (h1 : (2 ^ 32 - 1 - 7 * 2 ^ s) / 2 ^ (s + 3) = 2 ^ (29 - s) - 1) (h3 : (2 ^ 32 - 1 - 7 * 2 ^ s) % 2 ^ (s + 3) = 2 ^ s - 1) :
    orI (andI p (xorI (7 * 2 ^ s) (-1))) (v * 2 ^ s) = p / 2 ^ (s + 3) * 2 ^ (s + 3) + v * 2 ^ s + p % 2 ^ (s + 3) % 2 ^ s := by
  obtain ⟨m, rfl⟩ : ∃ m : Nat, p = m := ⟨p.toNat, by omega⟩
  obtain ⟨n, rfl⟩ : ∃ n : Nat, v = n := ⟨v.toNat, by omega⟩
  have hs2 : (2 : Nat) ^ s ≤ 2 ^ 21 := Nat.pow_le_pow_right (by decide) hs
  have ex : oI (xorI (7 * 2 ^ s) (-1)) = oI ((2 ^ 32 - 1 - 7 * 2 ^ s : Nat) : Int) := by
    unfold xorI
    rw [oI_of, ← oI_neg1 (by omega)]
    have : oI (7 * 2 ^ s) ^^^ oI (-1) = ~~~ oI (7 * 2 ^ s) := by
      apply Int32.toBitVec_inj.mp
      show (oI (7 * 2 ^ s)).toBitVec ^^^ (BitVec.allOnes 32) = ~~~ (oI (7 * 2 ^ s)).toBitVec
      rw [BitVec.xor_allOnes]
    rw [this, Int32.not_eq_neg_sub]
    have e1 : ((7 * 2 ^ s : Nat) : Int) = 7 * 2 ^ s := by norm_cast
    rw [e1, oI_neg]
    exact oI_sub _ 1
  have hand : andI (m : Int) (xorI (7 * 2 ^ s) (-1)) = ((m &&& (2 ^ 32 - 1 - 7 * 2 ^ s) : Nat) : Int) := by
    rw [← andI_nat (by omega) (by omega)]
    unfold andI
    rw [ex]
  have hle := Nat.and_le_left (n := m) (m := 2 ^ 32 - 1 - 7 * 2 ^ s)
  have e2 : ((n : Int) * 2 ^ s) = ((n * 2 ^ s : Nat) : Int) := by norm_cast
  have hn7 : n * 2 ^ s ≤ 7 * 2 ^ s := Nat.mul_le_mul_right _ (by omega)
  have e3 : (2 : Nat) ^ (s + 3) = 8 * 2 ^ s := by rw [Nat.pow_add]; omega
  have hdiv : m / 2 ^ (s + 3) < 2 ^ (29 - s) := by
    apply Nat.div_lt_of_lt_mul
    rw [← Nat.pow_add, show s + 3 + (29 - s) = 32 by omega]
    omega
  rw [hand, e2, orI_nat (by omega) (by omega), raise_nat (by omega) h1 hdiv h3 (by omega)]
  norm_cast
