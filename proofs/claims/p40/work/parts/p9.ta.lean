/-! ===== the law's text: tokens at a place ===== -/
/-- the bytes L stand at p -/
def At (B : Int → Int) (N p : Int) (L : List Int) : Prop := 0 ≤ p ∧ p + L.length ≤ N ∧ ∀ j : Nat, j < L.length → B (p + j) = L.getD j 0
section Tz
variable {B : Int → Int} {N p s : Int}
theorem At.app {L M : List Int} (h : At B N p (L ++ M)) : At B N p L ∧ At B N (p + L.length) M := by
  obtain ⟨h1, h2, h3⟩ := h
  rw [List.length_append] at h2 h3
  refine ⟨⟨h1, by omega, fun j hj => ?_⟩, by omega, by omega, fun j hj => ?_⟩
  · rw [h3 j (by omega), List.getD_eq_getElem?_getD, List.getD_eq_getElem?_getD, List.getElem?_append_left hj]
  · have := h3 (L.length + j) (by omega)
    rw [List.getD_eq_getElem?_getD, List.getElem?_append_right (by omega), Nat.add_sub_cancel_left, ← List.getD_eq_getElem?_getD] at this
    rw [← this]
    congr 1
    omega
theorem kd_1 {b : Int} (h : 97 ≤ b ∧ b ≤ 122) : kd b = 1 := by unfold kd; rw [if_pos h]
theorem kd_2 {b : Int} (h : 48 ≤ b ∧ b ≤ 57) : kd b = 2 := by unfold kd; rw [if_neg (by omega), if_pos h]
theorem kd_59 : kd 59 = 3 := by decide
theorem kd_32 : kd 32 = 5 := by decide
theorem tok_S (h : s = p ∨ (s = p + 1 ∧ B p = 32)) (hs : s < N) (hk : ¬ kd (B s) = 5) : tS B N p = s := by
  unfold tS
  rcases h with e | ⟨e, hb⟩
  · subst e
    rw [show (801 : Nat) = 800 + 1 from rfl, skp, if_neg (fun z => hk z.2)]
  · subst e
    rw [show (801 : Nat) = 799 + 1 + 1 from rfl, skp, if_pos ⟨by omega, by rw [hb]; exact kd_32⟩, skp, if_neg (fun z => hk z.2)]
theorem tok_run {k : Int} : ∀ (l n : Nat) (i : Int), (∀ j : Nat, j < l → kd (B (i + j)) = k) → i + l ≤ N → (i + l = N ∨ ¬ kd (B (i + l)) = k) → l < n → rune B N k n i = i + l := by
  intro l
  induction l with
  | zero =>
    intro n i h1 h2 h3 h4
    cases n with
    | zero => omega
    | succ n =>
      rw [rune, if_neg]
      · show i = i + 0; omega
      · rintro ⟨a, b⟩
        rcases h3 with h3 | h3
        · rw [show ((0 : Nat) : Int) = 0 from rfl] at h3; omega
        · rw [show ((0 : Nat) : Int) = 0 from rfl, Int.add_zero] at h3; exact h3 b
  | succ l ih =>
    intro n i h1 h2 h3 h4
    cases n with
    | zero => omega
    | succ n =>
      have h0 := h1 0 (by omega)
      rw [show ((0 : Nat) : Int) = 0 from rfl, Int.add_zero] at h0
      have e : i + ((l + 1 : Nat) : Int) = i + 1 + (l : Nat) := by omega
      rw [rune, if_pos ⟨by omega, h0⟩, ih n (i + 1) (fun j hj => by
        have := h1 (j + 1) (by omega)
        rw [← this]
        congr 2
        omega) (by omega) (by rw [← e]; exact h3) (by omega)]
      omega
theorem tok_T {k : Int} {l : Nat} (hk : k = 1 ∨ k = 2) (hs : tS B N p = s) (h1 : 1 ≤ l ∧ l ≤ 100) (hl : ∀ j : Nat, j < l → kd (B (s + j)) = k) (h2 : s + l ≤ N) (h3 : s + l = N ∨ ¬ kd (B (s + l)) = k) : tE B N p = s + l := by
  have h0 := hl 0 (by omega)
  rw [show ((0 : Nat) : Int) = 0 from rfl, Int.add_zero] at h0
  unfold tE
  rw [hs, if_neg (by omega), h0, if_pos hk]
  obtain ⟨m, rfl⟩ : ∃ m, l = m + 1 := ⟨l - 1, by omega⟩
  have e : s + ((m + 1 : Nat) : Int) = s + 1 + (m : Nat) := by omega
  rw [tok_run m 801 (s + 1) (fun j hj => by
    have := hl (j + 1) (by omega)
    rw [← this]
    congr 2
    omega) (by omega) (by rw [← e]; exact h3) (by omega)]
  omega
theorem tok_W {l : Nat} (hs : tS B N p = s) (h1 : 1 ≤ l ∧ l ≤ 8) (hl : ∀ j : Nat, j < l → kd (B (s + j)) = 1) (h2 : s + l ≤ N) (h3 : s + l = N ∨ ¬ kd (B (s + l)) = 1) : tE B N p = s + l ∧ tK B N p = 1 := by
  have e := tok_T (Or.inl rfl) hs (by omega) hl h2 h3
  have h0 := hl 0 (by omega)
  rw [show ((0 : Nat) : Int) = 0 from rfl, Int.add_zero] at h0
  refine ⟨e, ?_⟩
  unfold tK
  rw [e, hs, if_neg (by omega), if_pos h0, if_neg (by omega)]
theorem tok_D {l : Nat} (hs : tS B N p = s) (h1 : 1 ≤ l ∧ l ≤ 3) (hl : ∀ j : Nat, j < l → kd (B (s + j)) = 2) (h2 : s + l ≤ N) (h3 : s + l = N ∨ ¬ kd (B (s + l)) = 2) : tE B N p = s + l ∧ tK B N p = 2 ∧ tV B N p = vl B s l := by
  have e := tok_T (Or.inr rfl) hs (by omega) hl h2 h3
  have h0 := hl 0 (by omega)
  rw [show ((0 : Nat) : Int) = 0 from rfl, Int.add_zero] at h0
  have k : tK B N p = 2 := by
    unfold tK
    rw [e, hs, if_neg (by omega), if_neg (by rw [h0]; decide), if_pos h0, if_neg (by omega)]
  refine ⟨e, k, ?_⟩
  unfold tV
  rw [if_pos k, e, hs, show (s + (l : Int) - s).toNat = l by omega]
theorem tok_C (hs : tS B N p = s) (h2 : s < N) (h : B s = 59) : tE B N p = s + 1 ∧ tK B N p = 3 := by
  constructor
  · unfold tE
    rw [hs, if_neg (by omega), h, kd_59, if_neg (by decide)]
  · unfold tK
    rw [hs, if_neg (by omega), h, kd_59, if_neg (by decide), if_neg (by decide)]
theorem tok_0 (h : p = N) : tK B N p = 0 := by
  have e : tS B N p = N := by
    unfold tS
    rw [show (801 : Nat) = 800 + 1 from rfl, skp, if_neg (by omega)]
    exact h
  unfold tK
  rw [e, if_pos (Int.le_refl _)]
/-- a number's digits -/
def dgz (n : Int) : List Int := if n < 10 then [48 + n] else [48 + n / 10, 48 + n % 10]
theorem dgz_len (n : Int) : 1 ≤ (dgz n).length ∧ (dgz n).length ≤ 2 := by
  unfold dgz
  split
  · exact ⟨Nat.le_refl 1, (by decide : (1 : Nat) ≤ 2)⟩
  · exact ⟨(by decide : (1 : Nat) ≤ 2), Nat.le_refl 2⟩
theorem tok_dgz {n : Int} (hn : 0 ≤ n ∧ n ≤ 99) (hb : B p = 32) (h : At B N (p + 1) (dgz n ++ [59])) : tS B N p = p + 1 ∧ tE B N p = p + 1 + (dgz n).length ∧ tK B N p = 2 ∧ tV B N p = n ∧ At B N (p + 1 + (dgz n).length) [59] := by
  obtain ⟨h1, h2⟩ := h.app
  have hl := dgz_len n
  have e59 : B (p + 1 + (dgz n).length) = 59 := by
    have := h2.2.2 0 (by decide)
    rw [show ((0 : Nat) : Int) = 0 from rfl, Int.add_zero] at this
    exact this
  have hlt := h2.2.1
  have el : (([59] : List Int).length : Int) = 1 := rfl
  rw [el] at hlt
  have hd : ∀ j : Nat, j < (dgz n).length → 48 ≤ B (p + 1 + j) ∧ B (p + 1 + j) ≤ 57 := fun j hj => by
    rw [h1.2.2 j hj]
    unfold dgz at hj ⊢
    by_cases c : n < 10
    · rw [if_pos c] at hj ⊢
      have : j = 0 := Nat.lt_one_iff.mp hj
      subst this
      show 48 ≤ 48 + n ∧ 48 + n ≤ 57
      omega
    · rw [if_neg c] at hj ⊢
      have hj2 : j < 2 := hj
      have hj3 : j = 0 ∨ j = 1 := by omega
      rcases hj3 with rfl | rfl
      · show 48 ≤ 48 + n / 10 ∧ 48 + n / 10 ≤ 57
        omega
      · show 48 ≤ 48 + n % 10 ∧ 48 + n % 10 ≤ 57
        omega
  have h0 := hd 0 (by omega)
  rw [show ((0 : Nat) : Int) = 0 from rfl, Int.add_zero] at h0
  have hS : tS B N p = p + 1 := tok_S (Or.inr ⟨rfl, hb⟩) (by omega) (by rw [kd_2 h0]; decide)
  obtain ⟨k1, k2, k3⟩ := tok_D (l := (dgz n).length) hS (by omega) (fun j hj => kd_2 (hd j hj)) (by omega) (Or.inr (by rw [e59]; decide))
  refine ⟨hS, k1, k2, ?_, h2⟩
  rw [k3]
  have g1 := h1.2.2
  unfold dgz at g1 ⊢
  by_cases c : n < 10
  · rw [if_pos c] at g1 ⊢
    have a0 : B (p + 1 + ((0 : Nat) : Int)) = 48 + n := g1 0 (by show (0 : Nat) < 1; decide)
    show (0 : Int) * 10 + B (p + 1 + ((0 : Nat) : Int)) - 48 = n
    rw [a0]
    omega
  · rw [if_neg c] at g1 ⊢
    have a0 : B (p + 1 + ((0 : Nat) : Int)) = 48 + n / 10 := g1 0 (by show (0 : Nat) < 2; decide)
    have a1 : B (p + 1 + ((1 : Nat) : Int)) = 48 + n % 10 := g1 1 (by show (1 : Nat) < 2; decide)
    show ((0 : Int) * 10 + B (p + 1 + ((0 : Nat) : Int)) - 48) * 10 + B (p + 1 + ((1 : Nat) : Int)) - 48 = n
    rw [a0, a1]
    omega
/-- a digit behind a space, then no digit -/
theorem tok_d1 {n : Int} (hn : 0 ≤ n ∧ n ≤ 9) (hb : B p = 32) (h1 : B (p + 1) = 48 + n) (h2 : p + 2 < N) (h3 : ¬ kd (B (p + 2)) = 2) : tE B N p = p + 2 ∧ tK B N p = 2 ∧ tV B N p = n := by
  have hS : tS B N p = p + 1 := tok_S (Or.inr ⟨rfl, hb⟩) (by omega) (by rw [kd_2 (by omega)]; decide)
  obtain ⟨k1, k2, k3⟩ := tok_D (l := 1) hS (by decide) (fun j hj => by
    have : j = 0 := by omega
    subst this
    rw [show ((0 : Nat) : Int) = 0 from rfl, Int.add_zero]
    exact kd_2 (by omega)) (by omega) (Or.inr (by rw [show p + 1 + ((1 : Nat) : Int) = p + 2 by omega]; exact h3))
  refine ⟨by rw [k1]; omega, k2, ?_⟩
  rw [k3]
  show (0 : Int) * 10 + B (p + 1 + ((0 : Nat) : Int)) - 48 = n
  rw [show ((0 : Nat) : Int) = 0 from rfl, Int.add_zero]
  omega
/-- a letter behind a space, then a space -/
theorem tok_l1 {n : Int} (hn : 97 ≤ n ∧ n ≤ 122) (hb : B p = 32) (h1 : B (p + 1) = n) (h2 : p + 2 < N) (h3 : B (p + 2) = 32) : tS B N p = p + 1 ∧ tE B N p = p + 2 ∧ tK B N p = 1 := by
  have hS : tS B N p = p + 1 := tok_S (Or.inr ⟨rfl, hb⟩) (by omega) (by rw [kd_1 (by omega)]; decide)
  obtain ⟨k1, k2⟩ := tok_W (l := 1) hS (by decide) (fun j hj => by
    have : j = 0 := by omega
    subst this
    rw [show ((0 : Nat) : Int) = 0 from rfl, Int.add_zero]
    exact kd_1 (by omega)) (by omega) (Or.inr (by rw [show p + 1 + ((1 : Nat) : Int) = p + 2 by omega, h3]; decide))
  exact ⟨hS, by rw [k1]; omega, k2⟩
end Tz
