/-! ===== tokens: what stands at a place of the text ===== -/
def kd (b : Int) : Int := if 97 ≤ b ∧ b ≤ 122 then 1 else if 48 ≤ b ∧ b ≤ 57 then 2 else if b = 59 then 3 else if b = 32 ∨ b = 10 then 5 else 4
def skp (B : Int → Int) (N : Int) : Nat → Int → Int
  | 0, i => i
  | n + 1, i => if i < N ∧ kd (B i) = 5 then skp B N n (i + 1) else i
def rune (B : Int → Int) (N k : Int) : Nat → Int → Int
  | 0, i => i
  | n + 1, i => if i < N ∧ kd (B i) = k then rune B N k n (i + 1) else i
def vl (B : Int → Int) (s : Int) : Nat → Int
  | 0 => 0
  | n + 1 => vl B s n * 10 + B (s + n) - 48
def tS (B : Int → Int) (N p : Int) : Int := skp B N 801 p
def tE (B : Int → Int) (N p : Int) : Int := if N ≤ tS B N p then tS B N p else if kd (B (tS B N p)) = 1 ∨ kd (B (tS B N p)) = 2 then rune B N (kd (B (tS B N p))) 801 (tS B N p + 1) else tS B N p + 1
def tK (B : Int → Int) (N p : Int) : Int := if N ≤ tS B N p then 0 else if kd (B (tS B N p)) = 1 then (if 8 < tE B N p - tS B N p then 4 else 1) else if kd (B (tS B N p)) = 2 then (if 3 < tE B N p - tS B N p then 4 else 2) else kd (B (tS B N p))
def tV (B : Int → Int) (N p : Int) : Int := if tK B N p = 2 then vl B (tS B N p) (tE B N p - tS B N p).toNat else 0
theorem kd_rg (b : Int) : 1 ≤ kd b ∧ kd b ≤ 5 := by
  unfold kd
  repeat' split
  all_goals omega
theorem skp_eq {B : Int → Int} {N : Int} : ∀ (n m : Nat) (i : Int), N - i < n → N - i < m → skp B N n i = skp B N m i := by
  intro n
  induction n with
  | zero =>
    intro m i h1 h2
    cases m with
    | zero => rfl
    | succ m => rw [skp, skp, if_neg (by omega)]
  | succ n ih =>
    intro m i h1 h2
    cases m with
    | zero => rw [skp, skp, if_neg (by omega)]
    | succ m =>
      rw [skp, skp]
      by_cases c : i < N ∧ kd (B i) = 5
      · rw [if_pos c, if_pos c]; exact ih m (i + 1) (by omega) (by omega)
      · rw [if_neg c, if_neg c]
theorem rune_eq {B : Int → Int} {N k : Int} : ∀ (n m : Nat) (i : Int), N - i < n → N - i < m → rune B N k n i = rune B N k m i := by
  intro n
  induction n with
  | zero =>
    intro m i h1 h2
    cases m with
    | zero => rfl
    | succ m => rw [rune, rune, if_neg (by omega)]
  | succ n ih =>
    intro m i h1 h2
    cases m with
    | zero => rw [rune, rune, if_neg (by omega)]
    | succ m =>
      rw [rune, rune]
      by_cases c : i < N ∧ kd (B i) = k
      · rw [if_pos c, if_pos c]; exact ih m (i + 1) (by omega) (by omega)
      · rw [if_neg c, if_neg c]
theorem skp_bd {B : Int → Int} {N : Int} : ∀ (n : Nat) (i : Int), i ≤ N → i ≤ skp B N n i ∧ skp B N n i ≤ N := by
  intro n
  induction n with
  | zero => intro i h; exact ⟨Int.le_refl _, h⟩
  | succ n ih =>
    intro i h
    rw [skp]
    split
    · have := ih (i + 1) (by omega); omega
    · omega
theorem skp_at {B : Int → Int} {N : Int} : ∀ (n : Nat) (i : Int), N - i < n → skp B N n i < N → ¬ kd (B (skp B N n i)) = 5 := by
  intro n
  induction n with
  | zero => intro i h h2; rw [skp] at h2; omega
  | succ n ih =>
    intro i h h2
    rw [skp] at h2 ⊢
    split at h2
    · rename_i c
      rw [if_pos c]; exact ih (i + 1) (by omega) h2
    · rename_i c
      rw [if_neg c]; intro z; exact c ⟨h2, z⟩
theorem rune_bd {B : Int → Int} {N k : Int} : ∀ (n : Nat) (i : Int), i ≤ N → i ≤ rune B N k n i ∧ rune B N k n i ≤ N := by
  intro n
  induction n with
  | zero => intro i h; exact ⟨Int.le_refl _, h⟩
  | succ n ih =>
    intro i h
    rw [rune]
    split
    · have := ih (i + 1) (by omega); omega
    · omega
theorem rune_in {B : Int → Int} {N k : Int} : ∀ (n : Nat) (i : Int) (j : Int), i ≤ j → j < rune B N k n i → kd (B j) = k := by
  intro n
  induction n with
  | zero => intro i j h h2; rw [rune] at h2; omega
  | succ n ih =>
    intro i j h h2
    rw [rune] at h2
    split at h2
    · rename_i c
      by_cases e : j = i
      · rw [e]; exact c.2
      · exact ih (i + 1) j (by omega) h2
    · omega
/-- the text: byte by byte; what class and reference have of it -/
def TX (u : aI) (B : Int → Int) (N : Int) : Prop := u 1 1 = N ∧ (0 ≤ N ∧ N ≤ 800) ∧ ∀ k, 0 ≤ k → k < N → (0 ≤ B k ∧ B k ≤ 255) ∧ u 2 k = B k
def TM (v : aI) (B : Int → Int) (N : Int) : Prop := v 210 13 = N ∧ (0 ≤ N ∧ N ≤ 800) ∧ ∀ k, 0 ≤ k → k < N → (0 ≤ B k ∧ B k ≤ 255) ∧ v 218 k = i2bI (B k)
/-- the class's token is that of p -/
def CT (u : aI) (B : Int → Int) (N p : Int) : Prop := u 5 1 = tS B N p ∧ u 5 2 = tE B N p ∧ u 5 3 = tK B N p ∧ u 5 4 = tV B N p
def MT (v : aI) (B : Int → Int) (N p : Int) : Prop := v 210 16 = tS B N p ∧ v 210 17 = tE B N p ∧ v 210 18 = tK B N p ∧ rg (v 210 19) ∧ (tK B N p = 2 → v 210 19 = tV B N p) ∧ v 210 20 = 0
theorem tok_bd {B : Int → Int} {N p : Int} (hN : N ≤ 800) (hp : 0 ≤ p ∧ p ≤ N) : p ≤ tS B N p ∧ tS B N p ≤ tE B N p ∧ tE B N p ≤ N ∧ (0 ≤ tK B N p ∧ tK B N p ≤ 4) ∧ (tK B N p = 0 ↔ tS B N p = N) ∧ (¬ tK B N p = 0 → tS B N p < tE B N p) := by
  have h1 := skp_bd (B := B) (N := N) 801 p hp.2
  have e1 : tS B N p = skp B N 801 p := rfl
  rw [← e1] at h1
  have hk := kd_rg (B (tS B N p))
  by_cases c : N ≤ tS B N p
  · have e2 : tE B N p = tS B N p := by unfold tE; rw [if_pos c]
    have e3 : tK B N p = 0 := by unfold tK; rw [if_pos c]
    rw [e2, e3]
    omega
  · have h2 := rune_bd (B := B) (N := N) (k := kd (B (tS B N p))) 801 (tS B N p + 1) (by omega)
    have e2 : tS B N p < tE B N p ∧ tE B N p ≤ N := by
      unfold tE
      rw [if_neg c]
      split <;> omega
    have e3 : (1 ≤ tK B N p ∧ tK B N p ≤ 4) ∨ kd (B (tS B N p)) = 5 := by
      unfold tK
      rw [if_neg c]
      split
      · left; split <;> omega
      · split
        · left; split <;> omega
        · omega
    have e4 : 1 ≤ tK B N p := by
      unfold tK
      rw [if_neg c]
      split
      · split <;> omega
      · split
        · split <;> omega
        · omega
    have c5 : ¬ kd (B (tS B N p)) = 5 := skp_at 801 p (by omega) (by omega)
    have := e3.resolve_right c5
    omega
theorem vl_bd {B : Int → Int} {s : Int} : ∀ n : Nat, n ≤ 3 → (∀ j : Int, s ≤ j → j < s + n → 48 ≤ B j ∧ B j ≤ 57) → 0 ≤ vl B s n ∧ vl B s n < tn n := by
  intro n
  induction n with
  | zero => intro _ _; exact ⟨Int.le_refl _, by show (0 : Int) < 1; omega⟩
  | succ n ih =>
    intro hn h
    have a := ih (by omega) (fun j j0 j1 => h j j0 (by omega))
    have b := h (s + n) (by omega) (by omega)
    rw [vl, tn]
    omega
theorem tV_bd {B : Int → Int} {N p : Int} (hN : N ≤ 800) (hp : 0 ≤ p ∧ p ≤ N) : 0 ≤ tV B N p ∧ tV B N p ≤ 999 := by
  unfold tV
  by_cases c : tK B N p = 2
  · rw [if_pos c]
    have hb := tok_bd (B := B) hN hp
    have c1 : ¬ N ≤ tS B N p := fun z => by
      have := hb.2.2.2.2.1
      omega
    have c2 : kd (B (tS B N p)) = 2 ∧ tE B N p - tS B N p ≤ 3 := by
      have e : tK B N p = 2 := c
      unfold tK at e
      rw [if_neg c1] at e
      split at e
      · split at e <;> omega
      · split at e
        · rename_i h
          split at e
          · omega
          · exact ⟨h, by omega⟩
        · exact absurd e (by assumption)
    have e2 : tE B N p = rune B N 2 801 (tS B N p + 1) := by
      unfold tE
      rw [if_neg c1, if_pos (Or.inr c2.1), c2.1]
    have hd : ∀ j, tS B N p ≤ j → j < tE B N p → 48 ≤ B j ∧ B j ≤ 57 := fun j j0 j1 => by
      have hk : kd (B j) = 2 := by
        by_cases e : j = tS B N p
        · rw [e]; exact c2.1
        · rw [e2] at j1
          exact rune_in 801 (tS B N p + 1) j (by omega) j1
      unfold kd at hk
      repeat' split at hk
      all_goals omega
    have := vl_bd (tE B N p - tS B N p).toNat (by omega) (fun j j0 j1 => hd j j0 (by omega))
    have ht : tn (tE B N p - tS B N p).toNat ≤ 1000 := by
      have : (tE B N p - tS B N p).toNat = 0 ∨ (tE B N p - tS B N p).toNat = 1 ∨ (tE B N p - tS B N p).toNat = 2 ∨ (tE B N p - tS B N p).toNat = 3 := by omega
      rcases this with e | e | e | e <;> rw [e] <;> decide
    omega
  · rw [if_neg c]; omega
/-! the class steps on -/
theorem t50 : shR 5 0 = 1 := by decide +kernel
theorem c_getB {F : Nat} {u : aI} {B : Int → Int} {N i : Int} (h : TX u B N) (hi : rg i) : f_X0_get F 1 i u = some (if 0 ≤ i ∧ i < N then B i else -1) := by
  obtain ⟨h1, h2, h3⟩ := h
  unfold f_X0_get
  rw [show shR 1 0 = 2 by decide +kernel, show shL 2 = 800 by decide +kernel, h1, gd_t hi]
  by_cases c : 0 ≤ i ∧ i < N
  · rw [if_neg (by omega), gd_t (by omega), if_neg (by omega), if_neg (by omega), gd_t (by omega), if_pos c, (h3 i c.1 c.2).2]
  · rw [if_neg c]
    by_cases c2 : i < 0
    · rw [if_pos c2]
    · rw [if_neg c2, gd_t (by omega), if_pos (by omega)]
theorem c_kind {F : Nat} {w : aI} {b : Int} (h : rg b) : f_X9_kindOf F b w = some (if b = -1 then 0 else kd b) := by
  unfold f_X9_kindOf kd
  rw [gd_t h]
  have b14 : f_X9_kindOf_b14 F b w = some (if b = -1 then 0 else if 48 ≤ b ∧ b ≤ 57 then 2 else if b = 59 then 3 else if b = 32 ∨ b = 10 then 5 else 4) := by
    unfold f_X9_kindOf_b14
    have b28 : f_X9_kindOf_b28 F b w = some (if b = -1 then 0 else if b = 59 then 3 else if b = 32 ∨ b = 10 then 5 else 4) := by
      unfold f_X9_kindOf_b28
      rw [gd_t h]
      by_cases c1 : b = -1
      · rw [if_pos c1, if_pos c1]
      · rw [if_neg c1, if_neg c1]
        by_cases c2 : b = 10
        · rw [if_pos c2, if_neg (by omega), if_pos (Or.inr c2)]
        · rw [if_neg c2]
          by_cases c3 : b = 32
          · rw [if_pos c3, if_neg (by omega), if_pos (Or.inl c3)]
          · rw [if_neg c3]
            by_cases c4 : b = 59
            · rw [if_pos c4, if_pos c4]
            · rw [if_neg c4, if_neg c4, if_neg (by omega)]
    rw [gd_t h, b28]
    by_cases c1 : b < 48
    · rw [if_pos c1]
      by_cases c0 : b = -1
      · rw [if_pos c0, if_pos c0]
      · rw [if_neg c0, if_neg c0, if_neg (show ¬ (48 ≤ b ∧ b ≤ 57) by omega)]
    · rw [if_neg c1]
      by_cases c2 : 57 < b
      · rw [if_pos c2, if_neg (show ¬ (48 ≤ b ∧ b ≤ 57) by omega)]
      · rw [if_neg c2, if_neg (show ¬ b = -1 by omega), if_pos (show 48 ≤ b ∧ b ≤ 57 by omega)]
  rw [b14]
  by_cases c1 : b < 97
  · rw [if_pos c1]
    by_cases c0 : b = -1
    · rw [if_pos c0, if_pos c0]
    · rw [if_neg c0, if_neg c0, if_neg (show ¬ (97 ≤ b ∧ b ≤ 122) by omega)]
  · rw [if_neg c1]
    by_cases c2 : 122 < b
    · rw [if_pos c2, if_neg (show ¬ (97 ≤ b ∧ b ≤ 122) by omega)]
    · rw [if_neg c2, if_neg (show ¬ b = -1 by omega), if_pos (show 97 ≤ b ∧ b ≤ 122 by omega)]
theorem TX.at5 {u : aI} {B : Int → Int} {N : Int} (h : TX u B N) (g : Int → Int) : TX (stc u 5 g) B N := by
  unfold TX
  rw [stc_ne (show ¬ 1 = 5 by decide), stc_ne (show ¬ 2 = 5 by decide)]
  exact h
section CStep
variable {F : Nat} {u : aI} {B : Int → Int} {N : Int}
theorem c_sizeB (h : TX u B N) : f_X0_size F 1 u = some N := by
  unfold f_X0_size
  rw [h.1]
theorem c_st8 (h : TX u B N) : ∀ (n : Nat) (g : Int → Int), 0 ≤ g 1 → g 1 ≤ N → N - g 1 < n → f_X9_step_b8 F 5 n (stc u 5 g) = f_X9_step_b53 F 5 (stc u 5 (rs g 1 (skp B N n (g 1)))) := by
  obtain ⟨h1, h2, h3⟩ := h
  intro n
  induction n with
  | zero => intro g g0 g1 g2; omega
  | succ n ih =>
    intro g g0 g1 g2
    have hT := TX.at5 ⟨h1, h2, h3⟩ g
    have e1 : rs g 1 (g 1) = g := by
      funext k
      by_cases c : k = 1
      · rw [c, rs_self]
      · rw [rs_ne c]
    show f_X9_step_b8_b F 5 (f_X9_step_b8 F 5 n) _ = _
    unfold f_X9_step_b8_b
    rw [t50, c_sizeB hT, bs, stc_eq, gd_t (by omega), skp]
    by_cases c : N ≤ g 1
    · rw [if_pos c, if_neg (by omega), e1]
    · have hb := h3 (g 1) g0 (by omega)
      have hk := kd_rg (B (g 1))
      rw [if_neg c, c_getB hT (by omega), if_pos (by omega), bs, c_kind (by omega), if_neg (by omega), bs, gd_t (by omega)]
      by_cases c2 : kd (B (g 1)) = 5
      · rw [if_pos c2, if_pos ⟨by omega, c2⟩, ltm, is_stc, stc_stc, stc_eq, ih _ (by rw [rs_self]; omega) (by rw [rs_self]; omega) (by rw [rs_self]; omega), rs_self]
        congr 2
        funext k
        by_cases ck : k = 1
        · rw [ck, rs_self, rs_self]
        · rw [rs_ne ck, rs_ne ck, rs_ne ck]
      · rw [if_neg c2, if_neg (fun z => c2 z.2), e1]
theorem c_st117 (h : TX u B N) {v : Int} (hv : v = 1) : ∀ (n : Nat) (g : Int → Int), 0 ≤ g 2 → g 2 ≤ N → N - g 2 < n → 1 ≤ g 3 → g 3 ≤ 4 → f_X9_step_b117 F 5 n v (stc u 5 g) = f_X9_step_b169 F 5 v (stc u 5 (rs g 2 (rune B N (g 3) n (g 2)))) := by
  obtain ⟨h1, h2, h3⟩ := h
  intro n
  induction n with
  | zero => intro g g0 g1 g2; omega
  | succ n ih =>
    intro g g0 g1 g2 g3 g4
    have hT := TX.at5 ⟨h1, h2, h3⟩ g
    have e1 : rs g 2 (g 2) = g := by
      funext k
      by_cases c : k = 2
      · rw [c, rs_self]
      · rw [rs_ne c]
    show f_X9_step_b117_b F 5 (f_X9_step_b117 F 5 n) _ _ = _
    unfold f_X9_step_b117_b
    rw [gd_t (by omega), if_neg (by omega), t50, c_sizeB hT, bs, stc_eq, gd_t (by omega), rune]
    by_cases c : N ≤ g 2
    · rw [if_pos c, if_neg (by omega), e1]
    · have hb := h3 (g 2) g0 (by omega)
      have hk := kd_rg (B (g 2))
      rw [if_neg c, c_getB hT (by omega), if_pos (by omega), bs, c_kind (by omega), if_neg (by omega), bs, gd_t (by omega)]
      by_cases c2 : kd (B (g 2)) = g 3
      · rw [if_pos c2, if_pos ⟨by omega, c2⟩, ltm, is_stc, stc_stc, stc_eq, ih _ (by rw [rs_self]; omega) (by rw [rs_self]; omega) (by rw [rs_self]; omega) (by rw [rs_ne (by omega)]; omega) (by rw [rs_ne (by omega)]; omega), rs_self, rs_ne (show ¬ (3 : Int) = 2 by omega)]
        congr 2
        funext k
        by_cases ck : k = 2
        · rw [ck, rs_self, rs_self]
        · rw [rs_ne ck, rs_ne ck, rs_ne ck]
      · rw [if_neg c2, if_neg (fun z => c2 z.2), e1]
theorem c_st214 (h : TX u B N) : ∀ (n m : Nat) (g : Int → Int), 0 ≤ g 1 → g 1 + m ≤ g 2 → g 2 ≤ N → g 2 - g 1 - m < n → g 4 = (if g 3 = 2 then vl B (g 1) m else 0) → (1 ≤ g 3 ∧ g 3 ≤ 4 ∨ g 3 = 0) →
    f_X9_step_b214 F 5 n (g 1 + m) (stc u 5 g) = some (stc u 5 (rs g 4 (if g 3 = 2 then vl B (g 1) (g 2 - g 1).toNat else 0))) := by
  obtain ⟨h1, h2, h3⟩ := h
  intro n
  induction n with
  | zero => intro m g g0 g1 g2; omega
  | succ n ih =>
    intro m g g0 g1 g2 g3 g4 g5
    have hT := TX.at5 ⟨h1, h2, h3⟩ g
    have e1 : ∀ v, v = g 4 → rs g 4 v = g := fun v hv => by
      funext k
      by_cases c : k = 4
      · rw [c, rs_self, hv]
      · rw [rs_ne c]
    show f_X9_step_b214_b F 5 (f_X9_step_b214 F 5 n) _ _ = _
    unfold f_X9_step_b214_b
    rw [stc_eq, gd_t (by omega)]
    by_cases c : g 2 ≤ g 1 + m
    · rw [if_pos c, e1 _ (by rw [g4, show (g 2 - g 1).toNat = m by omega])]
    · rw [if_neg c, gd_t (by omega)]
      by_cases c2 : g 3 = 2
      · rw [if_pos c2, t50, c_getB hT (by omega), if_pos (by omega), bs, ltm, is_stc, stc_stc, stc_eq]
        have e9 := ih (m + 1) (rs g 4 (g 4 * 10 + B (g 1 + m) - 48)) (by rw [rs_ne (by omega)]; exact g0) (by rw [rs_ne (by omega), rs_ne (by omega)]; omega) (by rw [rs_ne (by omega)]; exact g2) (by rw [rs_ne (by omega), rs_ne (by omega)]; omega) (by
          rw [rs_self, rs_ne (by omega), rs_ne (by omega), if_pos c2, vl, g4, if_pos c2]) (by rw [rs_ne (by omega)]; exact g5)
        rw [rs_ne (by omega), rs_ne (by omega), rs_ne (by omega)] at e9
        have e8 : g 1 + ((m + 1 : Nat) : Int) = g 1 + m + 1 := by omega
        rw [e8] at e9
        rw [e9]
        congr 2
        funext k
        by_cases ck : k = 4
        · rw [ck, rs_self, rs_self]
        · rw [rs_ne ck, rs_ne ck, rs_ne ck]
      · rw [if_neg c2, if_neg c2, e1 0 (by rw [g4, if_neg c2])]
theorem c_st214' (hF : 1000 ≤ F) (h : TX u B N) {g : Int → Int} (g0 : 0 ≤ g 1) (g1 : g 1 ≤ g 2) (g2 : g 2 ≤ N) (g4 : g 4 = 0) (g5 : 1 ≤ g 3 ∧ g 3 ≤ 4 ∨ g 3 = 0) :
    f_X9_step_b214 F 5 F (g 1) (stc u 5 g) = some (stc u 5 (rs g 4 (if g 3 = 2 then vl B (g 1) (g 2 - g 1).toNat else 0))) := by
  have hN := h.2.1
  have := c_st214 (F := F) h F 0 g g0 (by omega) g2 (by omega) (by rw [g4]; split <;> rfl) g5
  have e : g 1 + ((0 : Nat) : Int) = g 1 := by omega
  rw [e] at this
  exact this
/-- one token on -/
theorem c_step (hF : 1000 ≤ F) (h : TX u B N) {p : Int} (hp : 0 ≤ p ∧ p ≤ N) (h5 : u 5 2 = p) : ∃ g, f_X9_step F 5 u = some (stc u 5 g) ∧ g 1 = tS B N p ∧ g 2 = tE B N p ∧ g 3 = tK B N p ∧ g 4 = tV B N p ∧ g 5 = u 5 5 ∧ g 6 = u 5 6 := by
  have hN := h.2.1
  have hb := tok_bd (B := B) hN.2 hp
  have hS : skp B N F p = tS B N p := skp_eq F 801 p (by omega) (by omega)
  unfold f_X9_step
  rw [ltm, h5, is_stc, c_st8 h F _ (by rw [rs_self]; omega) (by rw [rs_self]; omega) (by rw [rs_self]; omega), rs_self, hS]
  obtain ⟨g, hg⟩ : ∃ g, g = rs (rs (u 5) 1 p) 1 (tS B N p) := ⟨_, rfl⟩
  have gs : g 1 = tS B N p := by rw [hg, rs_self]
  have go : ∀ k, ¬ k = 1 → g k = u 5 k := fun k hk => by rw [hg, rs_ne hk, rs_ne hk]
  rw [← hg]
  clear hg
  have hT := h.at5 g
  unfold f_X9_step_b53
  rw [t50, stc_eq, gs, c_getB hT (by omega), bs]
  by_cases c : N ≤ tS B N p
  · have e2 : tE B N p = tS B N p := by unfold tE; rw [if_pos c]
    have e3 : tK B N p = 0 := by unfold tK; rw [if_pos c]
    have e4 : tV B N p = 0 := by unfold tV; rw [if_neg (by omega)]
    rw [if_neg (by omega), c_kind (by decide), if_pos rfl, bs, ltm, is_stc, stc_stc, stc_eq, stc_eq, rs_self, gd_t (by decide), if_pos rfl, rs_ne (by omega), gs]
    unfold f_X9_step_b92
    rw [ltm, is_stc, stc_stc, stc_eq, stc_eq, rs_ne (by omega), rs_self, gd_t (by decide), if_neg (by decide), if_neg (by decide)]
    obtain ⟨q, hq⟩ : ∃ q, q = rs (rs g 3 0) 2 (tS B N p) := ⟨_, rfl⟩
    rw [← hq]
    have q1 : q 1 = tS B N p := by rw [hq, rs_ne (by omega), rs_ne (by omega)]; exact gs
    have q2 : q 2 = tS B N p := by rw [hq, rs_self]
    have q3 : q 3 = 0 := by rw [hq, rs_ne (by omega), rs_self]
    have q5 : q 5 = u 5 5 := by rw [hq, rs_ne (by omega), rs_ne (by omega)]; exact go 5 (by omega)
    have q6 : q 6 = u 5 6 := by rw [hq, rs_ne (by omega), rs_ne (by omega)]; exact go 6 (by omega)
    clear hq
    obtain ⟨m, hm⟩ : ∃ m, F = m + 1 := ⟨F - 1, by omega⟩
    have st : ∀ (m : Nat) (v : Int), v = 0 → f_X9_step_b117 F 5 (m + 1) v (stc u 5 q) = some (stc u 5 (rs (rs q 4 0) 4 0)) := fun m v hv => by
      show f_X9_step_b117_b F 5 (f_X9_step_b117 F 5 m) _ _ = _
      unfold f_X9_step_b117_b f_X9_step_b169
      rw [gd_t (by omega), if_pos hv, if_pos hv, ltm, is_stc, stc_stc, stc_eq, stc_eq, lti]
      have := c_st214' (F := F) hF h (g := rs q 4 0) (by rw [rs_ne (by omega), q1]; omega) (by rw [rs_ne (by omega), rs_ne (by omega), q1, q2]; omega) (by rw [rs_ne (by omega), q2]; omega) (by rw [rs_self]) (by right; rw [rs_ne (by omega), q3])
      rw [gd_t (by omega), this, rs_ne (show ¬ (3 : Int) = 4 by omega), q3]
      rfl
    have s9 := st m 0 rfl
    rw [← hm] at s9
    rw [s9]
    refine ⟨_, rfl, ?_, ?_, ?_, ?_, ?_, ?_⟩
    · rw [rs_ne (by omega), rs_ne (by omega), q1]
    · rw [rs_ne (by omega), rs_ne (by omega), q2, e2]
    · rw [rs_ne (by omega), rs_ne (by omega), q3, e3]
    · rw [rs_self, e4]
    · rw [rs_ne (by omega), rs_ne (by omega), q5]
    · rw [rs_ne (by omega), rs_ne (by omega), q6]
  · have hB := h.2.2 (tS B N p) (by omega) (by omega)
    have hk := kd_rg (B (tS B N p))
    have h5' : ¬ kd (B (tS B N p)) = 5 := skp_at 801 p (by omega) (by show tS B N p < N; omega)
    rw [if_pos (by omega), c_kind (by omega), if_neg (by omega), bs, ltm, is_stc, stc_stc, stc_eq, stc_eq, rs_self, gd_t (by omega), if_neg (by omega), rs_ne (by omega), gs]
    unfold f_X9_step_b92
    rw [ltm, is_stc, stc_stc, stc_eq, stc_eq, rs_ne (by omega), rs_self, gd_t (by omega)]
    obtain ⟨q, hq⟩ : ∃ q, q = rs (rs g 3 (kd (B (tS B N p)))) 2 (tS B N p + 1) := ⟨_, rfl⟩
    rw [← hq]
    have q1 : q 1 = tS B N p := by rw [hq, rs_ne (by omega), rs_ne (by omega)]; exact gs
    have q2 : q 2 = tS B N p + 1 := by rw [hq, rs_self]
    have q3 : q 3 = kd (B (tS B N p)) := by rw [hq, rs_ne (by omega), rs_self]
    have q5 : q 5 = u 5 5 := by rw [hq, rs_ne (by omega), rs_ne (by omega)]; exact go 5 (by omega)
    have q6 : q 6 = u 5 6 := by rw [hq, rs_ne (by omega), rs_ne (by omega)]; exact go 6 (by omega)
    clear hq
    by_cases c2 : kd (B (tS B N p)) = 1 ∨ kd (B (tS B N p)) = 2
    · have e2 : tE B N p = rune B N (kd (B (tS B N p))) 801 (tS B N p + 1) := by unfold tE; rw [if_neg c, if_pos c2]
      have e3 : (if kd (B (tS B N p)) = 1 then f_X9_step_b117 F 5 F 1 (stc u 5 q) else if kd (B (tS B N p)) = 2 then f_X9_step_b117 F 5 F 1 (stc u 5 q) else f_X9_step_b117 F 5 F 0 (stc u 5 q)) = f_X9_step_b117 F 5 F 1 (stc u 5 q) := by
        by_cases c3 : kd (B (tS B N p)) = 1
        · rw [if_pos c3]
        · rw [if_neg c3, if_pos (c2.resolve_left c3)]
      have hR : rune B N (q 3) F (q 2) = tE B N p := by
        rw [q3, q2, e2]
        exact rune_eq F 801 _ (by omega) (by omega)
      rw [e3, c_st117 h rfl F q (by omega) (by omega) (by omega) (by omega) (by omega), hR]
      unfold f_X9_step_b169
      rw [gd_t (by decide), if_neg (by decide), stc_eq, rs_self, rs_ne (show ¬ (3 : Int) = 2 by omega), rs_ne (show ¬ (1 : Int) = 2 by omega), q3, q1, gd_t (by omega)]
      -- the last steps: too long or not
      have fin : ∀ (m : Int), (m = if kd (B (tS B N p)) = 1 then 8 else 3) → ∃ g, f_X9_step_b196 F 5 m (tE B N p - tS B N p) (stc u 5 (rs q 2 (tE B N p))) = some (stc u 5 g) ∧ g 1 = tS B N p ∧ g 2 = tE B N p ∧ g 3 = tK B N p ∧ g 4 = tV B N p ∧ g 5 = u 5 5 ∧ g 6 = u 5 6 := by
        intro m hm
        have eK : tK B N p = if m < tE B N p - tS B N p then 4 else kd (B (tS B N p)) := by
          unfold tK
          rw [if_neg c]
          rcases c2 with z | z
          · have h8 : m = 8 := by rw [hm, if_pos z]
            rw [if_pos z, h8, z]
          · have h3 : m = 3 := by rw [hm, if_neg (by omega)]
            rw [if_neg (show ¬ kd (B (tS B N p)) = 1 by omega), if_pos z, h3, z]
        unfold f_X9_step_b196
        have hm9 : m = 8 ∨ m = 3 := by rw [hm]; split <;> omega
        rw [gd_t (by omega)]
        by_cases c4 : tE B N p - tS B N p ≤ m
        · rw [if_neg (by omega)] at eK
          rw [if_pos c4, ltm, is_stc, stc_stc, stc_eq, stc_eq, lti]
          have s := c_st214' (F := F) hF h (g := rs (rs q 2 (tE B N p)) 4 0) (by rw [rs_ne (by omega), rs_ne (by omega), q1]; omega) (by rw [rs_ne (by omega), rs_ne (by omega), rs_ne (by omega), rs_self, q1]; omega) (by rw [rs_ne (by omega), rs_self]; omega) (by rw [rs_self]) (by left; rw [rs_ne (by omega), rs_ne (by omega), q3]; omega)
          rw [s]
          refine ⟨_, rfl, ?_, ?_, ?_, ?_, ?_, ?_⟩
          · rw [rs_ne (by omega), rs_ne (by omega), rs_ne (by omega), q1]
          · rw [rs_ne (by omega), rs_ne (by omega), rs_self]
          · rw [rs_ne (by omega), rs_ne (by omega), rs_ne (by omega), q3, eK]
          · rw [rs_self, rs_ne (show ¬ (3 : Int) = 4 by omega), rs_ne (show ¬ (3 : Int) = 2 by omega), rs_ne (show ¬ (1 : Int) = 4 by omega), rs_ne (show ¬ (1 : Int) = 2 by omega), rs_ne (show ¬ (2 : Int) = 4 by omega), rs_self, q3, q1]
            unfold tV
            rw [eK]
          · rw [rs_ne (by omega), rs_ne (by omega), rs_ne (by omega), q5]
          · rw [rs_ne (by omega), rs_ne (by omega), rs_ne (by omega), q6]
        · rw [if_pos (by omega)] at eK
          rw [if_neg c4, ltm, is_stc _ 5 3 4, stc_stc, stc_eq, ltm, is_stc _ 5 4 0, stc_stc, stc_eq, stc_eq, lti]
          have s := c_st214' (F := F) hF h (g := rs (rs (rs q 2 (tE B N p)) 3 4) 4 0) (by rw [rs_ne (by omega), rs_ne (by omega), rs_ne (by omega), q1]; omega) (by rw [rs_ne (by omega), rs_ne (by omega), rs_ne (by omega), rs_ne (by omega), rs_ne (by omega), rs_self, q1]; omega) (by rw [rs_ne (by omega), rs_ne (by omega), rs_self]; omega) (by rw [rs_self]) (by left; rw [rs_ne (by omega), rs_self]; omega)
          rw [s]
          refine ⟨_, rfl, ?_, ?_, ?_, ?_, ?_, ?_⟩
          · rw [rs_ne (by omega), rs_ne (by omega), rs_ne (by omega), rs_ne (by omega), q1]
          · rw [rs_ne (by omega), rs_ne (by omega), rs_ne (by omega), rs_self]
          · rw [rs_ne (by omega), rs_ne (by omega), rs_self, eK]
          · rw [rs_self, rs_ne (show ¬ (3 : Int) = 4 by omega), rs_self, if_neg (by decide)]
            unfold tV
            rw [eK, if_neg (by decide)]
          · rw [rs_ne (by omega), rs_ne (by omega), rs_ne (by omega), rs_ne (by omega), q5]
          · rw [rs_ne (by omega), rs_ne (by omega), rs_ne (by omega), rs_ne (by omega), q6]
      by_cases c3 : kd (B (tS B N p)) = 1
      · rw [if_pos c3]; exact fin 8 (by rw [if_pos c3])
      · rw [if_neg c3]; exact fin 3 (by rw [if_neg c3])
    · have n1 : ¬ kd (B (tS B N p)) = 1 := fun z => c2 (Or.inl z)
      have n2 : ¬ kd (B (tS B N p)) = 2 := fun z => c2 (Or.inr z)
      have e2 : tE B N p = tS B N p + 1 := by unfold tE; rw [if_neg c, if_neg c2]
      have e3 : tK B N p = kd (B (tS B N p)) := by unfold tK; rw [if_neg c, if_neg n1, if_neg n2]
      have e4 : tV B N p = 0 := by unfold tV; rw [e3, if_neg n2]
      rw [if_neg n1, if_neg n2]
      obtain ⟨m, hm⟩ : ∃ m, F = m + 1 := ⟨F - 1, by omega⟩
      have st : ∀ (m : Nat) (v : Int), v = 0 → f_X9_step_b117 F 5 (m + 1) v (stc u 5 q) = some (stc u 5 (rs (rs q 4 0) 4 0)) := fun m v hv => by
        show f_X9_step_b117_b F 5 (f_X9_step_b117 F 5 m) _ _ = _
        unfold f_X9_step_b117_b f_X9_step_b169
        rw [gd_t (by omega), if_pos hv, if_pos hv, ltm, is_stc, stc_stc, stc_eq, stc_eq, lti]
        have := c_st214' (F := F) hF h (g := rs q 4 0) (by rw [rs_ne (by omega), q1]; omega) (by rw [rs_ne (by omega), rs_ne (by omega), q1, q2]; omega) (by rw [rs_ne (by omega), q2]; omega) (by rw [rs_self]) (by left; rw [rs_ne (by omega), q3]; omega)
        rw [gd_t (by omega), this, rs_ne (show ¬ (3 : Int) = 4 by omega), q3, if_neg n2]
      have s9 := st m 0 rfl
      rw [← hm] at s9
      rw [s9]
      refine ⟨_, rfl, ?_, ?_, ?_, ?_, ?_, ?_⟩
      · rw [rs_ne (by omega), rs_ne (by omega), q1]
      · rw [rs_ne (by omega), rs_ne (by omega), q2, e2]
      · rw [rs_ne (by omega), rs_ne (by omega), q3, e3]
      · rw [rs_self, e4]
      · rw [rs_ne (by omega), rs_ne (by omega), q5]
      · rw [rs_ne (by omega), rs_ne (by omega), q6]
end CStep
