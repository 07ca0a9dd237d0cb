/-! ===== a name's letters ===== -/
def dg (l : Int) (f : Int → Int) (k : Int) : Int := if k < l then f k - 96 else 0
theorem nm_dg (l : Int) (f : Int → Int) : nm l f = dg l f 0 + 32 * dg l f 1 + 1024 * dg l f 2 + 32768 * dg l f 3 + 1048576 * dg l f 4 + 33554432 * dg l f 5 := rfl
theorem nm_bd {l : Int} {f : Int → Int} (h : ∀ k, 0 ≤ k → k < l → 97 ≤ f k ∧ f k ≤ 122) : ∀ k, 0 ≤ k → 0 ≤ dg l f k ∧ dg l f k ≤ 26 := fun k k0 => by
  unfold dg
  split
  · rename_i c
    have := h k k0 c
    omega
  · omega
theorem nm_at {l : Int} {f : Int → Int} (h : ∀ k, 0 ≤ k → k < l → 97 ≤ f k ∧ f k ≤ 122) {k : Int} (hk : 0 ≤ k ∧ k < 6) : (0 ≤ nm l f ∧ nm l f < 1073741824) ∧ andI (shr (nm l f) (5 * k)) 31 = dg l f k := by
  have b0 := nm_bd h 0 (by decide)
  have b1 := nm_bd h 1 (by decide)
  have b2 := nm_bd h 2 (by decide)
  have b3 := nm_bd h 3 (by decide)
  have b4 := nm_bd h 4 (by decide)
  have b5 := nm_bd h 5 (by decide)
  rw [nm_dg]
  have hk' : k = 0 ∨ k = 1 ∨ k = 2 ∨ k = 3 ∨ k = 4 ∨ k = 5 := by omega
  have hb : 0 ≤ dg l f 0 + 32 * dg l f 1 + 1024 * dg l f 2 + 32768 * dg l f 3 + 1048576 * dg l f 4 + 33554432 * dg l f 5 ∧ dg l f 0 + 32 * dg l f 1 + 1024 * dg l f 2 + 32768 * dg l f 3 + 1048576 * dg l f 4 + 33554432 * dg l f 5 < 1073741824 := by omega
  refine ⟨hb, ?_⟩
  obtain ⟨N, hN⟩ : ∃ N, N = dg l f 0 + 32 * dg l f 1 + 1024 * dg l f 2 + 32768 * dg l f 3 + 1048576 * dg l f 4 + 33554432 * dg l f 5 := ⟨_, rfl⟩
  rw [← hN] at hb ⊢
  rcases hk' with e | e | e | e | e | e <;> subst e
  · have e : shr N (5 * 0) = N := by unfold shr; show N / 1 = N; omega
    rw [e, andI_31 (by omega)]; omega
  · have e : shr N (5 * 1) = N / 32 := rfl
    rw [e, andI_31 (by omega)]; omega
  · have e : shr N (5 * 2) = N / 1024 := rfl
    rw [e, andI_31 (by omega)]; omega
  · have e : shr N (5 * 3) = N / 32768 := rfl
    rw [e, andI_31 (by omega)]; omega
  · have e : shr N (5 * 4) = N / 1048576 := rfl
    rw [e, andI_31 (by omega)]; omega
  · have e : shr N (5 * 5) = N / 33554432 := rfl
    rw [e, andI_31 (by omega)]; omega
/-! ===== tokens: what stands at a place of the text ===== -/
def kd (b : Int) : Int := if 97 ≤ b ∧ b ≤ 122 then 1 else if 48 ≤ b ∧ b ≤ 57 then 2 else if b = 59 then 3 else if b = 32 ∨ b = 10 then 5 else 4
def skp (B : Int → Int) (N : Int) : Nat → Int → Int
  | 0, i => i
  | n + 1, i => if i < N ∧ kd (B i) = 5 then skp B N n (i + 1) else i
def rune (B : Int → Int) (N k : Int) : Nat → Int → Int
  | 0, i => i
  | n + 1, i => if i < N ∧ kd (B i) = k then rune B N k n (i + 1) else i
def vl (B : Int → Int) (s : Int) : Nat → Int
  | 0 => 0
  | n + 1 => vl B s n * 10 + B (s + n) - 48
def tS (B : Int → Int) (N p : Int) : Int := skp B N 801 p
def tE (B : Int → Int) (N p : Int) : Int := if N ≤ tS B N p then tS B N p else if kd (B (tS B N p)) = 1 ∨ kd (B (tS B N p)) = 2 then rune B N (kd (B (tS B N p))) 801 (tS B N p + 1) else tS B N p + 1
def tK (B : Int → Int) (N p : Int) : Int := if N ≤ tS B N p then 0 else if kd (B (tS B N p)) = 1 then (if 8 < tE B N p - tS B N p then 4 else 1) else if kd (B (tS B N p)) = 2 then (if 3 < tE B N p - tS B N p then 4 else 2) else kd (B (tS B N p))
def tV (B : Int → Int) (N p : Int) : Int := if tK B N p = 2 then vl B (tS B N p) (tE B N p - tS B N p).toNat else 0
theorem kd_rg (b : Int) : 1 ≤ kd b ∧ kd b ≤ 5 := by
  unfold kd
  repeat' split
  all_goals omega
theorem skp_eq {B : Int → Int} {N : Int} : ∀ (n m : Nat) (i : Int), N - i < n → N - i < m → skp B N n i = skp B N m i := by
  intro n
  induction n with
  | zero =>
    intro m i h1 h2
    cases m with
    | zero => rfl
    | succ m => rw [skp, skp, if_neg (by omega)]
  | succ n ih =>
    intro m i h1 h2
    cases m with
    | zero => rw [skp, skp, if_neg (by omega)]
    | succ m =>
      rw [skp, skp]
      by_cases c : i < N ∧ kd (B i) = 5
      · rw [if_pos c, if_pos c]; exact ih m (i + 1) (by omega) (by omega)
      · rw [if_neg c, if_neg c]
theorem rune_eq {B : Int → Int} {N k : Int} : ∀ (n m : Nat) (i : Int), N - i < n → N - i < m → rune B N k n i = rune B N k m i := by
  intro n
  induction n with
  | zero =>
    intro m i h1 h2
    cases m with
    | zero => rfl
    | succ m => rw [rune, rune, if_neg (by omega)]
  | succ n ih =>
    intro m i h1 h2
    cases m with
    | zero => rw [rune, rune, if_neg (by omega)]
    | succ m =>
      rw [rune, rune]
      by_cases c : i < N ∧ kd (B i) = k
      · rw [if_pos c, if_pos c]; exact ih m (i + 1) (by omega) (by omega)
      · rw [if_neg c, if_neg c]
theorem skp_bd {B : Int → Int} {N : Int} : ∀ (n : Nat) (i : Int), i ≤ N → i ≤ skp B N n i ∧ skp B N n i ≤ N := by
  intro n
  induction n with
  | zero => intro i h; exact ⟨Int.le_refl _, h⟩
  | succ n ih =>
    intro i h
    rw [skp]
    split
    · have := ih (i + 1) (by omega); omega
    · omega
theorem skp_at {B : Int → Int} {N : Int} : ∀ (n : Nat) (i : Int), N - i < n → skp B N n i < N → ¬ kd (B (skp B N n i)) = 5 := by
  intro n
  induction n with
  | zero => intro i h h2; rw [skp] at h2; omega
  | succ n ih =>
    intro i h h2
    rw [skp] at h2 ⊢
    split at h2
    · rename_i c
      rw [if_pos c]; exact ih (i + 1) (by omega) h2
    · rename_i c
      rw [if_neg c]; intro z; exact c ⟨h2, z⟩
theorem rune_bd {B : Int → Int} {N k : Int} : ∀ (n : Nat) (i : Int), i ≤ N → i ≤ rune B N k n i ∧ rune B N k n i ≤ N := by
  intro n
  induction n with
  | zero => intro i h; exact ⟨Int.le_refl _, h⟩
  | succ n ih =>
    intro i h
    rw [rune]
    split
    · have := ih (i + 1) (by omega); omega
    · omega
theorem rune_in {B : Int → Int} {N k : Int} : ∀ (n : Nat) (i : Int) (j : Int), i ≤ j → j < rune B N k n i → kd (B j) = k := by
  intro n
  induction n with
  | zero => intro i j h h2; rw [rune] at h2; omega
  | succ n ih =>
    intro i j h h2
    rw [rune] at h2
    split at h2
    · rename_i c
      by_cases e : j = i
      · rw [e]; exact c.2
      · exact ih (i + 1) j (by omega) h2
    · omega
/-- the text: byte by byte; what class and reference have of it -/
def TX (u : aI) (B : Int → Int) (N : Int) : Prop := u 1 1 = N ∧ (0 ≤ N ∧ N ≤ 800) ∧ ∀ k, 0 ≤ k → k < N → (0 ≤ B k ∧ B k ≤ 255) ∧ u 2 k = B k
/-- the class's token is that of p -/
def CT (u : aI) (B : Int → Int) (N p : Int) : Prop := u 5 1 = tS B N p ∧ u 5 2 = tE B N p ∧ u 5 3 = tK B N p ∧ u 5 4 = tV B N p
theorem tok_bd {B : Int → Int} {N p : Int} (hN : N ≤ 800) (hp : 0 ≤ p ∧ p ≤ N) : p ≤ tS B N p ∧ tS B N p ≤ tE B N p ∧ tE B N p ≤ N ∧ (0 ≤ tK B N p ∧ tK B N p ≤ 4) ∧ (tK B N p = 0 ↔ tS B N p = N) ∧ (¬ tK B N p = 0 → tS B N p < tE B N p) := by
  have h1 := skp_bd (B := B) (N := N) 801 p hp.2
  have e1 : tS B N p = skp B N 801 p := rfl
  rw [← e1] at h1
  have hk := kd_rg (B (tS B N p))
  by_cases c : N ≤ tS B N p
  · have e2 : tE B N p = tS B N p := by unfold tE; rw [if_pos c]
    have e3 : tK B N p = 0 := by unfold tK; rw [if_pos c]
    rw [e2, e3]
    omega
  · have h2 := rune_bd (B := B) (N := N) (k := kd (B (tS B N p))) 801 (tS B N p + 1) (by omega)
    have e2 : tS B N p < tE B N p ∧ tE B N p ≤ N := by
      unfold tE
      rw [if_neg c]
      split <;> omega
    have e3 : (1 ≤ tK B N p ∧ tK B N p ≤ 4) ∨ kd (B (tS B N p)) = 5 := by
      unfold tK
      rw [if_neg c]
      split
      · left; split <;> omega
      · split
        · left; split <;> omega
        · omega
    have e4 : 1 ≤ tK B N p := by
      unfold tK
      rw [if_neg c]
      split
      · split <;> omega
      · split
        · split <;> omega
        · omega
    have c5 : ¬ kd (B (tS B N p)) = 5 := skp_at 801 p (by omega) (by omega)
    have := e3.resolve_right c5
    omega
theorem vl_bd {B : Int → Int} {s : Int} : ∀ n : Nat, n ≤ 3 → (∀ j : Int, s ≤ j → j < s + n → 48 ≤ B j ∧ B j ≤ 57) → 0 ≤ vl B s n ∧ vl B s n < tn n := by
  intro n
  induction n with
  | zero => intro _ _; exact ⟨Int.le_refl _, by show (0 : Int) < 1; omega⟩
  | succ n ih =>
    intro hn h
    have a := ih (by omega) (fun j j0 j1 => h j j0 (by omega))
    have b := h (s + n) (by omega) (by omega)
    rw [vl, tn]
    omega
theorem tV_bd {B : Int → Int} {N p : Int} (hN : N ≤ 800) (hp : 0 ≤ p ∧ p ≤ N) : 0 ≤ tV B N p ∧ tV B N p ≤ 999 := by
  unfold tV
  by_cases c : tK B N p = 2
  · rw [if_pos c]
    have hb := tok_bd (B := B) hN hp
    have c1 : ¬ N ≤ tS B N p := fun z => by
      have := hb.2.2.2.2.1
      omega
    have c2 : kd (B (tS B N p)) = 2 ∧ tE B N p - tS B N p ≤ 3 := by
      have e : tK B N p = 2 := c
      unfold tK at e
      rw [if_neg c1] at e
      split at e
      · split at e <;> omega
      · split at e
        · rename_i h
          split at e
          · omega
          · exact ⟨h, by omega⟩
        · exact absurd e (by assumption)
    have e2 : tE B N p = rune B N 2 801 (tS B N p + 1) := by
      unfold tE
      rw [if_neg c1, if_pos (Or.inr c2.1), c2.1]
    have hd : ∀ j, tS B N p ≤ j → j < tE B N p → 48 ≤ B j ∧ B j ≤ 57 := fun j j0 j1 => by
      have hk : kd (B j) = 2 := by
        by_cases e : j = tS B N p
        · rw [e]; exact c2.1
        · rw [e2] at j1
          exact rune_in 801 (tS B N p + 1) j (by omega) j1
      unfold kd at hk
      repeat' split at hk
      all_goals omega
    have := vl_bd (tE B N p - tS B N p).toNat (by omega) (fun j j0 j1 => hd j j0 (by omega))
    have ht : tn (tE B N p - tS B N p).toNat ≤ 1000 := by
      have : (tE B N p - tS B N p).toNat = 0 ∨ (tE B N p - tS B N p).toNat = 1 ∨ (tE B N p - tS B N p).toNat = 2 ∨ (tE B N p - tS B N p).toNat = 3 := by omega
      rcases this with e | e | e | e <;> rw [e] <;> decide
    omega
  · rw [if_neg c]; omega
/-! the class steps on -/
theorem t50 : shR 5 0 = 1 := by decide +kernel
theorem c_getB {F : Nat} {u : aI} {B : Int → Int} {N i : Int} (h : TX u B N) (hi : rg i) : f_X0_get F 1 i u = some (if 0 ≤ i ∧ i < N then B i else -1) := by
  obtain ⟨h1, h2, h3⟩ := h
  unfold f_X0_get
  rw [show shR 1 0 = 2 by decide +kernel, show shL 2 = 800 by decide +kernel, h1, gd_t hi]
  by_cases c : 0 ≤ i ∧ i < N
  · rw [if_neg (by omega), gd_t (by omega), if_neg (by omega), if_neg (by omega), gd_t (by omega), if_pos c, (h3 i c.1 c.2).2]
  · rw [if_neg c]
    by_cases c2 : i < 0
    · rw [if_pos c2]
    · rw [if_neg c2, gd_t (by omega), if_pos (by omega)]
theorem c_kind {F : Nat} {w : aI} {b : Int} (h : rg b) : f_X9_kindOf F b w = some (if b = -1 then 0 else kd b) := by
  unfold f_X9_kindOf kd
  rw [gd_t h]
  have b14 : f_X9_kindOf_b14 F b w = some (if b = -1 then 0 else if 48 ≤ b ∧ b ≤ 57 then 2 else if b = 59 then 3 else if b = 32 ∨ b = 10 then 5 else 4) := by
    unfold f_X9_kindOf_b14
    have b28 : f_X9_kindOf_b28 F b w = some (if b = -1 then 0 else if b = 59 then 3 else if b = 32 ∨ b = 10 then 5 else 4) := by
      unfold f_X9_kindOf_b28
      rw [gd_t h]
      by_cases c1 : b = -1
      · rw [if_pos c1, if_pos c1]
      · rw [if_neg c1, if_neg c1]
        by_cases c2 : b = 10
        · rw [if_pos c2, if_neg (by omega), if_pos (Or.inr c2)]
        · rw [if_neg c2]
          by_cases c3 : b = 32
          · rw [if_pos c3, if_neg (by omega), if_pos (Or.inl c3)]
          · rw [if_neg c3]
            by_cases c4 : b = 59
            · rw [if_pos c4, if_pos c4]
            · rw [if_neg c4, if_neg c4, if_neg (by omega)]
    rw [gd_t h, b28]
    by_cases c1 : b < 48
    · rw [if_pos c1]
      by_cases c0 : b = -1
      · rw [if_pos c0, if_pos c0]
      · rw [if_neg c0, if_neg c0, if_neg (show ¬ (48 ≤ b ∧ b ≤ 57) by omega)]
    · rw [if_neg c1]
      by_cases c2 : 57 < b
      · rw [if_pos c2, if_neg (show ¬ (48 ≤ b ∧ b ≤ 57) by omega)]
      · rw [if_neg c2, if_neg (show ¬ b = -1 by omega), if_pos (show 48 ≤ b ∧ b ≤ 57 by omega)]
  rw [b14]
  by_cases c1 : b < 97
  · rw [if_pos c1]
    by_cases c0 : b = -1
    · rw [if_pos c0, if_pos c0]
    · rw [if_neg c0, if_neg c0, if_neg (show ¬ (97 ≤ b ∧ b ≤ 122) by omega)]
  · rw [if_neg c1]
    by_cases c2 : 122 < b
    · rw [if_pos c2, if_neg (show ¬ (97 ≤ b ∧ b ≤ 122) by omega)]
    · rw [if_neg c2, if_neg (show ¬ b = -1 by omega), if_pos (show 97 ≤ b ∧ b ≤ 122 by omega)]
theorem TX.at5 {u : aI} {B : Int → Int} {N : Int} (h : TX u B N) (g : Int → Int) : TX (stc u 5 g) B N := by
  unfold TX
  rw [stc_ne (show ¬ 1 = 5 by decide), stc_ne (show ¬ 2 = 5 by decide)]
  exact h
section CStep
variable {F : Nat} {u : aI} {B : Int → Int} {N : Int}
theorem c_sizeB (h : TX u B N) : f_X0_size F 1 u = some N := by
  unfold f_X0_size
  rw [h.1]
theorem c_st8 (h : TX u B N) : ∀ (n : Nat) (g : Int → Int), 0 ≤ g 1 → g 1 ≤ N → N - g 1 < n → f_X9_step_b8 F 5 n (stc u 5 g) = f_X9_step_b53 F 5 (stc u 5 (rs g 1 (skp B N n (g 1)))) := by
  obtain ⟨h1, h2, h3⟩ := h
  intro n
  induction n with
  | zero => intro g g0 g1 g2; omega
  | succ n ih =>
    intro g g0 g1 g2
    have hT := TX.at5 ⟨h1, h2, h3⟩ g
    have e1 : rs g 1 (g 1) = g := by
      funext k
      by_cases c : k = 1
      · rw [c, rs_self]
      · rw [rs_ne c]
    show f_X9_step_b8_b F 5 (f_X9_step_b8 F 5 n) _ = _
    unfold f_X9_step_b8_b
    rw [t50, c_sizeB hT, bs, stc_eq, gd_t (by omega), skp]
    by_cases c : N ≤ g 1
    · rw [if_pos c, if_neg (by omega), e1]
    · have hb := h3 (g 1) g0 (by omega)
      have hk := kd_rg (B (g 1))
      rw [if_neg c, c_getB hT (by omega), if_pos (by omega), bs, c_kind (by omega), if_neg (by omega), bs, gd_t (by omega)]
      by_cases c2 : kd (B (g 1)) = 5
      · rw [if_pos c2, if_pos ⟨by omega, c2⟩, ltm, is_stc, stc_stc, stc_eq, ih _ (by rw [rs_self]; omega) (by rw [rs_self]; omega) (by rw [rs_self]; omega), rs_self]
        congr 2
        funext k
        by_cases ck : k = 1
        · rw [ck, rs_self, rs_self]
        · rw [rs_ne ck, rs_ne ck, rs_ne ck]
      · rw [if_neg c2, if_neg (fun z => c2 z.2), e1]
theorem c_st117 (h : TX u B N) {v : Int} (hv : v = 1) : ∀ (n : Nat) (g : Int → Int), 0 ≤ g 2 → g 2 ≤ N → N - g 2 < n → 1 ≤ g 3 → g 3 ≤ 4 → f_X9_step_b117 F 5 n v (stc u 5 g) = f_X9_step_b169 F 5 v (stc u 5 (rs g 2 (rune B N (g 3) n (g 2)))) := by
  obtain ⟨h1, h2, h3⟩ := h
  intro n
  induction n with
  | zero => intro g g0 g1 g2; omega
  | succ n ih =>
    intro g g0 g1 g2 g3 g4
    have hT := TX.at5 ⟨h1, h2, h3⟩ g
    have e1 : rs g 2 (g 2) = g := by
      funext k
      by_cases c : k = 2
      · rw [c, rs_self]
      · rw [rs_ne c]
    show f_X9_step_b117_b F 5 (f_X9_step_b117 F 5 n) _ _ = _
    unfold f_X9_step_b117_b
    rw [gd_t (by omega), if_neg (by omega), t50, c_sizeB hT, bs, stc_eq, gd_t (by omega), rune]
    by_cases c : N ≤ g 2
    · rw [if_pos c, if_neg (by omega), e1]
    · have hb := h3 (g 2) g0 (by omega)
      have hk := kd_rg (B (g 2))
      rw [if_neg c, c_getB hT (by omega), if_pos (by omega), bs, c_kind (by omega), if_neg (by omega), bs, gd_t (by omega)]
      by_cases c2 : kd (B (g 2)) = g 3
      · rw [if_pos c2, if_pos ⟨by omega, c2⟩, ltm, is_stc, stc_stc, stc_eq, ih _ (by rw [rs_self]; omega) (by rw [rs_self]; omega) (by rw [rs_self]; omega) (by rw [rs_ne (by omega)]; omega) (by rw [rs_ne (by omega)]; omega), rs_self, rs_ne (show ¬ (3 : Int) = 2 by omega)]
        congr 2
        funext k
        by_cases ck : k = 2
        · rw [ck, rs_self, rs_self]
        · rw [rs_ne ck, rs_ne ck, rs_ne ck]
      · rw [if_neg c2, if_neg (fun z => c2 z.2), e1]
theorem c_st214 (h : TX u B N) : ∀ (n m : Nat) (g : Int → Int), 0 ≤ g 1 → g 1 + m ≤ g 2 → g 2 ≤ N → g 2 - g 1 - m < n → g 4 = (if g 3 = 2 then vl B (g 1) m else 0) → (1 ≤ g 3 ∧ g 3 ≤ 4 ∨ g 3 = 0) →
    f_X9_step_b214 F 5 n (g 1 + m) (stc u 5 g) = some (stc u 5 (rs g 4 (if g 3 = 2 then vl B (g 1) (g 2 - g 1).toNat else 0))) := by
  obtain ⟨h1, h2, h3⟩ := h
  intro n
  induction n with
  | zero => intro m g g0 g1 g2; omega
  | succ n ih =>
    intro m g g0 g1 g2 g3 g4 g5
    have hT := TX.at5 ⟨h1, h2, h3⟩ g
    have e1 : ∀ v, v = g 4 → rs g 4 v = g := fun v hv => by
      funext k
      by_cases c : k = 4
      · rw [c, rs_self, hv]
      · rw [rs_ne c]
    show f_X9_step_b214_b F 5 (f_X9_step_b214 F 5 n) _ _ = _
    unfold f_X9_step_b214_b
    rw [stc_eq, gd_t (by omega)]
    by_cases c : g 2 ≤ g 1 + m
    · rw [if_pos c, e1 _ (by rw [g4, show (g 2 - g 1).toNat = m by omega])]
    · rw [if_neg c, gd_t (by omega)]
      by_cases c2 : g 3 = 2
      · rw [if_pos c2, t50, c_getB hT (by omega), if_pos (by omega), bs, ltm, is_stc, stc_stc, stc_eq]
        have e9 := ih (m + 1) (rs g 4 (g 4 * 10 + B (g 1 + m) - 48)) (by rw [rs_ne (by omega)]; exact g0) (by rw [rs_ne (by omega), rs_ne (by omega)]; omega) (by rw [rs_ne (by omega)]; exact g2) (by rw [rs_ne (by omega), rs_ne (by omega)]; omega) (by
          rw [rs_self, rs_ne (by omega), rs_ne (by omega), if_pos c2, vl, g4, if_pos c2]) (by rw [rs_ne (by omega)]; exact g5)
        rw [rs_ne (by omega), rs_ne (by omega), rs_ne (by omega)] at e9
        have e8 : g 1 + ((m + 1 : Nat) : Int) = g 1 + m + 1 := by omega
        rw [e8] at e9
        rw [e9]
        congr 2
        funext k
        by_cases ck : k = 4
        · rw [ck, rs_self, rs_self]
        · rw [rs_ne ck, rs_ne ck, rs_ne ck]
      · rw [if_neg c2, if_neg c2, e1 0 (by rw [g4, if_neg c2])]
theorem c_st214' (hF : 1000 ≤ F) (h : TX u B N) {g : Int → Int} (g0 : 0 ≤ g 1) (g1 : g 1 ≤ g 2) (g2 : g 2 ≤ N) (g4 : g 4 = 0) (g5 : 1 ≤ g 3 ∧ g 3 ≤ 4 ∨ g 3 = 0) :
    f_X9_step_b214 F 5 F (g 1) (stc u 5 g) = some (stc u 5 (rs g 4 (if g 3 = 2 then vl B (g 1) (g 2 - g 1).toNat else 0))) := by
  have hN := h.2.1
  have := c_st214 (F := F) h F 0 g g0 (by omega) g2 (by omega) (by rw [g4]; split <;> rfl) g5
  have e : g 1 + ((0 : Nat) : Int) = g 1 := by omega
  rw [e] at this
  exact this
/-- one token on -/
theorem c_step (hF : 1000 ≤ F) (h : TX u B N) {p : Int} (hp : 0 ≤ p ∧ p ≤ N) (h5 : u 5 2 = p) : ∃ g, f_X9_step F 5 u = some (stc u 5 g) ∧ g 1 = tS B N p ∧ g 2 = tE B N p ∧ g 3 = tK B N p ∧ g 4 = tV B N p ∧ g 5 = u 5 5 ∧ g 6 = u 5 6 := by
  have hN := h.2.1
  have hb := tok_bd (B := B) hN.2 hp
  have hS : skp B N F p = tS B N p := skp_eq F 801 p (by omega) (by omega)
  unfold f_X9_step
  rw [ltm, h5, is_stc, c_st8 h F _ (by rw [rs_self]; omega) (by rw [rs_self]; omega) (by rw [rs_self]; omega), rs_self, hS]
  obtain ⟨g, hg⟩ : ∃ g, g = rs (rs (u 5) 1 p) 1 (tS B N p) := ⟨_, rfl⟩
  have gs : g 1 = tS B N p := by rw [hg, rs_self]
  have go : ∀ k, ¬ k = 1 → g k = u 5 k := fun k hk => by rw [hg, rs_ne hk, rs_ne hk]
  rw [← hg]
  clear hg
  have hT := h.at5 g
  unfold f_X9_step_b53
  rw [t50, stc_eq, gs, c_getB hT (by omega), bs]
  by_cases c : N ≤ tS B N p
  · have e2 : tE B N p = tS B N p := by unfold tE; rw [if_pos c]
    have e3 : tK B N p = 0 := by unfold tK; rw [if_pos c]
    have e4 : tV B N p = 0 := by unfold tV; rw [if_neg (by omega)]
    rw [if_neg (by omega), c_kind (by decide), if_pos rfl, bs, ltm, is_stc, stc_stc, stc_eq, stc_eq, rs_self, gd_t (by decide), if_pos rfl, rs_ne (by omega), gs]
    unfold f_X9_step_b92
    rw [ltm, is_stc, stc_stc, stc_eq, stc_eq, rs_ne (by omega), rs_self, gd_t (by decide), if_neg (by decide), if_neg (by decide)]
    obtain ⟨q, hq⟩ : ∃ q, q = rs (rs g 3 0) 2 (tS B N p) := ⟨_, rfl⟩
    rw [← hq]
    have q1 : q 1 = tS B N p := by rw [hq, rs_ne (by omega), rs_ne (by omega)]; exact gs
    have q2 : q 2 = tS B N p := by rw [hq, rs_self]
    have q3 : q 3 = 0 := by rw [hq, rs_ne (by omega), rs_self]
    have q5 : q 5 = u 5 5 := by rw [hq, rs_ne (by omega), rs_ne (by omega)]; exact go 5 (by omega)
    have q6 : q 6 = u 5 6 := by rw [hq, rs_ne (by omega), rs_ne (by omega)]; exact go 6 (by omega)
    clear hq
    obtain ⟨m, hm⟩ : ∃ m, F = m + 1 := ⟨F - 1, by omega⟩
    have st : ∀ (m : Nat) (v : Int), v = 0 → f_X9_step_b117 F 5 (m + 1) v (stc u 5 q) = some (stc u 5 (rs (rs q 4 0) 4 0)) := fun m v hv => by
      show f_X9_step_b117_b F 5 (f_X9_step_b117 F 5 m) _ _ = _
      unfold f_X9_step_b117_b f_X9_step_b169
      rw [gd_t (by omega), if_pos hv, if_pos hv, ltm, is_stc, stc_stc, stc_eq, stc_eq, lti]
      have := c_st214' (F := F) hF h (g := rs q 4 0) (by rw [rs_ne (by omega), q1]; omega) (by rw [rs_ne (by omega), rs_ne (by omega), q1, q2]; omega) (by rw [rs_ne (by omega), q2]; omega) (by rw [rs_self]) (by right; rw [rs_ne (by omega), q3])
      rw [gd_t (by omega), this, rs_ne (show ¬ (3 : Int) = 4 by omega), q3]
      rfl
    have s9 := st m 0 rfl
    rw [← hm] at s9
    rw [s9]
    refine ⟨_, rfl, ?_, ?_, ?_, ?_, ?_, ?_⟩
    · rw [rs_ne (by omega), rs_ne (by omega), q1]
    · rw [rs_ne (by omega), rs_ne (by omega), q2, e2]
    · rw [rs_ne (by omega), rs_ne (by omega), q3, e3]
    · rw [rs_self, e4]
    · rw [rs_ne (by omega), rs_ne (by omega), q5]
    · rw [rs_ne (by omega), rs_ne (by omega), q6]
  · have hB := h.2.2 (tS B N p) (by omega) (by omega)
    have hk := kd_rg (B (tS B N p))
    have h5' : ¬ kd (B (tS B N p)) = 5 := skp_at 801 p (by omega) (by show tS B N p < N; omega)
    rw [if_pos (by omega), c_kind (by omega), if_neg (by omega), bs, ltm, is_stc, stc_stc, stc_eq, stc_eq, rs_self, gd_t (by omega), if_neg (by omega), rs_ne (by omega), gs]
    unfold f_X9_step_b92
    rw [ltm, is_stc, stc_stc, stc_eq, stc_eq, rs_ne (by omega), rs_self, gd_t (by omega)]
    obtain ⟨q, hq⟩ : ∃ q, q = rs (rs g 3 (kd (B (tS B N p)))) 2 (tS B N p + 1) := ⟨_, rfl⟩
    rw [← hq]
    have q1 : q 1 = tS B N p := by rw [hq, rs_ne (by omega), rs_ne (by omega)]; exact gs
    have q2 : q 2 = tS B N p + 1 := by rw [hq, rs_self]
    have q3 : q 3 = kd (B (tS B N p)) := by rw [hq, rs_ne (by omega), rs_self]
    have q5 : q 5 = u 5 5 := by rw [hq, rs_ne (by omega), rs_ne (by omega)]; exact go 5 (by omega)
    have q6 : q 6 = u 5 6 := by rw [hq, rs_ne (by omega), rs_ne (by omega)]; exact go 6 (by omega)
    clear hq
    by_cases c2 : kd (B (tS B N p)) = 1 ∨ kd (B (tS B N p)) = 2
    · have e2 : tE B N p = rune B N (kd (B (tS B N p))) 801 (tS B N p + 1) := by unfold tE; rw [if_neg c, if_pos c2]
      have e3 : (if kd (B (tS B N p)) = 1 then f_X9_step_b117 F 5 F 1 (stc u 5 q) else if kd (B (tS B N p)) = 2 then f_X9_step_b117 F 5 F 1 (stc u 5 q) else f_X9_step_b117 F 5 F 0 (stc u 5 q)) = f_X9_step_b117 F 5 F 1 (stc u 5 q) := by
        by_cases c3 : kd (B (tS B N p)) = 1
        · rw [if_pos c3]
        · rw [if_neg c3, if_pos (c2.resolve_left c3)]
      have hR : rune B N (q 3) F (q 2) = tE B N p := by
        rw [q3, q2, e2]
        exact rune_eq F 801 _ (by omega) (by omega)
      rw [e3, c_st117 h rfl F q (by omega) (by omega) (by omega) (by omega) (by omega), hR]
      unfold f_X9_step_b169
      rw [gd_t (by decide), if_neg (by decide), stc_eq, rs_self, rs_ne (show ¬ (3 : Int) = 2 by omega), rs_ne (show ¬ (1 : Int) = 2 by omega), q3, q1, gd_t (by omega)]
      -- the last steps: too long or not
      have fin : ∀ (m : Int), (m = if kd (B (tS B N p)) = 1 then 8 else 3) → ∃ g, f_X9_step_b196 F 5 m (tE B N p - tS B N p) (stc u 5 (rs q 2 (tE B N p))) = some (stc u 5 g) ∧ g 1 = tS B N p ∧ g 2 = tE B N p ∧ g 3 = tK B N p ∧ g 4 = tV B N p ∧ g 5 = u 5 5 ∧ g 6 = u 5 6 := by
        intro m hm
        have eK : tK B N p = if m < tE B N p - tS B N p then 4 else kd (B (tS B N p)) := by
          unfold tK
          rw [if_neg c]
          rcases c2 with z | z
          · have h8 : m = 8 := by rw [hm, if_pos z]
            rw [if_pos z, h8, z]
          · have h3 : m = 3 := by rw [hm, if_neg (by omega)]
            rw [if_neg (show ¬ kd (B (tS B N p)) = 1 by omega), if_pos z, h3, z]
        unfold f_X9_step_b196
        have hm9 : m = 8 ∨ m = 3 := by rw [hm]; split <;> omega
        rw [gd_t (by omega)]
        by_cases c4 : tE B N p - tS B N p ≤ m
        · rw [if_neg (by omega)] at eK
          rw [if_pos c4, ltm, is_stc, stc_stc, stc_eq, stc_eq, lti]
          have s := c_st214' (F := F) hF h (g := rs (rs q 2 (tE B N p)) 4 0) (by rw [rs_ne (by omega), rs_ne (by omega), q1]; omega) (by rw [rs_ne (by omega), rs_ne (by omega), rs_ne (by omega), rs_self, q1]; omega) (by rw [rs_ne (by omega), rs_self]; omega) (by rw [rs_self]) (by left; rw [rs_ne (by omega), rs_ne (by omega), q3]; omega)
          rw [s]
          refine ⟨_, rfl, ?_, ?_, ?_, ?_, ?_, ?_⟩
          · rw [rs_ne (by omega), rs_ne (by omega), rs_ne (by omega), q1]
          · rw [rs_ne (by omega), rs_ne (by omega), rs_self]
          · rw [rs_ne (by omega), rs_ne (by omega), rs_ne (by omega), q3, eK]
          · rw [rs_self, rs_ne (show ¬ (3 : Int) = 4 by omega), rs_ne (show ¬ (3 : Int) = 2 by omega), rs_ne (show ¬ (1 : Int) = 4 by omega), rs_ne (show ¬ (1 : Int) = 2 by omega), rs_ne (show ¬ (2 : Int) = 4 by omega), rs_self, q3, q1]
            unfold tV
            rw [eK]
          · rw [rs_ne (by omega), rs_ne (by omega), rs_ne (by omega), q5]
          · rw [rs_ne (by omega), rs_ne (by omega), rs_ne (by omega), q6]
        · rw [if_pos (by omega)] at eK
          rw [if_neg c4, ltm, is_stc _ 5 3 4, stc_stc, stc_eq, ltm, is_stc _ 5 4 0, stc_stc, stc_eq, stc_eq, lti]
          have s := c_st214' (F := F) hF h (g := rs (rs (rs q 2 (tE B N p)) 3 4) 4 0) (by rw [rs_ne (by omega), rs_ne (by omega), rs_ne (by omega), q1]; omega) (by rw [rs_ne (by omega), rs_ne (by omega), rs_ne (by omega), rs_ne (by omega), rs_ne (by omega), rs_self, q1]; omega) (by rw [rs_ne (by omega), rs_ne (by omega), rs_self]; omega) (by rw [rs_self]) (by left; rw [rs_ne (by omega), rs_self]; omega)
          rw [s]
          refine ⟨_, rfl, ?_, ?_, ?_, ?_, ?_, ?_⟩
          · rw [rs_ne (by omega), rs_ne (by omega), rs_ne (by omega), rs_ne (by omega), q1]
          · rw [rs_ne (by omega), rs_ne (by omega), rs_ne (by omega), rs_self]
          · rw [rs_ne (by omega), rs_ne (by omega), rs_self, eK]
          · rw [rs_self, rs_ne (show ¬ (3 : Int) = 4 by omega), rs_self, if_neg (by decide)]
            unfold tV
            rw [eK, if_neg (by decide)]
          · rw [rs_ne (by omega), rs_ne (by omega), rs_ne (by omega), rs_ne (by omega), q5]
          · rw [rs_ne (by omega), rs_ne (by omega), rs_ne (by omega), rs_ne (by omega), q6]
      by_cases c3 : kd (B (tS B N p)) = 1
      · rw [if_pos c3]; exact fin 8 (by rw [if_pos c3])
      · rw [if_neg c3]; exact fin 3 (by rw [if_neg c3])
    · have n1 : ¬ kd (B (tS B N p)) = 1 := fun z => c2 (Or.inl z)
      have n2 : ¬ kd (B (tS B N p)) = 2 := fun z => c2 (Or.inr z)
      have e2 : tE B N p = tS B N p + 1 := by unfold tE; rw [if_neg c, if_neg c2]
      have e3 : tK B N p = kd (B (tS B N p)) := by unfold tK; rw [if_neg c, if_neg n1, if_neg n2]
      have e4 : tV B N p = 0 := by unfold tV; rw [e3, if_neg n2]
      rw [if_neg n1, if_neg n2]
      obtain ⟨m, hm⟩ : ∃ m, F = m + 1 := ⟨F - 1, by omega⟩
      have st : ∀ (m : Nat) (v : Int), v = 0 → f_X9_step_b117 F 5 (m + 1) v (stc u 5 q) = some (stc u 5 (rs (rs q 4 0) 4 0)) := fun m v hv => by
        show f_X9_step_b117_b F 5 (f_X9_step_b117 F 5 m) _ _ = _
        unfold f_X9_step_b117_b f_X9_step_b169
        rw [gd_t (by omega), if_pos hv, if_pos hv, ltm, is_stc, stc_stc, stc_eq, stc_eq, lti]
        have := c_st214' (F := F) hF h (g := rs q 4 0) (by rw [rs_ne (by omega), q1]; omega) (by rw [rs_ne (by omega), rs_ne (by omega), q1, q2]; omega) (by rw [rs_ne (by omega), q2]; omega) (by rw [rs_self]) (by left; rw [rs_ne (by omega), q3]; omega)
        rw [gd_t (by omega), this, rs_ne (show ¬ (3 : Int) = 4 by omega), q3, if_neg n2]
      have s9 := st m 0 rfl
      rw [← hm] at s9
      rw [s9]
      refine ⟨_, rfl, ?_, ?_, ?_, ?_, ?_, ?_⟩
      · rw [rs_ne (by omega), rs_ne (by omega), q1]
      · rw [rs_ne (by omega), rs_ne (by omega), q2, e2]
      · rw [rs_ne (by omega), rs_ne (by omega), q3, e3]
      · rw [rs_self, e4]
      · rw [rs_ne (by omega), rs_ne (by omega), q5]
      · rw [rs_ne (by omega), rs_ne (by omega), q6]
end CStep
/-! ===== tokens: the reference goes on ===== -/
theorem kd5 {b : Int} (h : 0 ≤ b ∧ b ≤ 255) : kd b = 5 ↔ (i2bI b = 32 ∨ i2bI b = 10) := by
  have e : i2bI b = 32 ↔ b = 32 := by unfold i2bI; omega
  have e2 : i2bI b = 10 ↔ b = 10 := by unfold i2bI; omega
  rw [e, e2]
  unfold kd
  repeat' split
  all_goals omega
theorem kd1 {b : Int} (h : 0 ≤ b ∧ b ≤ 255) : kd b = 1 ↔ (97 ≤ i2bI b ∧ i2bI b ≤ 122) := by
  have e : (97 ≤ i2bI b ∧ i2bI b ≤ 122) ↔ (97 ≤ b ∧ b ≤ 122) := by unfold i2bI; omega
  rw [e]
  unfold kd
  repeat' split
  all_goals omega
theorem kd2 {b : Int} (h : 0 ≤ b ∧ b ≤ 255) : kd b = 2 ↔ (48 ≤ i2bI b ∧ i2bI b ≤ 57) := by
  have e : (48 ≤ i2bI b ∧ i2bI b ≤ 57) ↔ (48 ≤ b ∧ b ≤ 57) := by unfold i2bI; omega
  rw [e]
  unfold kd
  repeat' split
  all_goals omega
theorem kd3 {b : Int} (h : 0 ≤ b ∧ b ≤ 255) : kd b = 3 ↔ i2bI b = 59 := by
  have e : i2bI b = 59 ↔ b = 59 := by unfold i2bI; omega
  rw [e]
  unfold kd
  repeat' split
  all_goals omega
theorem i2b_bd (b : Int) : -128 ≤ i2bI b ∧ i2bI b ≤ 127 := by unfold i2bI; omega
theorem i2b_v {b : Int} (h : 0 ≤ b ∧ b ≤ 127) : i2bI b = b := by unfold i2bI; omega
theorem kd2_v {b : Int} (h : kd b = 2) : 48 ≤ b ∧ b ≤ 57 := by
  unfold kd at h
  repeat' split at h
  all_goals omega
theorem kd1_v {b : Int} (h : kd b = 1) : 97 ≤ b ∧ b ≤ 122 := by
  unfold kd at h
  repeat' split at h
  all_goals omega
section MGo
variable {F : Nat} {v : aI} {B : Int → Int} {N : Int}
end MGo
/-! ===== words, names, numbers at a place ===== -/
theorem xB_rg : ∀ s, hasS s = true → ∀ i, i < (xB s).length → 0 ≤ ((xB s).getD i 0).toInt ∧ ((xB s).getD i 0).toInt ≤ 127 := by
  have h : ∀ s, s < 39 → ∀ i, i < (xB s).length → 0 ≤ ((xB s).getD i 0).toInt ∧ ((xB s).getD i 0).toInt ≤ 127 := by decide +kernel
  exact fun s hs => h s (hasS_lt hs)
theorem xB_len : ∀ s, hasS s = true → (xB s).length ≤ 200 := by
  have h : ∀ s, s < 39 → (xB s).length ≤ 200 := by decide +kernel
  exact fun s hs => h s (hasS_lt hs)
theorem s_len {s : Nat} (h : hasS s = true) : f_strlen s = some ((xB s).length : Int) := gd_t h
theorem s_chr {s : Nat} (h : hasS s = true) {i : Nat} (hi : i < (xB s).length) : f_strchr s i = some ((xB s).getD i 0).toInt := by
  unfold f_strchr
  rw [gd_t h, gd_t (by omega), Int.toNat_natCast]
abbrev Wd (B : Int → Int) (N p : Int) (s : Nat) : Prop := tK B N p = 1 ∧ tE B N p - tS B N p = (xB s).length ∧ ∀ i : Nat, i < (xB s).length → B (tS B N p + i) = ((xB s).getD i 0).toInt
/-- the class stands at p, no error yet -/
def CS (u : aI) (B : Int → Int) (N p : Int) : Prop := TX u B N ∧ CT u B N p ∧ (0 ≤ p ∧ p ≤ N) ∧ u 5 5 = 0 ∧ u 5 6 = -1
/-- an error was met -/
def CF (u : aI) (B : Int → Int) (N c a : Int) : Prop := TX u B N ∧ u 5 5 = c ∧ u 5 6 = a
def Fk (u u' : aI) : Prop := ∀ a, ¬ a = 5 → u' a = u a
theorem Fk.refl (u : aI) : Fk u u := fun _ _ => rfl
theorem Fk.trans {u v w : aI} (h : Fk u v) (k : Fk v w) : Fk u w := fun a ha => (k a ha).trans (h a ha)
theorem Fk.stc {u : aI} (g : Int → Int) : Fk u (stc u 5 g) := fun a ha => stc_ne ha
theorem CS.bd {u : aI} {B : Int → Int} {N p : Int} (h : CS u B N p) : (0 ≤ N ∧ N ≤ 800) ∧ p ≤ tS B N p ∧ tS B N p ≤ tE B N p ∧ tE B N p ≤ N ∧ (0 ≤ tK B N p ∧ tK B N p ≤ 4) ∧ (tK B N p = 0 ↔ tS B N p = N) ∧ (¬ tK B N p = 0 → tS B N p < tE B N p) := ⟨h.1.2.1, tok_bd h.1.2.1.2 h.2.2.1⟩
section CTok
variable {F : Nat} {u : aI} {B : Int → Int} {N p : Int}
theorem c_next (hF : 1000 ≤ F) (h : CS u B N p) : ∃ u', f_X9_step F 5 u = some u' ∧ CS u' B N (tE B N p) ∧ Fk u u' := by
  have hb := h.bd
  obtain ⟨h1, h2, h3, h4, h5⟩ := h
  obtain ⟨g, e1, g1, g2, g3, g4, g5, g6⟩ := c_step (F := F) hF h1 (p := tE B N p) (by omega) h2.2.1
  refine ⟨_, e1, ⟨h1.at5 g, ?_, by omega, by rw [stc_eq, g5, h4], by rw [stc_eq, g6, h5]⟩, Fk.stc g⟩
  unfold CT
  rw [stc_eq]
  exact ⟨g1, g2, g3, g4⟩
theorem c_fail {c : Int} (h : CS u B N p) : ∃ u', f_X9_fail F 5 c u = some (false, u') ∧ CF u' B N c (tS B N p) ∧ Fk u u' := by
  obtain ⟨h1, h2, h3, h4, h5⟩ := h
  unfold f_X9_fail
  rw [ltm, ltm, is_eq, rs_ne (by omega), h2.1]
  refine ⟨_, rfl, ⟨?_, ?_, ?_⟩, fun a ha => by rw [is_ne ha, is_ne ha]⟩
  · unfold TX
    rw [is_ne (show ¬ 1 = 5 by decide), is_ne (show ¬ 1 = 5 by decide), is_ne (show ¬ 2 = 5 by decide), is_ne (show ¬ 2 = 5 by decide)]
    exact h1
  · rw [is_eq, rs_ne (by omega), is_eq, rs_self]
  · rw [is_eq, rs_self]
theorem c_isWord {s : Nat} (hF : 1000 ≤ F) (hs : hasS s = true) (h : CS u B N p) : f_X9_isWord F 5 s u = some (decide (Wd B N p s)) := by
  have hb := h.bd
  obtain ⟨h1, h2, h3, h4, h5⟩ := h
  have hl := xB_len s hs
  unfold f_X9_isWord
  rw [h2.2.2.1, h2.2.1, h2.1, gd_t (by omega)]
  by_cases c1 : tK B N p = 1
  · rw [if_pos c1, s_len hs, bs, gd_t (by omega)]
    by_cases c2 : tE B N p - tS B N p = (xB s).length
    · rw [if_pos c2]
      have key : ∀ (n i : Nat), i ≤ (xB s).length → (xB s).length - i < n → (∀ j : Nat, j < i → B (tS B N p + j) = ((xB s).getD j 0).toInt) → f_X9_isWord_b28 F 5 s u n i = some (decide (Wd B N p s)) := by
        intro n
        induction n with
        | zero => intro i i1 i2; omega
        | succ n ih =>
          intro i i1 i2 hi
          show f_X9_isWord_b28_b F 5 s u (f_X9_isWord_b28 F 5 s u n) _ = _
          unfold f_X9_isWord_b28_b
          rw [s_len hs, bs, gd_t (by omega)]
          by_cases c : ((xB s).length : Int) ≤ i
          · rw [if_pos c, decide_eq_true ⟨c1, c2, fun j hj => hi j (by omega)⟩]
          · have hB := h1.2.2 (tS B N p + i) (by omega) (by omega)
            have hc := xB_rg s hs i (by omega)
            rw [if_neg c, t50, h2.1, c_getB h1 (by omega), if_pos (by omega), bs, s_chr hs (by omega), bs, gd_t (by omega)]
            by_cases c3 : B (tS B N p + i) = ((xB s).getD i 0).toInt
            · rw [if_pos c3]
              refine ih (i + 1) (by omega) (by omega) (fun j hj => ?_)
              by_cases e : j = i
              · rw [e]; exact c3
              · exact hi j (by omega)
            · rw [if_neg c3, decide_eq_false (fun z => c3 (z.2.2 i (by omega)))]
      exact key F 0 (by omega) (by omega) (fun j hj => by omega)
    · rw [if_neg c2, decide_eq_false (fun z => c2 z.2.1)]
  · rw [if_neg c1, decide_eq_false (fun z => c1 z.1)]
/-- which setting's word stands here -/
def swd (B : Int → Int) (N p : Int) : Int := if Wd B N p 20 then 8 else if Wd B N p 21 then 9 else if Wd B N p 22 then 10 else -1
theorem c_setWord (hF : 1000 ≤ F) (h : CS u B N p) : f_X9_settingWord F 5 u = some (swd B N p) := by
  unfold f_X9_settingWord swd
  rw [c_isWord hF (by decide) h, bs]
  by_cases c1 : Wd B N p 20
  · rw [if_pos (decide_eq_true c1), if_pos c1]
  · rw [if_neg (by rw [decide_eq_true_iff]; exact c1), if_neg c1, c_isWord hF (by decide) h, bs]
    by_cases c2 : Wd B N p 21
    · rw [if_pos (decide_eq_true c2), if_pos c2]
    · rw [if_neg (by rw [decide_eq_true_iff]; exact c2), if_neg c2, c_isWord hF (by decide) h, bs]
      by_cases c3 : Wd B N p 22
      · rw [if_pos (decide_eq_true c3), if_pos c3]
      · rw [if_neg (by rw [decide_eq_true_iff]; exact c3), if_neg c3]
/-- the name that stands here, in one number -/
abbrev IsNm (B : Int → Int) (N p : Int) : Prop := tK B N p = 1 ∧ tE B N p - tS B N p ≤ 6
def nmH (B : Int → Int) (N p : Int) : Int := nm (tE B N p - tS B N p) (fun k => B (tS B N p + k))
def pN (f : Int → Int) (l : Int) : Nat → Int
  | 0 => 0
  | m + 1 => pN f l m * 32 + (f (l - 1 - m) - 96)
theorem pN_nm (f : Int → Int) {l : Int} (hl : 1 ≤ l ∧ l ≤ 6) : pN f l l.toNat = nm l f := by
  have h : l = 1 ∨ l = 2 ∨ l = 3 ∨ l = 4 ∨ l = 5 ∨ l = 6 := by omega
  rcases h with e | e | e | e | e | e <;> subst e
  · show (0 : Int) * 32 + (f (1 - 1 - 0) - 96) = _
    simp only [nm, Int.reduceLT, reduceIte, Int.reduceSub]
    omega
  · show ((0 : Int) * 32 + (f (2 - 1 - 0) - 96)) * 32 + (f (2 - 1 - 1) - 96) = _
    simp only [nm, Int.reduceLT, reduceIte, Int.reduceSub]
    omega
  · show (((0 : Int) * 32 + (f (3 - 1 - 0) - 96)) * 32 + (f (3 - 1 - 1) - 96)) * 32 + (f (3 - 1 - 2) - 96) = _
    simp only [nm, Int.reduceLT, reduceIte, Int.reduceSub]
    omega
  · show ((((0 : Int) * 32 + (f (4 - 1 - 0) - 96)) * 32 + (f (4 - 1 - 1) - 96)) * 32 + (f (4 - 1 - 2) - 96)) * 32 + (f (4 - 1 - 3) - 96) = _
    simp only [nm, Int.reduceLT, reduceIte, Int.reduceSub]
    omega
  · show (((((0 : Int) * 32 + (f (5 - 1 - 0) - 96)) * 32 + (f (5 - 1 - 1) - 96)) * 32 + (f (5 - 1 - 2) - 96)) * 32 + (f (5 - 1 - 3) - 96)) * 32 + (f (5 - 1 - 4) - 96) = _
    simp only [nm, Int.reduceLT, reduceIte, Int.reduceSub]
    omega
  · show ((((((0 : Int) * 32 + (f (6 - 1 - 0) - 96)) * 32 + (f (6 - 1 - 1) - 96)) * 32 + (f (6 - 1 - 2) - 96)) * 32 + (f (6 - 1 - 3) - 96)) * 32 + (f (6 - 1 - 4) - 96)) * 32 + (f (6 - 1 - 5) - 96) = _
    simp only [nm, Int.reduceLT, reduceIte, Int.reduceSub]
    omega
theorem pN_bd {f : Int → Int} {l : Int} (h : ∀ k, 0 ≤ k → k < l → 97 ≤ f k ∧ f k ≤ 122) : ∀ m : Nat, (m : Int) ≤ l → m ≤ 6 → 0 ≤ pN f l m ∧ pN f l m < 2 ^ (5 * m) := by
  intro m
  induction m with
  | zero => intro _ _; exact ⟨Int.le_refl _, by show (0 : Int) < 1; omega⟩
  | succ m ih =>
    intro hm h6
    have a := ih (by omega) (by omega)
    have b := h (l - 1 - m) (by omega) (by omega)
    have e : (2 : Int) ^ (5 * (m + 1)) = 32 * 2 ^ (5 * m) := by rw [Nat.mul_add, Int.pow_add]; omega
    rw [pN, e]
    omega
/-- letters of a word -/
theorem nm_let (hN : N ≤ 800) (hp : 0 ≤ p ∧ p ≤ N) (h : IsNm B N p) : ∀ k, 0 ≤ k → k < tE B N p - tS B N p → 97 ≤ B (tS B N p + k) ∧ B (tS B N p + k) ≤ 122 := by
  have hb := tok_bd (B := B) hN hp
  have c1 : ¬ N ≤ tS B N p := fun z => by
    have := h.1
    omega
  have c2 : kd (B (tS B N p)) = 1 := by
    have e := h.1
    unfold tK at e
    rw [if_neg c1] at e
    split at e
    · assumption
    · split at e
      · split at e <;> omega
      · exact absurd e (by assumption)
  have e2 : tE B N p = rune B N 1 801 (tS B N p + 1) := by
    unfold tE
    rw [if_neg c1, if_pos (Or.inl c2), c2]
  intro k k0 k1
  apply kd1_v
  by_cases e : k = 0
  · rw [e, Int.add_zero]; exact c2
  · exact rune_in 801 (tS B N p + 1) _ (by omega) (by rw [← e2]; omega)
theorem c_nameHere (hF : 1000 ≤ F) (h : CS u B N p) (hn : IsNm B N p) : f_X9_nameHere F 5 u = some (nmH B N p, u) := by
  have hb := h.bd
  have hlet := nm_let h.1.2.1.2 h.2.2.1 hn
  obtain ⟨h1, h2, h3, h4, h5⟩ := h
  obtain ⟨n1, n2⟩ := hn
  unfold f_X9_nameHere
  rw [h2.2.2.1, h2.2.1, h2.1, gd_t (by omega), if_pos n1, gd_t (by omega), if_pos n2, lti]
  generalize hl : tE B N p - tS B N p = l at *
  have key : ∀ (n m : Nat), (m : Int) ≤ l → l - m < n → f_X9_nameHere_b39 F 5 n (pN (fun k => B (tS B N p + k)) l m) (tS B N p + l - 1 - m) u = some (nmH B N p, u) := by
    intro n
    induction n with
    | zero => intro m m1 m2; omega
    | succ n ih =>
      intro m m1 m2
      show f_X9_nameHere_b39_b F 5 (f_X9_nameHere_b39 F 5 n) _ _ _ = _
      unfold f_X9_nameHere_b39_b
      rw [h2.1, gd_t (by omega)]
      by_cases c : l ≤ m
      · have e : m = l.toNat := by omega
        rw [if_pos (by omega), e, pN_nm _ (by omega)]
        unfold nmH
        rw [hl]
      · have hB := hlet (l - 1 - m) (by omega) (by omega)
        have hp := pN_bd (f := fun k => B (tS B N p + k)) (l := l) hlet m (by omega) (by omega)
        have h25 : (2 : Int) ^ (5 * m) ≤ 2 ^ 25 := by
          have hh : (2 : Nat) ^ (5 * m) ≤ 2 ^ 25 := Nat.pow_le_pow_right (by decide) (by omega)
          have e1 : ((2 : Int) ^ (5 * m)) = ((2 ^ (5 * m) : Nat) : Int) := by rw [Int.natCast_pow]; rfl
          rw [e1]
          exact Int.ofNat_le.mpr hh
        have hv : (2 : Int) ^ 25 = 33554432 := by decide
        have ei : tS B N p + l - 1 - m = tS B N p + (l - 1 - m) := by omega
        rw [if_neg (by omega), t50, c_getB h1 (by omega), if_pos (by omega), bs, lti, ei]
        have eo : orI (shl (pN (fun k => B (tS B N p + k)) l m) 5) (B (tS B N p + (l - 1 - m)) - 97 + 1) = pN (fun k => B (tS B N p + k)) l (m + 1) := by
          have := orI_shl (a := pN (fun k => B (tS B N p + k)) l m) (d := B (tS B N p + (l - 1 - m)) - 97 + 1) 5 (by decide) hp.1 (by show _ * 32 < _; omega) ⟨by omega, by show _ < (32 : Int); omega⟩
          rw [pN]
          show _ = pN (fun k => B (tS B N p + k)) l m * 32 + (B (tS B N p + (l - 1 - m)) - 96)
          have e3 : shl (pN (fun k => B (tS B N p + k)) l m) 5 = pN (fun k => B (tS B N p + k)) l m * 2 ^ 5 := rfl
          rw [e3, this]
          show _ * 32 + _ = _
          omega
        rw [eo, show tS B N p + (l - 1 - m) + -1 = tS B N p + l - 1 - ((m + 1 : Nat) : Int) by omega]
        exact ih (m + 1) (by omega) (by omega)
  have h9 := key F 0 (by omega) (by omega)
  rw [show tS B N p + l - 1 - ((0 : Nat) : Int) = tE B N p - 1 by omega] at h9
  exact h9
theorem c_nameNo (hF : 1000 ≤ F) (h : CS u B N p) (hn : ¬ IsNm B N p) : ∃ u', f_X9_nameHere F 5 u = some (-1, u') ∧ CF u' B N 1 (tS B N p) ∧ Fk u u' := by
  have hb := h.bd
  obtain ⟨u', e1, e2, e3⟩ := c_fail (F := F) (c := 1) h
  obtain ⟨h1, h2, h3, h4, h5⟩ := h
  unfold f_X9_nameHere
  rw [h2.2.2.1, h2.2.1, h2.1, gd_t (by omega), e1]
  by_cases c1 : tK B N p = 1
  · rw [if_pos c1, gd_t (by omega), if_neg (fun z => hn ⟨c1, z⟩), bk]
    exact ⟨u', rfl, e2, e3⟩
  · rw [if_neg c1, bk]
    exact ⟨u', rfl, e2, e3⟩
/-! numbers -/
def nbE (B : Int → Int) (N p lo hi : Int) : Int := if tK B N p = 2 then (if lo ≤ tV B N p ∧ tV B N p ≤ hi then 0 else 2) else 1
theorem c_numHere {lo hi : Int} (h : CS u B N p) (h1 : rg lo) (h2 : rg hi) : (nbE B N p lo hi = 0 → f_X9_isNumberHere F 5 lo hi u = some (true, u)) ∧ (¬ nbE B N p lo hi = 0 → ∃ u', f_X9_isNumberHere F 5 lo hi u = some (false, u') ∧ CF u' B N (nbE B N p lo hi) (tS B N p) ∧ Fk u u') := by
  have hb := h.bd
  have hv := tV_bd (B := B) hb.1.2 h.2.2.1
  obtain ⟨w1, e1, e2, e3⟩ := c_fail (F := F) (c := 1) h
  obtain ⟨w2, f1, f2, f3⟩ := c_fail (F := F) (c := 2) h
  obtain ⟨g1, g2, g3, g4, g5⟩ := h
  unfold f_X9_isNumberHere f_X9_isNumberHere_b30 nbE
  rw [g2.2.2.1, g2.2.2.2, e1, f1, gd_t (by omega)]
  by_cases c1 : tK B N p = 2
  · rw [if_pos c1, if_pos c1, gd_t (by omega), bk]
    by_cases c2 : lo ≤ tV B N p ∧ tV B N p ≤ hi
    · rw [if_pos c2, if_neg (by omega), gd_t h2, if_pos c2.2]
      exact ⟨fun _ => rfl, fun z => absurd rfl z⟩
    · rw [if_neg c2]
      refine ⟨fun z => absurd z (by decide), fun _ => ⟨w2, ?_, f2, f3⟩⟩
      by_cases c3 : tV B N p < lo
      · rw [if_pos c3]; rfl
      · rw [if_neg c3, gd_t h2, if_neg (by omega)]; rfl
  · rw [if_neg c1, if_neg c1, bk]
    exact ⟨fun z => absurd z (by decide), fun _ => ⟨w1, rfl, e2, e3⟩⟩
theorem c_takeNum {lo hi : Int} (hF : 1000 ≤ F) (h : CS u B N p) (h1 : rg lo) (h2 : rg hi) : (nbE B N p lo hi = 0 → ∃ u', f_X9_takeNumber F 5 lo hi u = some (tV B N p, u') ∧ CS u' B N (tE B N p) ∧ Fk u u') ∧ (¬ nbE B N p lo hi = 0 → ∃ u', f_X9_takeNumber F 5 lo hi u = some (-1, u') ∧ CF u' B N (nbE B N p lo hi) (tS B N p) ∧ Fk u u') := by
  obtain ⟨a1, a2⟩ := c_numHere (F := F) h h1 h2
  unfold f_X9_takeNumber
  refine ⟨fun z => ?_, fun z => ?_⟩
  · obtain ⟨u', e1, e2, e3⟩ := c_next hF h
    rw [a1 z, bk, if_pos rfl, lti, e1, bs, h.2.1.2.2.2]
    exact ⟨u', rfl, e2, e3⟩
  · obtain ⟨u', e1, e2, e3⟩ := a2 z
    rw [e1, bk]
    exact ⟨u', rfl, e2, e3⟩
def smE (B : Int → Int) (N p : Int) : Int := if tK B N p = 3 then 0 else 1
theorem c_semi (hF : 1000 ≤ F) (h : CS u B N p) : (smE B N p = 0 → ∃ u', f_X9_isSemicolonTaken F 5 u = some (true, u') ∧ CS u' B N (tE B N p) ∧ Fk u u') ∧ (¬ smE B N p = 0 → ∃ u', f_X9_isSemicolonTaken F 5 u = some (false, u') ∧ CF u' B N (smE B N p) (tS B N p) ∧ Fk u u') := by
  have hb := h.bd
  obtain ⟨w1, e1, e2, e3⟩ := c_fail (F := F) (c := 1) h
  obtain ⟨w2, f1, f2, f3⟩ := c_next (F := F) hF h
  unfold f_X9_isSemicolonTaken smE
  rw [h.2.1.2.2.1, gd_t (by omega), e1, f1]
  by_cases c1 : tK B N p = 3
  · rw [if_pos c1, if_pos c1]
    exact ⟨fun _ => ⟨w2, rfl, f2, f3⟩, fun z => absurd rfl z⟩
  · rw [if_neg c1, if_neg c1, bk]
    exact ⟨fun z => absurd z (by decide), fun _ => ⟨w1, rfl, e2, e3⟩⟩
end CTok
/-! ===== words, names, numbers: the reference ===== -/
def Fy (v v' : aI) : Prop := (∀ a, ¬ a = 210 → v' a = v a) ∧ ∀ k, ¬ k = 16 → ¬ k = 17 → ¬ k = 18 → ¬ k = 19 → ¬ k = 20 → ¬ k = 21 → v' 210 k = v 210 k
theorem Fy.refl (v : aI) : Fy v v := ⟨fun _ _ => rfl, fun _ _ _ _ _ _ _ => rfl⟩
theorem Fy.trans {u v w : aI} (h : Fy u v) (k : Fy v w) : Fy u w := ⟨fun a a1 => (k.1 a a1).trans (h.1 a a1), fun j a b c d e f => (k.2 j a b c d e f).trans (h.2 j a b c d e f)⟩
section MTok
variable {F : Nat} {v : aI} {B : Int → Int} {N p : Int}
theorem xB_same : xB 23 = xB 20 ∧ xB 24 = xB 21 ∧ xB 25 = xB 22 ∧ xB 26 = xB 18 ∧ xB 27 = xB 19 ∧ xB 28 = xB 13 ∧ xB 29 = xB 14 ∧ xB 30 = xB 15 ∧ xB 31 = xB 16 ∧ xB 32 = xB 17 := by decide +kernel
theorem Wd_same {s t : Nat} (h : xB s = xB t) : Wd B N p s ↔ Wd B N p t := by
  unfold Wd
  rw [h]
def swM (B : Int → Int) (N p : Int) : Int := if swd B N p = -1 then -1 else swd B N p - 4
theorem swd_v (B : Int → Int) (N p : Int) : swd B N p = 8 ∨ swd B N p = 9 ∨ swd B N p = 10 ∨ swd B N p = -1 := by
  unfold swd
  repeat' split
  all_goals simp
/-! where an error was met nothing is done -/
/-! the reference, while all is right -/
end MTok
/-! ===== roofs by their names ===== -/
def Lt (l : Int) (f : Int → Int) : Prop := (1 ≤ l ∧ l ≤ 6) ∧ ∀ k, 0 ≤ k → k < l → 97 ≤ f k ∧ f k ≤ 122
theorem nm_inj {l m : Int} {f g : Int → Int} (h : Lt l f) (k : Lt m g) : nm l f = nm m g ↔ l = m ∧ ∀ j, 0 ≤ j → j < l → f j = g j := by
  constructor
  · intro e
    have hd : ∀ j, 0 ≤ j → j < 6 → dg l f j = dg m g j := fun j j0 j1 => by
      rw [← (nm_at h.2 ⟨j0, j1⟩).2, ← (nm_at k.2 ⟨j0, j1⟩).2, e]
    have pf : ∀ j, 0 ≤ j → j < 6 → (j < l ↔ j < m) ∧ (j < l → f j = g j) := fun j j0 j1 => by
      have hj := hd j j0 j1
      unfold dg at hj
      by_cases c1 : j < l
      · have a := h.2 j j0 c1
        rw [if_pos c1] at hj
        by_cases c2 : j < m
        · rw [if_pos c2] at hj
          exact ⟨⟨fun _ => c2, fun _ => c1⟩, fun _ => by omega⟩
        · rw [if_neg c2] at hj; omega
      · rw [if_neg c1] at hj
        by_cases c2 : j < m
        · have a := k.2 j j0 c2
          rw [if_pos c2] at hj; omega
        · exact ⟨⟨fun z => absurd z c1, fun z => absurd z c2⟩, fun z => absurd z c1⟩
    have h0 := h.1
    have k0 := k.1
    have lm : l = m := by
      by_cases c : l < m
      · have := (pf l (by omega) (by omega)).1.mpr c; omega
      · by_cases c2 : m < l
        · have := (pf m (by omega) (by omega)).1.mp c2; omega
        · omega
    exact ⟨lm, fun j j0 j1 => (pf j j0 (by omega)).2 j1⟩
  · rintro ⟨e, hj⟩
    subst e
    unfold nm
    have t : ∀ j : Int, 0 ≤ j → (if j < l then f j - 96 else 0) = (if j < l then g j - 96 else 0) := fun j j0 => by
      split
      · rw [hj j j0 (by assumption)]
      · rfl
    rw [t 0 (by decide), t 1 (by decide), t 2 (by decide), t 3 (by decide), t 4 (by decide), t 5 (by decide)]
theorem Wx.lt {r : Row} {x : Int} (h : Wx r x) : Lt (r (25 + 13 * x)) (fun k => r (25 + 13 * x + 1 + k)) := ⟨h.1, h.2.1⟩
/-- the roof of a name; -1 -/
def nmd (r : Row) (q : Int) : Int := ff (fun x => decide (nmR r x = q)) (r 0).toNat
theorem nmd_bd (r : Row) (q : Int) (h : 0 ≤ r 0) : nmd r q = -1 ∨ (0 ≤ nmd r q ∧ nmd r q < r 0) := by
  rcases ff_spec (fun x => decide (nmR r x = q)) (r 0).toNat with ⟨e, -⟩ | ⟨e1, e2, -⟩
  · exact Or.inl e
  · right
    unfold nmd
    omega
theorem nmR_bd {r : Row} {x : Int} (h : Wx r x) : 0 ≤ nmR r x ∧ nmR r x < 1073741824 := by
  unfold nmR
  exact (nm_at h.2.1 (k := 0) (by omega)).1
section Named
variable {F : Nat} {B : Int → Int} {N p : Int} {r : Row}
theorem c_roofNamed {b : Nat} {u : aI} {q : Int} (hF : 100 ≤ F) (hP : Pb b) (hK : TOK u b) (h1 : u b 1 = r 0) (b0 : 0 ≤ r 0 ∧ r 0 ≤ 10) (hr : Wr r) (hX : ∀ x, 0 ≤ x → x < r 0 → u (b + 2) (8 * x + 5) = nmR r x) (hq : rg q) : f_X2_roofNamed F b q u = some (nmd r q) := by
  have key : ∀ (n i : Nat), (i : Int) ≤ r 0 → r 0 - i < n → (∀ j : Int, 0 ≤ j → j < i → decide (nmR r j = q) = false) → f_X2_roofNamed_b2 F b q u n i = some (nmd r q) := by
    intro n
    induction n with
    | zero => intro i i1 i2; omega
    | succ n ih =>
      intro i i1 i2 hi
      show f_X2_roofNamed_b2_b F b q u (f_X2_roofNamed_b2 F b q u n) _ = _
      unfold f_X2_roofNamed_b2_b
      rw [h1, gd_t (by omega)]
      by_cases c : r 0 ≤ i
      · have e : i = (r 0).toNat := by omega
        rw [if_pos c]
        unfold nmd
        rw [← e, ff_none hi]
      · have hb := nmR_bd (hr i (by omega) (by omega))
        rw [if_neg c, pf4 hP, getX hP hK (by omega) (by omega), bs, hX i (by omega) (by omega), gd_t (by omega)]
        by_cases c2 : nmR r i = q
        · rw [if_pos c2]
          congr 1
          exact (ff_at (by omega) (decide_eq_true c2) hi (by omega)).symm
        · rw [if_neg c2]
          refine ih (i + 1) (by omega) (by omega) (fun j j0 j1 => ?_)
          by_cases e : j = i
          · rw [e]; exact decide_eq_false c2
          · exact hi j j0 (by omega)
  exact key F 0 (by omega) (by omega) (fun j j0 j1 => by omega)
end Named
/-! ===== a roof's name here; a setup as it grows ===== -/
def rhE (B : Int → Int) (N p : Int) (r : Row) (un : Int) : Int := if IsNm B N p then (if nmd r (nmH B N p) = -1 ∨ nmd r (nmH B N p) = un then 3 else 0) else 1
def rhX (B : Int → Int) (N p : Int) (r : Row) : Int := nmd r (nmH B N p)
def NmP (u : aI) (b : Nat) (r : Row) : Prop := TOK u b ∧ u b 1 = r 0 ∧ ∀ x, 0 ≤ x → x < r 0 → u (b + 2) (8 * x + 5) = nmR r x
theorem IsNm.lt {B : Int → Int} {N p : Int} (hN : N ≤ 800) (hp : 0 ≤ p ∧ p ≤ N) (h : IsNm B N p) : Lt (tE B N p - tS B N p) (fun k => B (tS B N p + k)) := by
  have hb := tok_bd (B := B) hN hp
  have h1 := h.1
  exact ⟨⟨by omega, h.2⟩, nm_let hN hp h⟩
theorem nmH_bd {B : Int → Int} {N p : Int} (hN : N ≤ 800) (hp : 0 ≤ p ∧ p ≤ N) (h : IsNm B N p) : 0 ≤ nmH B N p ∧ nmH B N p < 1073741824 := (nm_at (h.lt hN hp).2 (k := 0) (by omega)).1
section RH
variable {F : Nat} {u v : aI} {B : Int → Int} {N p : Int} {r : Row}
theorem c_roofHere {b : Nat} {un : Int} (hF : 1000 ≤ F) (hP : Pb b) (h : CS u B N p) (hn : NmP u b r) (b0 : 0 ≤ r 0 ∧ r 0 ≤ 10) (hr : Wr r) (hun : rg un) :
    (rhE B N p r un = 0 → f_X9_roofHere F 5 b un u = some (rhX B N p r, u)) ∧ (¬ rhE B N p r un = 0 → ∃ u', f_X9_roofHere F 5 b un u = some (-1, u') ∧ CF u' B N (rhE B N p r un) (tS B N p) ∧ Fk u u') := by
  unfold f_X9_roofHere rhE rhX
  by_cases c1 : IsNm B N p
  · have hb := nmH_bd h.1.2.1.2 h.2.2.1 c1
    have hx := nmd_bd r (nmH B N p) b0.1
    obtain ⟨w1, e1, e2, e3⟩ := c_fail (F := F) (c := 3) h
    rw [if_pos c1, c_nameHere hF h c1, bj, gd_t (by omega), if_neg (show ¬ nmH B N p = -1 by omega), c_roofNamed (by omega) hP hn.1 hn.2.1 b0 hr hn.2.2 (by omega), bs, gd_t (by omega), gd_t hun, e1, bk]
    by_cases c2 : nmd r (nmH B N p) = -1
    · rw [if_pos (Or.inl c2), if_pos c2]
      exact ⟨fun z => absurd z (by decide), fun _ => ⟨w1, rfl, e2, e3⟩⟩
    · rw [if_neg c2]
      by_cases c3 : nmd r (nmH B N p) = un
      · rw [if_pos (Or.inr c3), if_pos c3]
        exact ⟨fun z => absurd z (by decide), fun _ => ⟨w1, rfl, e2, e3⟩⟩
      · rw [if_neg (fun z => z.elim c2 c3), if_neg c3]
        exact ⟨fun _ => rfl, fun z => absurd rfl z⟩
  · obtain ⟨u', e1, e2, e3⟩ := c_nameNo hF h c1
    rw [if_neg c1, e1, bj, gd_t (by decide), if_pos rfl]
    exact ⟨fun z => absurd z (by decide), fun _ => ⟨u', rfl, e2, e3⟩⟩
end RH
/-! the setup as it grows -/
def DW (r : Row) : Prop := (0 ≤ r 0 ∧ r 0 ≤ 10) ∧ (0 ≤ r 1 ∧ r 1 ≤ 20) ∧ (r 2 = 0 ∧ r 3 = 0) ∧ (0 ≤ r 4 ∧ r 4 ≤ 9) ∧ (1 ≤ r 5 ∧ r 5 ≤ 60) ∧ (0 ≤ r 6 ∧ r 6 ≤ 3) ∧ Wr r ∧ Ww r ∧ (∀ k, 10 ≤ k → k < 25 → r k = 0) ∧ sm (fun x => r (25 + 13 * x + 10)) (r 0).toNat = r 7 ∧ (∀ k, 25 + 13 * r 0 ≤ k → k < 155 → r k = 0)
def DR (u : aI) (b : Nat) (r : Row) : Prop := TOK u b ∧ (u b 0 = 0 ∧ u b 1 = r 0 ∧ u b 2 = r 1 ∧ u b 3 = 0) ∧ RepS u b r ∧ (∀ k, 0 ≤ k → k < 11 → u (b + 10) k = 0) ∧ RepX u b r ∧ RepW u b r
theorem DR.nmp {u : aI} {b : Nat} {r : Row} (h : DR u b r) : NmP u b r := ⟨h.1, h.2.1.2.1, fun x x0 x1 => (h.2.2.2.2.1.1 x x0 x1).2.2.2.2.2.1⟩
theorem DR.of {u w : aI} {b : Nat} {r : Row} (h : DR u b r) (he : ∀ a, b ≤ a → a < b + 18 → w a = u a) : DR w b r := by
  unfold DR RepS RepX RX RepW
  rw [he b (by omega) (by omega), he (b + 8) (by omega) (by omega), he (b + 10) (by omega) (by omega), he (b + 2) (by omega) (by omega), he (b + 4) (by omega) (by omega)]
  exact ⟨h.1.of he, h.2⟩
def roofA (r : Row) (l : Int) (f : Int → Int) (br ea fe pu : Int) : Row := fun k =>
  if 25 + 13 * r 0 + 1 ≤ k ∧ k < 25 + 13 * r 0 + 1 + l then f (k - (25 + 13 * r 0 + 1)) else if k = 25 + 13 * r 0 then l else if k = 25 + 13 * r 0 + 7 then br else if k = 25 + 13 * r 0 + 8 then ea else if k = 25 + 13 * r 0 + 9 then fe else if k = 25 + 13 * r 0 + 10 then pu else if k = 7 then r 7 + pu else if k = 0 then r 0 + 1 else r k
theorem roofA_at {r : Row} {l : Int} {f : Int → Int} {br ea fe pu : Int} (h0 : 0 ≤ r 0) (hl : 1 ≤ l ∧ l ≤ 6) :
    roofA r l f br ea fe pu 0 = r 0 + 1 ∧ roofA r l f br ea fe pu 7 = r 7 + pu ∧ roofA r l f br ea fe pu (25 + 13 * r 0) = l ∧ (∀ k, 0 ≤ k → k < l → roofA r l f br ea fe pu (25 + 13 * r 0 + 1 + k) = f k) ∧ roofA r l f br ea fe pu (25 + 13 * r 0 + 7) = br ∧ roofA r l f br ea fe pu (25 + 13 * r 0 + 8) = ea ∧ roofA r l f br ea fe pu (25 + 13 * r 0 + 9) = fe ∧ roofA r l f br ea fe pu (25 + 13 * r 0 + 10) = pu ∧ roofA r l f br ea fe pu (25 + 13 * r 0 + 11) = r (25 + 13 * r 0 + 11) ∧ roofA r l f br ea fe pu (25 + 13 * r 0 + 12) = r (25 + 13 * r 0 + 12) ∧
    ∀ k, (k < 25 + 13 * r 0 ∨ 25 + 13 * r 0 + 13 ≤ k) → ¬ k = 0 → ¬ k = 7 → roofA r l f br ea fe pu k = r k := by
  unfold roofA
  refine ⟨?_, ?_, ?_, fun k k0 k1 => ?_, ?_, ?_, ?_, ?_, ?_, ?_, fun k k0 k1 k2 => ?_⟩
  · simp (disch := omega) only [if_pos, if_neg, if_true]
  · simp (disch := omega) only [if_pos, if_neg, if_true]
  · simp (disch := omega) only [if_pos, if_neg, if_true]
  · rw [if_pos (by omega)]; congr 1; omega
  · simp (disch := omega) only [if_pos, if_neg, if_true]
  · simp (disch := omega) only [if_pos, if_neg, if_true]
  · simp (disch := omega) only [if_pos, if_neg, if_true]
  · simp (disch := omega) only [if_pos, if_neg, if_true]
  · simp (disch := omega) only [if_pos, if_neg, if_true]
  · simp (disch := omega) only [if_pos, if_neg, if_true]
  · simp (disch := omega) only [if_pos, if_neg, if_true]
theorem roofA_DW {r : Row} {l : Int} {f : Int → Int} {br ea fe pu : Int} (h : DW r) (h0 : r 0 < 10) (hf : Lt l f) (hbr : 1 ≤ br ∧ br ≤ 8) (hea : 0 ≤ ea ∧ ea ≤ 9) (hfe : 0 ≤ fe ∧ fe ≤ 9) (hpu : 0 ≤ pu ∧ pu ≤ 999) : DW (roofA r l f br ea fe pu) := by
  obtain ⟨b0, b1, b2, b4, b5, b6, hr, hw, hz, hs, hZ⟩ := h
  obtain ⟨a0, a7, aL, aF, q7, q8, q9, q10, q11, q12, o⟩ := roofA_at (r := r) (f := f) (br := br) (ea := ea) (fe := fe) (pu := pu) b0.1 hf.1
  have hl := hf.1
  generalize roofA r l f br ea fe pu = q at *
  have e1 := o 1 (by omega) (by omega) (by omega)
  have e2 := o 2 (by omega) (by omega) (by omega)
  have e3 := o 3 (by omega) (by omega) (by omega)
  have e4 := o 4 (by omega) (by omega) (by omega)
  have e5 := o 5 (by omega) (by omega) (by omega)
  have e6 := o 6 (by omega) (by omega) (by omega)
  refine ⟨by omega, by omega, by omega, by omega, by omega, by omega, fun x x0 x1 => ?_, ⟨fun i i0 i1 => ?_, fun i j x y i0 i1 j0 j1 ex ey => ?_⟩, fun k k0 k1 => ?_, ?_, fun k k0 k1 => ?_⟩
  · by_cases c : x = r 0
    · subst c
      have z11 := hZ (25 + 13 * r 0 + 11) (by omega) (by omega)
      unfold Wx
      rw [aL, q7, q8, q9, q10, q11, z11, e3, b2.2]
      refine ⟨hl, fun k k0 k1 => ?_, hbr, hea, hfe, by omega, by omega⟩
      rw [aF k k0 k1]
      exact hf.2 k k0 k1
    · exact Wx_congr (r := r) (by omega) (fun k k0 k1 => o k (by omega) (by omega) (by omega)) (hr x x0 (by omega))
  · have a := hw.1 i i0 (by omega)
    rw [o (160 + 3 * i) (by omega) (by omega) (by omega), o (160 + 3 * i + 1) (by omega) (by omega) (by omega), o (160 + 3 * i + 2) (by omega) (by omega) (by omega)]
    omega
  · unfold En2 at ex ey
    rw [o (160 + 3 * i) (by omega) (by omega) (by omega), o (160 + 3 * i + 1) (by omega) (by omega) (by omega)] at ex
    rw [o (160 + 3 * j) (by omega) (by omega) (by omega), o (160 + 3 * j + 1) (by omega) (by omega) (by omega)] at ey
    exact hw.2 i j x y i0 (by omega) j0 (by omega) ex ey
  · rw [o k (by omega) (by omega) (by omega)]; exact hz k k0 k1
  · have hN : (q 0).toNat = (r 0).toNat + 1 := by omega
    have hc : ((r 0).toNat : Int) = r 0 := by omega
    rw [hN, sm, hc, q10, a7, ← hs]
    congr 1
    exact sm_congr fun x x0 x1 => o _ (by omega) (by omega) (by omega)
  · rw [o k (by omega) (by omega) (by omega)]
    exact hZ k (by omega) k1
theorem is_st (w : aI) (a : Nat) (f : Int → Int) (k v : Int) : iset (stc w a f) a k v = stc w a (rs f k v) := by rw [is_stc, stc_stc, stc_eq]
/-! ===== a roof, a way, a setting more ===== -/
def wayA (r : Row) (a b far : Int) : Row := fun k => if k = 160 + 3 * r 1 then a else if k = 160 + 3 * r 1 + 1 then b else if k = 160 + 3 * r 1 + 2 then far else if k = 1 then r 1 + 1 else r k
theorem wayA_at {r : Row} {a b far : Int} (h : 0 ≤ r 1) : wayA r a b far 1 = r 1 + 1 ∧ wayA r a b far (160 + 3 * r 1) = a ∧ wayA r a b far (160 + 3 * r 1 + 1) = b ∧ wayA r a b far (160 + 3 * r 1 + 2) = far ∧ ∀ k, (k < 160 + 3 * r 1 ∨ 160 + 3 * r 1 + 3 ≤ k) → ¬ k = 1 → wayA r a b far k = r k := by
  unfold wayA
  refine ⟨?_, ?_, ?_, ?_, fun k k0 k1 => ?_⟩
  · simp (disch := omega) only [if_pos, if_neg, if_true]
  · simp (disch := omega) only [if_pos, if_neg, if_true]
  · simp (disch := omega) only [if_pos, if_neg, if_true]
  · simp (disch := omega) only [if_pos, if_neg, if_true]
  · simp (disch := omega) only [if_pos, if_neg, if_true]
theorem wayA_DW {r : Row} {a b far : Int} (h : DW r) (h1 : r 1 < 20) (ha : 0 ≤ a ∧ a < r 0) (hb : 0 ≤ b ∧ b < r 0) (hab : ¬ a = b) (hf : 1 ≤ far ∧ far ≤ 9) (hn : wayB r a b = -1) : DW (wayA r a b far) := by
  obtain ⟨b0, b1, b2, b4, b5, b6, hr, hw, hz, hs, hZ⟩ := h
  have nb : ∀ i, 0 ≤ i → i < r 1 → ¬ En2 r i a b := fun i i0 i1 e => by
    have := wayB_of hw b1.1 i0 i1 e
    omega
  obtain ⟨a1, qa, qb, qf, o⟩ := wayA_at (r := r) (a := a) (b := b) (far := far) b1.1
  generalize wayA r a b far = q at *
  have e0 := o 0 (by omega) (by omega)
  have e2 := o 2 (by omega) (by omega)
  have e3 := o 3 (by omega) (by omega)
  have e4 := o 4 (by omega) (by omega)
  have e5 := o 5 (by omega) (by omega)
  have e6 := o 6 (by omega) (by omega)
  have en : ∀ i x y, 0 ≤ i → i < r 1 → (En2 q i x y ↔ En2 r i x y) := fun i x y i0 i1 => by
    unfold En2
    rw [o (160 + 3 * i) (by omega) (by omega), o (160 + 3 * i + 1) (by omega) (by omega)]
  have en2 : ∀ x y, En2 q (r 1) x y → (x = a ∧ y = b) ∨ (x = b ∧ y = a) := fun x y e => by
    unfold En2 at e
    rw [qa, qb] at e
    omega
  refine ⟨by omega, by omega, by omega, by omega, by omega, by omega, fun x x0 x1 => Wx_congr (r := r) (by omega) (fun k k0 k1 => o k (by omega) (by omega)) (hr x x0 (by omega)), ⟨fun i i0 i1 => ?_, fun i j x y i0 i1 j0 j1 ex ey => ?_⟩, fun k k0 k1 => by rw [o k (by omega) (by omega)]; exact hz k k0 k1, ?_, fun k k0 k1 => by rw [o k (by omega) (by omega)]; exact hZ k (by omega) k1⟩
  · by_cases c : i = r 1
    · subst c
      rw [qa, qb, qf, e0]
      exact ⟨ha, hb, hab, hf⟩
    · have a := hw.1 i i0 (by omega)
      rw [o (160 + 3 * i) (by omega) (by omega), o (160 + 3 * i + 1) (by omega) (by omega), o (160 + 3 * i + 2) (by omega) (by omega), e0]
      exact a
  · by_cases ci : i = r 1
    · by_cases cj : j = r 1
      · omega
      · subst ci
        have e := (en j x y j0 (by omega)).mp ey
        rcases en2 x y ex with ⟨q1, q2⟩ | ⟨q1, q2⟩
        · rw [q1, q2] at e; exact absurd e (nb j j0 (by omega))
        · rw [q1, q2] at e; exact absurd e.sym (nb j j0 (by omega))
    · by_cases cj : j = r 1
      · subst cj
        have e := (en i x y i0 (by omega)).mp ex
        rcases en2 x y ey with ⟨q1, q2⟩ | ⟨q1, q2⟩
        · rw [q1, q2] at e; exact absurd e (nb i i0 (by omega))
        · rw [q1, q2] at e; exact absurd e.sym (nb i i0 (by omega))
      · exact hw.2 i j x y i0 (by omega) j0 (by omega) ((en i x y i0 (by omega)).mp ex) ((en j x y j0 (by omega)).mp ey)
  · rw [e0, o 7 (by omega) (by omega), ← hs]
    exact sm_congr fun x x0 x1 => o _ (by omega) (by omega)
section CAdd
variable {F : Nat} {b : Nat} {u : aI} {r : Row}
theorem putX' (hP : Pb b) {f : Int → Int} (hK : TOK (stc u (b + 2) f) b) {i j v : Int} (hi : 0 ≤ i ∧ i < 10) (hj : 0 ≤ j ∧ j < 8) : f_X7_put F (b + 1) i j v (stc u (b + 2) f) = some (stc u (b + 2) (rs f (8 * i + j) v)) := by
  rw [putX hP hK hi hj, stc_stc, stc_eq]
theorem putW' (hP : Pb b) {f : Int → Int} (hK : TOK (stc u (b + 4) f) b) {i j v : Int} (hi : 0 ≤ i ∧ i < 20) (hj : 0 ≤ j ∧ j < 3) : f_X7_put F (b + 3) i j v (stc u (b + 4) f) = some (stc u (b + 4) (rs f (3 * i + j) v)) := by
  rw [putW hP hK hi hj, stc_stc, stc_eq]
theorem c_addRoof {l : Int} {f : Int → Int} {br ea fe pu : Int} (hP : Pb b) (h : DR u b r) (hW : DW r) (h0 : r 0 < 10) (hf : Lt l f) (hpu : 0 ≤ pu ∧ pu ≤ 999) : ∃ u', f_X2_addRoof F b (nm l f) br ea fe pu u = some u' ∧ DR u' b (roofA r l f br ea fe pu) ∧ Fc b u u' := by
  obtain ⟨hK, ⟨d0, d1, d2, d3⟩, dS, dA, dX, dW⟩ := h
  obtain ⟨b0, b1, b2, b4, b5, b6, hr, hw, hz, hs, hZ⟩ := hW
  have K1 : ∀ f, TOK (stc u (b + 2) f) b := fun f => hK.stc (by omega)
  unfold f_X2_addRoof
  rw [d1, lti, pf4 hP, putX hP hK (by omega) (by omega), bs, putX' hP (K1 _) (by omega) (by omega), bs, putX' hP (K1 _) (by omega) (by omega), bs, putX' hP (K1 _) (by omega) (by omega), bs, putX' hP (K1 _) (by omega) (by omega), bs, putX' hP (K1 _) (by omega) (by omega), bs, putX' hP (K1 _) (by omega) (by omega), bs, putX' hP (K1 _) (by omega) (by omega), bs, ltm, stc_ne (show ¬ b = b + 2 by omega), d1]
  obtain ⟨g, hg⟩ : ∃ g, g = rs (rs (rs (rs (rs (rs (rs (rs (u (b + 2)) (8 * r 0 + 5) (nm l f)) (8 * r 0 + 0) br) (8 * r 0 + 1) ea) (8 * r 0 + 2) fe) (8 * r 0 + 3) pu) (8 * r 0 + 6) pu) (8 * r 0 + 4) 0) (8 * r 0 + 7) 0 := ⟨_, rfl⟩
  rw [← hg]
  have go : ∀ k, (k < 8 * r 0 ∨ 8 * r 0 + 8 ≤ k) → g k = u (b + 2) k := fun k hk => by
    rw [hg, rs_ne (by omega), rs_ne (by omega), rs_ne (by omega), rs_ne (by omega), rs_ne (by omega), rs_ne (by omega), rs_ne (by omega), rs_ne (by omega)]
  have g0 : g (8 * r 0) = br := by
    rw [hg, rs_ne (by omega), rs_ne (by omega), rs_ne (by omega), rs_ne (by omega), rs_ne (by omega), rs_ne (by omega), Int.add_zero, rs_self]
  have g1 : g (8 * r 0 + 1) = ea := by
    rw [hg, rs_ne (by omega), rs_ne (by omega), rs_ne (by omega), rs_ne (by omega), rs_ne (by omega), rs_self]
  have g2 : g (8 * r 0 + 2) = fe := by
    rw [hg, rs_ne (by omega), rs_ne (by omega), rs_ne (by omega), rs_ne (by omega), rs_self]
  have g3 : g (8 * r 0 + 3) = pu := by
    rw [hg, rs_ne (by omega), rs_ne (by omega), rs_ne (by omega), rs_self]
  have g4 : g (8 * r 0 + 4) = 0 := by
    rw [hg, rs_ne (by omega), rs_self]
  have g5 : g (8 * r 0 + 5) = nm l f := by
    rw [hg, rs_ne (by omega), rs_ne (by omega), rs_ne (by omega), rs_ne (by omega), rs_ne (by omega), rs_ne (by omega), rs_ne (by omega), rs_self]
  have g6 : g (8 * r 0 + 6) = pu := by
    rw [hg, rs_ne (by omega), rs_ne (by omega), rs_self]
  have g7 : g (8 * r 0 + 7) = 0 := by
    rw [hg, rs_self]
  clear hg
  refine ⟨_, rfl, ?_, fun a ha => by rw [is_ne (by omega), stc_ne (by omega)]⟩
  obtain ⟨w, hw2⟩ : ∃ w, w = iset (stc u (b + 2) g) b 1 (r 0 + 1) := ⟨_, rfl⟩
  rw [← hw2]
  have wb : w b = rs (u b) 1 (r 0 + 1) := by rw [hw2, is_eq, stc_ne (by omega)]
  have w2 : w (b + 2) = g := by rw [hw2, is_ne (by omega), stc_eq]
  have wo : ∀ a, ¬ a = b → ¬ a = b + 2 → w a = u a := fun a a0 a1 => by rw [hw2, is_ne a0, stc_ne a1]
  clear hw2
  obtain ⟨a0, a7, aL, aF, q7, q8, q9, q10, q11, q12, o⟩ := roofA_at (r := r) (f := f) (br := br) (ea := ea) (fe := fe) (pu := pu) b0.1 hf.1
  have hl := hf.1
  generalize roofA r l f br ea fe pu = q at *
  refine ⟨?_, ?_, ?_, ?_, ⟨fun x x0 x1 => ?_, ?_⟩, fun i i0 i1 => ?_⟩
  · unfold TOK at hK ⊢
    rw [wo (b + 1) (by omega) (by omega), wo (b + 3) (by omega) (by omega), wo (b + 5) (by omega) (by omega), wo (b + 7) (by omega) (by omega), wo (b + 9) (by omega) (by omega), wo (b + 12) (by omega) (by omega), wo (b + 14) (by omega) (by omega), wo (b + 16) (by omega) (by omega)]
    exact hK
  · rw [wb, rs_ne (by omega), rs_self, rs_ne (by omega), rs_ne (by omega), a0, o 1 (by omega) (by omega) (by omega)]
    exact ⟨d0, rfl, d2, d3⟩
  · unfold RepS
    rw [wo (b + 8) (by omega) (by omega), o 4 (by omega) (by omega) (by omega), o 5 (by omega) (by omega) (by omega), o 6 (by omega) (by omega) (by omega)]
    exact dS
  · intro k k0 k1
    rw [wo (b + 10) (by omega) (by omega)]; exact dA k k0 k1
  · by_cases c : x = r 0
    · subst c
      have z11 := hZ (25 + 13 * r 0 + 11) (by omega) (by omega)
      have z12 := hZ (25 + 13 * r 0 + 12) (by omega) (by omega)
      unfold RX nmR
      rw [w2, g0, g1, g2, g3, g4, g5, g6, g7, q7, q8, q9, q10, q11, q12, z11, z12, aL]
      refine ⟨rfl, rfl, rfl, rfl, rfl, ?_, rfl, hpu⟩
      have t : ∀ j : Int, 0 ≤ j → (if j < l then f j - 96 else 0) = (if j < l then q (25 + 13 * r 0 + 1 + j) - 96 else 0) := fun j j0 => by
        split
        · rw [aF j j0 (by assumption)]
        · rfl
      unfold nm
      rw [t 0 (by decide), t 1 (by decide), t 2 (by decide), t 3 (by decide), t 4 (by decide), t 5 (by decide)]
    · exact RX_congr (fun k _ _ => by rw [w2, go k (by omega)]) (fun k c d => o k (by omega) (by omega) (by omega)) (dX.1 x x0 (by omega))
  · have hN : (q 0).toNat = (r 0).toNat + 1 := by omega
    have hc : ((r 0).toNat : Int) = r 0 := by omega
    rw [hN, sm, hc, w2, g6, a7, ← dX.2]
    congr 1
    exact sm_congr fun x x0 x1 => go _ (by omega)
  · rw [o 1 (by omega) (by omega) (by omega)] at i1
    rw [wo (b + 4) (by omega) (by omega), o (160 + 3 * i) (by omega) (by omega) (by omega), o (160 + 3 * i + 1) (by omega) (by omega) (by omega), o (160 + 3 * i + 2) (by omega) (by omega) (by omega)]
    exact dW i i0 i1
theorem c_addWay {x y far : Int} (hP : Pb b) (h : DR u b r) (hW : DW r) (h1 : r 1 < 20) : ∃ u', f_X2_addWay F b x y far u = some u' ∧ DR u' b (wayA r x y far) ∧ Fc b u u' := by
  obtain ⟨hK, ⟨d0, d1, d2, d3⟩, dS, dA, dX, dW⟩ := h
  obtain ⟨b0, b1, b2, b4, b5, b6, hr, hw, hz, hs, hZ⟩ := hW
  have K1 : ∀ f, TOK (stc u (b + 4) f) b := fun f => hK.stc (by omega)
  have nb : ∀ f, stc u (b + 4) f b = u b := fun f => stc_ne (by omega)
  unfold f_X2_addWay
  rw [d2, pf5 hP, putW hP hK (by omega) (by omega), bs, nb, d2, putW' hP (K1 _) (by omega) (by omega), bs, nb, d2, putW' hP (K1 _) (by omega) (by omega), bs, ltm, nb, d2]
  obtain ⟨g, hg⟩ : ∃ g, g = rs (rs (rs (u (b + 4)) (3 * r 1 + 0) x) (3 * r 1 + 1) y) (3 * r 1 + 2) far := ⟨_, rfl⟩
  rw [← hg]
  have go : ∀ k, (k < 3 * r 1 ∨ 3 * r 1 + 3 ≤ k) → g k = u (b + 4) k := fun k hk => by
    rw [hg, rs_ne (by omega), rs_ne (by omega), rs_ne (by omega)]
  have g0 : g (3 * r 1) = x := by rw [hg, rs_ne (by omega), rs_ne (by omega), Int.add_zero, rs_self]
  have g1 : g (3 * r 1 + 1) = y := by rw [hg, rs_ne (by omega), rs_self]
  have g2 : g (3 * r 1 + 2) = far := by rw [hg, rs_self]
  clear hg
  refine ⟨_, rfl, ?_, fun a ha => by rw [is_ne (by omega), stc_ne (by omega)]⟩
  obtain ⟨w, hw2⟩ : ∃ w, w = iset (stc u (b + 4) g) b 2 (r 1 + 1) := ⟨_, rfl⟩
  rw [← hw2]
  have wb : w b = rs (u b) 2 (r 1 + 1) := by rw [hw2, is_eq, stc_ne (by omega)]
  have w4 : w (b + 4) = g := by rw [hw2, is_ne (by omega), stc_eq]
  have wo : ∀ a, ¬ a = b → ¬ a = b + 4 → w a = u a := fun a a0 a1 => by rw [hw2, is_ne a0, stc_ne a1]
  clear hw2
  obtain ⟨a1, qa, qb, qf, o⟩ := wayA_at (r := r) (a := x) (b := y) (far := far) b1.1
  generalize wayA r x y far = q at *
  refine ⟨?_, ?_, ?_, ?_, ⟨fun x x0 x1 => ?_, ?_⟩, fun i i0 i1 => ?_⟩
  · unfold TOK at hK ⊢
    rw [wo (b + 1) (by omega) (by omega), wo (b + 3) (by omega) (by omega), wo (b + 5) (by omega) (by omega), wo (b + 7) (by omega) (by omega), wo (b + 9) (by omega) (by omega), wo (b + 12) (by omega) (by omega), wo (b + 14) (by omega) (by omega), wo (b + 16) (by omega) (by omega)]
    exact hK
  · rw [wb, rs_ne (by omega), rs_ne (by omega), rs_self, rs_ne (by omega), a1, o 0 (by omega) (by omega)]
    exact ⟨d0, d1, rfl, d3⟩
  · unfold RepS
    rw [wo (b + 8) (by omega) (by omega), o 4 (by omega) (by omega), o 5 (by omega) (by omega), o 6 (by omega) (by omega)]
    exact dS
  · intro k k0 k1
    rw [wo (b + 10) (by omega) (by omega)]; exact dA k k0 k1
  · rw [o 0 (by omega) (by omega)] at x1
    exact RX_congr (fun k _ _ => by rw [wo (b + 2) (by omega) (by omega)]) (fun k c d => o k (by omega) (by omega)) (dX.1 x x0 x1)
  · rw [wo (b + 2) (by omega) (by omega), o 0 (by omega) (by omega), o 7 (by omega) (by omega)]; exact dX.2
  · by_cases c : i = r 1
    · subst c
      rw [w4, g0, g1, g2, qa, qb, qf]
      exact ⟨rfl, rfl, rfl⟩
    · rw [w4, go _ (by omega), go _ (by omega), go _ (by omega), o (160 + 3 * i) (by omega) (by omega), o (160 + 3 * i + 1) (by omega) (by omega), o (160 + 3 * i + 2) (by omega) (by omega)]
      exact dW i i0 (by omega)
theorem setT_DW {v k : Int} (h : DW r) (hv : 8 ≤ v ∧ v ≤ 10) (h1 : (v = 8 → k ≤ 9) ∧ (v = 9 → 1 ≤ k ∧ k ≤ 60) ∧ (v = 10 → k ≤ 3) ∧ 0 ≤ k) : DW (setT r v k) := by
  obtain ⟨b0, b1, b2, b4, b5, b6, hr, hw, hz, hs, hZ⟩ := h
  have o : ∀ j, ¬ j = v - 4 → setT r v k j = r j := fun j h => by unfold setT; rw [rs_ne h]
  have p : setT r v k (v - 4) = k := by unfold setT; rw [rs_self]
  generalize setT r v k = q at o p
  have e0 := o 0 (by omega)
  have e1 := o 1 (by omega)
  have e2 := o 2 (by omega)
  have e3 := o 3 (by omega)
  have e7 := o 7 (by omega)
  have hS : (0 ≤ q 4 ∧ q 4 ≤ 9) ∧ (1 ≤ q 5 ∧ q 5 ≤ 60) ∧ 0 ≤ q 6 ∧ q 6 ≤ 3 := by
    have hv' : v = 8 ∨ v = 9 ∨ v = 10 := by omega
    rcases hv' with e | e | e <;> subst e
    · have o5 := o 5 (by omega)
      have o6 := o 6 (by omega)
      rw [show (8 : Int) - 4 = 4 from rfl] at p
      omega
    · have o4 := o 4 (by omega)
      have o6 := o 6 (by omega)
      rw [show (9 : Int) - 4 = 5 from rfl] at p
      omega
    · have o4 := o 4 (by omega)
      have o5 := o 5 (by omega)
      rw [show (10 : Int) - 4 = 6 from rfl] at p
      omega
  have hSW : SameW r q := ⟨e0, e1, fun k k0 k1 => o k (by omega)⟩
  refine ⟨by omega, by omega, by omega, hS.1, hS.2.1, hS.2.2, fun x x0 x1 => Wx_congr (r := r) (by omega) (fun k k0 k1 => o k (by omega)) (hr x x0 (by omega)), hSW.ww b1.2 hw, fun k k0 k1 => by rw [o k (by omega)]; exact hz k k0 k1, ?_, fun k k0 k1 => by rw [o k (by omega)]; exact hZ k (by omega) k1⟩
  rw [e0, e7, ← hs]
  exact sm_congr fun x x0 x1 => o _ (by omega)
theorem c_settleD {v k : Int} (hP : Pb b) (h : DR u b r) (h0 : r 0 ≤ 10) (h1 : r 1 ≤ 20) (hv : 8 ≤ v ∧ v ≤ 10) : ∃ u', f_X2_settle F b v k u = some u' ∧ DR u' b (setT r v k) ∧ Fc b u u' := by
  obtain ⟨hK, ⟨d0, d1, d2, d3⟩, dS, dA, dX, dW⟩ := h
  unfold f_X2_settle
  rw [pf7 hP, putS hP hK (by omega), bs]
  refine ⟨_, rfl, ?_, (Fc.refl b u).stc _ (by omega)⟩
  have o : ∀ j, ¬ j = v - 4 → setT r v k j = r j := fun j h => by unfold setT; rw [rs_ne h]
  have p : setT r v k (v - 4) = k := by unfold setT; rw [rs_self]
  generalize setT r v k = q at o p
  obtain ⟨w, e⟩ : ∃ w, w = stc u (b + 8) (rs (u (b + 8)) (v - 8) k) := ⟨_, rfl⟩
  rw [← e]
  have e8 : w (b + 8) = rs (u (b + 8)) (v - 8) k := by rw [e, stc_eq]
  have eo : ∀ a, ¬ a = b + 8 → w a = u a := fun a a0 => by rw [e, stc_ne a0]
  have Kw : TOK w b := by rw [e]; exact hK.stc (by omega)
  clear e
  obtain ⟨s0, s1, s2⟩ := dS
  refine ⟨Kw, ?_, ?_, ?_, ⟨fun x x0 x1 => ?_, ?_⟩, fun i i0 i1 => ?_⟩
  · rw [eo b (by omega), o 0 (by omega), o 1 (by omega)]; exact ⟨d0, d1, d2, d3⟩
  · have hv' : v = 8 ∨ v = 9 ∨ v = 10 := by omega
    unfold RepS
    rw [e8]
    rcases hv' with e | e | e <;> subst e
    · rw [show (8 : Int) - 8 = 0 from rfl, rs_self, rs_ne (by omega), rs_ne (by omega), s1, s2, o 5 (by omega), o 6 (by omega)]
      exact ⟨p.symm, rfl, rfl⟩
    · rw [show (9 : Int) - 8 = 1 from rfl, rs_self, rs_ne (by omega), rs_ne (by omega), s0, s2, o 4 (by omega), o 6 (by omega)]
      exact ⟨rfl, p.symm, rfl⟩
    · rw [show (10 : Int) - 8 = 2 from rfl, rs_self, rs_ne (by omega), rs_ne (by omega), s0, s1, o 4 (by omega), o 5 (by omega)]
      exact ⟨rfl, rfl, p.symm⟩
  · intro j j0 j1
    rw [eo _ (by omega)]; exact dA j j0 j1
  · rw [o 0 (by omega)] at x1
    exact RX_congr (fun j _ _ => by rw [eo _ (by omega)]) (fun j c d => o j (by omega)) (dX.1 x x0 x1)
  · rw [eo _ (by omega), o 0 (by omega), o 7 (by omega)]; exact dX.2
  · rw [o 1 (by omega)] at i1
    rw [eo _ (by omega), o _ (by omega), o _ (by omega), o _ (by omega)]
    exact dW i i0 i1
end CAdd
/-! ===== a statement of a setup ===== -/
def FdzU (u u' : aI) : Prop := ∀ a, ¬ a = 5 → (a < 48 ∨ 66 ≤ a) → u' a = u a
def FvzM (v v' : aI) : Prop := (∀ a, ¬ a = 210 → ¬ a = 211 → ¬ a = 215 → v' a = v a) ∧ ∀ k, ¬ k = 8 → ¬ k = 16 → ¬ k = 17 → ¬ k = 18 → ¬ k = 19 → ¬ k = 20 → ¬ k = 21 → v' 210 k = v 210 k
theorem FdzU.trans {u v w : aI} (h : FdzU u v) (k : FdzU v w) : FdzU u w := fun a a1 a2 => (k a a1 a2).trans (h a a1 a2)
theorem Fk.fd {u u' : aI} (h : Fk u u') : FdzU u u' := fun a ha _ => h a ha
theorem Fc.fd {u u' : aI} (h : Fc 48 u u') : FdzU u u' := fun a _ ha => h a (by omega)
theorem FvzM.trans {u v w : aI} (h : FvzM u v) (k : FvzM v w) : FvzM u w := ⟨fun a a1 a2 a3 => (k.1 a a1 a2 a3).trans (h.1 a a1 a2 a3), fun j a b c d e f g => (k.2 j a b c d e f g).trans (h.2 j a b c d e f g)⟩
theorem FvzM.r211 (v : aI) (f : Int → Int) : FvzM v (stc v 211 f) := ⟨fun a _ a2 _ => stc_ne a2, fun k _ _ _ _ _ _ _ => by rw [stc_ne (by decide)]⟩
theorem CS.cut {u u' : aI} {B : Int → Int} {N p : Int} (h : CS u B N p) (f : Fc 48 u u') : CS u' B N p := by
  unfold CS TX CT
  rw [f 1 (by omega), f 2 (by omega), f 5 (by omega)]
  exact h
theorem p60 : shR 6 0 = 5 := by decide +kernel
theorem p61 : shR 6 1 = 48 := by decide +kernel
theorem DR.fk {u u' : aI} {r : Row} (h : DR u 48 r) (f : Fk u u') : DR u' 48 r := h.of fun a a0 a1 => f a (by omega)
section St
variable {F : Nat} {u v : aI} {B : Int → Int} {N p : Int} {r : Row}
theorem nb_v {lo hi : Int} (h : nbE B N p lo hi = 0) : lo ≤ tV B N p ∧ tV B N p ≤ hi := by
  unfold nbE at h
  split at h
  · split at h
    · assumption
    · omega
  · omega
theorem nb_k {lo hi : Int} (h : nbE B N p lo hi = 0) : tK B N p = 2 := by
  unfold nbE at h
  split at h
  · assumption
  · omega
end St
/-! ===== a way, a setting; any statement of a setup ===== -/
section St2
variable {F : Nat} {u v : aI} {B : Int → Int} {N p : Int} {r : Row}
theorem rhX_ok {un : Int} (b0 : 0 ≤ r 0) (h : rhE B N p r un = 0) : (0 ≤ rhX B N p r ∧ rhX B N p r < r 0) ∧ ¬ rhX B N p r = un := by
  unfold rhE at h
  unfold rhX
  have := nmd_bd r (nmH B N p) b0
  split at h
  · split at h
    · omega
    · rename_i c
      have c1 : ¬ nmd r (nmH B N p) = -1 := fun z => c (Or.inl z)
      have c2 : ¬ nmd r (nmH B N p) = un := fun z => c (Or.inr z)
      exact ⟨by omega, c2⟩
  · omega
theorem DW.rgw (h : DW r) : ∀ j, 0 ≤ j → j < r 1 → rg (r (160 + 3 * j)) ∧ rg (r (160 + 3 * j + 1)) := fun j j0 j1 => by
  have := h.2.2.2.2.2.2.2.1.1 j j0 j1
  have := h.1
  omega
end St2
/-! ===== a setup is loaded ===== -/
theorem DW.wf {r : Row} (h : DW r) (h2 : 2 ≤ r 0) : WF r := by
  obtain ⟨b0, b1, b2, b4, b5, b6, hr, hw, hz, hs, hZ⟩ := h
  refine ⟨by unfold Wb; omega, hr, hw, fun i i0 i1 => by omega, ?_⟩
  have e : (r 2).toNat = 0 := by omega
  unfold Wa
  rw [e, hz 11 (by omega) (by omega), hz 15 (by omega) (by omega), hz 18 (by omega) (by omega), hz 16 (by omega) (by omega), hz 13 (by omega) (by omega), hz 20 (by omega) (by omega), hs]
  exact ⟨by omega, rfl, rfl, by omega, rfl, by omega, by omega⟩
section Ld
variable {F : Nat} {B : Int → Int} {N : Int}
def clrT (r : Row) : Row := fun k => if k = 4 then 3 else if k = 5 then 50 else if k = 6 then 1 else if 0 ≤ k ∧ k < 1030 then 0 else r k
theorem clrT_DW (r : Row) : DW (clrT r) := by
  have z : ∀ k, 0 ≤ k → k < 1030 → ¬ k = 4 → ¬ k = 5 → ¬ k = 6 → clrT r k = 0 := fun k k0 k1 k4 k5 k6 => by unfold clrT; rw [if_neg k4, if_neg k5, if_neg k6, if_pos ⟨k0, k1⟩]
  have z0 := z 0 (by decide) (by decide) (by decide) (by decide) (by decide)
  have z1 := z 1 (by decide) (by decide) (by decide) (by decide) (by decide)
  have z2 := z 2 (by decide) (by decide) (by decide) (by decide) (by decide)
  have z3 := z 3 (by decide) (by decide) (by decide) (by decide) (by decide)
  have z7 := z 7 (by decide) (by decide) (by decide) (by decide) (by decide)
  have z4 : clrT r 4 = 3 := rfl
  have z5 : clrT r 5 = 50 := rfl
  have z6 : clrT r 6 = 1 := rfl
  refine ⟨by omega, by omega, by omega, by omega, by omega, by omega, fun x x0 x1 => by omega, ⟨fun i i0 i1 => by omega, fun i j x y i0 i1 => by omega⟩, fun k k0 k1 => z k (by omega) (by omega) (by omega) (by omega) (by omega), ?_, fun k k0 k1 => z k (by omega) (by omega) (by omega) (by omega) (by omega)⟩
  rw [z0, z7]; rfl
theorem putS' {b : Nat} {u : aI} (hP : Pb b) {f : Int → Int} (hK : TOK (stc u (b + 8) f) b) {j v : Int} (hj : 0 ≤ j ∧ j < 3) : f_X7_put F (b + 7) 0 j v (stc u (b + 8) f) = some (stc u (b + 8) (rs f j v)) := by
  rw [putS hP hK hj, stc_stc, stc_eq]
theorem c_clearD {w : aI} {r : Row} (hF : 2000 ≤ F) (hT : TOK w 48) : ∃ u, f_X2_clear F 48 w = some u ∧ DR u 48 (clrT r) ∧ Fc 48 w u := by
  unfold f_X2_clear f_X2_settle
  rw [ltm, ltm, ltm, ltm, pf7 P48, pf8 P48]
  obtain ⟨x, hx⟩ : ∃ x, x = iset (iset (iset (iset w 48 0 0) 48 1 0) 48 2 0) 48 3 0 := ⟨_, rfl⟩
  rw [← hx]
  have xo : ∀ a, ¬ a = 48 → x a = w a := fun a ha => by rw [hx, is_ne ha, is_ne ha, is_ne ha, is_ne ha]
  have x0 : x 48 0 = 0 ∧ x 48 1 = 0 ∧ x 48 2 = 0 ∧ x 48 3 = 0 := by
    rw [hx]
    refine ⟨?_, ?_, ?_, ?_⟩
    · rw [is_eq, rs_ne (by omega), is_eq, rs_ne (by omega), is_eq, rs_ne (by omega), is_eq, rs_self]
    · rw [is_eq, rs_ne (by omega), is_eq, rs_ne (by omega), is_eq, rs_self]
    · rw [is_eq, rs_ne (by omega), is_eq, rs_self]
    · rw [is_eq, rs_self]
  clear hx
  have Kx : TOK x 48 := by
    unfold TOK at hT ⊢
    rw [xo (48 + 1) (by omega), xo (48 + 3) (by omega), xo (48 + 5) (by omega), xo (48 + 7) (by omega), xo (48 + 9) (by omega), xo (48 + 12) (by omega), xo (48 + 14) (by omega), xo (48 + 16) (by omega)]
    exact hT
  have K1 : ∀ f, TOK (stc x (48 + 8) f) 48 := fun f => Kx.stc (by omega)
  rw [show (8 : Int) - 8 = 0 from rfl, show (9 : Int) - 8 = 1 from rfl, show (10 : Int) - 8 = 2 from rfl, putS P48 Kx (by omega), bs, bs, putS' P48 (K1 _) (by omega), bs, bs, putS' P48 (K1 _) (by omega), bs, bs, c_clearTo (by omega) (ptA P48) (plA P48) (by omega), bs]
  refine ⟨_, rfl, ⟨?_, ?_, ?_, fun k k0 k1 => ?_, ⟨fun y y0 y1 => ?_, ?_⟩, fun i i0 i1 => ?_⟩, fun a ha => by rw [stc_ne (by omega), stc_ne (by omega), xo a (by omega)]⟩
  · exact (K1 _).stc (by omega)
  · rw [stc_ne (by omega), stc_ne (by omega)]
    exact x0
  · unfold RepS
    rw [stc_ne (by omega), stc_eq]
    refine ⟨?_, ?_, ?_⟩
    · show rs (rs (rs (x (48 + 8)) 0 3) 1 50) 2 1 0 = 3
      rw [rs_ne (by decide), rs_ne (by decide), rs_self]
    · show rs (rs (rs (x (48 + 8)) 0 3) 1 50) 2 1 1 = 50
      rw [rs_ne (by decide), rs_self]
    · show rs (rs (rs (x (48 + 8)) 0 3) 1 50) 2 1 2 = 1
      rw [rs_self]
  · rw [stc_eq, if_pos (by omega)]
  · have : clrT r 0 = 0 := rfl
    omega
  · rfl
  · have : clrT r 1 = 0 := rfl
    omega
theorem c_open {u : aI} (hF : 1000 ≤ F) (hT : TX u B N) : ∃ u', f_X9_open F 5 u = some u' ∧ CS u' B N 0 ∧ Fk u u' := by
  have hN := hT.2.1
  unfold f_X9_open
  rw [ltm, ltm, ltm]
  obtain ⟨x, hx⟩ : ∃ x, x = iset (iset (iset u 5 5 0) 5 6 (-1)) 5 2 0 := ⟨_, rfl⟩
  rw [← hx]
  have xo : ∀ a, ¬ a = 5 → x a = u a := fun a ha => by rw [hx, is_ne ha, is_ne ha, is_ne ha]
  have x2 : x 5 2 = 0 := by rw [hx, is_eq, rs_self]
  have x5 : x 5 5 = 0 := by rw [hx, is_eq, rs_ne (by omega), is_eq, rs_ne (by omega), is_eq, rs_self]
  have x6 : x 5 6 = -1 := by rw [hx, is_eq, rs_ne (by omega), is_eq, rs_self]
  clear hx
  have Tx : TX x B N := by
    unfold TX
    rw [xo 1 (by decide), xo 2 (by decide)]
    exact hT
  obtain ⟨g, e1, g1, g2, g3, g4, g5, g6⟩ := c_step (F := F) hF Tx (p := 0) (by omega) x2
  rw [e1, bs]
  refine ⟨_, rfl, ⟨Tx.at5 g, ?_, by omega, by rw [stc_eq, g5, x5], by rw [stc_eq, g6, x6]⟩, fun a ha => by rw [stc_ne ha, xo a ha]⟩
  unfold CT
  rw [stc_eq]
  exact ⟨g1, g2, g3, g4⟩
end Ld
