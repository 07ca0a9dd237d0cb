/-! ===== digits; send ===== -/
def dD : Nat → Int → Int
  | 0, p => p % 10
  | j + 1, p => dD j (p / 10)
def dN : Nat → Int → Nat
  | 0, _ => 0
  | n + 1, p => if p ≤ 0 then 0 else dN n (p / 10) + 1
def dO : Nat → Int → Bool
  | 0, _ => true
  | n + 1, p => if p ≤ 0 then true else if p % 10 ≤ 7 then dO n (p / 10) else false
def tn : Nat → Int
  | 0 => 1
  | n + 1 => 10 * tn n
theorem dN_le : ∀ (n : Nat) (p : Int), dN n p ≤ n := by
  intro n; induction n with
  | zero => intro p; exact Nat.le_refl _
  | succ n ih => intro p; rw [dN]; have := ih (p / 10); split <;> omega
theorem dN_tn : ∀ (n : Nat) (p : Int), 0 ≤ p → p < tn n → p < tn (dN n p) := by
  intro n; induction n with
  | zero => intro p _ h; exact h
  | succ n ih =>
    intro p h0 h
    rw [dN]
    rw [tn] at h
    split
    · show p < 1; omega
    · have := ih (p / 10) (by omega) (by omega)
      rw [tn]; omega
theorem dO_0 : ∀ n : Nat, dO n 0 = true := by
  intro n; cases n with
  | zero => rfl
  | succ n => rw [dO, if_pos (by decide)]
theorem dO_s (n : Nat) {p : Int} (h : 0 ≤ p) : dO (n + 1) p = (decide (p % 10 ≤ 7) && dO n (p / 10)) := by
  rw [dO]
  by_cases c : p ≤ 0
  · have e : p = 0 := by omega
    subst e
    rw [if_pos (by decide), show (0 : Int) / 10 = 0 from rfl, dO_0]; rfl
  · rw [if_neg c]
    by_cases c2 : p % 10 ≤ 7
    · rw [if_pos c2, decide_eq_true c2, Bool.true_and]
    · rw [if_neg c2, decide_eq_false c2, Bool.false_and]
theorem dO_eq : ∀ (n m : Nat) (p : Int), 0 ≤ p → p < tn n → p < tn m → dO n p = dO m p := by
  intro n; induction n with
  | zero =>
    intro m p h0 h _
    have e : p = 0 := by rw [tn] at h; omega
    subst e; rw [dO_0, dO_0]
  | succ n ih =>
    intro m p h0 h h2
    cases m with
    | zero =>
      have e : p = 0 := by rw [tn] at h2; omega
      subst e; rw [dO_0, dO_0]
    | succ m =>
      rw [tn] at h h2
      rw [dO_s n h0, dO_s m h0, ih m (p / 10) (by omega) (by omega) (by omega)]
theorem dO_D : ∀ (n : Nat) (p : Int), 0 ≤ p → dO n p = true → ∀ j : Nat, j < n → 0 ≤ dD j p ∧ dD j p ≤ 7 := by
  intro n; induction n with
  | zero => intro p _ _ j h; omega
  | succ n ih =>
    intro p h0 h j hj
    rw [dO_s n h0, Bool.and_eq_true] at h
    have h1 := of_decide_eq_true h.1
    cases j with
    | zero => rw [dD]; omega
    | succ j => rw [dD]; exact ih (p / 10) (by omega) h.2 j (by omega)
section Dig
variable {F : Nat} {p0 : Int} {w : aI}
theorem c_areDig : ∀ (n m : Nat) (p : Int), 0 ≤ p → p ≤ 99999999 → p < tn n → n < m → f_X10_areDigitsNotes_b2 F p0 w m p = some (dO n p) := by
  intro n; induction n with
  | zero =>
    intro m p h0 h9 h hm
    obtain ⟨m, rfl⟩ : ∃ j, m = j + 1 := ⟨m - 1, by omega⟩
    rw [tn] at h
    show f_X10_areDigitsNotes_b2_b F p0 w (f_X10_areDigitsNotes_b2 F p0 w m) _ = _
    unfold f_X10_areDigitsNotes_b2_b
    rw [gd_t (by omega), if_pos (by omega)]; rfl
  | succ n ih =>
    intro m p h0 h9 h hm
    obtain ⟨m, rfl⟩ : ∃ j, m = j + 1 := ⟨m - 1, by omega⟩
    rw [tn] at h
    show f_X10_areDigitsNotes_b2_b F p0 w (f_X10_areDigitsNotes_b2 F p0 w m) _ = _
    unfold f_X10_areDigitsNotes_b2_b
    rw [gd_t (by omega), dO, tm 10 h0, td 10 h0]
    by_cases c : p ≤ 0
    · rw [if_pos c, if_pos c]
    · rw [if_neg c, if_neg c, gd_t (by omega)]
      by_cases c2 : p % 10 ≤ 7
      · rw [if_pos c2, if_pos c2, lti]; exact ih m (p / 10) (by omega) (by omega) (by omega) (by omega)
      · rw [if_neg c2, if_neg c2]
theorem c_digN : ∀ (n m : Nat) (v p : Int), 0 ≤ p → p ≤ 99999999 → p < tn n → n < m → f_X10_digitsOf_b7 F p0 w m v p = some (v + dN n p) := by
  intro n; induction n with
  | zero =>
    intro m v p h0 h9 h hm
    obtain ⟨m, rfl⟩ : ∃ j, m = j + 1 := ⟨m - 1, by omega⟩
    rw [tn] at h
    show f_X10_digitsOf_b7_b F p0 w (f_X10_digitsOf_b7 F p0 w m) _ _ = _
    unfold f_X10_digitsOf_b7_b
    rw [gd_t (by omega), if_pos (by omega)]
    show _ = some (v + 0)
    rw [Int.add_zero]
  | succ n ih =>
    intro m v p h0 h9 h hm
    obtain ⟨m, rfl⟩ : ∃ j, m = j + 1 := ⟨m - 1, by omega⟩
    rw [tn] at h
    show f_X10_digitsOf_b7_b F p0 w (f_X10_digitsOf_b7 F p0 w m) _ _ = _
    unfold f_X10_digitsOf_b7_b
    rw [gd_t (by omega), dN, td 10 h0]
    by_cases c : p ≤ 0
    · rw [if_pos c, if_pos c]
      show _ = some (v + 0)
      rw [Int.add_zero]
    · rw [if_neg c, if_neg c, lti, ih m (v + 1) (p / 10) (by omega) (by omega) (by omega) (by omega)]
      congr 1; omega
theorem c_notesD {N : Int → Int} (hN : N7 N) : ∀ (n m k : Nat) (p : Int), 0 ≤ p → p ≤ 99999999 → p < tn n → n < m → n + k ≤ 8 → (∀ j : Nat, j < n → N ((k + j : Nat) : Int) = dD j p) → f_X10_notesOfDigits_b4 F p0 w m (tka N k) p = some (tka N (k + dN n p)) := by
  intro n; induction n with
  | zero =>
    intro m k p h0 h9 h hm hk hj
    obtain ⟨m, rfl⟩ : ∃ j, m = j + 1 := ⟨m - 1, by omega⟩
    rw [tn] at h
    show f_X10_notesOfDigits_b4_b F p0 w (f_X10_notesOfDigits_b4 F p0 w m) _ _ = _
    unfold f_X10_notesOfDigits_b4_b
    rw [gd_t (by omega), if_pos (by omega)]; rfl
  | succ n ih =>
    intro m k p h0 h9 h hm hk hj
    obtain ⟨m, rfl⟩ : ∃ j, m = j + 1 := ⟨m - 1, by omega⟩
    rw [tn] at h
    show f_X10_notesOfDigits_b4_b F p0 w (f_X10_notesOfDigits_b4 F p0 w m) _ _ = _
    unfold f_X10_notesOfDigits_b4_b
    rw [gd_t (by omega), dN, td 10 h0, tm 10 h0]
    by_cases c : p ≤ 0
    · rw [if_pos c, if_pos c]; rfl
    · have hb := tka_bd hN k (by omega)
      have hp : (8 : Int) ^ k ≤ 8 ^ 7 := by
        have h1 : (8 : Nat) ^ k ≤ 8 ^ 7 := Nat.pow_le_pow_right (by decide) (by omega)
        have e1 : ((8 : Int) ^ k) = ((8 ^ k : Nat) : Int) := by rw [Int.natCast_pow]; rfl
        rw [e1]
        have e2 : ((8 : Int) ^ 7) = ((8 ^ 7 : Nat) : Int) := by decide
        rw [e2]
        omega
      have hp7 : (8 : Int) ^ 7 = 2097152 := by decide
      have hn := hN k (by omega) (by omega)
      have e : orI (shl (tka N k) 3) (p % 10) = tka N (k + 1) := by
        have h3 := hj 0 (by omega)
        rw [dD] at h3
        have := orI_shl (a := tka N k) (d := N k) 3 (by decide) hb.1 (by show _ * 8 < _; omega) ⟨hn.1, by show _ < (8 : Int); omega⟩
        rw [← h3]
        exact this
      rw [if_neg c, if_neg c, lti, lti, e, ih m (k + 1) (p / 10) (by omega) (by omega) (by omega) (by omega) (by omega) (fun j hj2 => by
        have := hj (j + 1) (by omega)
        rw [dD] at this
        rw [← this]
        congr 2; omega)]
      congr 2; omega
end Dig
/-- what a number's digits are as notes, and how many -/
def dM (p : Int) : Int := 1 + dN 7 (p / 10)
def dF (p : Int) (j : Int) : Int := dD (dM p - 1 - j).toNat p
theorem dM_bd (p : Int) : 1 ≤ dM p ∧ dM p ≤ 8 := by
  have := dN_le 7 (p / 10)
  unfold dM; omega
theorem dF_bd {p : Int} (h0 : 0 ≤ p) (h : dO 8 p = true) : ∀ j, 0 ≤ j → j < dM p → 0 ≤ dF p j ∧ dF p j ≤ 7 := by
  intro j j0 j1
  have := dM_bd p
  exact dO_D 8 p h0 h _ (by omega)
theorem c_digitsOf {F : Nat} {p : Int} {w : aI} (hF : 100 ≤ F) (h0 : 0 ≤ p) (h9 : p ≤ 77777777) : f_X10_digitsOf F p w = some (dM p) := by
  unfold f_X10_digitsOf
  rw [gd_t (by omega), lti, td 10 h0, c_digN 7 F 1 (p / 10) (by omega) (by omega) (by simp only [tn]; omega) (by omega)]
  rfl
theorem c_notesOf {F : Nat} {p : Int} {w : aI} (hF : 100 ≤ F) (h0 : 0 ≤ p) (h9 : p ≤ 77777777) (h : dO 8 p = true) : f_X10_notesOfDigits F p w = some (pk (fun j => if j < dM p then dF p j else 0)) := by
  have hN : N7 (fun j => dD j.toNat p) := fun j j0 j1 => dO_D 8 p h0 h _ (by omega)
  unfold f_X10_notesOfDigits
  have h1 := c_notesD (F := F) (p0 := p) (w := w) hN 8 F 0 p h0 (by omega) (by simp only [tn]; omega) (by omega) (by omega) (fun j hj => by
    show dD (((0 + j : Nat) : Int)).toNat p = _
    congr 1; omega)
  have e0 : tka (fun j => dD j.toNat p) 0 = 0 := rfl
  rw [e0] at h1
  rw [h1]
  have hb := dM_bd p
  have e : tka (fun j => dD j.toNat p) (0 + dN 8 p) = tka (fun j => dD j.toNat p) (dM p).toNat := by
    rw [dN]
    by_cases c : p ≤ 0
    · have e : p = 0 := by omega
      subst e
      rw [if_pos (by decide)]
      rfl
    · rw [if_neg c]
      congr 1
      unfold dM; omega
  rw [e, tka_pk hb]
  rfl
theorem m_sing44 {F : Nat} {p0 : Int} : ∀ (n m : Nat) (p v3 v4 : Int) (w : aI), v4 = (n : Int) - 1 → (v3 = 0 ∨ v3 = 1) → 0 ≤ p → p ≤ 99999999 → p < tn n → n < m → n ≤ 8 → f_X11_sings_b44 F 210 p0 m p v3 v4 w = some (decide (v3 = 1) && dO n p, stc w 217 (fun k => if 0 ≤ k ∧ k < n then dD (n - 1 - k).toNat p else w 217 k)) := by
  intro n; induction n with
  | zero =>
    intro m p v3 v4 w hv h3 h0 h9 h hm h8
    obtain ⟨m, rfl⟩ : ∃ j, m = j + 1 := ⟨m - 1, by omega⟩
    show f_X11_sings_b44_b F 210 p0 (f_X11_sings_b44 F 210 p0 m) _ _ _ _ = _
    unfold f_X11_sings_b44_b
    rw [gd_t (by omega), if_pos (by omega), gd_t h3, dO, Bool.and_true]
    have e : (fun k : Int => if 0 ≤ k ∧ k < (0 : Nat) then dD ((0 : Nat) - 1 - k).toNat p else w 217 k) = w 217 := by
      funext k; rw [if_neg (by omega)]
    rw [e, stc_self]
  | succ n ih =>
    intro m p v3 v4 w hv h3 h0 h9 h hm h8
    obtain ⟨m, rfl⟩ : ∃ j, m = j + 1 := ⟨m - 1, by omega⟩
    rw [tn] at h
    have hv4 : v4 = n := by omega
    subst hv4
    show f_X11_sings_b44_b F 210 p0 (f_X11_sings_b44 F 210 p0 m) _ _ _ _ = _
    unfold f_X11_sings_b44_b
    rw [gd_t (by omega), if_neg (by omega), gd_t (by omega), m10, n10, gd_t (by omega), ltm, is_stc, tm 10 h0, gd_t (by omega), stc_eq, rs_self]
    have g0 : f_X11_sings_b80 F 210 p0 (f_X11_sings_b44 F 210 p0 m) p n (stc w 217 (rs (w 217) n (p % 10))) = f_X11_sings_b44 F 210 p0 m (p / 10) 0 ((n : Int) + -1) (stc w 217 (rs (w 217) n (p % 10))) := by
      unfold f_X11_sings_b80 f_X11_sings_b81
      rw [gd_t (by omega), lti, td 10 h0]
    have g1 : f_X11_sings_b81 F 210 p0 (f_X11_sings_b44 F 210 p0 m) p n 1 (stc w 217 (rs (w 217) n (p % 10))) = f_X11_sings_b44 F 210 p0 m (p / 10) 1 ((n : Int) + -1) (stc w 217 (rs (w 217) n (p % 10))) := by
      unfold f_X11_sings_b81
      rw [gd_t (by omega), lti, td 10 h0]
    have hi := fun u (hu : u = 0 ∨ u = 1) => ih m (p / 10) u ((n : Int) + -1) (stc w 217 (rs (w 217) n (p % 10))) (by omega) hu (by omega) (by omega) (by omega) (by omega) (by omega)
    have ef : (stc (stc w 217 (rs (w 217) n (p % 10))) 217 (fun k => if 0 ≤ k ∧ k < n then dD (n - 1 - k).toNat (p / 10) else stc w 217 (rs (w 217) n (p % 10)) 217 k)) = stc w 217 (fun k => if 0 ≤ k ∧ k < (n + 1 : Nat) then dD ((n + 1 : Nat) - 1 - k).toNat p else w 217 k) := by
      rw [stc_stc]
      congr 1
      funext k
      by_cases c : 0 ≤ k ∧ k < n
      · rw [if_pos c, if_pos (by omega), show (((n + 1 : Nat) : Int) - 1 - k).toNat = ((n : Int) - 1 - k).toNat + 1 by omega, dD]
      · rw [if_neg c, stc_eq]
        by_cases c2 : k = n
        · rw [c2, rs_self, if_pos (by omega), show (((n + 1 : Nat) : Int) - 1 - n).toNat = 0 by omega, dD]
        · rw [rs_ne c2, if_neg (by omega)]
    rw [dO_s n h0]
    rcases h3 with rfl | rfl
    · rw [if_pos rfl, g0, hi 0 (Or.inl rfl), ef]; rfl
    · rw [if_neg (by decide), gd_t (by omega), gd_t (by omega)]
      by_cases c : p % 10 ≤ 7
      · rw [if_neg (by omega), g1, hi 1 (Or.inr rfl), ef, decide_eq_true c]; rfl
      · rw [if_pos (by omega), g0, hi 0 (Or.inl rfl), ef, decide_eq_false c]; rfl
theorem m_sing10 {F : Nat} {p0 : Int} : ∀ (n m : Nat) (p N : Int) (w : aI), 0 ≤ p → p ≤ 99999999 → p < tn n → n < m → w 210 11 = N → f_X11_sings_b10 F 210 p0 m p w = f_X11_sings_b44 F 210 p0 F p0 1 (N + dN n p - 1) (iset w 210 11 (N + dN n p)) := by
  intro n; induction n with
  | zero =>
    intro m p N w h0 h9 h hm hN
    obtain ⟨m, rfl⟩ : ∃ j, m = j + 1 := ⟨m - 1, by omega⟩
    rw [tn] at h
    show f_X11_sings_b10_b F 210 p0 (f_X11_sings_b10 F 210 p0 m) _ _ = _
    unfold f_X11_sings_b10_b
    rw [gd_t (by omega), if_pos (by omega), lti, hN]
    have e : iset w 210 11 (N + (dN 0 p : Nat)) = w := by
      rw [is_stc]
      have : rs (w 210) 11 (N + (dN 0 p : Nat)) = w 210 := by
        funext k
        by_cases c : k = 11
        · rw [c, rs_self, hN]; exact Int.add_zero _
        · rw [rs_ne c]
      rw [this, stc_self]
    rw [e]
    congr 1
    rw [show dN 0 p = 0 from rfl]
    omega
  | succ n ih =>
    intro m p N w h0 h9 h hm hN
    obtain ⟨m, rfl⟩ : ∃ j, m = j + 1 := ⟨m - 1, by omega⟩
    rw [tn] at h
    show f_X11_sings_b10_b F 210 p0 (f_X11_sings_b10 F 210 p0 m) _ _ = _
    unfold f_X11_sings_b10_b
    rw [gd_t (by omega), dN]
    by_cases c : p ≤ 0
    · have e : iset w 210 11 (N + (0 : Nat)) = w := by
        rw [is_stc]
        have : rs (w 210) 11 (N + (0 : Nat)) = w 210 := by
          funext k
          by_cases c : k = 11
          · rw [c, rs_self, hN]; exact Int.add_zero _
          · rw [rs_ne c]
        rw [this, stc_self]
      rw [if_pos c, if_pos c, lti, hN, e]
      congr 1
      omega
    · rw [if_neg c, if_neg c, ltm, lti, hN, td 10 h0, ih m (p / 10) (N + 1) _ (by omega) (by omega) (by omega) (by omega) (by rw [is_eq, rs_self])]
      have e : iset (iset w 210 11 (N + 1)) 210 11 (N + 1 + (dN n (p / 10) : Nat)) = iset w 210 11 (N + ((dN n (p / 10) + 1 : Nat) : Int)) := by
        rw [is_stc, is_stc, is_stc, stc_eq, stc_stc]
        congr 1
        funext k
        by_cases c : k = 11
        · rw [c, rs_self, rs_self]; omega
        · rw [rs_ne c, rs_ne c, rs_ne c]
      rw [e]
      congr 1
      omega
theorem m_sings {F : Nat} {p : Int} {w : aI} (hF : 100 ≤ F) (h0 : 0 ≤ p) (h9 : p ≤ 77777777) : f_X11_sings F 210 p w = some (dO 8 p, stc (iset w 210 11 (dM p)) 217 (fun k => if 0 ≤ k ∧ k < dM p then dF p k else w 217 k)) := by
  have hb := dM_bd p
  have e1 := m_sing10 (F := F) (p0 := p) 7 F (p / 10) 1 (iset w 210 11 1) (by omega) (by omega) (by simp only [tn]; omega) (by omega) (by rw [is_eq, rs_self])
  have ht := dN_tn 7 (p / 10) (by omega) (by simp only [tn]; omega)
  have h7 := dN_le 7 (p / 10)
  have e2 := m_sing44 (F := F) (p0 := p) (dN 7 (p / 10) + 1) F p 1 (1 + (dN 7 (p / 10) : Nat) - 1) (iset (iset w 210 11 1) 210 11 (1 + (dN 7 (p / 10) : Nat))) (by omega) (Or.inr rfl) h0 (by omega) (by rw [tn]; omega) (by omega) (by omega)
  unfold f_X11_sings
  rw [ltm, gd_t (by omega), lti, td 10 h0, e1, e2, dO_eq _ 8 p h0 (by rw [tn]; omega) (by simp only [tn]; omega)]
  have e3 : iset (iset w 210 11 1) 210 11 (1 + (dN 7 (p / 10) : Nat)) = iset w 210 11 (dM p) := by
    rw [is_stc, is_stc, is_stc, stc_eq, stc_stc]
    congr 1
    funext k
    by_cases c : k = 11
    · rw [c, rs_self, rs_self]; rfl
    · rw [rs_ne c, rs_ne c, rs_ne c]
  rw [e3, decide_eq_true rfl, Bool.true_and]
  congr 3
  funext k
  have e4 : ((dN 7 (p / 10) + 1 : Nat) : Int) = dM p := by unfold dM; omega
  rw [e4, is_ne (by decide)]
  rfl
/-- as Inv.did, where the reference has written in its side rows first -/
theorem Inv.did2 {F : Nat} {w : aI} (hF : 20000 ≤ F) (hI : Inv w) : ∃ w1, f_X1_keep F 10 12 w = some w1 ∧ Rep w1 12 (w 211) ∧ (∀ a, 210 ≤ a → w1 a = w a) ∧
    ∀ w2 y, Fc 12 w1 w2 → Fw w2 y → y 211 = w2 211 → ∃ wm, f_X11_remembers F 210 (iset y 210 6 0) = some wm ∧ wm 211 = w 211 ∧ wm 210 6 = 0 ∧ wm 217 = y 217 ∧ wm 210 11 = y 210 11 ∧ (∀ a, 12 ≤ a → a < 30 → wm a = w2 a) ∧ ∀ w3, Fm wm w3 → PR w3 12 (w3 211) → Inv w3 ∧ w3 210 6 = 0 := by
  obtain ⟨hN, hW, ht⟩ := hI.2.2.2.2.1
  obtain ⟨p1, p2, p3, p4⟩ := hI.2.2.2.2.2.2
  obtain ⟨w1, f, K, e1, e2, e3, e4, e5, e6⟩ := c_keep (F := F) hI.1 hN hW (by omega) p3
  have hfK : (0 ≤ f ∧ f < 8) ∧ 1 ≤ K ∧ K ≤ 8 := by omega
  have hbd := pb_bd (m := (f + (K - 1)) % 8) (by omega)
  refine ⟨w1, e1, hN.of fun a a0 a1 => e6 a (by omega) (by omega), fun a a0 => e6 a (by omega) (by omega), fun w2 y hc hy hy2 => ?_⟩
  have h2 : ∀ a, 30 ≤ a → (a < pb ((f + (K - 1)) % 8) ∨ pb ((f + (K - 1)) % 8) + 18 ≤ a) → w2 a = w a := fun a a0 a1 => by rw [hc a (by omega), e6 a (by omega) a1]
  have h210 := h2 210 (by omega) (by omega)
  have h211 := h2 211 (by omega) (by omega)
  have h214 := h2 214 (by omega) (by omega)
  obtain ⟨x, hx⟩ : ∃ x, x = iset y 210 6 0 := ⟨_, rfl⟩
  rw [← hx]
  have x4 : x 210 4 = w 210 4 := by rw [hx, is_eq, rs_ne (by omega), hy.2 4 (by omega) (by omega) (by omega), h210]
  have x214 : x 214 = w 214 := by rw [hx, is_ne (by decide), hy.1 214 (by omega) (by omega) (by omega) (by omega) (by omega) (by omega) (by omega), h214]
  have x211 : x 211 = w 211 := by rw [hx, is_ne (by decide), hy2, h211]
  obtain ⟨K', s, P, r1, r2, r3, r4⟩ := m_remembers (F := F) (w := x) (by omega) (by rw [x4]; exact p2)
  rw [x4] at r2
  rw [x214] at r3
  rw [x211] at r4
  have eK : K' = K := by omega
  subst eK
  refine ⟨_, r1, ?_, ?_, ?_, ?_, fun a a0 a1 => ?_, fun w3 hm hN3 => ⟨?_, ?_⟩⟩
  · rw [is_ne (by decide), stc_ne (by decide), x211]
  · rw [is_eq, rs_ne (by omega), stc_ne (by decide), hx, is_eq, rs_self]
  · rw [is_ne (by decide), stc_ne (by decide), hx, is_ne (by decide)]
  · rw [is_eq, rs_ne (by omega), stc_ne (by decide), hx, is_eq, rs_ne (by omega)]
  · rw [is_ne (by omega), stc_ne (by omega), hx, is_ne (by omega), hy.1 a (by omega) (by omega) (by omega) (by omega) (by omega) (by omega) (by omega)]
  · have hu : Inv (iset (stc (iset w1 210 6 0) 214 P) 210 4 K') := by
      refine hI.keeps (P := P) (s := s) e2 e3 e4 e5 e6 (fun a a0 a1 => ?_) (fun k k0 k1 => ?_) ?_ ?_ (by omega) r3 r4
      · rw [is_ne a0, stc_ne a1, is_ne a0]
      · rw [is_eq, rs_ne k0, stc_ne (by decide), is_eq, rs_ne k1, e6 210 (by omega) (by omega)]
      · rw [is_eq, rs_self]
      · rw [is_ne (by decide), stc_eq]
    have hf2 : Fw (iset (stc (iset w2 210 6 0) 214 P) 210 4 K') (iset (stc x 214 P) 210 4 K') := by
      refine ⟨fun a a1 a2 a3 a4 a5 a6 a7 => ?_, fun k k1 k2 k3 => ?_⟩
      · rw [is_ne a1, is_ne a1]
        by_cases c2 : a = 214
        · subst c2; rw [stc_eq, stc_eq]
        · rw [stc_ne c2, stc_ne c2, hx, is_ne a1, is_ne a1, hy.1 a a1 a2 a3 a4 a5 a6 a7]
      · rw [is_eq, is_eq]
        by_cases c : k = 4
        · rw [c, rs_self, rs_self]
        · rw [rs_ne c, rs_ne c, stc_ne (by decide), stc_ne (by decide), hx, is_eq, is_eq, rs_ne k1, rs_ne k1, hy.2 k k1 k2 k3]
    refine hu.now (s := iset (stc (iset w2 210 6 0) 214 P) 210 4 K') (fun a a0 => ?_) (hf2.trans hm.fw) hN3
    by_cases c : a = 210
    · subst c
      rw [is_eq, is_eq, stc_ne (by decide), stc_ne (by decide), is_eq, is_eq, h210, e6 210 (by omega) (by omega)]
    · rw [is_ne c, is_ne c]
      by_cases c2 : a = 214
      · subst c2; rw [stc_eq, stc_eq]
      · rw [stc_ne c2, stc_ne c2, is_ne c, is_ne c, hc a a0]
  · rw [hm.2 6 (by omega) (by omega), is_eq, rs_ne (by omega), stc_ne (by decide), hx, is_eq, rs_self]
/-- what the reference does before it says whether it may -/
theorem m_sendPre {F : Nat} {w : aI} {x y p u : Int} (hF : 20000 ≤ F) (hx : rg x) (hy : rg y) (hp : rg p) : ∃ z, Fw w z ∧ z 211 = w 211 ∧ f_X11_send F 210 x y p u w = f_X11_send_b30 F 210 x y p u (bI (decide (¬ x = y ∧ (0 ≤ p ∧ p ≤ 77777777) ∧ dO 8 p = true))) z ∧ ((¬ x = y ∧ (0 ≤ p ∧ p ≤ 77777777) ∧ dO 8 p = true) → z 210 11 = dM p ∧ ∀ k, 0 ≤ k → k < dM p → z 217 k = dF p k) := by
  unfold f_X11_send f_X11_send_b29
  rw [gd_t ⟨hx, hy⟩]
  by_cases c1 : x = y
  · rw [if_pos c1, decide_eq_false (fun h => h.1 c1)]
    exact ⟨w, Fw.refl w, rfl, rfl, fun h => (h.1 c1).elim⟩
  · rw [if_neg c1, gd_t hp, m_in (by omega) (by decide) (by decide), bs]
    by_cases c2 : 0 ≤ p ∧ p ≤ 77777777
    · rw [if_pos (decide_eq_true c2), m_sings (by omega) c2.1 c2.2, bk]
      refine ⟨stc (iset w 210 11 (dM p)) 217 (fun k => if 0 ≤ k ∧ k < dM p then dF p k else w 217 k), (((Fm.refl w).fld (k := 11) (v := dM p) (Or.inr rfl)).stc (a := 217) _ (by omega)).fw, by rw [stc_ne (by decide), is_ne (by decide)], ?_, fun _ => ⟨by rw [stc_ne (by decide), is_eq, rs_self], fun k k0 k1 => by rw [stc_eq, if_pos ⟨k0, k1⟩]⟩⟩
      by_cases c3 : dO 8 p = true
      · rw [if_pos c3, decide_eq_true ⟨c1, c2, c3⟩]; rfl
      · rw [if_neg c3, decide_eq_false (fun h => c3 h.2.2)]; rfl
    · rw [if_neg (by rw [decide_eq_true_iff]; exact c2), decide_eq_false (fun h => c2 h.2.1)]
      exact ⟨w, Fw.refl w, rfl, rfl, fun h => (c2 h.2.1).elim⟩
theorem newT_12 {r : Row} {s g n rp wa : Int} {f : Int → Int} (h2 : 0 ≤ r 2) : rs (newT r s g n f rp wa) 12 (r 12 + rp) = newT r s g n f rp wa := by
  funext k
  by_cases c : k = 12
  · rw [c, rs_self]
    unfold newT
    rw [if_neg (by omega), if_neg (by omega), if_neg (by omega), if_pos rfl]
  · rw [rs_ne c]
theorem top_send {F : Nat} (hF : 20000 ≤ F) {x y p u : Int} (hx : rg x) (hy : rg y) (hp : rg p) (hu : u = 0 ∨ u = 1) : Top [eIO, eIA, eIS] (f_X10_send F 0 x y p u) (f_X11_send F 210 x y p u) := by
  intro w hI
  obtain ⟨hN, hW, h3⟩ := hI.2.2.2.2.1
  obtain ⟨b0, b1, b2, b3, b4, b5, b6⟩ := hW.1
  unfold f_X10_send
  rw [two_roofs hN hx hy (by omega)]
  have no : ∀ t : Int, (∀ z, Fw w z → z 211 = w 211 → ((¬ x = y ∧ (0 ≤ p ∧ p ≤ 77777777) ∧ dO 8 p = true) → z 210 11 = dM p ∧ ∀ k, 0 ≤ k → k < dM p → z 217 k = dF p k) → f_X11_send_b30 F 210 x y p u (bI (decide (¬ x = y ∧ (0 ≤ p ∧ p ≤ 77777777) ∧ dO 8 p = true))) z = some (0, iset z 210 6 t)) → ∃ w2, f_X11_send F 210 x y p u w = some (0, w2) ∧ Inv w2 ∧ w2 210 6 = t := by
    intro t h
    obtain ⟨z, z1, z2, z3, z4⟩ := m_sendPre (F := F) (w := w) (u := u) hF hx hy hp
    rw [z3, h z z1 z2 z4]
    exact ⟨_, rfl, hI.scratch (z1.thr t) (by rw [is_ne (by decide)]; exact z2), thr_at z t⟩
  by_cases c : (0 ≤ x ∧ x < w 211 0) ∧ 0 ≤ y ∧ y < w 211 0
  · rw [if_pos c, gd_t ⟨hx, hy⟩]
    by_cases cf : ¬ x = y ∧ (0 ≤ p ∧ p ≤ 77777777) ∧ dO 8 p = true
    · have hA : f_X10_areDigitsNotes F p w = some true := by
        unfold f_X10_areDigitsNotes
        rw [c_areDig 8 F p cf.2.1.1 (by omega) (by simp only [tn]; omega) (by omega), cf.2.2]
      rw [if_neg cf.1, c_needNumber hp (by decide) (by decide), bN rfl, if_pos cf.2.1, hA, bs, if_pos rfl, k5, k8, hN.1.2.2.2.2, gd_t (by omega)]
      by_cases ct : w 211 2 < 30
      · obtain ⟨w1, e1, e2, e0, e3⟩ := hI.did2 hF
        have hfd := dF_bd cf.2.1.1 cf.2.2
        have hbM := dM_bd p
        obtain ⟨w2, e4, e5, e6⟩ := c_addTune (F := F) (s := x) (g := y) (n := dM p) (rp := 0) (wa := u) (f := dF p) P12 e2 b0.2 b1 ⟨b2.1, ct⟩ (Or.inl rfl) hu rfl
        have en : rs (newT (w 211) x y (dM p) (dF p) 0 u) 12 (w 211 12) = newT (w 211) x y (dM p) (dF p) 0 u := by
          have := newT_12 (r := w 211) (s := x) (g := y) (n := dM p) (rp := 0) (wa := u) (f := dF p) b2.1
          rw [Int.add_zero] at this
          exact this
        rw [en] at e5
        have h2w : w2 211 = w 211 := by rw [e6 211 (by omega), e0 211 (by omega)]
        obtain ⟨z, z1, z2, z3, z4⟩ := m_sendPre (F := F) (w := w2) (x := x) (y := y) (p := p) (u := u) hF hx hy hp
        obtain ⟨z5, z6⟩ := z4 cf
        obtain ⟨wm, g1, g2, g3, g4, g5, g6, g7⟩ := e3 w2 z e6 z1 z2
        have hnt := m_newTune (F := F) (w := wm) (s := x) (g := y) (rp := 0) (wa := u) (by omega) (by rw [g2]; exact ⟨b2.1, ct⟩) (by rw [g5, z5]; omega) (Or.inl rfl) hu
        rw [g2, g5, z5, g4, newT_congr z6] at hnt
        have hG := WF_new (s := x) (g := y) (n := dM p) (rp := 0) (wa := u) (f := dF p) hW ct c.1 c.2 cf.1 hbM hfd (Or.inl rfl) hu
        obtain ⟨q1, q2⟩ := g7 (stc wm 211 (newT (w 211) x y (dM p) (dF p) 0 u)) ((Fm.refl wm).stc _ (by omega)) (by
          rw [stc_eq]
          exact ⟨e5.of fun a a0 a1 => by rw [stc_ne (by omega), g6 a (by omega) (by omega)], hG, by rw [newT_out (by omega) (by omega) (by omega) (by omega)]; exact h3⟩)
        rw [if_pos ct, e1, bs, c_digitsOf (by omega) cf.2.1.1 cf.2.1.2, bs, c_notesOf (by omega) cf.2.1.1 cf.2.1.2 cf.2.2, bs, e4, bj]
        refine ⟨.inl (w 211 2), w2, w 211 2, _, rfl, ?_, q1, q2, rfl⟩
        rw [z3, decide_eq_true cf]
        unfold f_X11_send_b30 f_X11_send_b57
        rw [m_areRoofs hx hy (by rw [z2, h2w]; omega), bs, m0, n0, z2, h2w, gd_t (by omega), gd_t (by omega), if_neg (by omega), decide_eq_true c, show f_X11_may F 210 (bI true) (bI true) 1 z = some (true, iset z 210 6 0) from may3t, bk, if_pos rfl, g1, bs, hnt, bj]
      · obtain ⟨w2, g1, g2, g3⟩ := no 3 (fun z z1 z2 z4 => by
          unfold f_X11_send_b30 f_X11_send_b57
          rw [m_areRoofs hx hy (by rw [z2]; omega), bs, m0, n0, z2, gd_t (by omega), gd_t (by omega), if_pos (by omega), decide_eq_true c, decide_eq_true cf, show f_X11_may F 210 (bI true) (bI true) 0 z = some (false, iset z 210 6 3) from may3c, bk]
          rfl)
        rw [if_neg ct]
        exact ⟨.inr eIS, w, 0, w2, rfl, g1, g2, by rw [g3]; exact ⟨by decide, by decide, by decide⟩⟩
    · obtain ⟨w2, g1, g2, g3⟩ := no 2 (fun z z1 z2 z4 => by
        unfold f_X11_send_b30 f_X11_send_b57
        rw [m_areRoofs hx hy (by rw [z2]; omega), bs, m0, n0, z2, gd_t (by omega), gd_t (by omega), decide_eq_true c, decide_eq_false cf]
        split
        · rw [show f_X11_may F 210 (bI true) (bI false) 0 z = some (false, iset z 210 6 2) from may3b (c := false), bk]; rfl
        · rw [show f_X11_may F 210 (bI true) (bI false) 1 z = some (false, iset z 210 6 2) from may3b (c := true), bk]; rfl)
      have hc : (if x = y then some (Sum.inr eIA, w) else bnM (f_X10_needNumber F 0 p 0 77777777 w) w ((f_X10_areDigitsNotes F p w).bind (fun r2 => if r2 then (gd (rg (w (shR 0 5) 3)) (if (w (shR 0 5) 3) < 30 then ((f_X1_keep F (shR 0 8) (shR 0 5) w).bind (fun w4 => (f_X10_digitsOf F p w4).bind (fun r5 => (f_X10_notesOfDigits F p w4).bind (fun r6 => bJW (f_X2_addTune F (shR 0 5) x y r5 r6 0 u w4) (fun r7 w8 => some (.inl r7, w8)))))) else (some (.inr eIS, w)))) else (some (.inr eIA, w))))) = some ((Sum.inr eIA : Int ⊕ String), w) := by
        by_cases c1 : x = y
        · rw [if_pos c1]
        · rw [if_neg c1, c_needNumber hp (by decide) (by decide), bN rfl]
          by_cases c2 : 0 ≤ p ∧ p ≤ 77777777
          · have hA : f_X10_areDigitsNotes F p w = some (dO 8 p) := by
              unfold f_X10_areDigitsNotes
              rw [c_areDig 8 F p c2.1 (by omega) (by simp only [tn]; omega) (by omega)]
            rw [if_pos c2, hA, bs, if_neg (fun h => cf ⟨c1, c2, h⟩)]
          · rw [if_neg c2]
      exact ⟨.inr eIA, w, 0, w2, hc, g1, g2, by rw [g3]; exact ⟨by decide, by decide, by decide⟩⟩
  · rw [if_neg c]
    obtain ⟨w2, g1, g2, g3⟩ := no 1 (fun z z1 z2 z4 => by
      unfold f_X11_send_b30 f_X11_send_b57
      rw [m_areRoofs hx hy (by rw [z2]; omega), bs, m0, n0, z2, gd_t (by omega), gd_t (by omega), decide_eq_false c]
      split
      · rw [show f_X11_may F 210 (bI false) (bI (decide (¬ x = y ∧ (0 ≤ p ∧ p ≤ 77777777) ∧ dO 8 p = true))) 0 z = some (false, iset z 210 6 1) from may3a (c := false), bk]; rfl
      · rw [show f_X11_may F 210 (bI false) (bI (decide (¬ x = y ∧ (0 ≤ p ∧ p ≤ 77777777) ∧ dO 8 p = true))) 1 z = some (false, iset z 210 6 1) from may3a (c := true), bk]; rfl)
    exact ⟨.inr eIO, w, 0, w2, rfl, g1, g2, by rw [g3]; exact ⟨by decide, by decide, by decide⟩⟩
