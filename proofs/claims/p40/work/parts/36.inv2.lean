/-! ===== class and reference side by side ===== -/
def pb (m : Int) : Nat := 66 + 18 * m.toNat
theorem pb_Pb {m : Int} (h : 0 ≤ m ∧ m < 8) : Pb (pb m) := by
  have hm : m = 0 ∨ m = 1 ∨ m = 2 ∨ m = 3 ∨ m = 4 ∨ m = 5 ∨ m = 6 ∨ m = 7 := by omega
  unfold Pb
  rcases hm with h | h | h | h | h | h | h | h <;> subst h <;> decide
theorem P12 : Pb 12 := by unfold Pb; decide
theorem P30 : Pb 30 := by unfold Pb; decide
theorem P48 : Pb 48 := by unfold Pb; decide
/-- a post that stands for a row that may be -/
def PR (w : aI) (b : Nat) (r : Row) : Prop := Rep w b r ∧ WF r ∧ r 3 ≤ 9999
theorem PR.cp {w : aI} {b : Nat} {r q : Row} (h : PR w b r) (k : Cp r q) : PR w b q := ⟨k.rep h.2.1 h.1, k.wf h.2.1, by rw [k 3 (by omega) (by omega)]; exact h.2.2⟩
theorem PR.of {w w2 : aI} {b : Nat} {r : Row} (h : PR w b r) (he : ∀ a, b ≤ a → a < b + 18 → w2 a = w a) : PR w2 b r := ⟨h.1.of he, h.2⟩
def IvT (w : aI) : Prop := (∀ b, Pb b → TOK w b) ∧ w 8 0 = 30 ∧ w 8 1 = 5
def IvI (w : aI) : Prop := w 1 1 = w 210 13 ∧ (0 ≤ w 210 13 ∧ w 210 13 ≤ 800) ∧ ∀ k, 0 ≤ k → k < w 210 13 → (0 ≤ w 2 k ∧ w 2 k ≤ 255) ∧ w 218 k = i2bI (w 2 k)
def IvO (w : aI) : Prop := w 3 1 = w 210 27 ∧ (0 ≤ w 210 27 ∧ w 210 27 ≤ 300) ∧ ∀ k, 0 ≤ k → k < w 210 27 → rg (w 222 k) ∧ w 4 k = w 222 k
def IvE (w : aI) : Prop := w 5 5 = w 210 14 ∧ w 5 6 = w 210 15 ∧ rg (w 210 14) ∧ rg (w 210 15)
def IvN (w : aI) : Prop := PR w 12 (w 211)
def IvS (w : aI) : Prop := w 0 9 = w 210 5 ∧ (w 210 5 = 0 ∨ w 210 5 = 1) ∧ (w 210 5 = 1 → PR w 30 (w 213))
def IvP (w : aI) : Prop := w 10 2 = w 210 4 ∧ (0 ≤ w 210 4 ∧ w 210 4 ≤ 8) ∧ (0 ≤ w 10 1 ∧ w 10 1 < 8) ∧ ∀ j, 0 ≤ j → j < w 210 4 → PR w (pb ((w 10 1 + j) % 8)) (fun k => w 214 (1030 * j + k))
def Inv (w : aI) : Prop := IvT w ∧ IvI w ∧ IvO w ∧ IvE w ∧ IvN w ∧ IvS w ∧ IvP w
theorem pb_bd {m : Int} (h : 0 ≤ m ∧ m < 8) : 66 ≤ pb m ∧ pb m + 18 ≤ 210 := by unfold pb; omega
/-- as Fm, and what was thrown may change -/
def Fw (w w' : aI) : Prop := (∀ a, ¬ a = 210 → ¬ a = 211 → ¬ a = 215 → ¬ a = 216 → ¬ a = 217 → ¬ a = 220 → ¬ a = 221 → w' a = w a) ∧ ∀ k, ¬ k = 6 → ¬ k = 8 → ¬ k = 11 → w' 210 k = w 210 k
theorem Fm.fw {w w' : aI} (h : Fm w w') : Fw w w' := ⟨h.1, fun k _ h2 h3 => h.2 k h2 h3⟩
theorem Fw.refl (w : aI) : Fw w w := (Fm.refl w).fw
theorem Fw.trans {w w' w'' : aI} (h : Fw w w') (k : Fw w' w'') : Fw w w'' := ⟨fun a h1 h2 h3 h4 h5 h6 h7 => (k.1 a h1 h2 h3 h4 h5 h6 h7).trans (h.1 a h1 h2 h3 h4 h5 h6 h7), fun j h1 h2 h3 => (k.2 j h1 h2 h3).trans (h.2 j h1 h2 h3)⟩
theorem Fw.thr {w w' : aI} (h : Fw w w') (t : Int) : Fw w (iset w' 210 6 t) := by
  refine ⟨fun b h1 h2 h3 h4 h5 h6 h7 => ?_, fun j h1 h2 h3 => ?_⟩
  · rw [is_ne h1]; exact h.1 b h1 h2 h3 h4 h5 h6 h7
  · rw [is_eq, rs_ne (by omega)]; exact h.2 j h1 h2 h3
/-- the reference has worked on scratch alone -/
theorem Inv.scratch {w w2 : aI} (h : Inv w) (f : Fw w w2) (h211 : w2 211 = w 211) : Inv w2 := by
  obtain ⟨hT, hI, hO, hE, hN, hS, hP⟩ := h
  have lo : ∀ a, a < 210 → w2 a = w a := fun a ha => f.1 a (by omega) (by omega) (by omega) (by omega) (by omega) (by omega) (by omega)
  have c13 := f.2 13 (by omega) (by omega) (by omega)
  have c27 := f.2 27 (by omega) (by omega) (by omega)
  have c14 := f.2 14 (by omega) (by omega) (by omega)
  have c15 := f.2 15 (by omega) (by omega) (by omega)
  have c5 := f.2 5 (by omega) (by omega) (by omega)
  have c4 := f.2 4 (by omega) (by omega) (by omega)
  have c218 := f.1 218 (by omega) (by omega) (by omega) (by omega) (by omega) (by omega) (by omega)
  have c222 := f.1 222 (by omega) (by omega) (by omega) (by omega) (by omega) (by omega) (by omega)
  have c213 := f.1 213 (by omega) (by omega) (by omega) (by omega) (by omega) (by omega) (by omega)
  have c214 := f.1 214 (by omega) (by omega) (by omega) (by omega) (by omega) (by omega) (by omega)
  refine ⟨⟨fun b hb => (hT.1 b hb).of fun a a0 a1 => lo a ?_, ?_⟩, ?_, ?_, ?_, ?_, ?_, ?_⟩
  · have : ∀ b ∈ [12, 30, 48, 66, 84, 102, 120, 138, 156, 174, 192], b + 18 ≤ 210 := by decide
    have := this b hb
    omega
  · rw [lo 8 (by omega)]; exact hT.2
  · unfold IvI
    rw [lo 1 (by omega), lo 2 (by omega), c13, c218]; exact hI
  · unfold IvO
    rw [lo 3 (by omega), lo 4 (by omega), c27, c222]; exact hO
  · unfold IvE
    rw [lo 5 (by omega), c14, c15]; exact hE
  · unfold IvN
    rw [h211]
    exact PR.of hN fun a a0 a1 => lo a (by omega)
  · unfold IvS
    rw [lo 0 (by omega), c5, c213]
    exact ⟨hS.1, hS.2.1, fun e => (hS.2.2 e).of fun a a0 a1 => lo a (by omega)⟩
  · unfold IvP
    rw [lo 10 (by omega), c4, c214]
    refine ⟨hP.1, hP.2.1, hP.2.2.1, fun j j0 j1 => (hP.2.2.2 j j0 j1).of fun a a0 a1 => lo a ?_⟩
    have := pb_bd (m := (w 10 1 + j) % 8) (by omega)
    omega
theorem m_copies {F : Nat} {a : Nat} {w : aI} (hF : 2000 ≤ F) (ha : shL a = 1030) (h2 : ¬ a = 211) : f_X11_copies F 210 a w = some (stc w a (fun k => if 0 ≤ k ∧ k < 1030 then w 211 k else w a k)) := by
  have key : ∀ (n : Nat) (v : Int), 0 ≤ v → v ≤ 1030 → 1030 - v < n → f_X11_copies_b2 F 210 a n v (stc w a (fun k => if 0 ≤ k ∧ k < v then w 211 k else w a k)) = some (stc w a (fun k => if 0 ≤ k ∧ k < 1030 then w 211 k else w a k)) := by
    intro n
    induction n with
    | zero => intro v v0 v1 v2; omega
    | succ n ih =>
      intro v v0 v1 v2
      show f_X11_copies_b2_b F 210 a (f_X11_copies_b2 F 210 a n) v _ = _
      unfold f_X11_copies_b2_b
      rw [gd_t (by omega)]
      by_cases c : 1030 ≤ v
      · have e : v = 1030 := by omega
        rw [if_pos c, e]
      · rw [if_neg c, m0, n0, ha, gd_t (by omega), gd_t (by omega), ltm, is_stc, stc_eq, stc_stc, stc_ne (fun e => h2 e.symm)]
        rw [← ih (v + 1) (by omega) (by omega) (by omega)]
        congr 2
        funext k
        rw [rs_def]
        by_cases ck : k = v
        · rw [if_pos ck, if_pos (by omega), ck]
        · rw [if_neg ck]
          exact ite_iff (by omega)
  have h9 := key F 0 (by omega) (by omega) (by omega)
  have e : stc w a (fun k => if 0 ≤ k ∧ k < 0 then w 211 k else w a k) = w := by
    have : (fun k => if 0 ≤ k ∧ k < 0 then w 211 k else w a k) = w a := by
      funext k
      exact if_neg (by omega)
    rw [this, stc_self]
  rw [e] at h9
  exact h9
theorem m_gives {F : Nat} {a : Nat} {w : aI} {u : Int} (hF : 2000 ≤ F) (ha : shL a = 1030) (h2 : ¬ a = 211) : f_X11_gives F 210 a u w = some (u, stc w 211 (fun k => if 0 ≤ k ∧ k < 1030 then w a k else w 211 k)) := by
  have key : ∀ (n : Nat) (v : Int), 0 ≤ v → v ≤ 1030 → 1030 - v < n → f_X11_gives_b2 F 210 a u n v (stc w 211 (fun k => if 0 ≤ k ∧ k < v then w a k else w 211 k)) = some (u, stc w 211 (fun k => if 0 ≤ k ∧ k < 1030 then w a k else w 211 k)) := by
    intro n
    induction n with
    | zero => intro v v0 v1 v2; omega
    | succ n ih =>
      intro v v0 v1 v2
      show f_X11_gives_b2_b F 210 a u (f_X11_gives_b2 F 210 a u n) v _ = _
      unfold f_X11_gives_b2_b
      rw [gd_t (by omega)]
      by_cases c : 1030 ≤ v
      · have e : v = 1030 := by omega
        rw [if_pos c, e]
      · rw [if_neg c, m0, n0, ha, gd_t (by omega), gd_t (by omega), ltm, is_stc, stc_eq, stc_stc, stc_ne h2]
        rw [← ih (v + 1) (by omega) (by omega) (by omega)]
        congr 2
        funext k
        rw [rs_def]
        by_cases ck : k = v
        · rw [if_pos ck, if_pos (by omega), ck]
        · rw [if_neg ck]
          exact ite_iff (by omega)
  have h9 := key F 0 (by omega) (by omega) (by omega)
  have e : stc w 211 (fun k => if 0 ≤ k ∧ k < 0 then w a k else w 211 k) = w := by
    have : (fun k => if 0 ≤ k ∧ k < 0 then w a k else w 211 k) = w 211 := by
      funext k
      exact if_neg (by omega)
    rw [this, stc_self]
  rw [e] at h9
  exact h9
/-- the row goes behind those that are kept -/
theorem m_rem54 {F : Nat} {w : aI} (hF : 2000 ≤ F) (hK : 0 ≤ w 210 4 ∧ w 210 4 < 8) : f_X11_remembers_b54 F 210 F 0 w = some (iset (stc w 214 (fun k => if 1030 * w 210 4 ≤ k ∧ k < 1030 * w 210 4 + 1030 then w 211 (k - 1030 * w 210 4) else w 214 k)) 210 4 (w 210 4 + 1)) := by
  have key : ∀ (n : Nat) (v : Int), 0 ≤ v → v ≤ 1030 → 1030 - v < n → f_X11_remembers_b54 F 210 n v (stc w 214 (fun k => if 1030 * w 210 4 ≤ k ∧ k < 1030 * w 210 4 + v then w 211 (k - 1030 * w 210 4) else w 214 k)) = some (iset (stc w 214 (fun k => if 1030 * w 210 4 ≤ k ∧ k < 1030 * w 210 4 + 1030 then w 211 (k - 1030 * w 210 4) else w 214 k)) 210 4 (w 210 4 + 1)) := by
    intro n
    induction n with
    | zero => intro v v0 v1 v2; omega
    | succ n ih =>
      intro v v0 v1 v2
      show f_X11_remembers_b54_b F 210 (f_X11_remembers_b54 F 210 n) v _ = _
      unfold f_X11_remembers_b54_b
      have e210 : ∀ f, stc w 214 f 210 4 = w 210 4 := fun f => by rw [stc_ne (by decide)]
      rw [gd_t (by omega), e210]
      by_cases c : 1030 ≤ v
      · have e : v = 1030 := by omega
        rw [if_pos c, ltm, e]
      · rw [if_neg c, m0, n0, m3, n3, gd_t (by omega), gd_t (by omega), ltm, is_stc, stc_eq, stc_stc, stc_ne (show ¬ (211 : Nat) = 214 by decide)]
        rw [← ih (v + 1) (by omega) (by omega) (by omega)]
        congr 2
        funext k
        rw [rs_def]
        by_cases ck : k = 1030 * w 210 4 + v
        · rw [if_pos ck, if_pos (by omega)]
          exact congrArg (w 211) (by omega)
        · rw [if_neg ck]
          exact ite_iff (by omega)
  have h9 := key F 0 (by omega) (by omega) (by omega)
  have e : stc w 214 (fun k => if 1030 * w 210 4 ≤ k ∧ k < 1030 * w 210 4 + 0 then w 211 (k - 1030 * w 210 4) else w 214 k) = w := by
    have : (fun k => if 1030 * w 210 4 ≤ k ∧ k < 1030 * w 210 4 + 0 then w 211 (k - 1030 * w 210 4) else w 214 k) = w 214 := by
      funext k
      exact if_neg (by omega)
    rw [this, stc_self]
  rw [e] at h9
  exact h9
theorem m_rem13 {F : Nat} {w : aI} (hF : 10000 ≤ F) (hK : w 210 4 = 8) : f_X11_remembers_b13 F 210 F 1030 w = f_X11_remembers_b54 F 210 F 0 (iset (stc w 214 (fun k => if 0 ≤ k ∧ k < 7210 then w 214 (k + 1030) else w 214 k)) 210 4 7) := by
  have key : ∀ (n : Nat) (v : Int), 1030 ≤ v → v ≤ 8240 → 8240 - v < n → f_X11_remembers_b13 F 210 n v (stc w 214 (fun k => if 0 ≤ k ∧ k < v - 1030 then w 214 (k + 1030) else w 214 k)) = f_X11_remembers_b54 F 210 F 0 (iset (stc w 214 (fun k => if 0 ≤ k ∧ k < 7210 then w 214 (k + 1030) else w 214 k)) 210 4 7) := by
    intro n
    induction n with
    | zero => intro v v0 v1 v2; omega
    | succ n ih =>
      intro v v0 v1 v2
      show f_X11_remembers_b13_b F 210 (f_X11_remembers_b13 F 210 n) v _ = _
      unfold f_X11_remembers_b13_b
      have e210 : ∀ f, stc w 214 f 210 4 = 8 := fun f => by rw [stc_ne (by decide)]; exact hK
      rw [gd_t (by omega), e210]
      by_cases c : 8240 ≤ v
      · have e : v = 8240 := by omega
        rw [if_pos c, ltm, e]
        rfl
      · rw [if_neg c, m3, n3, gd_t (by omega), gd_t (by omega), ltm, is_stc, stc_eq, stc_stc]
        rw [← ih (v + 1) (by omega) (by omega) (by omega)]
        congr 2
        funext k
        rw [rs_def]
        by_cases ck : k = v - 1030
        · rw [if_pos ck, if_neg (by omega), if_pos (by omega)]
          exact congrArg (w 214) (by omega)
        · rw [if_neg ck]
          exact ite_iff (by omega)
  have h9 := key F 1030 (by omega) (by omega) (by omega)
  have e : stc w 214 (fun k => if 0 ≤ k ∧ k < (1030 : Int) - 1030 then w 214 (k + 1030) else w 214 k) = w := by
    have : (fun k => if 0 ≤ k ∧ k < (1030 : Int) - 1030 then w 214 (k + 1030) else w 214 k) = w 214 := by
      funext k
      exact if_neg (by omega)
    rw [this, stc_self]
  rw [e] at h9
  exact h9
/-- the reference remembers: how many there are then, and by how many places the others have moved -/
theorem m_remembers {F : Nat} {w : aI} (hF : 10000 ≤ F) (hK : 0 ≤ w 210 4 ∧ w 210 4 ≤ 8) : ∃ (K' s : Int) (P : Int → Int), f_X11_remembers F 210 w = some (iset (stc w 214 P) 210 4 K') ∧ ((w 210 4 < 8 ∧ K' = w 210 4 + 1 ∧ s = 0) ∨ (w 210 4 = 8 ∧ K' = 8 ∧ s = 1)) ∧ (∀ j k, 0 ≤ j → j < K' - 1 → 0 ≤ k → k < 1030 → P (1030 * j + k) = w 214 (1030 * (j + s) + k)) ∧ (∀ k, 0 ≤ k → k < 1030 → P (1030 * (K' - 1) + k) = w 211 k) := by
  unfold f_X11_remembers
  rw [gd_t (by omega)]
  by_cases c : w 210 4 = 8
  · rw [if_pos c, m_rem13 hF c]
    obtain ⟨w1, e1⟩ : ∃ w1, w1 = iset (stc w 214 (fun k => if 0 ≤ k ∧ k < 7210 then w 214 (k + 1030) else w 214 k)) 210 4 7 := ⟨_, rfl⟩
    rw [← e1]
    have k4 : w1 210 4 = 7 := by rw [e1, is_eq, rs_self]
    have k211 : w1 211 = w 211 := by rw [e1, is_ne (by decide), stc_ne (by decide)]
    have k214 : w1 214 = fun k => if 0 ≤ k ∧ k < 7210 then w 214 (k + 1030) else w 214 k := by rw [e1, is_ne (by decide), stc_eq]
    rw [m_rem54 (by omega) (by omega), k4, k211, k214]
    refine ⟨8, 1, fun k => if 1030 * 7 ≤ k ∧ k < 1030 * 7 + 1030 then w 211 (k - 1030 * 7) else (if 0 ≤ k ∧ k < 7210 then w 214 (k + 1030) else w 214 k), congrArg some ?_, Or.inr ⟨c, rfl, rfl⟩, fun j k j0 j1 a0 a1 => ?_, fun k a0 a1 => ?_⟩
    · rw [e1]
      funext a i
      unfold iset stc
      by_cases c1 : a = 210
      · subst c1
        by_cases c2 : i = 4
        · simp [c2]
        · simp [c2]
      · by_cases c2 : a = 214
        · subst c2; simp
        · simp [c1, c2]
    · dsimp only
      rw [if_neg (by omega), if_pos (by omega)]
      exact congrArg (w 214) (by omega)
    · dsimp only
      rw [if_pos (by omega)]
      exact congrArg (w 211) (by omega)
  · rw [if_neg c, m_rem54 (by omega) (by omega)]
    refine ⟨w 210 4 + 1, 0, _, rfl, Or.inl ⟨by omega, rfl, rfl⟩, fun j k j0 j1 a0 a1 => ?_, fun k a0 a1 => ?_⟩
    · rw [if_neg (by omega)]
      exact congrArg (w 214) (by omega)
    · rw [if_pos (by omega)]
      exact congrArg (w 211) (by omega)
