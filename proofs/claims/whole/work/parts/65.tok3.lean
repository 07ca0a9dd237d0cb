/-! ===== words, names, numbers at a place ===== -/
theorem xB_rg : ∀ s, s < 34 → ∀ i, i < (xB s).length → 0 ≤ ((xB s).getD i 0).toInt ∧ ((xB s).getD i 0).toInt ≤ 127 := by decide +kernel
theorem xB_len : ∀ s, s < 34 → (xB s).length ≤ 200 := by decide +kernel
theorem s_len {s : Nat} (h : s < 34) : f_strlen s = some ((xB s).length : Int) := gd_t h
theorem s_chr {s : Nat} (h : s < 34) {i : Nat} (hi : i < (xB s).length) : f_strchr s i = some ((xB s).getD i 0).toInt := by
  unfold f_strchr
  rw [gd_t h, gd_t (by omega), Int.toNat_natCast]
abbrev Wd (B : Int → Int) (N p : Int) (s : Nat) : Prop := tK B N p = 1 ∧ tE B N p - tS B N p = (xB s).length ∧ ∀ i : Nat, i < (xB s).length → B (tS B N p + i) = ((xB s).getD i 0).toInt
/-- the class stands at p, no error yet -/
def CS (u : aI) (B : Int → Int) (N p : Int) : Prop := TX u B N ∧ CT u B N p ∧ (0 ≤ p ∧ p ≤ N) ∧ u 5 5 = 0 ∧ u 5 6 = -1
def MS (v : aI) (B : Int → Int) (N p : Int) : Prop := TM v B N ∧ MT v B N p ∧ (0 ≤ p ∧ p ≤ N)
/-- an error was met -/
def CF (u : aI) (B : Int → Int) (N c a : Int) : Prop := TX u B N ∧ u 5 5 = c ∧ u 5 6 = a
def MF (v : aI) (B : Int → Int) (N c a : Int) : Prop := TM v B N ∧ v 210 20 = c ∧ v 210 21 = a ∧ (1 ≤ c ∧ c ≤ 6) ∧ (0 ≤ a ∧ a ≤ 800) ∧ (0 ≤ v 210 16 ∧ v 210 16 ≤ 800) ∧ (0 ≤ v 210 17 ∧ v 210 17 ≤ 800) ∧ rg (v 210 18) ∧ rg (v 210 19)
def Fk (u u' : aI) : Prop := ∀ a, ¬ a = 5 → u' a = u a
def Fz (v v' : aI) : Prop := (∀ a, ¬ a = 210 → ¬ a = 215 → v' a = v a) ∧ ∀ k, ¬ k = 8 → ¬ k = 16 → ¬ k = 17 → ¬ k = 18 → ¬ k = 19 → ¬ k = 20 → ¬ k = 21 → v' 210 k = v 210 k
theorem Fk.refl (u : aI) : Fk u u := fun _ _ => rfl
theorem Fk.trans {u v w : aI} (h : Fk u v) (k : Fk v w) : Fk u w := fun a ha => (k a ha).trans (h a ha)
theorem Fz.refl (v : aI) : Fz v v := ⟨fun _ _ _ => rfl, fun _ _ _ _ _ _ _ _ => rfl⟩
theorem Fz.trans {u v w : aI} (h : Fz u v) (k : Fz v w) : Fz u w := ⟨fun a a1 a2 => (k.1 a a1 a2).trans (h.1 a a1 a2), fun j a b c d e f g => (k.2 j a b c d e f g).trans (h.2 j a b c d e f g)⟩
theorem Fk.stc {u : aI} (g : Int → Int) : Fk u (stc u 5 g) := fun a ha => stc_ne ha
theorem CS.bd {u : aI} {B : Int → Int} {N p : Int} (h : CS u B N p) : (0 ≤ N ∧ N ≤ 800) ∧ p ≤ tS B N p ∧ tS B N p ≤ tE B N p ∧ tE B N p ≤ N ∧ (0 ≤ tK B N p ∧ tK B N p ≤ 4) ∧ (tK B N p = 0 ↔ tS B N p = N) ∧ (¬ tK B N p = 0 → tS B N p < tE B N p) := ⟨h.1.2.1, tok_bd h.1.2.1.2 h.2.2.1⟩
theorem MS.bd {u : aI} {B : Int → Int} {N p : Int} (h : MS u B N p) : (0 ≤ N ∧ N ≤ 800) ∧ p ≤ tS B N p ∧ tS B N p ≤ tE B N p ∧ tE B N p ≤ N ∧ (0 ≤ tK B N p ∧ tK B N p ≤ 4) ∧ (tK B N p = 0 ↔ tS B N p = N) ∧ (¬ tK B N p = 0 → tS B N p < tE B N p) := ⟨h.1.2.1, tok_bd h.1.2.1.2 h.2.2⟩
section CTok
variable {F : Nat} {u : aI} {B : Int → Int} {N p : Int}
theorem c_next (hF : 1000 ≤ F) (h : CS u B N p) : ∃ u', f_X9_step F 5 u = some u' ∧ CS u' B N (tE B N p) ∧ Fk u u' := by
  have hb := h.bd
  obtain ⟨h1, h2, h3, h4, h5⟩ := h
  obtain ⟨g, e1, g1, g2, g3, g4, g5, g6⟩ := c_step (F := F) hF h1 (p := tE B N p) (by omega) h2.2.1
  refine ⟨_, e1, ⟨h1.at5 g, ?_, by omega, by rw [stc_eq, g5, h4], by rw [stc_eq, g6, h5]⟩, Fk.stc g⟩
  unfold CT
  rw [stc_eq]
  exact ⟨g1, g2, g3, g4⟩
theorem c_fail {c : Int} (h : CS u B N p) : ∃ u', f_X9_fail F 5 c u = some (false, u') ∧ CF u' B N c (tS B N p) ∧ Fk u u' := by
  obtain ⟨h1, h2, h3, h4, h5⟩ := h
  unfold f_X9_fail
  rw [ltm, ltm, is_eq, rs_ne (by omega), h2.1]
  refine ⟨_, rfl, ⟨?_, ?_, ?_⟩, fun a ha => by rw [is_ne ha, is_ne ha]⟩
  · unfold TX
    rw [is_ne (show ¬ 1 = 5 by decide), is_ne (show ¬ 1 = 5 by decide), is_ne (show ¬ 2 = 5 by decide), is_ne (show ¬ 2 = 5 by decide)]
    exact h1
  · rw [is_eq, rs_ne (by omega), is_eq, rs_self]
  · rw [is_eq, rs_self]
theorem c_isWord {s : Nat} (hF : 1000 ≤ F) (hs : s < 34) (h : CS u B N p) : f_X9_isWord F 5 s u = some (decide (Wd B N p s)) := by
  have hb := h.bd
  obtain ⟨h1, h2, h3, h4, h5⟩ := h
  have hl := xB_len s hs
  unfold f_X9_isWord
  rw [h2.2.2.1, h2.2.1, h2.1, gd_t (by omega)]
  by_cases c1 : tK B N p = 1
  · rw [if_pos c1, s_len hs, bs, gd_t (by omega)]
    by_cases c2 : tE B N p - tS B N p = (xB s).length
    · rw [if_pos c2]
      have key : ∀ (n i : Nat), i ≤ (xB s).length → (xB s).length - i < n → (∀ j : Nat, j < i → B (tS B N p + j) = ((xB s).getD j 0).toInt) → f_X9_isWord_b28 F 5 s u n i = some (decide (Wd B N p s)) := by
        intro n
        induction n with
        | zero => intro i i1 i2; omega
        | succ n ih =>
          intro i i1 i2 hi
          show f_X9_isWord_b28_b F 5 s u (f_X9_isWord_b28 F 5 s u n) _ = _
          unfold f_X9_isWord_b28_b
          rw [s_len hs, bs, gd_t (by omega)]
          by_cases c : ((xB s).length : Int) ≤ i
          · rw [if_pos c, decide_eq_true ⟨c1, c2, fun j hj => hi j (by omega)⟩]
          · have hB := h1.2.2 (tS B N p + i) (by omega) (by omega)
            have hc := xB_rg s hs i (by omega)
            rw [if_neg c, t50, h2.1, c_getB h1 (by omega), if_pos (by omega), bs, s_chr hs (by omega), bs, gd_t (by omega)]
            by_cases c3 : B (tS B N p + i) = ((xB s).getD i 0).toInt
            · rw [if_pos c3]
              refine ih (i + 1) (by omega) (by omega) (fun j hj => ?_)
              by_cases e : j = i
              · rw [e]; exact c3
              · exact hi j (by omega)
            · rw [if_neg c3, decide_eq_false (fun z => c3 (z.2.2 i (by omega)))]
      exact key F 0 (by omega) (by omega) (fun j hj => by omega)
    · rw [if_neg c2, decide_eq_false (fun z => c2 z.2.1)]
  · rw [if_neg c1, decide_eq_false (fun z => c1 z.1)]
/-- which setting's word stands here -/
def swd (B : Int → Int) (N p : Int) : Int := if Wd B N p 20 then 8 else if Wd B N p 21 then 9 else if Wd B N p 22 then 10 else -1
theorem c_setWord (hF : 1000 ≤ F) (h : CS u B N p) : f_X9_settingWord F 5 u = some (swd B N p) := by
  unfold f_X9_settingWord swd
  rw [c_isWord hF (by decide) h, bs]
  by_cases c1 : Wd B N p 20
  · rw [if_pos (decide_eq_true c1), if_pos c1]
  · rw [if_neg (by rw [decide_eq_true_iff]; exact c1), if_neg c1, c_isWord hF (by decide) h, bs]
    by_cases c2 : Wd B N p 21
    · rw [if_pos (decide_eq_true c2), if_pos c2]
    · rw [if_neg (by rw [decide_eq_true_iff]; exact c2), if_neg c2, c_isWord hF (by decide) h, bs]
      by_cases c3 : Wd B N p 22
      · rw [if_pos (decide_eq_true c3), if_pos c3]
      · rw [if_neg (by rw [decide_eq_true_iff]; exact c3), if_neg c3]
/-- the name that stands here, in one number -/
abbrev IsNm (B : Int → Int) (N p : Int) : Prop := tK B N p = 1 ∧ tE B N p - tS B N p ≤ 6
def nmH (B : Int → Int) (N p : Int) : Int := nm (tE B N p - tS B N p) (fun k => B (tS B N p + k))
def pN (f : Int → Int) (l : Int) : Nat → Int
  | 0 => 0
  | m + 1 => pN f l m * 32 + (f (l - 1 - m) - 96)
theorem pN_nm (f : Int → Int) {l : Int} (hl : 1 ≤ l ∧ l ≤ 6) : pN f l l.toNat = nm l f := by
  have h : l = 1 ∨ l = 2 ∨ l = 3 ∨ l = 4 ∨ l = 5 ∨ l = 6 := by omega
  rcases h with e | e | e | e | e | e <;> subst e
  · show (0 : Int) * 32 + (f (1 - 1 - 0) - 96) = _
    simp only [nm, Int.reduceLT, reduceIte, Int.reduceSub]
    omega
  · show ((0 : Int) * 32 + (f (2 - 1 - 0) - 96)) * 32 + (f (2 - 1 - 1) - 96) = _
    simp only [nm, Int.reduceLT, reduceIte, Int.reduceSub]
    omega
  · show (((0 : Int) * 32 + (f (3 - 1 - 0) - 96)) * 32 + (f (3 - 1 - 1) - 96)) * 32 + (f (3 - 1 - 2) - 96) = _
    simp only [nm, Int.reduceLT, reduceIte, Int.reduceSub]
    omega
  · show ((((0 : Int) * 32 + (f (4 - 1 - 0) - 96)) * 32 + (f (4 - 1 - 1) - 96)) * 32 + (f (4 - 1 - 2) - 96)) * 32 + (f (4 - 1 - 3) - 96) = _
    simp only [nm, Int.reduceLT, reduceIte, Int.reduceSub]
    omega
  · show (((((0 : Int) * 32 + (f (5 - 1 - 0) - 96)) * 32 + (f (5 - 1 - 1) - 96)) * 32 + (f (5 - 1 - 2) - 96)) * 32 + (f (5 - 1 - 3) - 96)) * 32 + (f (5 - 1 - 4) - 96) = _
    simp only [nm, Int.reduceLT, reduceIte, Int.reduceSub]
    omega
  · show ((((((0 : Int) * 32 + (f (6 - 1 - 0) - 96)) * 32 + (f (6 - 1 - 1) - 96)) * 32 + (f (6 - 1 - 2) - 96)) * 32 + (f (6 - 1 - 3) - 96)) * 32 + (f (6 - 1 - 4) - 96)) * 32 + (f (6 - 1 - 5) - 96) = _
    simp only [nm, Int.reduceLT, reduceIte, Int.reduceSub]
    omega
theorem pN_bd {f : Int → Int} {l : Int} (h : ∀ k, 0 ≤ k → k < l → 97 ≤ f k ∧ f k ≤ 122) : ∀ m : Nat, (m : Int) ≤ l → m ≤ 6 → 0 ≤ pN f l m ∧ pN f l m < 2 ^ (5 * m) := by
  intro m
  induction m with
  | zero => intro _ _; exact ⟨Int.le_refl _, by show (0 : Int) < 1; omega⟩
  | succ m ih =>
    intro hm h6
    have a := ih (by omega) (by omega)
    have b := h (l - 1 - m) (by omega) (by omega)
    have e : (2 : Int) ^ (5 * (m + 1)) = 32 * 2 ^ (5 * m) := by rw [Nat.mul_add, Int.pow_add]; omega
    rw [pN, e]
    omega
/-- letters of a word -/
theorem nm_let (hN : N ≤ 800) (hp : 0 ≤ p ∧ p ≤ N) (h : IsNm B N p) : ∀ k, 0 ≤ k → k < tE B N p - tS B N p → 97 ≤ B (tS B N p + k) ∧ B (tS B N p + k) ≤ 122 := by
  have hb := tok_bd (B := B) hN hp
  have c1 : ¬ N ≤ tS B N p := fun z => by
    have := h.1
    omega
  have c2 : kd (B (tS B N p)) = 1 := by
    have e := h.1
    unfold tK at e
    rw [if_neg c1] at e
    split at e
    · assumption
    · split at e
      · split at e <;> omega
      · exact absurd e (by assumption)
  have e2 : tE B N p = rune B N 1 801 (tS B N p + 1) := by
    unfold tE
    rw [if_neg c1, if_pos (Or.inl c2), c2]
  intro k k0 k1
  apply kd1_v
  by_cases e : k = 0
  · rw [e, Int.add_zero]; exact c2
  · exact rune_in 801 (tS B N p + 1) _ (by omega) (by rw [← e2]; omega)
theorem c_nameHere (hF : 1000 ≤ F) (h : CS u B N p) (hn : IsNm B N p) : f_X9_nameHere F 5 u = some (nmH B N p, u) := by
  have hb := h.bd
  have hlet := nm_let h.1.2.1.2 h.2.2.1 hn
  obtain ⟨h1, h2, h3, h4, h5⟩ := h
  obtain ⟨n1, n2⟩ := hn
  unfold f_X9_nameHere
  rw [h2.2.2.1, h2.2.1, h2.1, gd_t (by omega), if_pos n1, gd_t (by omega), if_pos n2, lti]
  generalize hl : tE B N p - tS B N p = l at *
  have key : ∀ (n m : Nat), (m : Int) ≤ l → l - m < n → f_X9_nameHere_b39 F 5 n (pN (fun k => B (tS B N p + k)) l m) (tS B N p + l - 1 - m) u = some (nmH B N p, u) := by
    intro n
    induction n with
    | zero => intro m m1 m2; omega
    | succ n ih =>
      intro m m1 m2
      show f_X9_nameHere_b39_b F 5 (f_X9_nameHere_b39 F 5 n) _ _ _ = _
      unfold f_X9_nameHere_b39_b
      rw [h2.1, gd_t (by omega)]
      by_cases c : l ≤ m
      · have e : m = l.toNat := by omega
        rw [if_pos (by omega), e, pN_nm _ (by omega)]
        unfold nmH
        rw [hl]
      · have hB := hlet (l - 1 - m) (by omega) (by omega)
        have hp := pN_bd (f := fun k => B (tS B N p + k)) (l := l) hlet m (by omega) (by omega)
        have h25 : (2 : Int) ^ (5 * m) ≤ 2 ^ 25 := by
          have hh : (2 : Nat) ^ (5 * m) ≤ 2 ^ 25 := Nat.pow_le_pow_right (by decide) (by omega)
          have e1 : ((2 : Int) ^ (5 * m)) = ((2 ^ (5 * m) : Nat) : Int) := by rw [Int.natCast_pow]; rfl
          rw [e1]
          exact Int.ofNat_le.mpr hh
        have hv : (2 : Int) ^ 25 = 33554432 := by decide
        have ei : tS B N p + l - 1 - m = tS B N p + (l - 1 - m) := by omega
        rw [if_neg (by omega), t50, c_getB h1 (by omega), if_pos (by omega), bs, lti, ei]
        have eo : orI (shl (pN (fun k => B (tS B N p + k)) l m) 5) (B (tS B N p + (l - 1 - m)) - 97 + 1) = pN (fun k => B (tS B N p + k)) l (m + 1) := by
          have := orI_shl (a := pN (fun k => B (tS B N p + k)) l m) (d := B (tS B N p + (l - 1 - m)) - 97 + 1) 5 (by decide) hp.1 (by show _ * 32 < _; omega) ⟨by omega, by show _ < (32 : Int); omega⟩
          rw [pN]
          show _ = pN (fun k => B (tS B N p + k)) l m * 32 + (B (tS B N p + (l - 1 - m)) - 96)
          have e3 : shl (pN (fun k => B (tS B N p + k)) l m) 5 = pN (fun k => B (tS B N p + k)) l m * 2 ^ 5 := rfl
          rw [e3, this]
          show _ * 32 + _ = _
          omega
        rw [eo, show tS B N p + (l - 1 - m) + -1 = tS B N p + l - 1 - ((m + 1 : Nat) : Int) by omega]
        exact ih (m + 1) (by omega) (by omega)
  have h9 := key F 0 (by omega) (by omega)
  rw [show tS B N p + l - 1 - ((0 : Nat) : Int) = tE B N p - 1 by omega] at h9
  exact h9
theorem c_nameNo (hF : 1000 ≤ F) (h : CS u B N p) (hn : ¬ IsNm B N p) : ∃ u', f_X9_nameHere F 5 u = some (-1, u') ∧ CF u' B N 1 (tS B N p) ∧ Fk u u' := by
  have hb := h.bd
  obtain ⟨u', e1, e2, e3⟩ := c_fail (F := F) (c := 1) h
  obtain ⟨h1, h2, h3, h4, h5⟩ := h
  unfold f_X9_nameHere
  rw [h2.2.2.1, h2.2.1, h2.1, gd_t (by omega), e1]
  by_cases c1 : tK B N p = 1
  · rw [if_pos c1, gd_t (by omega), if_neg (fun z => hn ⟨c1, z⟩), bk]
    exact ⟨u', rfl, e2, e3⟩
  · rw [if_neg c1, bk]
    exact ⟨u', rfl, e2, e3⟩
/-! numbers -/
def nbE (B : Int → Int) (N p lo hi : Int) : Int := if tK B N p = 2 then (if lo ≤ tV B N p ∧ tV B N p ≤ hi then 0 else 2) else 1
theorem c_numHere {lo hi : Int} (h : CS u B N p) (h1 : rg lo) (h2 : rg hi) : (nbE B N p lo hi = 0 → f_X9_isNumberHere F 5 lo hi u = some (true, u)) ∧ (¬ nbE B N p lo hi = 0 → ∃ u', f_X9_isNumberHere F 5 lo hi u = some (false, u') ∧ CF u' B N (nbE B N p lo hi) (tS B N p) ∧ Fk u u') := by
  have hb := h.bd
  have hv := tV_bd (B := B) hb.1.2 h.2.2.1
  obtain ⟨w1, e1, e2, e3⟩ := c_fail (F := F) (c := 1) h
  obtain ⟨w2, f1, f2, f3⟩ := c_fail (F := F) (c := 2) h
  obtain ⟨g1, g2, g3, g4, g5⟩ := h
  unfold f_X9_isNumberHere f_X9_isNumberHere_b30 nbE
  rw [g2.2.2.1, g2.2.2.2, e1, f1, gd_t (by omega)]
  by_cases c1 : tK B N p = 2
  · rw [if_pos c1, if_pos c1, gd_t (by omega), bk]
    by_cases c2 : lo ≤ tV B N p ∧ tV B N p ≤ hi
    · rw [if_pos c2, if_neg (by omega), gd_t h2, if_pos c2.2]
      exact ⟨fun _ => rfl, fun z => absurd rfl z⟩
    · rw [if_neg c2]
      refine ⟨fun z => absurd z (by decide), fun _ => ⟨w2, ?_, f2, f3⟩⟩
      by_cases c3 : tV B N p < lo
      · rw [if_pos c3]; rfl
      · rw [if_neg c3, gd_t h2, if_neg (by omega)]; rfl
  · rw [if_neg c1, if_neg c1, bk]
    exact ⟨fun z => absurd z (by decide), fun _ => ⟨w1, rfl, e2, e3⟩⟩
theorem c_takeNum {lo hi : Int} (hF : 1000 ≤ F) (h : CS u B N p) (h1 : rg lo) (h2 : rg hi) : (nbE B N p lo hi = 0 → ∃ u', f_X9_takeNumber F 5 lo hi u = some (tV B N p, u') ∧ CS u' B N (tE B N p) ∧ Fk u u') ∧ (¬ nbE B N p lo hi = 0 → ∃ u', f_X9_takeNumber F 5 lo hi u = some (-1, u') ∧ CF u' B N (nbE B N p lo hi) (tS B N p) ∧ Fk u u') := by
  obtain ⟨a1, a2⟩ := c_numHere (F := F) h h1 h2
  unfold f_X9_takeNumber
  refine ⟨fun z => ?_, fun z => ?_⟩
  · obtain ⟨u', e1, e2, e3⟩ := c_next hF h
    rw [a1 z, bk, if_pos rfl, lti, e1, bs, h.2.1.2.2.2]
    exact ⟨u', rfl, e2, e3⟩
  · obtain ⟨u', e1, e2, e3⟩ := a2 z
    rw [e1, bk]
    exact ⟨u', rfl, e2, e3⟩
def smE (B : Int → Int) (N p : Int) : Int := if tK B N p = 3 then 0 else 1
theorem c_semi (hF : 1000 ≤ F) (h : CS u B N p) : (smE B N p = 0 → ∃ u', f_X9_isSemicolonTaken F 5 u = some (true, u') ∧ CS u' B N (tE B N p) ∧ Fk u u') ∧ (¬ smE B N p = 0 → ∃ u', f_X9_isSemicolonTaken F 5 u = some (false, u') ∧ CF u' B N (smE B N p) (tS B N p) ∧ Fk u u') := by
  have hb := h.bd
  obtain ⟨w1, e1, e2, e3⟩ := c_fail (F := F) (c := 1) h
  obtain ⟨w2, f1, f2, f3⟩ := c_next (F := F) hF h
  unfold f_X9_isSemicolonTaken smE
  rw [h.2.1.2.2.1, gd_t (by omega), e1, f1]
  by_cases c1 : tK B N p = 3
  · rw [if_pos c1, if_pos c1]
    exact ⟨fun _ => ⟨w2, rfl, f2, f3⟩, fun z => absurd rfl z⟩
  · rw [if_neg c1, if_neg c1, bk]
    exact ⟨fun z => absurd z (by decide), fun _ => ⟨w1, rfl, e2, e3⟩⟩
end CTok
