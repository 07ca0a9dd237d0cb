/-! ===== a name's letters ===== -/
def dg (l : Int) (f : Int → Int) (k : Int) : Int := if k < l then f k - 96 else 0
theorem nm_dg (l : Int) (f : Int → Int) : nm l f = dg l f 0 + 32 * dg l f 1 + 1024 * dg l f 2 + 32768 * dg l f 3 + 1048576 * dg l f 4 + 33554432 * dg l f 5 := rfl
theorem nm_bd {l : Int} {f : Int → Int} (h : ∀ k, 0 ≤ k → k < l → 97 ≤ f k ∧ f k ≤ 122) : ∀ k, 0 ≤ k → 0 ≤ dg l f k ∧ dg l f k ≤ 26 := fun k k0 => by
  unfold dg
  split
  · rename_i c
    have := h k k0 c
    omega
  · omega
theorem nm_at {l : Int} {f : Int → Int} (h : ∀ k, 0 ≤ k → k < l → 97 ≤ f k ∧ f k ≤ 122) {k : Int} (hk : 0 ≤ k ∧ k < 6) : (0 ≤ nm l f ∧ nm l f < 1073741824) ∧ andI (shr (nm l f) (5 * k)) 31 = dg l f k := by
  have b0 := nm_bd h 0 (by decide)
  have b1 := nm_bd h 1 (by decide)
  have b2 := nm_bd h 2 (by decide)
  have b3 := nm_bd h 3 (by decide)
  have b4 := nm_bd h 4 (by decide)
  have b5 := nm_bd h 5 (by decide)
  rw [nm_dg]
  have hk' : k = 0 ∨ k = 1 ∨ k = 2 ∨ k = 3 ∨ k = 4 ∨ k = 5 := by omega
  have hb : 0 ≤ dg l f 0 + 32 * dg l f 1 + 1024 * dg l f 2 + 32768 * dg l f 3 + 1048576 * dg l f 4 + 33554432 * dg l f 5 ∧ dg l f 0 + 32 * dg l f 1 + 1024 * dg l f 2 + 32768 * dg l f 3 + 1048576 * dg l f 4 + 33554432 * dg l f 5 < 1073741824 := by omega
  refine ⟨hb, ?_⟩
  obtain ⟨N, hN⟩ : ∃ N, N = dg l f 0 + 32 * dg l f 1 + 1024 * dg l f 2 + 32768 * dg l f 3 + 1048576 * dg l f 4 + 33554432 * dg l f 5 := ⟨_, rfl⟩
  rw [← hN] at hb ⊢
  rcases hk' with e | e | e | e | e | e <;> subst e
  · have e : shr N (5 * 0) = N := by unfold shr; show N / 1 = N; omega
    rw [e, andI_31 (by omega)]; omega
  · have e : shr N (5 * 1) = N / 32 := rfl
    rw [e, andI_31 (by omega)]; omega
  · have e : shr N (5 * 2) = N / 1024 := rfl
    rw [e, andI_31 (by omega)]; omega
  · have e : shr N (5 * 3) = N / 32768 := rfl
    rw [e, andI_31 (by omega)]; omega
  · have e : shr N (5 * 4) = N / 1048576 := rfl
    rw [e, andI_31 (by omega)]; omega
  · have e : shr N (5 * 5) = N / 33554432 := rfl
    rw [e, andI_31 (by omega)]; omega
def letr (r : Row) (x k : Int) : Int := if 0 ≤ k ∧ k < r (25 + 13 * x) then r (25 + 13 * x + 1 + k) else -1
theorem c_letter {F : Nat} {b : Nat} {w : aI} {r : Row} {x k : Int} (hP : Pb b) (h : Rep w b r) (h0 : r 0 ≤ 10) (hx : 0 ≤ x ∧ x < r 0) (hX : Wx r x) (hk : rg k) : f_X2_letterOf F b x k w = some (letr r x k) := by
  obtain ⟨u0, u1, -⟩ := hX
  unfold f_X2_letterOf letr
  rw [gd_t hk]
  by_cases c1 : k < 0
  · rw [if_pos c1, if_neg (by omega)]
  · rw [if_neg c1]
    by_cases c2 : k < 6
    · rw [if_pos c2, pf4 hP, getX hP h.1.1 (by omega) (by omega), bs, (h.2.2.2.1.1 x hx.1 hx.2).2.2.2.2.2.1]
      unfold nmR
      obtain ⟨a1, a2⟩ := nm_at (l := r (25 + 13 * x)) (f := fun k => r (25 + 13 * x + 1 + k)) u1 (k := k) (by omega)
      rw [gd_t (by omega), gd_t (by omega), a2, lti]
      unfold dg
      by_cases c3 : k < r (25 + 13 * x)
      · have := u1 k (by omega) c3
        rw [if_pos c3]
        dsimp only
        rw [gd_t (by omega), if_neg (by omega), if_pos (by omega)]
        exact congrArg some (by omega)
      · rw [if_neg c3, gd_t (by omega), if_pos rfl, if_neg (by omega)]
    · rw [if_neg c2, if_neg (by omega)]
theorem top_nameByte {F : Nat} (hF : 20000 ≤ F) {x k : Int} (hx : rg x) (hk : rg k) : TopR [eIO] (f_X10_nameByte F 0 x k) (f_X11_nameByte F 210 x k) := by
  intro w hI
  obtain ⟨hN, hW, h3⟩ := hI.2.2.2.2.1
  obtain ⟨b0, b1, b2, b3, -⟩ := hW.1
  unfold f_X10_nameByte f_X11_nameByte
  rw [c_needRoof hN hx (by omega), bN rfl, k5, m_isRoof hx (by omega), bs]
  by_cases c : 0 ≤ x ∧ x < w 211 0
  · have hX := hW.2.1 x c.1 c.2
    rw [if_pos c, decide_eq_true c, c_letter P12 hN b0.2 c hX hk, bs, show f_X11_may F 210 (bI true) 1 1 w = some (true, iset w 210 6 0) from may1t, bk, if_pos rfl]
    refine ⟨.inl (letr (w 211) x k), letr (w 211) x k, iset w 210 6 0, rfl, ?_, hI.thr 0, thr_at w 0, rfl⟩
    have hl := hX.1
    rw [gd_t hk, m_r, bs, m0, n0, thr_211, gd_t (by omega), gd_t (by omega), m_in (by omega) (by decide) (by omega), bs]
    unfold letr
    by_cases c2 : 0 ≤ k ∧ k < w 211 (25 + 13 * x)
    · rw [if_pos c2, decide_eq_true (by omega), if_pos rfl, bs, gd_t (by omega)]
    · rw [if_neg c2, decide_eq_false (by omega), if_neg (by decide)]
  · rw [if_neg c, decide_eq_false c, show f_X11_may F 210 (bI false) 1 1 w = some (false, iset w 210 6 1) from may3a (b := true) (c := true), bk]
    refine ⟨.inr eIO, 0, iset w 210 6 1, rfl, rfl, hI.thr 1, ?_⟩
    rw [thr_at]; exact ⟨by decide, by decide, by decide⟩
