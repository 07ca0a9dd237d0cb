/-! ===== the law finds the class alike ===== -/
theorem bt0 {T : Type} (v : Int) (w : aI) (K : Int → aI → Option T) : bTW (some (.inl v, w)) K = K v w := rfl
theorem LwR.ov {w z : aI} {r : Row} (h : LwR w r) (hW : WF r) (e : ∀ a, 210 ≤ a → z a = w a) : LwR z r := by
  obtain ⟨h05, hA, hX, hWy, hS, hT, hNn, hD⟩ := h
  have b1 := hW.1.2.1
  have hy : ∀ t, 0 ≤ t → t < r 2 → r (220 + 27 * t + 2) ≤ 8 := fun t t0 t1 => (hW.2.2.2.1 t t0 t1).2.2.2.1.2
  refine ⟨h05, hA.keep (e 300 (by decide)) (fun _ _ _ => rfl) (fun t _ => by rw [e 325 (by decide), e 326 (by decide)]; exact ⟨rfl, rfl⟩), hX.keep h05 rfl (fun a p1 p2 => e a (by omega)) (fun _ _ _ => rfl), hWy.sw h05 b1 (SameW.refl r) (fun a p1 p2 => e a (by omega)), hS.sw h05 b1 (SameW.refl r) (fun a p1 p2 => e a (by omega)), fun t t0 t1 => (hT t t0 t1).of (fun a p1 p2 => by rw [e a (by omega)]) (fun _ _ _ => rfl), fun t t0 t1 => (hNn t t0 t1).of (hy t t0 t1) (e _ (by omega)) (e _ (by omega)) (fun _ _ _ => rfl), by rw [e 999 (by decide)]; exact hD.1, fun k k0 k1 => ?_⟩
  rw [e 329 (by decide), e 330 (by decide)]
  exact hD.2 k k0 k1
section Lk
variable {F : Nat} {w : aI} {r : Row} {m : Int}
theorem lk_note (hF : 100 ≤ F) (h : LwR w r) (hK : CK w r) {k270 : Int → aI → Option (Bool × aI)} {t : Int} (ht : 0 ≤ t ∧ t < r 2) : ∀ (n : Nat) (k : Int), 0 ≤ k → k ≤ r (220 + 27 * t + 2) → r (220 + 27 * t + 2) - k < n → f_L_isLike_b404 F 300 0 k270 n t k w = k270 (t + 1) w := by
  have hW := hK.2.1.2.1
  obtain ⟨l319, l320, l321, l322, l323, l324, l325, l326, l327, l328, l329, l330⟩ := ll30
  have b2 := hW.1.2.2.1
  obtain ⟨y0, y1, y2, y3, y4, y5, y6, y7, y8, y9, y10, y11, y12, y13, y14, y15⟩ := hW.2.2.2.1 t ht.1 ht.2
  obtain ⟨g1, g2⟩ := h.2.2.2.2.2.2.2.snt b2 ht
  obtain ⟨g3, g4⟩ := h.2.2.2.2.2.2.2.hrd b2 ht
  obtain ⟨n1, n2, n3⟩ := h.2.2.2.2.2.2.1 t ht.1 ht.2
  intro n
  induction n with
  | zero => intro k k0 k1 k2; omega
  | succ n ih =>
    intro k k0 k1 k2
    show f_L_isLike_b404_b F 300 0 k270 (f_L_isLike_b404 F 300 0 k270 n) t k w = _
    unfold f_L_isLike_b404_b
    rw [lf18, lf19, gd_t (by omega), gd_t g1, g2, n1, gd_t (by omega), gd_t (by omega)]
    by_cases c : r (220 + 27 * t + 2) ≤ k
    · rw [if_pos c]
    · have z1 := y12 (220 + 27 * t + 11 + k) (by omega) (by omega)
      have z2 := y12 (220 + 27 * t + 19 + k) (by omega) (by omega)
      obtain ⟨a1, a2⟩ := n3 k k0 (by omega)
      rw [if_neg c, k_note hK ht ⟨k0, by omega⟩ (Or.inr rfl), bt0, if_neg (by decide), gd_t g3, g4, n2, gd_t (by omega), a2, gd_t (by omega), if_pos rfl, k_note hK ht ⟨k0, by omega⟩ (Or.inl rfl), bt0, if_pos rfl, gd_t g1, g2, n1, gd_t (by omega), a1, gd_t (by omega), if_pos rfl]
      exact ih (k + 1) (by omega) (by omega) (by omega)
theorem lk_tune (hF : 100 ≤ F) (h : LwR w r) (hK : CK w r) (hB : Bd r m) (hm : m ≤ 100) : ∀ (n : Nat) (t : Int), 0 ≤ t → t ≤ r 2 → r 2 - t < n → f_L_isLike_b270 F 300 0 n t w = bKW (f_X10_agree F 0 w) (fun r33 w34 => some (r33, w34)) := by
  have hW := hK.2.1.2.1
  obtain ⟨l319, l320, l321, l322, l323, l324, l325, l326, l327, l328, l329, l330⟩ := ll30
  have b0 := hW.1.1
  have b2 := hW.1.2.2.1
  have b3 := hW.1.2.2.2.1
  have h3 := hB.2.1
  intro n
  induction n with
  | zero => intro t t0 t1 t2; omega
  | succ n ih =>
    intro t t0 t1 t2
    show f_L_isLike_b270_b F 300 0 (f_L_isLike_b270 F 300 0 n) t w = _
    unfold f_L_isLike_b270_b
    rw [h.2.1.2.1, gd_t (by omega), gd_t (by omega)]
    by_cases c : r 2 ≤ t
    · rw [if_pos c]
    · have ht : 0 ≤ t ∧ t < r 2 := ⟨t0, by omega⟩
      obtain ⟨y0, y1, y2, y3, y4, y5, y6, y7, y8, y9, y10, y11, y12, y13, y14, y15⟩ := hW.2.2.2.1 t ht.1 ht.2
      obtain ⟨⟨u1, u2, u3, u4, u5, u6, u7, u8⟩, u9, u10⟩ := h.2.2.2.2.2.1 t ht.1 ht.2
      have hh := hops_le hW ht
      have kt : ∀ v : Int, 0 ≤ v ∧ v ≤ 8 → f_X10_tune F 0 t v w = some (.inl (r (220 + 27 * t + v)), w) := fun v hv => by
        rw [k_tune hF hK ht (by omega) (by omega) (by omega), if_neg (by omega)]
      have k11 : f_X10_tune F 0 t 11 w = some (.inl (r (220 + 27 * t + 9)), w) := by
        rw [k_tune hF hK ht (by omega) (by omega) (by omega), if_pos rfl]
      have e0 : 220 + 27 * t + 0 = 220 + 27 * t := by omega
      have k49 : f_L_isLike_b349 F 300 0 (f_L_isLike_b270 F 300 0 n) t (r (220 + 27 * t + 5)) (r (220 + 27 * t + 5)) w = f_L_isLike_b270 F 300 0 n (t + 1) w := by
        unfold f_L_isLike_b349
        rw [lf17, lf14, lf15, l328, l325, l326, gd_t (by omega), gd_t (by omega), if_pos rfl, kt 6 (by decide), bt0, gd_t (by omega), u8, gd_t (by omega), if_pos rfl, kt 8 (by decide), bt0, gd_t (by omega), u5, gd_t (by omega), if_pos rfl, k11, bt0, gd_t (by omega), u6, gd_t (by omega), if_pos rfl]
        exact lk_note hF h hK ht F 0 (by decide) (by omega) (by omega)
      rw [if_neg c, lf8, lf10, lf11, lf12, l319, l321, l322, l323, kt 0 (by decide), bt0, gd_t (by omega), u1, e0, gd_t (by omega), if_pos rfl, kt 3 (by decide), bt0, gd_t (by omega), u3, gd_t (by omega), if_pos rfl, kt 4 (by decide), bt0, gd_t (by omega), u4, gd_t (by omega), if_pos rfl, kt 5 (by decide), bt0, gd_t (by omega), u3, gd_t (by omega)]
      by_cases c1 : r (220 + 27 * t + 3) = 1
      · rw [if_pos c1, gd_t (by omega), (u9 c1).1, k49]
        exact ih (t + 1) (by omega) (by omega) (by omega)
      · have e5 := u10 c1
        rw [e5] at k49
        rw [if_neg c1, e5, k49]
        exact ih (t + 1) (by omega) (by omega) (by omega)
theorem lk_go (hF : 100 ≤ F) (h : LwR w r) (hK : CK w r) {k129 : Int → aI → Option (Bool × aI)} {x : Int} (hx : 0 ≤ x ∧ x < r 0) : ∀ (n : Nat) (g : Int), 0 ≤ g → g ≤ r 0 → r 0 - g < n → f_L_isLike_b196 F 300 0 k129 n x g w = k129 (x + 1) w := by
  have hW := hK.2.1.2.1
  have b0 := hW.1.1
  have b1 := hW.1.2.1
  have h5 := h.1
  have l313 := ll5.2.2.2.2.2.2.2
  intro n
  induction n with
  | zero => intro t t0 t1 t2; omega
  | succ n ih =>
    intro g g0 g1 g2
    show f_L_isLike_b196_b F 300 0 k129 (f_L_isLike_b196 F 300 0 k129 n) x g w = _
    unfold f_L_isLike_b196_b
    rw [h.2.1.1, gd_t (by omega), gd_t (by omega)]
    by_cases c : r 0 ≤ g
    · rw [if_pos c]
    · have hg : 0 ≤ g ∧ g < r 0 := ⟨g0, by omega⟩
      obtain ⟨s1, s2⟩ := lsum (x := x) (by omega)
      have hs := h.2.2.2.2.1 x g hx.1 hx.2 hg.1 hg.2
      have hd := dist_bd b0 b1 hW.2.2.1 (W := -1) (by decide) hg hx
      have hn := nxt_rg r x g
      have k36 : f_L_isLike_b236 F 300 0 k129 (f_L_isLike_b196 F 300 0 k129 n) x g (dist r (-1) g x) (dist r (-1) g x) w = k129 (x + 1) w := by
        unfold f_L_isLike_b236
        rw [gd_t (by omega), gd_t (by omega), if_pos rfl, k_next hK ⟨hx, hg⟩, bt0, l_next hF h hW hx hg, bs, gd_t (by omega), if_pos rfl]
        exact ih (g + 1) (by omega) (by omega) (by omega)
      rw [if_neg c, k_route hK ⟨hx, hg⟩, bt0, lf7, l313, gd_t (by omega), s1, s2, gd_t (by omega), hs]
      by_cases cd : dist r (-1) g x = -1
      · rw [cd] at k36
        rw [if_pos cd, cd, gd_t (by decide), if_pos (by decide), k36]
      · rw [if_neg cd, gd_t (by omega), if_neg (by omega), gd_t (by omega), gd_t (by omega), k36]
theorem lk_roof (hF : 100 ≤ F) (h : LwR w r) (hK : CK w r) (hB : Bd r m) (hm : m ≤ 100) : ∀ (n : Nat) (x : Int), 0 ≤ x → x ≤ r 0 → r 0 - x < n → f_L_isLike_b129 F 300 0 n x w = f_L_isLike_b270 F 300 0 F 0 w := by
  have hW := hK.2.1.2.1
  obtain ⟨l301, l302, l303, l304, l305, l306, l307, l313⟩ := ll5
  have b0 := hW.1.1
  have b3 := hW.1.2.2.2.1
  have h3 := hB.2.1
  have h5 := h.1
  intro n
  induction n with
  | zero => intro t t0 t1 t2; omega
  | succ n ih =>
    intro x x0 x1 x2
    show f_L_isLike_b129_b F 300 0 (f_L_isLike_b129 F 300 0 n) x w = _
    unfold f_L_isLike_b129_b
    rw [h.2.1.1, gd_t (by omega), gd_t (by omega)]
    by_cases c : r 0 ≤ x
    · rw [if_pos c]
    · have hx : 0 ≤ x ∧ x < r 0 := ⟨x0, by omega⟩
      obtain ⟨u1, u2, u3, u4, u5, u6⟩ := h.2.2.1 x hx.1 hx.2
      obtain ⟨p0, p1, p2, p3, p4, p5, p6⟩ := hW.2.1 x hx.1 hx.2
      have e12 := hB.1 (25 + 13 * x + 12) (Or.inr (Or.inr (Or.inr (Or.inr ⟨x, hx.1, by omega, rfl⟩))))
      have e22 : w 300 22 = r 3 := h.2.1.2.2.1
      rw [if_neg c, lf3, lf4, lf5, l304, l305, l306, k_roof hK hx (Or.inl rfl), bt0, if_neg (by decide), if_neg (by decide), gd_t (by omega), u4, gd_t (by omega), if_pos rfl, k_roof hK hx (Or.inr (Or.inl rfl)), bt0, if_pos rfl, gd_t (by omega), u5, e22, gd_t (by omega), gd_t (by omega), if_pos rfl, k_roof hK hx (Or.inr (Or.inr rfl)), bt0, if_neg (by decide), if_pos rfl, gd_t (by omega), u6, gd_t (by omega), if_pos rfl]
      rw [lk_go hF h hK hx F 0 (by decide) (by omega) (by omega)]
      exact ih (x + 1) (by omega) (by omega) (by omega)
theorem l_isLike (hF : 20000 ≤ F) (h : LwR w r) (hK : CK w r) (hB : Bd r m) (hm : m ≤ 100) : ∃ z, f_L_isLike F 300 0 w = some (true, z) ∧ LwR z r ∧ CK z r := by
  have hW := hK.2.1.2.1
  obtain ⟨b0, b1, b2, b3, b4, b5, b6⟩ := hW.1
  have h3 := hB.2.1
  have e12 := hB.1 12 (Or.inl rfl)
  have e14 := hB.1 14 (Or.inr (Or.inl rfl))
  have e17 := hB.1 17 (Or.inr (Or.inr (Or.inl rfl)))
  have e19 := hB.1 19 (Or.inr (Or.inr (Or.inr (Or.inl rfl))))
  have e13 := r13_bd hW
  obtain ⟨e15, e16, e18⟩ := r15_bd hW
  obtain ⟨q20, q21, q22, q23, q24, q25, q26, q27, q28, q29, q30, q31, q32, q33, qz⟩ := h.2.1
  have a2 : f_X10_count F 0 2 w = some (.inl (r 2), w) := k_count hF hK (by decide)
  have a7 : f_X10_count F 0 7 w = some (.inl (r 3), w) := k_count hF hK (by decide)
  have ka : ∀ v : Int, 0 ≤ v ∧ v ≤ 10 → f_X10_account F 0 v w = some (.inl (r (10 + v)), w) := fun v hv => k_account hK hv
  have ka2 : f_X10_account F 0 2 w = some (.inl (r 12), w) := ka 2 (by decide)
  have ka3 : f_X10_account F 0 3 w = some (.inl (r 13), w) := ka 3 (by decide)
  have ka4 : f_X10_account F 0 4 w = some (.inl (r 14), w) := ka 4 (by decide)
  have ka5 : f_X10_account F 0 5 w = some (.inl (r 15), w) := ka 5 (by decide)
  have ka6 : f_X10_account F 0 6 w = some (.inl (r 16), w) := ka 6 (by decide)
  have ka7 : f_X10_account F 0 7 w = some (.inl (r 17), w) := ka 7 (by decide)
  have ka8 : f_X10_account F 0 8 w = some (.inl (r 18), w) := ka 8 (by decide)
  have ka9 : f_X10_account F 0 9 w = some (.inl (r 19), w) := ka 9 (by decide)
  obtain ⟨z, z1, z2, z3⟩ := k_agree hF hK
  unfold f_L_isLike
  rw [gd_t (h.2.2.2.2.2.2.2.n9 b2), a2, bt0, q21, gd_t (by omega), if_pos rfl, a7, bt0, q22, gd_t (by omega), if_pos rfl, ka2, bt0, q26, gd_t (by omega), if_pos rfl, ka3, bt0, q33, gd_t (by omega), if_pos rfl, ka4, bt0, q27, gd_t (by omega), if_pos rfl, ka5, bt0, q28, gd_t (by omega), if_pos rfl, ka6, bt0, q29, gd_t (by omega), if_pos rfl, ka7, bt0, q30, gd_t (by omega), if_pos rfl, ka8, bt0, q31, gd_t (by omega), if_pos rfl, ka9, bt0, q32, gd_t (by omega), if_pos rfl, lk_roof (by omega) h hK hB hm F 0 (by decide) (by omega) (by omega), lk_tune (by omega) h hK hB hm F 0 (by decide) (by omega) (by omega), z1, bk]
  exact ⟨z, rfl, h.ov hW z3, z2⟩
end Lk
