/-! ===== what is put out ===== -/
def addO (w : aI) (c : Int) : aI := iset (iset w 4 (w 3 1) c) 3 1 (w 3 1 + 1)
def addP (w : aI) (c : Int) : aI := iset (iset w 222 (w 210 27) (i2bI c)) 210 27 (w 210 27 + 1)
def outO (w : aI) (l : List Int) : aI := l.foldl addO w
def outP (w : aI) (l : List Int) : aI := l.foldl addP w
theorem outO_app (w : aI) (l m : List Int) : outO w (l ++ m) = outO (outO w l) m := List.foldl_append
theorem outP_app (w : aI) (l m : List Int) : outP w (l ++ m) = outP (outP w l) m := List.foldl_append
theorem outO_n (l : List Int) : ∀ w, outO w l 3 1 = w 3 1 + l.length := by
  induction l with
  | nil => intro w; exact (Int.add_zero _).symm
  | cons c l ih =>
    intro w
    show outO (addO w c) l 3 1 = _
    rw [ih, addO, is_eq, rs_self, List.length_cons]
    omega
theorem outP_n (l : List Int) : ∀ w, outP w l 210 27 = w 210 27 + l.length := by
  induction l with
  | nil => intro w; exact (Int.add_zero _).symm
  | cons c l ih =>
    intro w
    show outP (addP w c) l 210 27 = _
    rw [ih, addP, is_eq, rs_self, List.length_cons]
    omega
theorem outO_o (l : List Int) {a : Nat} (h3 : ¬ a = 3) (h4 : ¬ a = 4) : ∀ w, outO w l a = w a := by
  induction l with
  | nil => intro w; rfl
  | cons c l ih =>
    intro w
    show outO (addO w c) l a = _
    rw [ih, addO, is_ne h3, is_ne h4]
theorem outP_o (l : List Int) {a : Nat} (h3 : ¬ a = 210) (h4 : ¬ a = 222) : ∀ w, outP w l a = w a := by
  induction l with
  | nil => intro w; rfl
  | cons c l ih =>
    intro w
    show outP (addP w c) l a = _
    rw [ih, addP, is_ne h3, is_ne h4]
theorem outP_f (l : List Int) {k : Int} (hk : ¬ k = 27) : ∀ w, outP w l 210 k = w 210 k := by
  induction l with
  | nil => intro w; rfl
  | cons c l ih =>
    intro w
    show outP (addP w c) l 210 k = _
    rw [ih, addP, is_eq, rs_ne hk, is_ne (by decide)]
/-- both have put out the same -/
def JO (u v : aI) : Prop := u 3 1 = v 210 27 ∧ 0 ≤ v 210 27 ∧ ∀ k, 0 ≤ k → k < v 210 27 → rg (v 222 k) ∧ u 4 k = v 222 k
def Asc (l : List Int) : Prop := ∀ c ∈ l, 0 ≤ c ∧ c ≤ 127
theorem JO.out {l : List Int} : ∀ {u v : aI}, JO u v → Asc l → JO (outO u l) (outP v l) := by
  induction l with
  | nil => intro u v h _; exact h
  | cons c l ih =>
    intro u v h hl
    obtain ⟨h1, h2, h3⟩ := h
    have hc := hl c List.mem_cons_self
    have e0 : i2bI c = c := by unfold i2bI; omega
    refine ih (u := addO u c) (v := addP v c) ⟨?_, ?_, fun k k0 k1 => ?_⟩ (fun d hd => hl d (List.mem_cons_of_mem _ hd))
    · rw [addO, addP, is_eq, is_eq, rs_self, rs_self, h1]
    · rw [addP, is_eq, rs_self]; omega
    · have e1 : addO u c 4 = rs (u 4) (v 210 27) c := by rw [addO, is_ne (by decide), is_eq, h1]
      have e2 : addP v c 222 = rs (v 222) (v 210 27) c := by rw [addP, is_ne (by decide), is_eq, e0]
      rw [addP, is_eq, rs_self] at k1
      rw [e1, e2]
      by_cases ck : k = v 210 27
      · rw [ck, rs_self, rs_self]; exact ⟨by omega, rfl⟩
      · rw [rs_ne ck, rs_ne ck]; exact h3 k k0 (by omega)
theorem c_out {F : Nat} {w : aI} {c : Int} (h : 0 ≤ w 3 1 ∧ w 3 1 < 400) : f_X0_add F 3 c w = some (outO w [c]) := by
  unfold f_X0_add
  rw [show shR 3 0 = 4 by decide +kernel, show shL 4 = 400 by decide +kernel, gd_t (by omega), if_neg (by omega), if_neg (by omega), gd_t (by omega), ltm, is_ne (show ¬ (3 : Nat) = 4 by decide), ltm]
  rfl
theorem m_out {F : Nat} {w : aI} {c : Int} (h : 0 ≤ w 210 27 ∧ w 210 27 < 300) : f_X11_says F 210 c w = some (outP w [c]) := by
  have hr : -128 ≤ i2bI c ∧ i2bI c ≤ 127 := by unfold i2bI; omega
  unfold f_X11_says
  rw [m26, n26, gd_t ⟨by unfold inI; omega, hr⟩, ltm, is_ne (show ¬ (210 : Nat) = 222 by decide), ltm]
  rfl
/-! numbers -/
def digT : Nat → Int → List Int
  | 0, n => [48 + n / 1 % 10]
  | k + 1, n => (48 + n / tn (k + 1) % 10) :: digT k n
def numT (n : Int) : List Int := digT (dN 6 (n / 10)) n
theorem tn_pos : ∀ k, 1 ≤ tn k := by
  intro k; induction k with
  | zero => exact Int.le_refl _
  | succ k ih => rw [tn]; omega
theorem tn_le : ∀ {k : Nat}, k ≤ 6 → tn k ≤ 1000000 := by
  intro k h
  have hk : k = 0 ∨ k = 1 ∨ k = 2 ∨ k = 3 ∨ k = 4 ∨ k = 5 ∨ k = 6 := by omega
  rcases hk with e | e | e | e | e | e | e <;> subst e <;> decide
theorem dN_ge : ∀ (n : Nat) (p : Int) (j : Nat), j < dN n p → tn j ≤ p := by
  intro n; induction n with
  | zero => intro p j h; exact absurd h (Nat.not_lt_zero _)
  | succ n ih =>
    intro p j h
    rw [dN] at h
    split at h
    · exact absurd h (Nat.not_lt_zero _)
    · cases j with
      | zero => show (1 : Int) ≤ p; omega
      | succ j => have := ih (p / 10) j (by omega); rw [tn]; omega
theorem digT_len : ∀ (k : Nat) (n : Int), (digT k n).length = k + 1 := by
  intro k; induction k with
  | zero => intro n; rfl
  | succ k ih => intro n; rw [digT, List.length_cons, ih]
theorem digT_asc : ∀ (k : Nat) (n : Int), Asc (digT k n) := by
  intro k; induction k with
  | zero => intro n c hc; rw [digT, List.mem_singleton] at hc; omega
  | succ k ih =>
    intro n c hc
    rw [digT, List.mem_cons] at hc
    rcases hc with e | e
    · omega
    · exact ih n c e
theorem numT_len (n : Int) : 1 ≤ (numT n).length ∧ (numT n).length ≤ 7 := by
  unfold numT
  rw [digT_len]
  have := dN_le 6 (n / 10)
  omega
theorem tdq {n : Int} {k : Nat} (h : 0 ≤ n) (hn : n ≤ 999999) : Int.tdiv n (tn k) = n / tn k ∧ 0 ≤ n / tn k ∧ n / tn k ≤ n := by
  have hp := tn_pos k
  refine ⟨td _ h, Int.ediv_nonneg h (by omega), ?_⟩
  exact Int.ediv_le_self _ h
theorem qle {n : Int} {k : Nat} (h : 0 ≤ n) : (n / tn k ≤ 9) ↔ ¬ tn k ≤ n / 10 := by
  have hp := tn_pos k
  have e : n / tn k ≤ 9 ↔ n / tn k < 10 := by omega
  rw [e, Int.ediv_lt_iff_lt_mul (by omega)]
  omega
section Num
variable {F : Nat} {n : Int}
theorem c_num24 (h0 : 0 ≤ n) (h9 : n ≤ 999999) : ∀ (k m : Nat) (w : aI), k + 1 < m → k ≤ 6 → 0 ≤ w 3 1 → w 3 1 + k < 400 → f_X0_addNumber_b24 F 3 n m (tn k) w = some (outO w (digT k n)) := by
  intro k
  induction k with
  | zero =>
    intro m w hm hk w0 w1
    obtain ⟨m, rfl⟩ : ∃ j, m = j + 2 := ⟨m - 2, by omega⟩
    have st : ∀ (v : Int), v = 1 → f_X0_addNumber_b24 F 3 n (m + 1 + 1) v w = some (outO w [48 + n / 1 % 10]) := by
      intro v hv
      show f_X0_addNumber_b24_b F 3 n (f_X0_addNumber_b24 F 3 n (m + 1)) _ _ = _
      unfold f_X0_addNumber_b24_b
      rw [gd_t (by omega), if_neg (by omega), gd_t (by omega), gd_t (by omega), hv, td 1 h0, gd_t (by omega), tm 10 (by omega), c_out (by omega), bs, lti]
      have st2 : ∀ (u : Int) (w : aI), u = 0 → f_X0_addNumber_b24 F 3 n (m + 1) u w = some w := by
        intro u w hu
        show f_X0_addNumber_b24_b F 3 n (f_X0_addNumber_b24 F 3 n m) _ _ = _
        unfold f_X0_addNumber_b24_b
        rw [gd_t (by omega), if_pos (by omega)]
      exact st2 _ _ (by decide)
    exact st 1 rfl
  | succ k ih =>
    intro m w hm hk w0 w1
    obtain ⟨m, rfl⟩ : ∃ j, m = j + 1 := ⟨m - 1, by omega⟩
    have hp := tn_pos (k + 1)
    have hl := tn_le hk
    obtain ⟨q1, q2, q3⟩ := tdq (k := k + 1) h0 h9
    show f_X0_addNumber_b24_b F 3 n (f_X0_addNumber_b24 F 3 n m) _ _ = _
    unfold f_X0_addNumber_b24_b
    have e : Int.tdiv (tn (k + 1)) 10 = tn k := by rw [td 10 (by omega), tn]; omega
    rw [gd_t (by omega), if_neg (by omega), gd_t (by omega), gd_t (by omega), q1, gd_t (by omega), tm 10 q2, c_out (by omega), bs, lti, e, ih m _ (by omega) (by omega) (by rw [outO_n]; simp only [List.length_singleton]; omega) (by rw [outO_n]; simp only [List.length_singleton]; omega)]
    rfl
theorem m_num18 (h0 : 0 ≤ n) (h9 : n ≤ 999999) : ∀ (k m : Nat) (w : aI), k + 1 < m → k ≤ 6 → 0 ≤ w 210 27 → w 210 27 + k < 300 → f_X11_saysNumber_b18 F 210 n m (tn k) w = some (outP w (digT k n)) := by
  intro k
  induction k with
  | zero =>
    intro m w hm hk w0 w1
    obtain ⟨m, rfl⟩ : ∃ j, m = j + 2 := ⟨m - 2, by omega⟩
    have st : ∀ (v : Int), v = 1 → f_X11_saysNumber_b18 F 210 n (m + 1 + 1) v w = some (outP w [48 + n / 1 % 10]) := by
      intro v hv
      show f_X11_saysNumber_b18_b F 210 n (f_X11_saysNumber_b18 F 210 n (m + 1)) _ _ = _
      unfold f_X11_saysNumber_b18_b
      rw [gd_t (by omega), if_neg (by omega), gd_t (by omega), gd_t (by omega), hv, td 1 h0, gd_t (by omega), tm 10 (by omega), m_out (by omega), bs, lti]
      have st2 : ∀ (u : Int) (w : aI), u = 0 → f_X11_saysNumber_b18 F 210 n (m + 1) u w = some w := by
        intro u w hu
        show f_X11_saysNumber_b18_b F 210 n (f_X11_saysNumber_b18 F 210 n m) _ _ = _
        unfold f_X11_saysNumber_b18_b
        rw [gd_t (by omega), if_pos (by omega)]
      exact st2 _ _ (by decide)
    exact st 1 rfl
  | succ k ih =>
    intro m w hm hk w0 w1
    obtain ⟨m, rfl⟩ : ∃ j, m = j + 1 := ⟨m - 1, by omega⟩
    have hp := tn_pos (k + 1)
    have hl := tn_le hk
    obtain ⟨q1, q2, q3⟩ := tdq (k := k + 1) h0 h9
    show f_X11_saysNumber_b18_b F 210 n (f_X11_saysNumber_b18 F 210 n m) _ _ = _
    unfold f_X11_saysNumber_b18_b
    have e : Int.tdiv (tn (k + 1)) 10 = tn k := by rw [td 10 (by omega), tn]; omega
    rw [gd_t (by omega), if_neg (by omega), gd_t (by omega), gd_t (by omega), q1, gd_t (by omega), tm 10 q2, m_out (by omega), bs, lti, e, ih m _ (by omega) (by omega) (by rw [outP_n]; simp only [List.length_singleton]; omega) (by rw [outP_n]; simp only [List.length_singleton]; omega)]
    rfl
theorem c_num {w : aI} (hF : 100 ≤ F) (h0 : 0 ≤ n) (h9 : n ≤ 999999) (hw : 0 ≤ w 3 1 ∧ w 3 1 ≤ 390) : f_X0_addNumber F 3 n w = some (outO w (numT n)) := by
  have hk := dN_le 6 (n / 10)
  have top := dN_tn 6 (n / 10) (by omega) (by simp only [tn]; omega)
  have key : ∀ (d j m : Nat), j + d = dN 6 (n / 10) → d < m → f_X0_addNumber_b2 F 3 n m (tn j) w = some (outO w (numT n)) := by
    intro d
    induction d with
    | zero =>
      intro j m hj hm
      obtain ⟨m, rfl⟩ : ∃ i, m = i + 1 := ⟨m - 1, by omega⟩
      have ej : j = dN 6 (n / 10) := by omega
      subst ej
      have hp := tn_pos (dN 6 (n / 10))
      have hl := tn_le hk
      show f_X0_addNumber_b2_b F 3 n (f_X0_addNumber_b2 F 3 n m) _ _ = _
      unfold f_X0_addNumber_b2_b
      rw [gd_t (by omega), td 10 h0, gd_t (by omega), if_pos (by omega)]
      exact c_num24 h0 h9 _ F w (by omega) hk hw.1 (by omega)
    | succ d ih =>
      intro j m hj hm
      obtain ⟨m, rfl⟩ : ∃ i, m = i + 1 := ⟨m - 1, by omega⟩
      have hp := tn_pos j
      have hl := tn_le (k := j) (by omega)
      have hg := dN_ge 6 (n / 10) j (by omega)
      show f_X0_addNumber_b2_b F 3 n (f_X0_addNumber_b2 F 3 n m) _ _ = _
      unfold f_X0_addNumber_b2_b
      rw [gd_t (by omega), td 10 h0, gd_t (by omega), if_neg (by omega), if_neg (by omega), lti, Int.mul_comm]
      exact ih (j + 1) m (by omega) (by omega)
  exact key (dN 6 (n / 10)) 0 F (by omega) (by omega)
theorem m_num {w : aI} (hF : 100 ≤ F) (h0 : 0 ≤ n) (h9 : n ≤ 999999) (hw : 0 ≤ w 210 27 ∧ w 210 27 ≤ 290) : f_X11_saysNumber F 210 n w = some (outP w (numT n)) := by
  have hk := dN_le 6 (n / 10)
  have top := dN_tn 6 (n / 10) (by omega) (by simp only [tn]; omega)
  have key : ∀ (d j m : Nat), j + d = dN 6 (n / 10) → d < m → f_X11_saysNumber_b2 F 210 n m (tn j) w = some (outP w (numT n)) := by
    intro d
    induction d with
    | zero =>
      intro j m hj hm
      obtain ⟨m, rfl⟩ : ∃ i, m = i + 1 := ⟨m - 1, by omega⟩
      have ej : j = dN 6 (n / 10) := by omega
      subst ej
      have hp := tn_pos (dN 6 (n / 10))
      have hl := tn_le hk
      obtain ⟨q1, q2, q3⟩ := tdq (k := dN 6 (n / 10)) h0 h9
      show f_X11_saysNumber_b2_b F 210 n (f_X11_saysNumber_b2 F 210 n m) _ _ = _
      unfold f_X11_saysNumber_b2_b
      rw [gd_t (by omega), gd_t (by omega), q1, gd_t (by omega), if_pos ((qle h0).mpr (by omega))]
      exact m_num18 h0 h9 _ F w (by omega) hk hw.1 (by omega)
    | succ d ih =>
      intro j m hj hm
      obtain ⟨m, rfl⟩ : ∃ i, m = i + 1 := ⟨m - 1, by omega⟩
      have hp := tn_pos j
      have hl := tn_le (k := j) (by omega)
      have hg := dN_ge 6 (n / 10) j (by omega)
      obtain ⟨q1, q2, q3⟩ := tdq (k := j) h0 h9
      show f_X11_saysNumber_b2_b F 210 n (f_X11_saysNumber_b2 F 210 n m) _ _ = _
      unfold f_X11_saysNumber_b2_b
      rw [gd_t (by omega), gd_t (by omega), q1, gd_t (by omega), if_neg (fun z => (qle h0).mp z hg), lti, Int.mul_comm]
      exact ih (j + 1) m (by omega) (by omega)
  exact key (dN 6 (n / 10)) 0 F (by omega) (by omega)
end Num
/-! names -/
def namT (r : Row) (x : Int) : Nat → List Int
  | 0 => []
  | k + 1 => namT r x k ++ [r (25 + 13 * x + 1 + k)]
def nameT (r : Row) (x : Int) : List Int := namT r x (r (25 + 13 * x)).toNat
theorem namT_len (r : Row) (x : Int) : ∀ k, (namT r x k).length = k := by
  intro k; induction k with
  | zero => rfl
  | succ k ih => rw [namT, List.length_append, ih]; rfl
theorem nameT_asc {r : Row} {x : Int} (hX : Wx r x) : Asc (nameT r x) := by
  obtain ⟨u0, u1, -⟩ := hX
  have : ∀ k : Nat, (k : Int) ≤ r (25 + 13 * x) → Asc (namT r x k) := by
    intro k
    induction k with
    | zero => intro _ c hc; cases hc
    | succ k ih =>
      intro hk c hc
      rw [namT, List.mem_append, List.mem_singleton] at hc
      rcases hc with e | e
      · exact ih (by omega) c e
      · have := u1 k (by omega) (by omega)
        omega
  exact this _ (by omega)
theorem nameT_len {r : Row} {x : Int} (hX : Wx r x) : (nameT r x).length ≤ 6 := by
  unfold nameT
  rw [namT_len]
  have := hX.1
  omega
section Name
variable {F : Nat} {w : aI} {r : Row} {x : Int}
theorem c_name (hF : 100 ≤ F) (h : Rep w 12 r) (h0 : r 0 ≤ 10) (hx : 0 ≤ x ∧ x < r 0) (hX : Wx r x) (hw : 0 ≤ w 3 1 ∧ w 3 1 ≤ 390) : f_X10_writeName F 0 x w = some (outO w (nameT r x)) := by
  have u0 := hX.1
  have u1 := hX.2.1
  have key : ∀ (n i : Nat), i ≤ 6 → 6 - i < n → f_X10_writeName_b2 F 0 x n i (outO w (namT r x (min i (r (25 + 13 * x)).toNat))) = some (outO w (nameT r x)) := by
    intro n
    induction n with
    | zero => intro i i1 i2; omega
    | succ n ih =>
      intro i i1 i2
      show f_X10_writeName_b2_b F 0 x (f_X10_writeName_b2 F 0 x n) _ _ = _
      unfold f_X10_writeName_b2_b
      rw [gd_t (by omega)]
      by_cases c : (6 : Int) ≤ i
      · rw [if_pos c, show min i (r (25 + 13 * x)).toNat = (r (25 + 13 * x)).toNat by omega]
        rfl
      · have hN1 : Rep (outO w (namT r x (min i (r (25 + 13 * x)).toNat))) 12 r := h.of fun a a0 a1 => outO_o _ (by omega) (by omega) w
        have hn : outO w (namT r x (min i (r (25 + 13 * x)).toNat)) 3 1 = w 3 1 + (min i (r (25 + 13 * x)).toNat : Nat) := by rw [outO_n, namT_len]
        rw [if_neg c, k5, c_letter P12 hN1 h0 hx hX (by omega), bs]
        unfold letr
        by_cases c2 : (i : Int) < r (25 + 13 * x)
        · have := u1 i (by omega) c2
          rw [if_pos (by omega), gd_t (by omega), if_neg (by omega), k1, c_out (by omega), bs]
          have e : outO (outO w (namT r x (min i (r (25 + 13 * x)).toNat))) [r (25 + 13 * x + 1 + i)] = outO w (namT r x (min (i + 1) (r (25 + 13 * x)).toNat)) := by
            rw [← outO_app, show min (i + 1) (r (25 + 13 * x)).toNat = i + 1 by omega, show min i (r (25 + 13 * x)).toNat = i by omega]
            rfl
          rw [e]
          exact ih (i + 1) (by omega) (by omega)
        · rw [if_neg (by omega), gd_t (by omega), if_pos rfl]
          have := ih (i + 1) (by omega) (by omega)
          rw [show min (i + 1) (r (25 + 13 * x)).toNat = min i (r (25 + 13 * x)).toNat by omega] at this
          exact this
  have := key F 0 (by omega) (by omega)
  rw [show min 0 (r (25 + 13 * x)).toNat = 0 by omega] at this
  exact this
theorem m_name (hF : 100 ≤ F) (h1 : w 211 = r) (h0 : r 0 ≤ 10) (hx : 0 ≤ x ∧ x < r 0) (hX : Wx r x) (hw : 0 ≤ w 210 27 ∧ w 210 27 ≤ 290) : f_X11_saysName F 210 x w = some (outP w (nameT r x)) := by
  have u0 := hX.1
  have key : ∀ (n i : Nat), (i : Int) ≤ r (25 + 13 * x) → r (25 + 13 * x) - i < n → f_X11_saysName_b2 F 210 x n i (outP w (namT r x i)) = some (outP w (nameT r x)) := by
    intro n
    induction n with
    | zero => intro i i1 i2; omega
    | succ n ih =>
      intro i i1 i2
      show f_X11_saysName_b2_b F 210 x (f_X11_saysName_b2 F 210 x n) _ _ = _
      unfold f_X11_saysName_b2_b
      have e211 : outP w (namT r x i) 211 = r := by rw [outP_o _ (by decide) (by decide)]; exact h1
      have hn : outP w (namT r x i) 210 27 = w 210 27 + i := by rw [outP_n, namT_len]
      rw [m_r, bs, m0, n0, gd_t (by omega), e211, gd_t (by omega)]
      by_cases c : r (25 + 13 * x) ≤ i
      · have e : i = (r (25 + 13 * x)).toNat := by omega
        rw [if_pos c, e]
        rfl
      · rw [if_neg c, bs, gd_t (by omega), m_out (by omega), bs, ← outP_app]
        exact ih (i + 1) (by omega) (by omega)
  exact key F 0 (by omega) (by omega)
end Name
theorem Inv.out {w w3 : aI} (h : Inv w) (f1 : ∀ a, ¬ a = 3 → ¬ a = 4 → ¬ a = 210 → ¬ a = 222 → w3 a = w a) (f2 : ∀ k, ¬ k = 6 → ¬ k = 27 → w3 210 k = w 210 k) (hO : IvO w3) : Inv w3 := by
  obtain ⟨hT, hI, -, hE, hN, hS, hP⟩ := h
  have pbd : ∀ b, Pb b → 12 ≤ b ∧ b + 18 ≤ 210 := fun b hb => by
    have : ∀ b ∈ [12, 30, 48, 66, 84, 102, 120, 138, 156, 174, 192], 12 ≤ b ∧ b + 18 ≤ 210 := by decide
    exact this b hb
  have lo : ∀ a, 4 < a → ¬ a = 210 → ¬ a = 222 → w3 a = w a := fun a a0 a1 a2 => f1 a (by omega) (by omega) a1 a2
  refine ⟨⟨fun b hb => (hT.1 b hb).of fun a a0 a1 => ?_, ?_⟩, ?_, hO, ?_, ?_, ?_, ?_⟩
  · have := pbd b hb
    exact lo a (by omega) (by omega) (by omega)
  · rw [lo 8 (by decide) (by decide) (by decide)]; exact hT.2
  · unfold IvI
    rw [f1 1 (by decide) (by decide) (by decide) (by decide), f1 2 (by decide) (by decide) (by decide) (by decide), f2 13 (by decide) (by decide), lo 218 (by decide) (by decide) (by decide)]; exact hI
  · unfold IvE
    rw [lo 5 (by decide) (by decide) (by decide), f2 14 (by decide) (by decide), f2 15 (by decide) (by decide)]; exact hE
  · unfold IvN
    rw [lo 211 (by decide) (by decide) (by decide)]
    exact PR.of hN fun a a0 a1 => lo a (by omega) (by omega) (by omega)
  · unfold IvS
    rw [f1 0 (by decide) (by decide) (by decide) (by decide), f2 5 (by decide) (by decide), lo 213 (by decide) (by decide) (by decide)]
    exact ⟨hS.1, hS.2.1, fun e => (hS.2.2 e).of fun a a0 a1 => lo a (by omega) (by omega) (by omega)⟩
  · unfold IvP
    rw [lo 10 (by decide) (by decide) (by decide), f2 4 (by decide) (by decide), lo 214 (by decide) (by decide) (by decide)]
    refine ⟨hP.1, hP.2.1, hP.2.2.1, fun j j0 j1 => (hP.2.2.2 j j0 j1).of fun a a0 a1 => ?_⟩
    have h9 := hP.2.2.1
    have := pb_bd (m := (w 10 1 + j) % 8) (by omega)
    exact lo a (by omega) (by omega) (by omega)
