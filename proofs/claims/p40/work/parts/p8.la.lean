/-! ===== what the law's acts do to its numbers ===== -/
def bv (p b k : Int) : Int := andI (iusI p b) (shl 1 k - 1)
theorem bv_eq {F : Nat} {p b k : Int} {w : aI} (h : 0 ≤ k ∧ k < 32) : f_L_bits F p b k w = some (bv p b k) := by
  unfold f_L_bits
  rw [gd_t h]; rfl
theorem and_lo (x : Int32) (n : Nat) (hn : n < 2147483648) : 0 ≤ (x &&& oI (n : Int)).toInt ∧ (x &&& oI (n : Int)).toInt ≤ n := by
  have hle := Nat.and_le_right (n := x.toBitVec.toNat) (m := n)
  have e1 : (x &&& oI (n : Int)).toInt = (x.toBitVec &&& BitVec.ofNat 32 n).toInt := by
    show (x.toBitVec &&& (oI (n : Int)).toBitVec).toInt = _
    rw [oI_bv]
  have e2 : (x.toBitVec &&& BitVec.ofNat 32 n).toNat = x.toBitVec.toNat &&& n := by
    rw [BitVec.toNat_and, BitVec.toNat_ofNat, Nat.mod_eq_of_lt (by omega)]
  rw [e1, BitVec.toInt_eq_toNat_of_lt (by rw [e2]; omega), e2]
  omega
theorem bv_4 (p b : Int) : 0 ≤ bv p b 4 ∧ bv p b 4 ≤ 15 := and_lo _ 15 (by decide)
theorem bv_3 (p b : Int) : 0 ≤ bv p b 3 ∧ bv p b 3 ≤ 7 := and_lo _ 7 (by decide)
theorem bv_2 (p b : Int) : 0 ≤ bv p b 2 ∧ bv p b 2 ≤ 3 := and_lo _ 3 (by decide)
theorem bv_1 (p b : Int) : 0 ≤ bv p b 1 ∧ bv p b 1 ≤ 1 := and_lo _ 1 (by decide)
theorem bv_5 (p b : Int) : 0 ≤ bv p b 5 ∧ bv p b 5 ≤ 31 := and_lo _ 31 (by decide)
/-! the number that the notes make -/
def Nm (f : Int → Int) : Nat → Int
  | 0 => 0
  | n + 1 => 10 * Nm f n + f n
section Nms
variable {f : Int → Int}
theorem Nm_pos (h0 : 1 ≤ f 0) (h : ∀ j : Int, 0 ≤ j → 0 ≤ f j ∧ f j ≤ 7) : ∀ n : Nat, 0 ≤ Nm f n ∧ 1 ≤ Nm f (n + 1) := by
  intro n
  induction n with
  | zero => exact ⟨Int.le_refl _, by show 1 ≤ 10 * 0 + f 0; omega⟩
  | succ n ih =>
    have e : Nm f (n + 1 + 1) = 10 * Nm f (n + 1) + f ((n + 1 : Nat) : Int) := rfl
    have := h ((n + 1 : Nat) : Int) (by omega)
    rw [e]
    omega
theorem Nm_dD (h : ∀ j : Int, 0 ≤ j → 0 ≤ f j ∧ f j ≤ 7) : ∀ (j n : Nat), j < n → dD j (Nm f n) = f ((n - 1 - j : Nat) : Int) := by
  intro j
  induction j with
  | zero =>
    intro n hn
    cases n with
    | zero => omega
    | succ n =>
      have := h n (by omega)
      show (10 * Nm f n + f n) % 10 = f ((n + 1 - 1 - 0 : Nat) : Int)
      rw [show n + 1 - 1 - 0 = n by omega]
      omega
  | succ j ih =>
    intro n hn
    cases n with
    | zero => omega
    | succ n =>
      have := h n (by omega)
      show dD j ((10 * Nm f n + f n) / 10) = _
      rw [show (10 * Nm f n + f n) / 10 = Nm f n by omega, ih n (by omega)]
      congr 1
      omega
theorem Nm_dN (h0 : 1 ≤ f 0) (h : ∀ j : Int, 0 ≤ j → 0 ≤ f j ∧ f j ≤ 7) : ∀ (n m : Nat), n ≤ m → dN m (Nm f n) = n := by
  intro n
  induction n with
  | zero =>
    intro m _
    cases m with
    | zero => rfl
    | succ m => rw [dN]; exact if_pos (Int.le_refl _)
  | succ n ih =>
    intro m hm
    cases m with
    | zero => omega
    | succ m =>
      have := h n (by omega)
      have hp := (Nm_pos h0 h n).2
      rw [dN, if_neg (by omega), show Nm f (n + 1) / 10 = Nm f n from (by show (10 * Nm f n + f n) / 10 = _; omega), ih m (by omega)]
theorem Nm_dO (h0 : 1 ≤ f 0) (h : ∀ j : Int, 0 ≤ j → 0 ≤ f j ∧ f j ≤ 7) : ∀ (m n : Nat), dO m (Nm f n) = true := by
  intro m
  induction m with
  | zero => intro n; rfl
  | succ m ih =>
    intro n
    cases n with
    | zero => rw [dO]; exact if_pos (Int.le_refl _)
    | succ n =>
      have := h n (by omega)
      have hp := (Nm_pos h0 h n).2
      have e1 : Nm f (n + 1) / 10 = Nm f n := by show (10 * Nm f n + f n) / 10 = _; omega
      have e2 : Nm f (n + 1) % 10 = f n := by show (10 * Nm f n + f n) % 10 = _; omega
      rw [dO, if_neg (by omega), e2, if_pos this.2, e1]
      exact ih n
theorem Nm_le (h : ∀ j : Int, 0 ≤ j → 0 ≤ f j ∧ f j ≤ 7) : ∀ n : Nat, 9 * Nm f n ≤ 7 * (tn n - 1) := by
  intro n
  induction n with
  | zero => show (9 : Int) * 0 ≤ 7 * (1 - 1); decide
  | succ n ih =>
    have := h n (by omega)
    show 9 * (10 * Nm f n + f n) ≤ 7 * (10 * tn n - 1)
    omega
theorem tn_mono : ∀ (a b : Nat), a ≤ b → tn a ≤ tn b := by
  have hp : ∀ a, 0 < tn a := by
    intro a; induction a with
    | zero => decide
    | succ a ih => show 0 < 10 * tn a; omega
  intro a b
  induction b with
  | zero => intro h; have : a = 0 := by omega
            subst this; exact Int.le_refl _
  | succ b ih =>
    intro h
    by_cases c : a = b + 1
    · subst c; exact Int.le_refl _
    · have := ih (by omega)
      have := hp b
      show tn a ≤ 10 * tn b
      omega
theorem Nm_all (h0 : 1 ≤ f 0) (h : ∀ j : Int, 0 ≤ j → 0 ≤ f j ∧ f j ≤ 7) {n : Nat} (hn : 1 ≤ n ∧ n ≤ 8) : (0 ≤ Nm f n ∧ Nm f n ≤ 77777777) ∧ dO 8 (Nm f n) = true ∧ dM (Nm f n) = n ∧ ∀ j : Int, 0 ≤ j → j < n → dF (Nm f n) j = f j := by
  obtain ⟨p, rfl⟩ : ∃ p, n = p + 1 := ⟨n - 1, by omega⟩
  have h9 := Nm_le h (p + 1)
  have h8 := tn_mono (p + 1) 8 hn.2
  have e8 : tn 8 = 100000000 := by decide
  have hp := Nm_pos h0 h p
  have hv := h p (by omega)
  have e1 : Nm f (p + 1) / 10 = Nm f p := by show (10 * Nm f p + f p) / 10 = _; omega
  have hM : dM (Nm f (p + 1)) = ((p + 1 : Nat) : Int) := by
    unfold dM
    rw [e1, Nm_dN h0 h p 7 (by omega)]
    omega
  refine ⟨by omega, Nm_dO h0 h 8 _, hM, fun j j0 j1 => ?_⟩
  unfold dF
  rw [hM, Nm_dD h _ _ (by omega)]
  congr 1
  omega
end Nms
/-! a way is cut -/
theorem en2_pr {r : Row} {i a b x y : Int} (h : En2 r i a b) (c : (x = a ∧ y = b) ∨ (x = b ∧ y = a)) : En2 r i x y := by
  unfold En2 at h ⊢
  omega
theorem en2_un {r : Row} {i a b x y : Int} (h : En2 r i a b) (k : En2 r i x y) : (x = a ∧ y = b) ∨ (x = b ∧ y = a) := by
  unfold En2 at h k
  omega
theorem farB_cut {r : Row} {a b : Int} (hW : WF r) (hv : ¬ wayB r a b = -1) (x y : Int) : farB (cutT r (wayB r a b)) x y = if (x = a ∧ y = b) ∨ (x = b ∧ y = a) then -1 else farB r x y := by
  have b1 := hW.1.2.1
  have hw := hW.2.2.1
  obtain ⟨v0, v1, ve⟩ := wayB_en b1.1 hv
  have hC := cutT_WF hW ⟨v0, v1⟩
  generalize wayB r a b = v at v0 v1 ve hC ⊢
  have e1 := cutT_1 (r := r) v0
  have hwC := hC.2.2.1
  have b1C := hC.1.2.1
  have ex : ¬ farB (cutT r v) x y = -1 → ∃ i, 0 ≤ i ∧ i < r 1 ∧ ¬ i = v ∧ En2 r i x y := fun h => by
    obtain ⟨i, i0, i1, e, -⟩ := farB_en hwC b1C.1 h
    rw [e1] at i1
    have := (cutT_en ⟨v0, v1⟩ ⟨i0, i1⟩).mp e
    refine ⟨if i < v then i else i + 1, by split <;> omega, by split <;> omega, by split <;> omega, this⟩
  by_cases c : (x = a ∧ y = b) ∨ (x = b ∧ y = a)
  · rw [if_pos c]
    refine Classical.byContradiction fun h => ?_
    obtain ⟨i, i0, i1, i2, e⟩ := ex h
    exact i2 (hw.2 i v x y i0 i1 v0 v1 e (en2_pr ve c))
  · rw [if_neg c]
    by_cases hf : farB r x y = -1
    · rw [hf]
      refine Classical.byContradiction fun h => ?_
      obtain ⟨i, i0, i1, i2, e⟩ := ex h
      have hb := wayB_of hw b1.1 i0 i1 e
      have hl := hw.1 i i0 i1
      unfold farB at hf
      rw [hb, if_neg (by omega)] at hf
      omega
    · obtain ⟨j, j0, j1, je, jf, -⟩ := farB_en hw b1.1 hf
      have jv : ¬ j = v := by
        intro e
        subst e
        exact c (en2_un ve je)
      obtain ⟨i, hi⟩ : ∃ i, i = if j < v then j else j - 1 := ⟨_, rfl⟩
      have hi2 : (0 ≤ i ∧ i < r 1 - 1) ∧ (if i < v then i else i + 1) = j := by
        split at hi
        · refine ⟨by omega, ?_⟩
          rw [if_pos (by omega)]; exact hi
        · refine ⟨by omega, ?_⟩
          rw [if_neg (by omega)]; omega
      have ie : En2 (cutT r v) i x y := by
        rw [cutT_en ⟨v0, v1⟩ hi2.1, hi2.2]; exact je
      have hb := wayB_of hwC b1C.1 hi2.1.1 (by rw [e1]; exact hi2.1.2) ie
      have w2 := cutT_w (r := r) (v := v) (i := i) (c := 2) ⟨v0, v1⟩ hi2.1 (by decide)
      rw [hi2.2] at w2
      rw [jf]
      unfold farB
      rw [hb, if_neg (by omega)]
      exact w2
theorem LwA.kp2 {w w2 : aI} {r q : Row} (h : LwA w r) (E : w2 300 = w 300) (Q : ∀ a, 0 ≤ a → a < 25 → ¬ a = 1 → ¬ a = 10 → ¬ a = 20 → q a = r a) (Z : ∀ t, r 2 ≤ t → w2 325 t = w 325 t ∧ w2 326 t = w 326 t) : LwA w2 q := by
  obtain ⟨q20, q21, q22, q23, q24, q25, q26, q27, q28, q29, q30, q31, q32, q33, qz⟩ := h
  refine ⟨?_, ?_, ?_, ?_, ?_, ?_, ?_, ?_, ?_, ?_, ?_, ?_, ?_, ?_, fun t p1 p2 => ?_⟩
  all_goals first | (rw [E, Q _ (by decide) (by decide) (by decide) (by decide) (by decide)]; assumption) | skip
  rw [Q 2 (by decide) (by decide) (by decide) (by decide) (by decide)] at p1
  rw [(Z t p1).1, (Z t p1).2]
  exact qz t p1 p2
theorem l_cut {F : Nat} (hF : 100 ≤ F) {w : aI} {r : Row} {a b : Int} (h : LwR w r) (hW : WF r) (ha : 0 ≤ a ∧ a < r 0) (hb : 0 ≤ b ∧ b < r 0) (hv : ¬ wayB r a b = -1) :
    ∃ z, f_L_reckon F 300 (iset (iset w (308 + a.toNat) b 0) (308 + b.toNat) a 0) = some z ∧ LwR z (cutT r (wayB r a b)) ∧ ∀ c, c < 300 → z c = w c := by
  obtain ⟨h05, hA, hX, hWy, hS, hT, hNn, hD⟩ := h
  obtain ⟨b0, b1, b2, b3, b4, b5, b6⟩ := hW.1
  have hy : ∀ t, 0 ≤ t → t < r 2 → r (220 + 27 * t + 2) ≤ 8 := fun t t0 t1 => (hW.2.2.2.1 t t0 t1).2.2.2.1.2
  have hf := farB_cut hW hv
  obtain ⟨v0, v1, -⟩ := wayB_en b1.1 hv
  have hC := cutT_WF hW ⟨v0, v1⟩
  have o : ∀ k, (k < 160 ∨ 220 ≤ k) → ¬ k = 1 → cutT r (wayB r a b) k = r k := fun k h h1 => cutT_o h h1 v0 b1.2
  generalize cutT r (wayB r a b) = q at hf hC o ⊢
  have e0 := o 0 (by omega) (by omega)
  have e2 := o 2 (by omega) (by omega)
  obtain ⟨u, hu⟩ : ∃ u, u = iset (iset w (308 + a.toNat) b 0) (308 + b.toNat) a 0 := ⟨_, rfl⟩
  rw [← hu]
  have uo : ∀ c, (c < 308 ∨ 313 ≤ c) → u c = w c := fun c hc => by rw [hu, is_ne (by omega), is_ne (by omega)]
  have hWu : LwW u q := by
    intro x y x0 x1 y0 y1
    rw [hf]
    have hw := hWy x y x0 (by omega) y0 (by omega)
    have e : u (308 + x.toNat) y = if (x = a ∧ y = b) ∨ (x = b ∧ y = a) then 0 else w (308 + x.toNat) y := by
      rw [hu]
      show (if 308 + x.toNat = 308 + b.toNat ∧ y = a then 0 else if 308 + x.toNat = 308 + a.toNat ∧ y = b then 0 else w (308 + x.toNat) y) = _
      by_cases c1 : x = b ∧ y = a
      · rw [if_pos (by omega), if_pos (Or.inr c1)]
      · rw [if_neg (by omega)]
        by_cases c2 : x = a ∧ y = b
        · rw [if_pos (by omega), if_pos (Or.inl c2)]
        · rw [if_neg (by omega), if_neg (by omega)]
    rw [e]
    by_cases c : (x = a ∧ y = b) ∨ (x = b ∧ y = a)
    · rw [if_pos c, if_pos c, if_pos rfl]
    · rw [if_neg c, if_neg c]; exact hw
  obtain ⟨z, z1, z2, z3⟩ := l_reckon (F := F) (w := u) hF (r := q) (by omega) hC.1.2.1 hC.2.2.1 (by rw [uo 999 (by omega)]; exact hD.n9 b2) (by rw [uo 300 (by omega), e0]; exact hA.1) hWu
  have zo : ∀ c, (c < 308 ∨ 319 ≤ c) → z c = w c := fun c hc => by rw [z3 c (by omega), uo c (by omega)]
  refine ⟨z, z1, ⟨by omega, hA.kp2 (zo 300 (by omega)) (fun a a0 a1 a2 a3 a4 => o a (by omega) a2) (fun t _ => by rw [zo 325 (by omega), zo 326 (by omega)]; exact ⟨rfl, rfl⟩), hX.keep h05 e0 (fun c p1 p2 => zo c (by omega)) (fun k p1 p2 => o k (by omega) (by omega)), hWu.sw (by omega) hC.1.2.1 (SameW.refl q) (fun c p1 p2 => z3 c (by omega)), z2, fun t t0 t1 => (hT t t0 (by omega)).of (fun c p1 p2 => by rw [zo c (by omega)]) (fun j p1 p2 => o j (by omega) (by omega)), fun t t0 t1 => (hNn t t0 (by omega)).of (hy t t0 (by omega)) (zo _ (by omega)) (zo _ (by omega)) (fun j p1 p2 => o j (by omega) (by omega)), by rw [zo 999 (by omega), e2]; exact hD.1, fun k k0 k1 => ?_⟩, fun c hc => zo c (by omega)⟩
  rw [zo 329 (by omega), zo 330 (by omega), e2]
  exact hD.2 k k0 k1
theorem l_give {w : aI} {r : Row} {x c : Int} (h : LwR w r) (hW : WF r) (hx : 0 ≤ x ∧ x < r 0) : LwR (iset w 304 x (w 304 x + c)) (giveT r x c) := by
  obtain ⟨h05, hA, hX, hWy, hS, hT, hNn, hD⟩ := h
  obtain ⟨b0, b1, b2, b3, b4, b5, b6⟩ := hW.1
  have hy : ∀ t, 0 ≤ t → t < r 2 → r (220 + 27 * t + 2) ≤ 8 := fun t t0 t1 => (hW.2.2.2.1 t t0 t1).2.2.2.1.2
  have o : ∀ k, ¬ k = 25 + 13 * x + 10 → ¬ k = 20 → giveT r x c k = r k := fun k h1 h2 => giveT_o h1 h2
  have gp := giveT_p (r := r) (c := c) hx.1
  generalize giveT r x c = q at o gp ⊢
  have e0 := o 0 (by omega) (by omega)
  have e2 := o 2 (by omega) (by omega)
  have sw : SameW r q := ⟨e0, o 1 (by omega) (by omega), fun k p1 p2 => o k (by omega) (by omega)⟩
  have w4 := (hX x hx.1 hx.2).2.2.2.1
  obtain ⟨z, hz⟩ : ∃ z, z = iset w 304 x (w 304 x + c) := ⟨_, rfl⟩
  rw [← hz]
  have zo : ∀ a, ¬ a = 304 → z a = w a := fun a p => by rw [hz, is_ne p]
  have z4 : z 304 = rs (w 304) x (r (25 + 13 * x + 10) + c) := by rw [hz, is_eq, w4]
  refine ⟨by omega, hA.kp2 (zo 300 (by omega)) (fun a a0 a1 a2 a3 a4 => o a (by omega) a4) (fun t _ => by rw [zo 325 (by omega), zo 326 (by omega)]; exact ⟨rfl, rfl⟩), fun y y0 y1 => ?_, hWy.sw h05 b1 sw (fun a p1 p2 => zo a (by omega)), hS.sw h05 b1 sw (fun a p1 p2 => zo a (by omega)), fun t t0 t1 => (hT t t0 (by omega)).of (fun a p1 p2 => by rw [zo a (by omega)]) (fun j p1 p2 => o j (by omega) (by omega)), fun t t0 t1 => (hNn t t0 (by omega)).of (hy t t0 (by omega)) (zo _ (by omega)) (zo _ (by omega)) (fun j p1 p2 => o j (by omega) (by omega)), by rw [zo 999 (by omega), e2]; exact hD.1, fun k k0 k1 => ?_⟩
  · obtain ⟨g1, g2, g3, g4, g5, g6⟩ := hX y y0 (by omega)
    rw [zo 301 (by decide), zo 302 (by decide), zo 303 (by decide), zo 305 (by decide), zo 306 (by decide), z4, o (25 + 13 * y + 7) (by omega) (by omega), o (25 + 13 * y + 8) (by omega) (by omega), o (25 + 13 * y + 9) (by omega) (by omega), o (25 + 13 * y + 11) (by omega) (by omega), o (25 + 13 * y + 12) (by omega) (by omega)]
    refine ⟨g1, g2, g3, ?_, g5, g6⟩
    by_cases e : y = x
    · subst e; rw [rs_self, gp]
    · rw [rs_ne e, o _ (by omega) (by omega)]; exact g4
  · rw [zo 329 (by omega), zo 330 (by omega), e2]
    exact hD.2 k k0 k1
theorem l_wind {w : aI} {r : Row} {k : Int} (h : LwR w r) (hW : WF r) : LwR (iset w 300 23 k) (setT r 8 k) := by
  obtain ⟨h05, hA, hX, hWy, hS, hT, hNn, hD⟩ := h
  obtain ⟨b0, b1, b2, b3, b4, b5, b6⟩ := hW.1
  have hy : ∀ t, 0 ≤ t → t < r 2 → r (220 + 27 * t + 2) ≤ 8 := fun t t0 t1 => (hW.2.2.2.1 t t0 t1).2.2.2.1.2
  have es : setT r 8 k = rs r 4 k := rfl
  have hA2 : LwA (iset w 300 23 k) (setT r 8 k) := LwA.set 23 4 k (by decide) hA (fun j => by rw [is_eq]) (fun a p1 p2 => by rw [es]) (fun t p1 p2 => by
    rw [es, rs_ne (by decide)] at p1
    rw [is_ne (by decide), is_ne (by decide)]
    exact hA.2.2.2.2.2.2.2.2.2.2.2.2.2.2 t p1 p2)
  have o : ∀ k', ¬ k' = 4 → setT r 8 k k' = r k' := fun k' h1 => by rw [es, rs_ne h1]
  generalize setT r 8 k = q at o hA2 ⊢
  have e0 := o 0 (by omega)
  have e2 := o 2 (by omega)
  have sw : SameW r q := ⟨e0, o 1 (by omega), fun k p1 p2 => o k (by omega)⟩
  have zo : ∀ a, ¬ a = 300 → iset w 300 23 k a = w a := fun a p => is_ne p
  generalize iset w 300 23 k = z at zo hA2 ⊢
  refine ⟨by omega, hA2, hX.keep h05 e0 (fun a p1 p2 => zo a (by omega)) (fun j p1 p2 => o j (by omega)), hWy.sw h05 b1 sw (fun a p1 p2 => zo a (by omega)), hS.sw h05 b1 sw (fun a p1 p2 => zo a (by omega)), fun t t0 t1 => (hT t t0 (by omega)).of (fun a p1 p2 => by rw [zo a (by omega)]) (fun j p1 p2 => o j (by omega)), fun t t0 t1 => (hNn t t0 (by omega)).of (hy t t0 (by omega)) (zo _ (by omega)) (zo _ (by omega)) (fun j p1 p2 => o j (by omega)), by rw [zo 999 (by omega), e2]; exact hD.1, fun k k0 k1 => ?_⟩
  rw [zo 329 (by omega), zo 330 (by omega), e2]
  exact hD.2 k k0 k1
