/-! ===== whistling ===== -/
theorem sm_up2 {p p' : Int → Int} {k : Int} (h0 : 0 ≤ k) {n : Nat} (h1 : k < n) (h : ∀ j : Int, 0 ≤ j → j < n → ¬ j = k → p' j = p j) : sm p' n = sm p n + (p' k - p k) := by
  have e := sm_up (p := p) (p' := fun j => if j = k then p' k else p j) (k := k) (fun j hj => if_neg hj) h0 h1
  rw [if_pos rfl] at e
  rw [← e]
  refine sm_congr fun j j0 j1 => ?_
  by_cases c : j = k
  · subst c; rw [if_pos rfl]
  · rw [if_neg c]; exact h j j0 j1 c
theorem cnt_up2 {p p' : Int → Bool} {k : Int} (h0 : 0 ≤ k) {n : Nat} (h1 : k < n) (h : ∀ j : Int, 0 ≤ j → j < n → ¬ j = k → p' j = p j) : cnt p' n = cnt p n + (bI (p' k) - bI (p k)) := by
  have e := cnt_up (p := p) (p' := fun j => if j = k then p' k else p j) (k := k) (fun j hj => if_neg hj) h0 h1
  rw [if_pos rfl] at e
  rw [← e]
  refine cnt_congr fun j j0 j1 => ?_
  by_cases c : j = k
  · subst c; rw [if_pos rfl]
  · rw [if_neg c]; exact h j j0 j1 c
def Sl (r : Row) (m : Int) : Prop := (∀ x, 0 ≤ x → x < r 0 → r (25 + 13 * x + 10) ≤ 9999 + 18 * r 3 - (if x < m then 0 else 18)) ∧ r 13 ≤ 10 * r 3 - 10 + m
theorem Sl.next {r : Row} {m : Int} (h : Sl r m) : Sl r (m + 1) := by
  refine ⟨fun x x0 x1 => ?_, by have := h.2; omega⟩
  have := h.1 x x0 x1
  split at this <;> split <;> omega
theorem firstG_ok (r : Row) (x : Int) : ∀ n : Nat, itr (fstep r x) (-1) n = -1 ∨ (0 ≤ itr (fstep r x) (-1) n ∧ itr (fstep r x) (-1) n < n ∧ waits r (itr (fstep r x) (-1) n) x = true ∧ feeA r (itr (fstep r x) (-1) n) x ≤ pur r (itr (fstep r x) (-1) n) ∧ ¬ nxt r x (r (220 + 27 * itr (fstep r x) (-1) n + 1)) = -1) := by
  intro n
  induction n with
  | zero => exact Or.inl rfl
  | succ n ih =>
    have e : itr (fstep r x) (-1) (n + 1) = fstep r x n (itr (fstep r x) (-1) n) := rfl
    rw [e]
    generalize itr (fstep r x) (-1) n = b at ih
    unfold fstep
    by_cases c : waits r n x = true ∧ (b = -1 ∨ bar r b < bar r n) ∧ feeA r n x ≤ pur r n ∧ ¬ nxt r x (r (220 + 27 * (n : Int) + 1)) = -1
    · rw [if_pos c]
      exact Or.inr ⟨by omega, by omega, c.1, c.2.2.1, c.2.2.2⟩
    · rw [if_neg c]
      rcases ih with ih | ⟨h1, h2, h3⟩
      · exact Or.inl ih
      · exact Or.inr ⟨h1, by omega, h3⟩
theorem breath_bd {n b : Int} (hn : 1 ≤ n ∧ n ≤ 8) (hb : 1 ≤ b ∧ b ≤ 8) : 1 ≤ (n + b - 1) / b ∧ (n + b - 1) / b ≤ 8 := by
  have h : b = 1 ∨ b = 2 ∨ b = 3 ∨ b = 4 ∨ b = 5 ∨ b = 6 ∨ b = 7 ∨ b = 8 := by omega
  rcases h with h | h | h | h | h | h | h | h <;> subst h <;> omega
/-- what is known where a tune is whistled -/
def CanW (r : Row) (i x : Int) : Prop := (0 ≤ i ∧ i < r 2) ∧ (0 ≤ x ∧ x < r 0) ∧ r (220 + 27 * i + 3) = 0 ∧ r (220 + 27 * i + 4) = x ∧ feeA r i x ≤ pur r i ∧ ¬ nxt r x (r (220 + 27 * i + 1)) = -1
theorem CanW.nx {r : Row} {i x : Int} (hW : WF r) (h : CanW r i x) : (0 ≤ nxt r x (r (220 + 27 * i + 1)) ∧ nxt r x (r (220 + 27 * i + 1)) < r 0) ∧ (1 ≤ farB r x (nxt r x (r (220 + 27 * i + 1))) ∧ farB r x (nxt r x (r (220 + 27 * i + 1))) ≤ 9) ∧ (∃ j, 0 ≤ j ∧ j < r 1 ∧ En2 r j x (nxt r x (r (220 + 27 * i + 1))) ∧ wayB r x (nxt r x (r (220 + 27 * i + 1))) = j ∧ farB r x (nxt r x (r (220 + 27 * i + 1))) = r (160 + 3 * j + 2)) := by
  obtain ⟨hb, hr, hw, ht, -⟩ := hW
  obtain ⟨b0, b1, b2, b3, b4, b5, b6⟩ := hb
  obtain ⟨h1, h2, h3, h4, h5, h6⟩ := h
  obtain ⟨y0, y1, y2, y3, y4, y5, y6, y7, y8, y9, y10, y11, y12, y13, y14, y15⟩ := ht i h1.1 h1.2
  have hg := y14 h3
  have hd : ¬ dist r (-1) (r (220 + 27 * i + 1)) x = -1 := fun c => h6 (nxt_no (Or.inr c))
  obtain ⟨j, j0, j1, e, k1, k2, k3, k4, -⟩ := nxt_ok b0 hw b1.1 (isd b0 b1 hw (by omega) y1) h2.1 h2.2 (by omega) hd
  have a := hw.1 j j0 j1
  exact ⟨k1, by omega, j, j0, j1, e, wayB_of hw b1.1 j0 j1 e, k4⟩
theorem WF_wh {r : Row} {i x : Int} (hW : WF r) (hS : Sl r x) (hc : CanW r i x) : WF (whT r i x) ∧ Sl (whT r i x) (x + 1) ∧ SameW r (whT r i x) ∧ whT r i x 2 = r 2 ∧ whT r i x 3 = r 3 ∧ whT r i x 5 = r 5 := by
  obtain ⟨n1, n2, -⟩ := hc.nx hW
  have hfe := (fee_bd (x := x) hW.1 hW.2.1 hW.2.2.2.1 hc.1 hc.2.1).1
  obtain ⟨hb, hr, hw, ht, a1, a2, a3, a4, a5, a6, a7⟩ := hW
  obtain ⟨b0, b1, b2, b3, b4, b5, b6⟩ := hb
  obtain ⟨h1, h2, h3, h4, h5, h6⟩ := hc
  obtain ⟨y0, y1, y2, y3, y4, y5, y6, y7, y8, y9, y10, y11, y12, y13, y14, y15⟩ := ht i h1.1 h1.2
  obtain ⟨x0, x1, x2, x3, x4, x5, x6⟩ := hr x h2.1 h2.2
  have hbr := breath_bd y3 x2
  unfold whT
  generalize nxt r x (r (220 + 27 * i + 1)) = nx at n1 n2
  generalize farB r x nx = fr at n2
  generalize (r (220 + 27 * i + 2) + r (25 + 13 * x + 7) - 1) / r (25 + 13 * x + 7) = br at hbr
  generalize hfee : feeA r i x = fe at h5 hfe
  have hp : pur r i = r (25 + 13 * r (220 + 27 * i) + 10) := rfl
  rw [hp] at h5 ⊢
  generalize hs : r (220 + 27 * i) = s at y0 y2 h5
  obtain ⟨A, hA⟩ : ∃ A, A = rs r (25 + 13 * s + 10) (r (25 + 13 * s + 10) - fe) := ⟨_, rfl⟩
  rw [← hA]
  have Ao : ∀ k, ¬ k = 25 + 13 * s + 10 → A k = r k := fun k hk => by rw [hA, rs_ne hk]
  have As : A (25 + 13 * s + 10) = r (25 + 13 * s + 10) - fe := by rw [hA, rs_self]
  have sA := sm_up (p := fun y => r (25 + 13 * y + 10)) (p' := fun y => A (25 + 13 * y + 10)) (k := s) (fun j hj => Ao _ (by omega)) y0.1 (n := (r 0).toNat) (by omega)
  obtain ⟨B, hB⟩ : ∃ B, B = rs A (25 + 13 * x + 10) (A (25 + 13 * x + 10) + fe) := ⟨_, rfl⟩
  rw [← hB]
  have Bo : ∀ k, ¬ k = 25 + 13 * x + 10 → B k = A k := fun k hk => by rw [hB, rs_ne hk]
  have Bs : B (25 + 13 * x + 10) = A (25 + 13 * x + 10) + fe := by rw [hB, rs_self]
  have sB := sm_up (p := fun y => A (25 + 13 * y + 10)) (p' := fun y => B (25 + 13 * y + 10)) (k := x) (fun j hj => Bo _ (by omega)) h2.1 (n := (r 0).toNat) (by omega)
  have hsum : sm (fun y => B (25 + 13 * y + 10)) (r 0).toNat = sm (fun y => r (25 + 13 * y + 10)) (r 0).toNat := by
    rw [sB, sA]
    show _ + (A (25 + 13 * s + 10) - r (25 + 13 * s + 10)) + (B (25 + 13 * x + 10) - A (25 + 13 * x + 10)) = _
    omega
  have pb : ∀ y, 0 ≤ y → y < r 0 → 0 ≤ B (25 + 13 * y + 10) ∧ B (25 + 13 * y + 10) ≤ 9999 + 18 * r 3 - (if y < x + 1 then 0 else 18) := fun y y0' y1' => by
    have q1 := (hr y y0' y1').2.2.2.2.2.1
    have q2 := hS.1 y y0' y1'
    have q3 := hS.1 x h2.1 h2.2
    rw [if_neg (by omega)] at q3
    by_cases c1 : y = x
    · subst c1
      rw [if_pos (by omega)]
      by_cases c2 : y = s
      · subst c2; rw [Bs, As]; omega
      · rw [Bs, Ao _ (by omega)]; omega
    · rw [Bo _ (by omega)]
      by_cases c2 : y = s
      · subst c2; rw [As]; split at q2 <;> split <;> omega
      · rw [Ao _ (by omega)]; split at q2 <;> split <;> omega
  have BA : ∀ k, ¬ k = 25 + 13 * x + 10 → ¬ k = 25 + 13 * s + 10 → B k = r k := fun k k0 k1 => by rw [Bo k k0, Ao k k1]
  obtain ⟨q, hq⟩ : ∃ q, q = rs (rs (rs (rs (rs (rs (rs (rs (rs B (25 + 13 * x + 11) (r 3 + br)) (25 + 13 * x + 12) (r (25 + 13 * x + 12) + 1)) (220 + 27 * i + 10) fr) (220 + 27 * i + 5) (r 3 + br + fr)) (220 + 27 * i + 4) nx) (220 + 27 * i + 3) 1) (220 + 27 * i + 9) (r (220 + 27 * i + 9) + 1)) 13 (r 13 + 1)) 19 (r 19 + fe) := ⟨_, rfl⟩
  rw [← hq]
  have qB : ∀ k, ¬ k = 25 + 13 * x + 11 → ¬ k = 25 + 13 * x + 12 → ¬ k = 220 + 27 * i + 10 → ¬ k = 220 + 27 * i + 5 → ¬ k = 220 + 27 * i + 4 → ¬ k = 220 + 27 * i + 3 → ¬ k = 220 + 27 * i + 9 → ¬ k = 13 → ¬ k = 19 → q k = B k := fun k c1 c2 c3 c4 c5 c6 c7 c8 c9 => by
    rw [hq, rs_ne c9, rs_ne c8, rs_ne c7, rs_ne c6, rs_ne c5, rs_ne c4, rs_ne c3, rs_ne c2, rs_ne c1]
  have q11 : q (25 + 13 * x + 11) = r 3 + br := by
    rw [hq, rs_ne (by omega), rs_ne (by omega), rs_ne (by omega), rs_ne (by omega), rs_ne (by omega), rs_ne (by omega), rs_ne (by omega), rs_ne (by omega), rs_self]
  have q10 : q (220 + 27 * i + 10) = fr := by rw [hq, rs_ne (by omega), rs_ne (by omega), rs_ne (by omega), rs_ne (by omega), rs_ne (by omega), rs_ne (by omega), rs_self]
  have q5 : q (220 + 27 * i + 5) = r 3 + br + fr := by rw [hq, rs_ne (by omega), rs_ne (by omega), rs_ne (by omega), rs_ne (by omega), rs_ne (by omega), rs_self]
  have q4 : q (220 + 27 * i + 4) = nx := by rw [hq, rs_ne (by omega), rs_ne (by omega), rs_ne (by omega), rs_ne (by omega), rs_self]
  have q3 : q (220 + 27 * i + 3) = 1 := by rw [hq, rs_ne (by omega), rs_ne (by omega), rs_ne (by omega), rs_self]
  have q9 : q (220 + 27 * i + 9) = r (220 + 27 * i + 9) + 1 := by rw [hq, rs_ne (by omega), rs_ne (by omega), rs_self]
  have q13 : q 13 = r 13 + 1 := by rw [hq, rs_ne (by omega), rs_self]
  clear hq
  have o : ∀ k, (k < 13 ∨ (13 < k ∧ k < 19) ∨ (19 < k ∧ k < 25) ∨ (155 ≤ k ∧ (k < 220 + 27 * i ∨ 220 + 27 * i + 27 ≤ k))) → q k = r k := fun k hk => by
    rw [qB k (by omega) (by omega) (by omega) (by omega) (by omega) (by omega) (by omega) (by omega) (by omega), BA k (by omega) (by omega)]
  have oT : ∀ k, 220 + 27 * i ≤ k → k < 220 + 27 * i + 27 → ¬ k = 220 + 27 * i + 10 → ¬ k = 220 + 27 * i + 5 → ¬ k = 220 + 27 * i + 4 → ¬ k = 220 + 27 * i + 3 → ¬ k = 220 + 27 * i + 9 → q k = r k := fun k k0 k1 c1 c2 c3 c4 c5 => by
    rw [qB k (by omega) (by omega) c1 c2 c3 c4 c5 (by omega) (by omega), BA k (by omega) (by omega)]
  have oP : ∀ y, 0 ≤ y → y < r 0 → q (25 + 13 * y + 10) = B (25 + 13 * y + 10) := fun y y0' y1' => qB _ (by omega) (by omega) (by omega) (by omega) (by omega) (by omega) (by omega) (by omega) (by omega)
  have oR : ∀ k, 25 ≤ k → k < 155 → (∀ y, 0 ≤ y → y < r 0 → ¬ k = 25 + 13 * y + 10 ∧ ¬ k = 25 + 13 * y + 11 ∧ ¬ k = 25 + 13 * y + 12) → q k = r k := fun k k0 k1 hk => by
    have c1 := hk x h2.1 h2.2
    have c2 := hk s y0.1 y0.2
    rw [qB k (by omega) (by omega) (by omega) (by omega) (by omega) (by omega) (by omega) (by omega) (by omega), BA k (by omega) (by omega)]
  have e0 := o 0 (by omega)
  have e1 := o 1 (by omega)
  have e2 := o 2 (by omega)
  have e3 := o 3 (by omega)
  have e4 := o 4 (by omega)
  have e5 := o 5 (by omega)
  have e6 := o 6 (by omega)
  have hSW : SameW r q := ⟨e0, e1, fun k k0 k1 => o k (by omega)⟩
  refine ⟨⟨by unfold Wb; omega, fun y y0' y1' => ?_, hSW.ww (by omega) hw, fun j j0 j1 => ?_, ?_⟩, ⟨fun y y0' y1' => ?_, by rw [q13, e3]; have := hS.2; omega⟩, hSW, e2, e3, e5⟩
  · rw [e0] at y1'
    obtain ⟨u0, u1, u2, u3, u4, u5, u6⟩ := hr y y0' y1'
    have pby := pb y y0' y1'
    unfold Wx
    rw [oP y y0' y1', e3, oR (25 + 13 * y) (by omega) (by omega) (fun z z0 z1 => by omega), oR (25 + 13 * y + 7) (by omega) (by omega) (fun z z0 z1 => by omega), oR (25 + 13 * y + 8) (by omega) (by omega) (fun z z0 z1 => by omega), oR (25 + 13 * y + 9) (by omega) (by omega) (fun z z0 z1 => by omega)]
    refine ⟨u0, fun k k0 k1 => ?_, u2, u3, u4, ⟨pby.1, by have := pby.2; split at this <;> omega⟩, ?_⟩
    · rw [oR (25 + 13 * y + 1 + k) (by omega) (by omega) (fun z z0 z1 => by omega)]
      exact u1 k k0 k1
    · by_cases c : y = x
      · subst c; rw [q11]; omega
      · rw [qB (25 + 13 * y + 11) (by omega) (by omega) (by omega) (by omega) (by omega) (by omega) (by omega) (by omega) (by omega), BA _ (by omega) (by omega)]
        exact u6
  · by_cases c : j = i
    · subst c
      unfold Wy
      rw [e0, e3, oT (220 + 27 * j) (by omega) (by omega) (by omega) (by omega) (by omega) (by omega) (by omega), oT (220 + 27 * j + 1) (by omega) (by omega) (by omega) (by omega) (by omega) (by omega) (by omega), oT (220 + 27 * j + 2) (by omega) (by omega) (by omega) (by omega) (by omega) (by omega) (by omega), q3, q4, q5, oT (220 + 27 * j + 6) (by omega) (by omega) (by omega) (by omega) (by omega) (by omega) (by omega), oT (220 + 27 * j + 7) (by omega) (by omega) (by omega) (by omega) (by omega) (by omega) (by omega), oT (220 + 27 * j + 8) (by omega) (by omega) (by omega) (by omega) (by omega) (by omega) (by omega), q9, q10, hs]
      refine ⟨y0, y1, y2, y3, by omega, n1, by omega, y7, y8, y9, by omega, by omega, fun k k0 k1 => ?_, fun k k0 k1 => ?_, (fun h => by omega), (fun h => by omega)⟩
      · rw [oT k (by omega) (by omega) (by omega) (by omega) (by omega) (by omega) (by omega)]; exact y12 k k0 k1
      · rw [oT _ (by omega) (by omega) (by omega) (by omega) (by omega) (by omega) (by omega), oT _ (by omega) (by omega) (by omega) (by omega) (by omega) (by omega) (by omega)]; exact y13 k k0 k1
    · exact Wy_congr (r := r) e0 (by omega) (fun k k0 k1 => o k (by omega)) (ht j j0 (by omega))
  · have hcc : ∀ v, ¬ v = 0 → ¬ v = 1 → cnt (fun i => decide (q (220 + 27 * i + 3) = v)) (q 2).toNat = cnt (fun i => decide (r (220 + 27 * i + 3) = v)) (r 2).toNat := fun v v0 v1 => by
      rw [e2]
      refine cnt_congr fun j j0 j1 => ?_
      by_cases c : j = i
      · subst c
        rw [q3, h3, decide_eq_false (fun h => v1 h.symm), decide_eq_false (fun h => v0 h.symm)]
      · rw [o _ (by omega)]
    refine ⟨by rw [o 11 (by omega), e2]; exact a1, by rw [o 15 (by omega), a2, hcc 2 (by omega) (by omega)], by rw [o 18 (by omega), a3, hcc 3 (by omega) (by omega)], by rw [o 16 (by omega), o 15 (by omega)]; exact a4, ?_, by rw [q13, e3]; have := hS.2; omega, ?_⟩
    · rw [q13, a5, e2]
      have := sm_up2 (p := fun i => r (220 + 27 * i + 9)) (p' := fun i => q (220 + 27 * i + 9)) (k := i) h1.1 (n := (r 2).toNat) (by omega) (fun j j0 j1 hj => o _ (by omega))
      rw [this]
      show _ = _ + (q (220 + 27 * i + 9) - r (220 + 27 * i + 9))
      omega
    · rw [o 7 (by omega), o 20 (by omega), ← a7, e0, ← hsum]
      exact sm_congr fun y z0 z1 => oP y z0 (by omega)
  · rw [e0] at y1'
    rw [oP y y0' y1', e3]
    exact (pb y y0' y1').2
