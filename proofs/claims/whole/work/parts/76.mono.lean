/-! ===== ticks never take an arrival back ===== -/
theorem land15 (r : Row) {i : Int} (hi : 0 ≤ i) : landT r i 15 = r 15 ∧ landT r i 2 = r 2 := by
  unfold landT
  rw [rs_ne (by omega), rs_ne (by omega), rs_ne (by omega), rs_ne (by omega), blurT_ne (by omega) (by omega), blurT_ne (by omega) (by omega)]
  exact ⟨rfl, rfl⟩
theorem comes15 {r : Row} {i : Int} (hi : 0 ≤ i) (h2 : 0 ≤ r 2) : r 15 ≤ comesT r i 15 := by
  obtain ⟨e1, e2⟩ := land15 r hi
  unfold comesT goalT
  split
  · split
    · unfold backT hearT
      rw [rs_ne (by omega), rs_ne (by omega), if_neg (by omega), rs_ne (by omega), e1]
      exact Int.le_refl _
    · unfold replyT
      have d15 : doneT (landT r i) i 15 = r 15 + 1 := by
        unfold doneT
        rw [rs_ne (by omega), rs_self, e1]
      have d2 : doneT (landT r i) i 2 = r 2 := by
        unfold doneT
        rw [rs_ne (by omega), rs_ne (by omega), rs_ne (by omega), e2]
      split
      · rw [d15]; omega
      · rw [newT_out (by rw [d2]; omega) (by omega) (by omega) (by omega), d15]; omega
  · rw [e1]
    exact Int.le_refl _
theorem arr15 {r : Row} (hW : WF r) : ∀ n : Nat, (n : Int) ≤ r 2 → r 15 ≤ itr arrS r n 15 := by
  intro n
  induction n with
  | zero => intro _; exact Int.le_refl _
  | succ n ih =>
    intro hn
    have h := ih (by omega)
    obtain ⟨h1, h2⟩ := arr_inv hW n (by omega)
    have e : itr arrS r (n + 1) = arrS n (itr arrS r n) := rfl
    rw [e]
    generalize itr arrS r n = q at h h1 h2
    unfold arrS
    split
    · exact Int.le_trans h (comes15 (by omega) h1.1.2.2.1.1)
    · exact h
theorem wh15 {r : Row} (hW : WF r) (hS : Sl r 0) : ∀ n : Nat, (n : Int) ≤ r 0 → itr whS r n 15 = r 15 := by
  intro n
  induction n with
  | zero => intro _; rfl
  | succ n ih =>
    intro hn
    have h := ih (by omega)
    obtain ⟨h1, h2, h3, -⟩ := wh_inv hW hS n (by omega)
    have e : itr whS r (n + 1) = whS n (itr whS r n) := rfl
    rw [e]
    generalize itr whS r n = q at h h1 h2 h3
    unfold whS
    split
    · exact h
    · rename_i c
      have c2 : ¬ firstG q n = -1 := fun z => c (Or.inr z)
      have hc := first_can h1 (x := n) ⟨by omega, by have := h3.1; omega⟩ c2
      have h0 := h1.2.2.2.1 _ hc.1.1 hc.1.2
      have h00 := h0.1
      have hi := hc.1.1
      generalize firstG q n = i at *
      unfold whT
      rw [rs_ne (by omega), rs_ne (by omega), rs_ne (by omega), rs_ne (by omega), rs_ne (by omega), rs_ne (by omega), rs_ne (by omega), rs_ne (by omega), rs_ne (by omega), rs_ne (by omega), rs_ne (by omega)]
      exact h
theorem lose15 {r : Row} : ∀ n : Nat, itr loseS r n 15 = r 15 := by
  intro n
  induction n with
  | zero => rfl
  | succ n ih =>
    have e : itr loseS r (n + 1) = loseS n (itr loseS r n) := rfl
    rw [e]
    generalize itr loseS r n = q at ih
    unfold loseS
    split
    · rw [rs_ne (by omega), rs_ne (by omega)]
      exact ih
    · exact ih
theorem tick15 {r : Row} (hW : WF r) (h3 : r 3 < 20000) : r 15 ≤ tickT r 15 := by
  obtain ⟨h1, h2⟩ := WF_time hW h3
  unfold tickT
  have e15 : rs (rs r 3 (r 3 + 1)) 10 (r 10 + 1) 15 = r 15 := by rw [rs_ne (by omega), rs_ne (by omega)]
  generalize rs (rs r 3 (r 3 + 1)) 10 (r 10 + 1) = q at h1 h2 e15
  have c2 := h1.1.2.2.1
  obtain ⟨k1, k2⟩ := arr_inv h1 (q 2).toNat (by omega)
  have k4 := arr15 h1 (q 2).toNat (by omega)
  rw [← arrT_eq] at k1 k2 k4
  have k3 := k2.sl h1.1.1.2 h2
  generalize arrT q = s at k1 k2 k3 k4
  have c0 := k1.1.1
  have hwh : whAllT s 15 = s 15 := by
    rw [whAllT_eq]
    split
    · exact wh15 k1 k3 (s 0).toNat (by omega)
    · rfl
  rw [loseT_eq, lose15, hwh]
  omega
theorem go15 {r : Row} (hW : WF r) : ∀ n : Nat, r 3 + n ≤ 20000 → r 15 ≤ goT r n 15 := by
  intro n
  induction n with
  | zero => intro _; exact Int.le_refl _
  | succ n ih =>
    intro hn
    have h := ih (by omega)
    obtain ⟨h1, h2, -, -⟩ := goT_WF hW n (by omega)
    have e : goT r (n + 1) = tickT (goT r n) := rfl
    rw [e]
    exact Int.le_trans h (tick15 h1 (by omega))
