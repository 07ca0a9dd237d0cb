/-! ===== the text of the class's first post is read ===== -/
theorem fi_read {F : Nat} (hF : 20000 ≤ F) {w : aI} (hTX : TX w B0z N0z) (hT : TOK w 48) : ∃ u', f_X5_isRead F 6 w = some (true, u') ∧ Rep u' 48 R8z ∧ WF R8z ∧ FdzU w u' ∧ u' 5 5 = 0 ∧ u' 5 6 = -1 := by
  obtain ⟨u0, a1, D0, f0⟩ := c_clearD (F := F) (w := w) (r := fun _ => 0) (by omega) hT
  have TX0 : TX u0 B0z N0z := by
    unfold TX
    rw [f0 1 (by omega), f0 2 (by omega)]
    exact hTX
  obtain ⟨v0, a2, C0, f1⟩ := c_open (F := F) (by omega) TX0
  have E0 : DR v0 48 R0z := D0.fk f1
  obtain ⟨u1, s1, C1, E1, W1, g1⟩ := fi_1 (F := F) (by omega) C0 E0 (clrT_DW _)
  obtain ⟨u2, s2, C2, E2, W2, g2⟩ := fi_2 (F := F) (by omega) C1 E1 W1
  obtain ⟨u3, s3, C3, E3, W3, g3⟩ := fi_3 (F := F) (by omega) C2 E2 W2
  obtain ⟨u4, s4, C4, E4, W4, g4⟩ := fi_4 (F := F) (by omega) C3 E3 W3
  obtain ⟨u5, s5, C5, E5, W5, g5⟩ := fi_5 (F := F) (by omega) C4 E4 W4
  obtain ⟨u6, s6, C6, E6, W6, g6⟩ := fi_6 (F := F) (by omega) C5 E5 W5
  obtain ⟨u7, s7, C7, E7, W7, g7⟩ := fi_7 (F := F) (by omega) C6 E6 W6
  obtain ⟨u8, s8, C8, E8, W8, g8⟩ := fi_8 (F := F) (by omega) C7 E7 W7
  have lp : ∀ n i : Nat, 9 ≤ n → (i : Int) = 0 → f_X5_isRead_b16 F 6 n i v0 = f_X5_isRead_b48 F 6 u8 := by
    intro n i hn hi
    obtain ⟨m, rfl⟩ : ∃ m, n = m + 1 + 1 + 1 + 1 + 1 + 1 + 1 + 1 + 1 := ⟨n - 9, by omega⟩
    rw [fi_step (by omega) C0 (by decide +kernel) s1, fi_step (by omega) C1 (by decide +kernel) s2, fi_step (by omega) C2 (by decide +kernel) s3, fi_step (by omega) C3 (by decide +kernel) s4, fi_step (by omega) C4 (by decide +kernel) s5, fi_step (by omega) C5 (by decide +kernel) s6, fi_step (by omega) C6 (by decide +kernel) s7, fi_step (by omega) C7 (by decide +kernel) s8, fi_stop (by omega) C8 (by decide +kernel)]
  have h2 : 2 ≤ R8z 0 := by decide +kernel
  obtain ⟨u9, k1, k2, k3⟩ := z_b48 (F := F) (by omega) E8 W8 h2
  have hl := lp F 0 (by omega) rfl
  refine ⟨u9, ?_, k2, W8.wf h2, (((((((((f0.fd.trans f1.fd).trans g1).trans g2).trans g3).trans g4).trans g5).trans g6).trans g7).trans g8).trans k3.fd, by rw [k3 5 (Or.inl (by omega))]; exact C8.2.2.2.1, by rw [k3 5 (Or.inl (by omega))]; exact C8.2.2.2.2⟩
  unfold f_X5_isRead
  rw [p60, p61, a1, bs, a2, bs]
  exact hl.trans k1
