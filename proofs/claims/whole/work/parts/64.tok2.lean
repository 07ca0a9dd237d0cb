/-! ===== tokens: the reference goes on ===== -/
theorem kd5 {b : Int} (h : 0 ≤ b ∧ b ≤ 255) : kd b = 5 ↔ (i2bI b = 32 ∨ i2bI b = 10) := by
  have e : i2bI b = 32 ↔ b = 32 := by unfold i2bI; omega
  have e2 : i2bI b = 10 ↔ b = 10 := by unfold i2bI; omega
  rw [e, e2]
  unfold kd
  repeat' split
  all_goals omega
theorem kd1 {b : Int} (h : 0 ≤ b ∧ b ≤ 255) : kd b = 1 ↔ (97 ≤ i2bI b ∧ i2bI b ≤ 122) := by
  have e : (97 ≤ i2bI b ∧ i2bI b ≤ 122) ↔ (97 ≤ b ∧ b ≤ 122) := by unfold i2bI; omega
  rw [e]
  unfold kd
  repeat' split
  all_goals omega
theorem kd2 {b : Int} (h : 0 ≤ b ∧ b ≤ 255) : kd b = 2 ↔ (48 ≤ i2bI b ∧ i2bI b ≤ 57) := by
  have e : (48 ≤ i2bI b ∧ i2bI b ≤ 57) ↔ (48 ≤ b ∧ b ≤ 57) := by unfold i2bI; omega
  rw [e]
  unfold kd
  repeat' split
  all_goals omega
theorem kd3 {b : Int} (h : 0 ≤ b ∧ b ≤ 255) : kd b = 3 ↔ i2bI b = 59 := by
  have e : i2bI b = 59 ↔ b = 59 := by unfold i2bI; omega
  rw [e]
  unfold kd
  repeat' split
  all_goals omega
theorem i2b_bd (b : Int) : -128 ≤ i2bI b ∧ i2bI b ≤ 127 := by unfold i2bI; omega
theorem i2b_v {b : Int} (h : 0 ≤ b ∧ b ≤ 127) : i2bI b = b := by unfold i2bI; omega
theorem kd2_v {b : Int} (h : kd b = 2) : 48 ≤ b ∧ b ≤ 57 := by
  unfold kd at h
  repeat' split at h
  all_goals omega
theorem kd1_v {b : Int} (h : kd b = 1) : 97 ≤ b ∧ b ≤ 122 := by
  unfold kd at h
  repeat' split at h
  all_goals omega
theorem TM.at {v : aI} {B : Int → Int} {N : Int} (h : TM v B N) {g : Int → Int} (hg : g 13 = v 210 13) : TM (stc v 210 g) B N := by
  unfold TM
  rw [stc_eq, stc_ne (show ¬ 218 = 210 by decide), hg]
  exact h
section MGo
variable {F : Nat} {v : aI} {B : Int → Int} {N : Int}
theorem m_letter (h : TM v B N) {i : Int} (hi : 0 ≤ i ∧ i ≤ 900) : f_X11_isLetter F 210 i v = some (decide (i < N ∧ kd (B i) = 1)) := by
  obtain ⟨h1, h2, h3⟩ := h
  unfold f_X11_isLetter
  rw [h1, gd_t (by omega)]
  by_cases c : N ≤ i
  · rw [if_pos c, decide_eq_false (by omega)]
  · have hb := h3 i hi.1 (by omega)
    have := i2b_bd (B i)
    rw [if_neg c, m12, n12, gd_t (by omega), hb.2, gd_t (by omega), m_in (by omega) (by decide) (by decide), bs]
    by_cases c2 : 97 ≤ i2bI (B i) ∧ i2bI (B i) ≤ 122
    · rw [decide_eq_true c2, if_pos rfl, decide_eq_true ⟨by omega, (kd1 hb.1).mpr c2⟩]
    · rw [decide_eq_false c2, if_neg (by decide), decide_eq_false (fun z => c2 ((kd1 hb.1).mp z.2))]
theorem m_digit (h : TM v B N) {i : Int} (hi : 0 ≤ i ∧ i ≤ 900) : f_X11_isDigit F 210 i v = some (decide (i < N ∧ kd (B i) = 2)) := by
  obtain ⟨h1, h2, h3⟩ := h
  unfold f_X11_isDigit
  rw [h1, gd_t (by omega)]
  by_cases c : N ≤ i
  · rw [if_pos c, decide_eq_false (by omega)]
  · have hb := h3 i hi.1 (by omega)
    have := i2b_bd (B i)
    rw [if_neg c, m12, n12, gd_t (by omega), hb.2, gd_t (by omega), m_in (by omega) (by decide) (by decide), bs]
    by_cases c2 : 48 ≤ i2bI (B i) ∧ i2bI (B i) ≤ 57
    · rw [decide_eq_true c2, if_pos rfl, decide_eq_true ⟨by omega, (kd2 hb.1).mpr c2⟩]
    · rw [decide_eq_false c2, if_neg (by decide), decide_eq_false (fun z => c2 ((kd2 hb.1).mp z.2))]
theorem m_st16 (h : TM v B N) : ∀ (n : Nat) (g : Int → Int), g 13 = v 210 13 → 0 ≤ g 16 → g 16 ≤ N → N - g 16 < n → ∃ g2, f_X11_goesOn_b16 F 210 n (stc v 210 g) = f_X11_goesOn_b68 F 210 (stc v 210 g2) ∧ g2 16 = skp B N n (g 16) ∧ ∀ k, ¬ k = 16 → g2 k = g k := by
  obtain ⟨h1, h2, h3⟩ := h
  intro n
  induction n with
  | zero => intro g g9 g0 g1 g2; omega
  | succ n ih =>
    intro g g9 g0 g1 g2
    show ∃ g2, f_X11_goesOn_b16_b F 210 (f_X11_goesOn_b16 F 210 n) _ = _ ∧ _
    unfold f_X11_goesOn_b16_b
    rw [stc_eq, g9, h1, gd_t (by omega), skp]
    by_cases c : N ≤ g 16
    · rw [if_pos c, if_neg (by omega)]
      exact ⟨g, rfl, rfl, fun k _ => rfl⟩
    · have hb := h3 (g 16) g0 (by omega)
      have hi := i2b_bd (B (g 16))
      have e55 : f_X11_goesOn_b55 F 210 (f_X11_goesOn_b16 F 210 n) (stc v 210 g) = f_X11_goesOn_b16 F 210 n (stc v 210 (rs g 16 (g 16 + 1))) := by
        unfold f_X11_goesOn_b55
        rw [ltm, is_stc, stc_eq, stc_stc]
      have nx : ∃ g2, f_X11_goesOn_b16 F 210 n (stc v 210 (rs g 16 (g 16 + 1))) = f_X11_goesOn_b68 F 210 (stc v 210 g2) ∧ g2 16 = skp B N n (g 16 + 1) ∧ ∀ k, ¬ k = 16 → g2 k = g k := by
        obtain ⟨g2, a1, a2, a3⟩ := ih (rs g 16 (g 16 + 1)) (by rw [rs_ne (by omega)]; exact g9) (by rw [rs_self]; omega) (by rw [rs_self]; omega) (by rw [rs_self]; omega)
        rw [rs_self] at a2
        exact ⟨g2, a1, a2, fun k hk => by rw [a3 k hk, rs_ne hk]⟩
      rw [if_neg c, m12, n12, gd_t (by omega), stc_ne (show ¬ 218 = 210 by decide), hb.2, gd_t (by omega), e55]
      by_cases c2 : kd (B (g 16)) = 5
      · rw [if_pos (show g 16 < N ∧ kd (B (g 16)) = 5 from ⟨by omega, c2⟩)]
        rcases (kd5 hb.1).mp c2 with z | z
        · rw [if_pos z]; exact nx
        · rw [if_neg (by omega), gd_t (by omega), if_pos z]; exact nx
      · have z := fun q => c2 ((kd5 hb.1).mpr q)
        rw [if_neg (show ¬ (g 16 < N ∧ kd (B (g 16)) = 5) from fun q => c2 q.2), if_neg (show ¬ i2bI (B (g 16)) = 32 from fun q => z (Or.inl q)), gd_t (by omega), if_neg (fun q => z (Or.inr q))]
        exact ⟨g, rfl, rfl, fun k _ => rfl⟩
theorem m_st106 (h : TM v B N) : ∀ (n : Nat) (g : Int → Int), g 13 = v 210 13 → 0 ≤ g 16 → g 16 ≤ g 17 → g 17 ≤ N → N - g 17 < n → ∃ g2, f_X11_goesOn_b106 F 210 n (stc v 210 g) = some (stc v 210 g2) ∧ g2 17 = rune B N 1 n (g 17) ∧ g2 18 = (if 8 < rune B N 1 n (g 17) - g 16 then 4 else 1) ∧ ∀ k, ¬ k = 17 → ¬ k = 18 → g2 k = g k := by
  have hN := h.2.1
  intro n
  induction n with
  | zero => intro g g9 g0 g1 g2; omega
  | succ n ih =>
    intro g g9 g0 g1 g2 g3
    have hT := h.at g9
    show ∃ g2, f_X11_goesOn_b106_b F 210 (f_X11_goesOn_b106 F 210 n) _ = _ ∧ _
    unfold f_X11_goesOn_b106_b
    rw [stc_eq, m_letter hT (by omega), bs, rune]
    by_cases c : g 17 < N ∧ kd (B (g 17)) = 1
    · rw [if_pos (decide_eq_true c), if_pos c, ltm, is_stc, stc_eq, stc_stc]
      obtain ⟨g2, a1, a2, a3, a4⟩ := ih (rs g 17 (g 17 + 1)) (by rw [rs_ne (by omega)]; exact g9) (by rw [rs_ne (by omega)]; exact g0) (by rw [rs_ne (by omega), rs_self]; omega) (by rw [rs_self]; omega) (by rw [rs_self]; omega)
      rw [rs_self] at a2 a3
      rw [rs_ne (by omega)] at a3
      exact ⟨g2, a1, a2, a3, fun k k1 k2 => by rw [a4 k k1 k2, rs_ne k1]⟩
    · rw [if_neg (by rw [decide_eq_true_iff]; exact c), if_neg c, gd_t (by omega)]
      by_cases c2 : g 17 - g 16 ≤ 8
      · rw [if_pos c2, ltm, is_stc, stc_eq, stc_stc]
        exact ⟨_, rfl, rs_ne (by omega), by rw [rs_self, if_neg (by omega)], fun k k1 k2 => rs_ne k2⟩
      · rw [if_neg c2, ltm, is_stc, stc_eq, stc_stc]
        exact ⟨_, rfl, rs_ne (by omega), by rw [rs_self, if_pos (by omega)], fun k k1 k2 => rs_ne k2⟩
theorem m_st172 (h : TM v B N) : ∀ (n : Nat) (g : Int → Int), g 13 = v 210 13 → 0 ≤ g 16 → g 16 ≤ g 17 → g 17 ≤ N → N - g 17 < n → (∀ j, g 16 ≤ j → j < g 17 → kd (B j) = 2) → g 19 = vl B (g 16) (min (g 17 - g 16).toNat 3) →
    ∃ g2, f_X11_goesOn_b172 F 210 n (stc v 210 g) = some (stc v 210 g2) ∧ g2 17 = rune B N 2 n (g 17) ∧ g2 18 = (if 3 < rune B N 2 n (g 17) - g 16 then 4 else 2) ∧ g2 19 = vl B (g 16) (min (rune B N 2 n (g 17) - g 16).toNat 3) ∧ ∀ k, ¬ k = 17 → ¬ k = 18 → ¬ k = 19 → g2 k = g k := by
  have hN := h.2.1
  intro n
  induction n with
  | zero => intro g g9 g0 g1 g2; omega
  | succ n ih =>
    intro g g9 g0 g1 g2 g3 gd2 g19
    have hT := h.at g9
    show ∃ g2, f_X11_goesOn_b172_b F 210 (f_X11_goesOn_b172 F 210 n) _ = _ ∧ _
    unfold f_X11_goesOn_b172_b
    rw [stc_eq, m_digit hT (by omega), bs, rune]
    by_cases c : g 17 < N ∧ kd (B (g 17)) = 2
    · have hb := h.2.2 (g 17) (by omega) c.1
      have hv := kd2_v c.2
      have e224 : ∀ z : Int, z = vl B (g 16) (min (g 17 + 1 - g 16).toNat 3) → ∃ g2, f_X11_goesOn_b224 F 210 (f_X11_goesOn_b172 F 210 n) z 210 (stc v 210 g) = some (stc v 210 g2) ∧ g2 17 = rune B N 2 n (g 17 + 1) ∧ g2 18 = (if 3 < rune B N 2 n (g 17 + 1) - g 16 then 4 else 2) ∧ g2 19 = vl B (g 16) (min (rune B N 2 n (g 17 + 1) - g 16).toNat 3) ∧ ∀ k, ¬ k = 17 → ¬ k = 18 → ¬ k = 19 → g2 k = g k := by
        intro z hz
        unfold f_X11_goesOn_b224
        rw [ltm, is_stc _ 210 19 z, stc_eq, stc_stc, ltm, is_stc, stc_eq, stc_stc, rs_ne (show ¬ (17 : Int) = 19 by omega)]
        obtain ⟨g2, a1, a2, a3, a4, a5⟩ := ih (rs (rs g 19 z) 17 (g 17 + 1)) (by rw [rs_ne (by omega), rs_ne (by omega)]; exact g9) (by rw [rs_ne (by omega), rs_ne (by omega)]; exact g0) (by rw [rs_ne (by omega), rs_ne (by omega), rs_self]; omega) (by rw [rs_self]; omega) (by rw [rs_self]; omega)
          (fun j j0 j1 => by
            rw [rs_ne (by omega), rs_ne (by omega)] at j0
            rw [rs_self] at j1
            by_cases e : j = g 17
            · rw [e]; exact c.2
            · exact gd2 j j0 (by omega))
          (by rw [rs_ne (by omega), rs_self, rs_self, rs_ne (by omega), rs_ne (by omega)]; exact hz)
        rw [rs_self] at a2 a3 a4
        rw [rs_ne (show ¬ (16 : Int) = 17 by omega), rs_ne (show ¬ (16 : Int) = 19 by omega)] at a3 a4
        exact ⟨g2, a1, a2, a3, a4, fun k k1 k2 k3 => by rw [a5 k k1 k2 k3, rs_ne k1, rs_ne k3]⟩
      rw [if_pos (decide_eq_true c), if_pos c, gd_t (by omega)]
      by_cases c3 : 3 ≤ g 17 - g 16
      · rw [if_pos c3]
        refine e224 _ ?_
        rw [g19, show min (g 17 - g 16).toNat 3 = min (g 17 + 1 - g 16).toNat 3 by omega]
      · rw [if_neg c3, m12, n12, gd_t (by omega)]
        refine e224 _ ?_
        rw [stc_ne (show ¬ 218 = 210 by decide), hb.2, i2b_v (by omega), g19, show min (g 17 + 1 - g 16).toNat 3 = (g 17 - g 16).toNat + 1 by omega, show min (g 17 - g 16).toNat 3 = (g 17 - g 16).toNat by omega, vl, show g 16 + ((g 17 - g 16).toNat : Int) = g 17 by omega]
        omega
    · rw [if_neg (by rw [decide_eq_true_iff]; exact c), if_neg c, gd_t (by omega)]
      by_cases c2 : g 17 - g 16 ≤ 3
      · rw [if_pos c2, ltm, is_stc, stc_eq, stc_stc]
        exact ⟨_, rfl, rs_ne (by omega), by rw [rs_self, if_neg (by omega)], by rw [rs_ne (by omega)]; exact g19, fun k k1 k2 k3 => rs_ne k2⟩
      · rw [if_neg c2, ltm, is_stc, stc_eq, stc_stc]
        exact ⟨_, rfl, rs_ne (by omega), by rw [rs_self, if_pos (by omega)], by rw [rs_ne (by omega)]; exact g19, fun k k1 k2 k3 => rs_ne k2⟩
theorem m_goesOn (hF : 1000 ≤ F) (h : TM v B N) {p : Int} (hp : 0 ≤ p ∧ p ≤ N) (h20 : v 210 20 = 0) (h17 : v 210 17 = p) (h19 : rg (v 210 19)) :
    ∃ g, f_X11_goesOn F 210 v = some (stc v 210 g) ∧ (g 16 = tS B N p ∧ g 17 = tE B N p ∧ g 18 = tK B N p ∧ rg (g 19) ∧ (tK B N p = 2 → g 19 = tV B N p)) ∧ ∀ k, ¬ k = 16 → ¬ k = 17 → ¬ k = 18 → ¬ k = 19 → g k = v 210 k := by
  have hN := h.2.1
  have hb := tok_bd (B := B) hN.2 hp
  have hS : skp B N F p = tS B N p := skp_eq F 801 p (by omega) (by omega)
  unfold f_X11_goesOn
  rw [h20, gd_t (by decide), if_pos (by decide), ltm, h17, is_stc]
  obtain ⟨g1, a1, a2, a3⟩ := m_st16 (F := F) h F (rs (v 210) 16 p) (rs_ne (by omega)) (by rw [rs_self]; omega) (by rw [rs_self]; omega) (by rw [rs_self]; omega)
  rw [rs_self, hS] at a2
  rw [a1]
  unfold f_X11_goesOn_b68
  rw [ltm, stc_eq v 210 g1, is_stc, stc_eq v 210 g1, stc_stc, a2]
  obtain ⟨q, hq⟩ : ∃ q, q = rs g1 17 (tS B N p) := ⟨_, rfl⟩
  rw [← hq]
  have q16 : q 16 = tS B N p := by rw [hq, rs_ne (by omega)]; exact a2
  have q17 : q 17 = tS B N p := by rw [hq, rs_self]
  have qo : ∀ k, ¬ k = 16 → ¬ k = 17 → q k = v 210 k := fun k k1 k2 => by rw [hq, rs_ne k2, a3 k k1, rs_ne k1]
  clear hq
  have q13 : q 13 = v 210 13 := qo 13 (by omega) (by omega)
  have hT := h.at q13
  have q13N : q 13 = N := by rw [q13, h.1]
  rw [stc_eq, q16, q13N, gd_t (by omega)]
  by_cases c : tS B N p = N
  · have e2 : tE B N p = tS B N p := by unfold tE; rw [if_pos (by omega)]
    have e3 : tK B N p = 0 := by unfold tK; rw [if_pos (by omega)]
    rw [if_pos c, ltm, is_stc, stc_eq, stc_stc]
    refine ⟨_, rfl, ⟨by rw [rs_ne (by omega)]; exact q16, by rw [rs_ne (by omega), q17, e2], by rw [rs_self, e3], by rw [rs_ne (by omega), qo 19 (by omega) (by omega)]; exact h19, fun z => by omega⟩, fun k k1 k2 k3 k4 => by rw [rs_ne k3, qo k k1 k2]⟩
  · have hB := h.2.2 (tS B N p) (by omega) (by omega)
    have hk := kd_rg (B (tS B N p))
    have h5' : ¬ kd (B (tS B N p)) = 5 := skp_at 801 p (by omega) (by show tS B N p < N; omega)
    rw [if_neg c, m_letter hT (by omega), bs]
    by_cases c1 : kd (B (tS B N p)) = 1
    · have e2 : tE B N p = rune B N 1 801 (tS B N p + 1) := by unfold tE; rw [if_neg (by omega), if_pos (Or.inl c1), c1]
      have e3 : tK B N p = if 8 < tE B N p - tS B N p then 4 else 1 := by unfold tK; rw [if_neg (by omega), if_pos c1]
      obtain ⟨g2, b1, b2, b3, b4⟩ := m_st106 (F := F) h F q q13 (by omega) (by omega) (by omega) (by omega)
      have hR : rune B N 1 F (q 17) = tE B N p := by
        obtain ⟨m, hm⟩ : ∃ m, F = m + 1 := ⟨F - 1, by omega⟩
        rw [hm, rune, q17, if_pos ⟨by omega, c1⟩, e2]
        exact rune_eq m 801 _ (by omega) (by omega)
      rw [hR] at b2 b3
      rw [q16, ← e3] at b3
      rw [if_pos (decide_eq_true ⟨by omega, c1⟩), b1]
      refine ⟨g2, rfl, ⟨by rw [b4 16 (by omega) (by omega)]; exact q16, b2, b3, by rw [b4 19 (by omega) (by omega), qo 19 (by omega) (by omega)]; exact h19, fun z => by rw [e3] at z; split at z <;> omega⟩, fun k k1 k2 k3 k4 => by rw [b4 k k2 k3, qo k k1 k2]⟩
    · rw [if_neg (by rw [decide_eq_true_iff]; exact fun z => c1 z.2), m_digit hT (by omega), bs]
      by_cases c2 : kd (B (tS B N p)) = 2
      · have e2 : tE B N p = rune B N 2 801 (tS B N p + 1) := by unfold tE; rw [if_neg (by omega), if_pos (Or.inr c2), c2]
        have e3 : tK B N p = if 3 < tE B N p - tS B N p then 4 else 2 := by unfold tK; rw [if_neg (by omega), if_neg c1, if_pos c2]
        rw [if_pos (decide_eq_true ⟨by omega, c2⟩), ltm, is_stc, stc_eq, stc_stc]
        obtain ⟨g2, b1, b2, b3, b4, b5⟩ := m_st172 (F := F) h F (rs q 19 0) (by rw [rs_ne (by omega)]; exact q13) (by rw [rs_ne (by omega)]; omega) (by rw [rs_ne (by omega), rs_ne (by omega)]; omega) (by rw [rs_ne (by omega)]; omega) (by rw [rs_ne (by omega)]; omega)
          (fun j j0 j1 => by rw [rs_ne (by omega)] at j0 j1; omega) (by rw [rs_self, rs_ne (by omega), rs_ne (by omega), q16, q17, show min (tS B N p - tS B N p).toNat 3 = 0 by omega]; rfl)
        have hR : rune B N 2 F (rs q 19 0 17) = tE B N p := by
          obtain ⟨m, hm⟩ : ∃ m, F = m + 1 := ⟨F - 1, by omega⟩
          rw [hm, rune, rs_ne (by omega), q17, if_pos ⟨by omega, c2⟩, e2]
          exact rune_eq m 801 _ (by omega) (by omega)
        rw [hR] at b2 b3 b4
        rw [rs_ne (show ¬ (16 : Int) = 19 by omega), q16] at b3 b4
        rw [← e3] at b3
        have hd : ∀ j : Int, tS B N p ≤ j → j < tE B N p → 48 ≤ B j ∧ B j ≤ 57 := fun j j0 j1 => by
          apply kd2_v
          by_cases e : j = tS B N p
          · rw [e]; exact c2
          · rw [e2] at j1
            exact rune_in 801 (tS B N p + 1) j (by omega) j1
        have hv := vl_bd (B := B) (s := tS B N p) (min (tE B N p - tS B N p).toNat 3) (by omega) (fun j j0 j1 => hd j j0 (by omega))
        have ht : tn (min (tE B N p - tS B N p).toNat 3) ≤ 1000 := by
          have : min (tE B N p - tS B N p).toNat 3 = 0 ∨ min (tE B N p - tS B N p).toNat 3 = 1 ∨ min (tE B N p - tS B N p).toNat 3 = 2 ∨ min (tE B N p - tS B N p).toNat 3 = 3 := by omega
          rcases this with e | e | e | e <;> rw [e] <;> decide
        rw [b1]
        refine ⟨g2, rfl, ⟨by rw [b5 16 (by omega) (by omega) (by omega), rs_ne (by omega)]; exact q16, b2, b3, by rw [b4]; omega, fun z => ?_⟩, fun k k1 k2 k3 k4 => by rw [b5 k k2 k3 k4, rs_ne k4, qo k k1 k2]⟩
        rw [b4]
        unfold tV
        rw [if_pos z]
        rw [e3] at z
        have h3 : ¬ 3 < tE B N p - tS B N p := fun y => by rw [if_pos y] at z; omega
        rw [show min (tE B N p - tS B N p).toNat 3 = (tE B N p - tS B N p).toNat by omega]
      · have e2 : tE B N p = tS B N p + 1 := by unfold tE; rw [if_neg (by omega), if_neg (by omega)]
        have e3 : tK B N p = kd (B (tS B N p)) := by unfold tK; rw [if_neg (by omega), if_neg c1, if_neg c2]
        have hi := i2b_bd (B (tS B N p))
        have fin : ∀ z : Int, z = kd (B (tS B N p)) → ∃ g, f_X11_goesOn_b285 F 210 z 210 (stc v 210 q) = some (stc v 210 g) ∧ (g 16 = tS B N p ∧ g 17 = tE B N p ∧ g 18 = tK B N p ∧ rg (g 19) ∧ (tK B N p = 2 → g 19 = tV B N p)) ∧ ∀ k, ¬ k = 16 → ¬ k = 17 → ¬ k = 18 → ¬ k = 19 → g k = v 210 k := by
          intro z hz
          unfold f_X11_goesOn_b285
          rw [ltm, is_stc _ 210 18 z, stc_eq, stc_stc, ltm, is_stc, stc_eq, stc_stc, rs_ne (show ¬ (17 : Int) = 18 by omega)]
          refine ⟨_, rfl, ⟨by rw [rs_ne (by omega), rs_ne (by omega)]; exact q16, by rw [rs_self, q17, e2], by rw [rs_ne (by omega), rs_self, hz, e3], by rw [rs_ne (by omega), rs_ne (by omega), qo 19 (by omega) (by omega)]; exact h19, fun y => by omega⟩, fun k k1 k2 k3 k4 => by rw [rs_ne k2, rs_ne k3, qo k k1 k2]⟩
        rw [if_neg (by rw [decide_eq_true_iff]; exact fun z => c2 z.2), m12, n12, gd_t (by omega), stc_ne (show ¬ 218 = 210 by decide), hB.2, gd_t (by omega)]
        by_cases c3 : i2bI (B (tS B N p)) = 59
        · rw [if_pos c3]; exact fin 3 ((kd3 hB.1).mpr c3).symm
        · have : ¬ kd (B (tS B N p)) = 3 := fun z => c3 ((kd3 hB.1).mp z)
          rw [if_neg c3]; exact fin 4 (by omega)
theorem m_goesDead (h : 0 < v 210 20) (hr : rg (v 210 20)) : f_X11_goesOn F 210 v = some v := by
  unfold f_X11_goesOn
  rw [gd_t hr, if_neg (by omega)]
end MGo
