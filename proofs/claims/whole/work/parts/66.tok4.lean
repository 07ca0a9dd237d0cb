/-! ===== words, names, numbers: the reference ===== -/
def Fy (v v' : aI) : Prop := (∀ a, ¬ a = 210 → v' a = v a) ∧ ∀ k, ¬ k = 16 → ¬ k = 17 → ¬ k = 18 → ¬ k = 19 → ¬ k = 20 → ¬ k = 21 → v' 210 k = v 210 k
theorem Fy.refl (v : aI) : Fy v v := ⟨fun _ _ => rfl, fun _ _ _ _ _ _ _ => rfl⟩
theorem Fy.trans {u v w : aI} (h : Fy u v) (k : Fy v w) : Fy u w := ⟨fun a a1 => (k.1 a a1).trans (h.1 a a1), fun j a b c d e f => (k.2 j a b c d e f).trans (h.2 j a b c d e f)⟩
theorem Fy.fz {v v' : aI} (h : Fy v v') : Fz v v' := ⟨fun a a1 _ => h.1 a a1, fun k _ a b c d e f => h.2 k a b c d e f⟩
section MTok
variable {F : Nat} {v : aI} {B : Int → Int} {N p : Int}
theorem TM.fy {v' : aI} (h : TM v B N) (f : Fy v v') : TM v' B N := by
  unfold TM
  rw [f.2 13 (by omega) (by omega) (by omega) (by omega) (by omega) (by omega), f.1 218 (by decide)]
  exact h
theorem TM.fz {v' : aI} (h : TM v B N) (f : Fz v v') : TM v' B N := by
  unfold TM
  rw [f.2 13 (by omega) (by omega) (by omega) (by omega) (by omega) (by omega) (by omega), f.1 218 (by decide) (by decide)]
  exact h
theorem m_next (hF : 1000 ≤ F) (h : MS v B N p) : ∃ v', f_X11_goesOn F 210 v = some v' ∧ MS v' B N (tE B N p) ∧ Fy v v' := by
  have hb := h.bd
  obtain ⟨h1, h2, h3⟩ := h
  obtain ⟨g, e1, ⟨g1, g2, g3, g4, g5⟩, g6⟩ := m_goesOn (F := F) hF h1 (p := tE B N p) (by omega) h2.2.2.2.2.2 h2.2.1 h2.2.2.2.1
  have fy : Fy v (stc v 210 g) := ⟨fun a ha => stc_ne ha, fun k a b c d e f => by rw [stc_eq]; exact g6 k a b c d⟩
  refine ⟨_, e1, ⟨h1.fy fy, ?_, by omega⟩, fy⟩
  unfold MT
  rw [stc_eq]
  exact ⟨g1, g2, g3, g4, g5, by rw [g6 20 (by omega) (by omega) (by omega) (by omega)]; exact h2.2.2.2.2.2⟩
theorem m_needOk {c x : Int} (h : MS v B N p) (hx : x = 1) : f_X11_need F 210 x c v = some v := by
  unfold f_X11_need
  rw [h.2.1.2.2.2.2.2, gd_t (by decide), if_pos rfl, gd_t (by omega), if_neg (by omega)]
theorem m_needNo {c x : Int} (h : MS v B N p) (hc : 1 ≤ c ∧ c ≤ 6) (hx : x = 0) : ∃ v', f_X11_need F 210 x c v = some v' ∧ MF v' B N c (tS B N p) ∧ Fy v v' := by
  have hb := h.bd
  obtain ⟨h1, h2, h3⟩ := h
  unfold f_X11_need
  rw [h2.2.2.2.2.2, gd_t (by decide), if_pos rfl, gd_t (by omega), if_pos hx, ltm, ltm, is_eq, rs_ne (by omega), h2.1]
  have fy : Fy v (iset (iset v 210 20 c) 210 21 (tS B N p)) := ⟨fun a ha => by rw [is_ne ha, is_ne ha], fun k a b c d e f => by rw [is_eq, rs_ne f, is_eq, rs_ne e]⟩
  have o : ∀ k, ¬ k = 20 → ¬ k = 21 → iset (iset v 210 20 c) 210 21 (tS B N p) 210 k = v 210 k := fun k e f => by rw [is_eq, rs_ne f, is_eq, rs_ne e]
  refine ⟨_, rfl, ⟨h1.fy fy, by rw [is_eq, rs_ne (by omega), is_eq, rs_self], by rw [is_eq, rs_self], hc, by omega, ?_, ?_, ?_, ?_⟩, fy⟩
  · rw [o 16 (by omega) (by omega), h2.1]; omega
  · rw [o 17 (by omega) (by omega), h2.2.1]; omega
  · rw [o 18 (by omega) (by omega), h2.2.2.1]; omega
  · rw [o 19 (by omega) (by omega)]; exact h2.2.2.2.1
theorem m_isWord {s : Nat} (hF : 1000 ≤ F) (hs : s < 34) (h : MS v B N p) : f_X11_isWord F 210 s v = some (decide (Wd B N p s)) := by
  have hb := h.bd
  obtain ⟨h1, h2, h3⟩ := h
  have hl := xB_len s hs
  unfold f_X11_isWord
  rw [h2.2.2.2.2.2, h2.2.2.1, h2.2.1, h2.1, gd_t (by decide), if_neg (by decide), gd_t (by omega)]
  by_cases c1 : tK B N p = 1
  · rw [if_pos c1, s_len hs, bs, gd_t (by omega)]
    by_cases c2 : tE B N p - tS B N p = (xB s).length
    · rw [if_pos c2]
      have key : ∀ (n i : Nat), i ≤ (xB s).length → (xB s).length - i < n → (∀ j : Nat, j < i → B (tS B N p + j) = ((xB s).getD j 0).toInt) → f_X11_isWord_b35 F 210 s v n i = some (decide (Wd B N p s)) := by
        intro n
        induction n with
        | zero => intro i i1 i2; omega
        | succ n ih =>
          intro i i1 i2 hi
          show f_X11_isWord_b35_b F 210 s v (f_X11_isWord_b35 F 210 s v n) _ = _
          unfold f_X11_isWord_b35_b
          rw [s_len hs, bs, gd_t (by omega)]
          by_cases c : ((xB s).length : Int) ≤ i
          · rw [if_pos c, decide_eq_true ⟨c1, c2, fun j hj => hi j (by omega)⟩]
          · have hB := h1.2.2 (tS B N p + i) (by omega) (by omega)
            have hc := xB_rg s hs i (by omega)
            have hi2 := i2b_bd (B (tS B N p + i))
            have ev : i2bI (B (tS B N p + i)) = ((xB s).getD i 0).toInt ↔ B (tS B N p + i) = ((xB s).getD i 0).toInt := by unfold i2bI; omega
            rw [if_neg c, m12, n12, h2.1, gd_t (by omega), s_chr hs (by omega), bs, hB.2, gd_t (by omega), ite_iff ev]
            by_cases c3 : B (tS B N p + i) = ((xB s).getD i 0).toInt
            · rw [if_pos c3]
              refine ih (i + 1) (by omega) (by omega) (fun j hj => ?_)
              by_cases e : j = i
              · rw [e]; exact c3
              · exact hi j (by omega)
            · rw [if_neg c3, decide_eq_false (fun z => c3 (z.2.2 i (by omega)))]
      exact key F 0 (by omega) (by omega) (fun j hj => by omega)
    · rw [if_neg c2, decide_eq_false (fun z => c2 z.2.1)]
  · rw [if_neg c1, decide_eq_false (fun z => c1 z.1)]
theorem m_isWordDead {s : Nat} {c a : Int} (h : MF v B N c a) : f_X11_isWord F 210 s v = some false := by
  unfold f_X11_isWord
  rw [h.2.1, gd_t (by have := h.2.2.2.1; omega), if_pos (by have := h.2.2.2.1; omega)]
theorem xB_same : xB 23 = xB 20 ∧ xB 24 = xB 21 ∧ xB 25 = xB 22 ∧ xB 26 = xB 18 ∧ xB 27 = xB 19 ∧ xB 28 = xB 13 ∧ xB 29 = xB 14 ∧ xB 30 = xB 15 ∧ xB 31 = xB 16 ∧ xB 32 = xB 17 := by decide +kernel
theorem Wd_same {s t : Nat} (h : xB s = xB t) : Wd B N p s ↔ Wd B N p t := by
  unfold Wd
  rw [h]
def swM (B : Int → Int) (N p : Int) : Int := if swd B N p = -1 then -1 else swd B N p - 4
theorem swd_v (B : Int → Int) (N p : Int) : swd B N p = 8 ∨ swd B N p = 9 ∨ swd B N p = 10 ∨ swd B N p = -1 := by
  unfold swd
  repeat' split
  all_goals simp
theorem m_setHere (hF : 1000 ≤ F) (h : MS v B N p) : f_X11_settingHere F 210 v = some (swM B N p) := by
  obtain ⟨x1, x2, x3, -⟩ := xB_same
  unfold f_X11_settingHere swM swd
  rw [m_isWord hF (by decide) h, bs]
  by_cases c1 : Wd B N p 20
  · rw [if_pos (decide_eq_true ((Wd_same x1).mpr c1)), if_pos c1]; rfl
  · rw [if_neg (by rw [decide_eq_true_iff]; exact fun z => c1 ((Wd_same x1).mp z)), if_neg c1, m_isWord hF (by decide) h, bs]
    by_cases c2 : Wd B N p 21
    · rw [if_pos (decide_eq_true ((Wd_same x2).mpr c2)), if_pos c2]; rfl
    · rw [if_neg (by rw [decide_eq_true_iff]; exact fun z => c2 ((Wd_same x2).mp z)), if_neg c2, m_isWord hF (by decide) h, bs]
      by_cases c3 : Wd B N p 22
      · rw [if_pos (decide_eq_true ((Wd_same x3).mpr c3)), if_pos c3]; rfl
      · rw [if_neg (by rw [decide_eq_true_iff]; exact fun z => c3 ((Wd_same x3).mp z)), if_neg c3]; rfl
theorem m_setDead {c a : Int} (h : MF v B N c a) : f_X11_settingHere F 210 v = some (-1) := by
  unfold f_X11_settingHere
  rw [m_isWordDead h, bs, if_neg (by decide), m_isWordDead h, bs, if_neg (by decide), m_isWordDead h, bs, if_neg (by decide)]
/-! where an error was met nothing is done -/
theorem m_needDead {c a x d : Int} (h : MF v B N c a) : f_X11_need F 210 x d v = some v := by
  have hc := h.2.2.2.1
  unfold f_X11_need
  rw [h.2.1, gd_t (by omega), if_neg (by omega)]
theorem m_nextDead {c a : Int} (h : MF v B N c a) : f_X11_goesOn F 210 v = some v := by
  have hc := h.2.2.2.1
  have h1 := h.2.1
  exact m_goesDead (by omega) (by omega)
theorem m_numHereDead {c a lo hi : Int} (h : MF v B N c a) (h1 : rg lo) (h2 : rg hi) : f_X11_numberHere F 210 lo hi v = some (lo, v) := by
  obtain ⟨k1, k2, k3, k4, k5, k6, k7, k8, k9⟩ := h
  have hd : MF v B N c a := ⟨k1, k2, k3, k4, k5, k6, k7, k8, k9⟩
  have b14 : ∀ z, f_X11_numberHere_b14 F 210 lo hi z 210 v = some (lo, v) := fun z => by
    unfold f_X11_numberHere_b14
    rw [m_needDead hd, bs, gd_t k9, gd_t h1, gd_t h2, m_in (by omega) (by omega) (by omega), bs, m_needDead hd, bs, k2, gd_t (by omega), if_neg (by omega)]
  unfold f_X11_numberHere
  rw [gd_t k8, b14, b14]
  split <;> rfl
theorem m_numDead {c a lo hi : Int} (h : MF v B N c a) (h1 : rg lo) (h2 : rg hi) : f_X11_number F 210 lo hi v = some (lo, v) := by
  unfold f_X11_number
  rw [m_numHereDead h h1 h2, bj, m_nextDead h, bs]
theorem m_semiDead {c a : Int} (h : MF v B N c a) : f_X11_semicolon F 210 v = some v := by
  have k8 := h.2.2.2.2.2.2.2.1
  unfold f_X11_semicolon
  rw [gd_t k8, m_needDead h, m_needDead h, bs, m_nextDead h, bs]
  split <;> rfl
theorem MF.fy {v' : aI} {c a : Int} (h : MF v B N c a) (f : ∀ k, ¬ k = 8 → v' 210 k = v 210 k) (f2 : v' 218 = v 218) : MF v' B N c a := by
  obtain ⟨k1, k2, k3, k4, k5, k6, k7, k8, k9⟩ := h
  refine ⟨?_, by rw [f 20 (by omega)]; exact k2, by rw [f 21 (by omega)]; exact k3, k4, k5, by rw [f 16 (by omega)]; exact k6, by rw [f 17 (by omega)]; exact k7, by rw [f 18 (by omega)]; exact k8, by rw [f 19 (by omega)]; exact k9⟩
  unfold TM
  rw [f 13 (by omega), f2]
  exact k1
theorem m_spellsDead {c a : Int} (hF : 1000 ≤ F) (h : MF v B N c a) : f_X11_spells F 210 v = some (iset v 210 8 0) ∧ MF (iset v 210 8 0) B N c a := by
  have hk := h
  obtain ⟨k1, k2, k3, k4, k5, k6, k7, k8, k9⟩ := h
  have b58 : f_X11_spells_b58 F 210 F 0 (iset v 210 8 0) = some (iset v 210 8 0) := by
    obtain ⟨m, hm⟩ : ∃ m, F = m + 1 := ⟨F - 1, by omega⟩
    have st : ∀ (F m : Nat) (i : Int), i = 0 → f_X11_spells_b58 F 210 (m + 1) i (iset v 210 8 0) = some (iset v 210 8 0) := by
      intro F m i hi
      show f_X11_spells_b58_b F 210 (f_X11_spells_b58 F 210 m) _ _ = _
      unfold f_X11_spells_b58_b
      rw [is_eq, rs_self, gd_t (by omega), if_pos (by omega)]
    have := st F m 0 rfl
    rw [← hm] at this
    exact this
  have b28 : ∀ z, f_X11_spells_b28 F 210 z 210 v = some (iset v 210 8 0) := fun z => by
    unfold f_X11_spells_b28
    rw [m_needDead hk, bs, k2, gd_t (by omega), if_neg (by omega), ltm, b58]
  refine ⟨?_, hk.fy (fun k hk => by rw [is_eq, rs_ne hk]) (is_ne (by decide))⟩
  unfold f_X11_spells f_X11_spells_b27
  rw [gd_t k8, b28, b28]
  split
  · rw [gd_t (by omega)]
    split <;> rfl
  · rfl
/-! the reference, while all is right -/
theorem m_numHere {lo hi : Int} (h : MS v B N p) (h1 : rg lo) (h2 : rg hi) : (nbE B N p lo hi = 0 → f_X11_numberHere F 210 lo hi v = some (tV B N p, v)) ∧ (¬ nbE B N p lo hi = 0 → ∃ v', f_X11_numberHere F 210 lo hi v = some (lo, v') ∧ MF v' B N (nbE B N p lo hi) (tS B N p) ∧ Fy v v') := by
  have hb := h.bd
  have hv := tV_bd (B := B) hb.1.2 h.2.2
  obtain ⟨g1, g2, g3⟩ := h
  have hM : MS v B N p := ⟨g1, g2, g3⟩
  unfold f_X11_numberHere nbE
  rw [g2.2.2.1, gd_t (by omega)]
  by_cases c1 : tK B N p = 2
  · have e19 : v 210 19 = tV B N p := g2.2.2.2.2.1 c1
    rw [if_pos c1, if_pos c1]
    unfold f_X11_numberHere_b14
    rw [m_needOk hM rfl, bs, e19, gd_t (by omega), gd_t h1, gd_t h2, m_in (by omega) (by omega) (by omega), bs]
    by_cases c2 : lo ≤ tV B N p ∧ tV B N p ≤ hi
    · rw [if_pos c2, decide_eq_true c2, m_needOk hM (x := bI true) rfl, bs, g2.2.2.2.2.2, gd_t (by decide), if_pos rfl, e19]
      exact ⟨fun _ => rfl, fun z => absurd rfl z⟩
    · obtain ⟨v', e1, e2, e3⟩ := m_needNo (F := F) (c := 2) (x := bI (decide (lo ≤ tV B N p ∧ tV B N p ≤ hi))) hM (by omega) (by rw [decide_eq_false c2]; rfl)
      rw [if_neg c2, e1, bs, e2.2.1, gd_t (by decide), if_neg (by decide)]
      exact ⟨fun z => absurd z (by decide), fun _ => ⟨v', rfl, e2, e3⟩⟩
  · rw [if_neg c1, if_neg c1]
    unfold f_X11_numberHere_b14
    obtain ⟨v', e1, e2, e3⟩ := m_needNo (F := F) (c := 1) (x := 0) hM (by omega) rfl
    have k9 := e2.2.2.2.2.2.2.2.2
    rw [e1, bs, gd_t k9, gd_t h1, gd_t h2, m_in (by omega) (by omega) (by omega), bs, m_needDead e2, bs, e2.2.1, gd_t (by decide), if_neg (by decide)]
    exact ⟨fun z => absurd z (by decide), fun _ => ⟨v', rfl, e2, e3⟩⟩
theorem m_num' {lo hi : Int} (hF : 1000 ≤ F) (h : MS v B N p) (h1 : rg lo) (h2 : rg hi) : (nbE B N p lo hi = 0 → ∃ v', f_X11_number F 210 lo hi v = some (tV B N p, v') ∧ MS v' B N (tE B N p) ∧ Fy v v') ∧ (¬ nbE B N p lo hi = 0 → ∃ v', f_X11_number F 210 lo hi v = some (lo, v') ∧ MF v' B N (nbE B N p lo hi) (tS B N p) ∧ Fy v v') := by
  obtain ⟨a1, a2⟩ := m_numHere (F := F) h h1 h2
  unfold f_X11_number
  refine ⟨fun z => ?_, fun z => ?_⟩
  · obtain ⟨v', e1, e2, e3⟩ := m_next hF h
    rw [a1 z, bj, e1, bs]
    exact ⟨v', rfl, e2, e3⟩
  · obtain ⟨v', e1, e2, e3⟩ := a2 z
    rw [e1, bj, m_nextDead e2, bs]
    exact ⟨v', rfl, e2, e3⟩
theorem m_semi (hF : 1000 ≤ F) (h : MS v B N p) : (smE B N p = 0 → ∃ v', f_X11_semicolon F 210 v = some v' ∧ MS v' B N (tE B N p) ∧ Fy v v') ∧ (¬ smE B N p = 0 → ∃ v', f_X11_semicolon F 210 v = some v' ∧ MF v' B N (smE B N p) (tS B N p) ∧ Fy v v') := by
  have hb := h.bd
  obtain ⟨g1, g2, g3⟩ := h
  have hM : MS v B N p := ⟨g1, g2, g3⟩
  unfold f_X11_semicolon smE
  rw [g2.2.2.1, gd_t (by omega)]
  by_cases c1 : tK B N p = 3
  · obtain ⟨v', e1, e2, e3⟩ := m_next hF hM
    rw [if_pos c1, if_pos c1, m_needOk hM rfl, bs, e1, bs]
    exact ⟨fun _ => ⟨v', rfl, e2, e3⟩, fun z => absurd rfl z⟩
  · obtain ⟨v', e1, e2, e3⟩ := m_needNo (F := F) (c := 1) (x := 0) hM (by omega) rfl
    rw [if_neg c1, if_neg c1, e1, bs, m_nextDead e2, bs]
    exact ⟨fun z => absurd z (by decide), fun _ => ⟨v', rfl, e2, e3⟩⟩
/-- the name spelled -/
theorem m_spells (hF : 1000 ≤ F) (h : MS v B N p) (hn : IsNm B N p) : ∃ v', f_X11_spells F 210 v = some v' ∧ MS v' B N p ∧ Fz v v' ∧ v' 210 8 = tE B N p - tS B N p ∧ ∀ k, 0 ≤ k → k < tE B N p - tS B N p → v' 215 k = B (tS B N p + k) := by
  have hb := h.bd
  have hlet := nm_let h.1.2.1.2 h.2.2 hn
  obtain ⟨g1, g2, g3⟩ := h
  have hM : MS v B N p := ⟨g1, g2, g3⟩
  obtain ⟨n1, n2⟩ := hn
  unfold f_X11_spells f_X11_spells_b28
  rw [g2.2.2.1, gd_t (by omega), if_pos n1, g2.2.1, g2.1, gd_t (by omega), if_neg (by omega), m_needOk hM rfl, bs, g2.2.2.2.2.2, gd_t (by decide), if_pos rfl, ltm, g2.2.1, g2.1]
  generalize hl : tE B N p - tS B N p = l at *
  obtain ⟨x, hx⟩ : ∃ x, x = iset v 210 8 l := ⟨_, rfl⟩
  rw [← hx]
  have x8 : x 210 8 = l := by rw [hx, is_eq, rs_self]
  have xf : ∀ k, ¬ k = 8 → x 210 k = v 210 k := fun k hk => by rw [hx, is_eq, rs_ne hk]
  have xo : ∀ a, ¬ a = 210 → x a = v a := fun a ha => by rw [hx, is_ne ha]
  clear hx
  have key : ∀ (n i : Nat) (f : Int → Int), (i : Int) ≤ l → l - i < n → (∀ k : Int, 0 ≤ k → k < i → f k = B (tS B N p + k)) → ∃ f2, f_X11_spells_b58 F 210 n i (stc x 215 f) = some (stc x 215 f2) ∧ ∀ k : Int, 0 ≤ k → k < l → f2 k = B (tS B N p + k) := by
    intro n
    induction n with
    | zero => intro i f i1 i2; omega
    | succ n ih =>
      intro i f i1 i2 hf
      show ∃ f2, f_X11_spells_b58_b F 210 (f_X11_spells_b58 F 210 n) _ _ = _ ∧ _
      unfold f_X11_spells_b58_b
      rw [stc_ne (show ¬ 210 = 215 by decide), x8, gd_t (by omega)]
      by_cases c : l ≤ i
      · rw [if_pos c]
        exact ⟨f, rfl, fun k k0 k1 => hf k k0 (by omega)⟩
      · have hB := g1.2.2 (tS B N p + i) (by omega) (by omega)
        have hv := hlet i (by omega) (by omega)
        rw [if_neg c, m12, n12, xf 16 (by omega), g2.1, gd_t (by omega), m7, n7, gd_t (by omega), ltm, stc_ne (show ¬ 218 = 215 by decide), xo 218 (by decide), hB.2, i2b_v (by omega), is_stc, stc_stc, stc_eq]
        refine ih (i + 1) _ (by omega) (by omega) (fun k k0 k1 => ?_)
        by_cases e : k = i
        · rw [e, rs_self]
        · rw [rs_ne e]; exact hf k k0 (by omega)
  obtain ⟨f2, e1, e2⟩ := key F 0 (x 215) (by omega) (by omega) (fun k k0 k1 => by omega)
  rw [stc_self] at e1
  have fz : Fz v (stc x 215 f2) := ⟨fun a a1 a2 => by rw [stc_ne a2, xo a a1], fun k k0 _ _ _ _ _ _ => by rw [stc_ne (by decide), xf k k0]⟩
  refine ⟨_, e1, ⟨g1.fz fz, ?_, g3⟩, fz, by rw [stc_ne (by decide)]; exact x8, fun k k0 k1 => by rw [stc_eq]; exact e2 k k0 k1⟩
  unfold MT
  rw [stc_ne (show ¬ 210 = 215 by decide), xf 16 (by omega), xf 17 (by omega), xf 18 (by omega), xf 19 (by omega), xf 20 (by omega)]
  exact g2
theorem m_spellsNo (hF : 1000 ≤ F) (h : MS v B N p) (hn : ¬ IsNm B N p) : ∃ v', f_X11_spells F 210 v = some v' ∧ MF v' B N 1 (tS B N p) ∧ Fz v v' := by
  have hb := h.bd
  obtain ⟨g1, g2, g3⟩ := h
  have hM : MS v B N p := ⟨g1, g2, g3⟩
  obtain ⟨w, e1, e2, e3⟩ := m_needNo (F := F) (c := 1) (x := 0) hM (by omega) rfl
  have b58 : f_X11_spells_b58 F 210 F 0 (iset w 210 8 0) = some (iset w 210 8 0) := by
    obtain ⟨m, hm⟩ : ∃ m, F = m + 1 := ⟨F - 1, by omega⟩
    have st : ∀ (F m : Nat) (i : Int), i = 0 → f_X11_spells_b58 F 210 (m + 1) i (iset w 210 8 0) = some (iset w 210 8 0) := by
      intro F m i hi
      show f_X11_spells_b58_b F 210 (f_X11_spells_b58 F 210 m) _ _ = _
      unfold f_X11_spells_b58_b
      rw [is_eq, rs_self, gd_t (by omega), if_pos (by omega)]
    have := st F m 0 rfl
    rw [← hm] at this
    exact this
  have b27 : f_X11_spells_b27 F 210 210 v = some (iset w 210 8 0) := by
    unfold f_X11_spells_b27 f_X11_spells_b28
    rw [e1, bs, e2.2.1, gd_t (by decide), if_neg (by decide), ltm, b58]
  refine ⟨iset w 210 8 0, ?_, e2.fy (fun k hk => by rw [is_eq, rs_ne hk]) (is_ne (by decide)), e3.fz.trans ⟨fun a a1 _ => is_ne a1, fun k k0 _ _ _ _ _ _ => by rw [is_eq, rs_ne k0]⟩⟩
  unfold f_X11_spells
  rw [g2.2.2.1, gd_t (by omega), b27]
  by_cases c1 : tK B N p = 1
  · rw [if_pos c1, g2.2.1, g2.1, gd_t (by omega), if_pos (by
      apply Classical.byContradiction
      intro z
      exact hn ⟨c1, by omega⟩)]
  · rw [if_neg c1]
end MTok
