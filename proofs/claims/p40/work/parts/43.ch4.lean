/-! ===== changes: undo, save, restore ===== -/
theorem Inv.drop {w : aI} {K : Int} (h : Inv w) (hK : 0 ≤ K ∧ K ≤ w 210 4) : Inv (iset (iset w 10 2 K) 210 4 K) := by
  obtain ⟨hT, hI, hO, hE, hN, hS, hP⟩ := h
  obtain ⟨p1, p2, p3, p4⟩ := hP
  obtain ⟨u, e⟩ : ∃ u, u = iset (iset w 10 2 K) 210 4 K := ⟨_, rfl⟩
  rw [← e]
  have lo : ∀ a, ¬ a = 10 → ¬ a = 210 → u a = w a := fun a a0 a1 => by rw [e, is_ne a1, is_ne a0]
  have fl : ∀ k, ¬ k = 4 → u 210 k = w 210 k := fun k hk => by rw [e, is_eq, rs_ne hk, is_ne (by decide)]
  have f4 : u 210 4 = K := by rw [e, is_eq, rs_self]
  have t2 : u 10 2 = K := by rw [e, is_ne (by decide), is_eq, rs_self]
  have t1 : u 10 1 = w 10 1 := by rw [e, is_ne (by decide), is_eq, rs_ne (by decide)]
  clear e
  have pbd : ∀ b, Pb b → 12 ≤ b ∧ b + 18 ≤ 210 := fun b hb => by
    have : ∀ b ∈ [12, 30, 48, 66, 84, 102, 120, 138, 156, 174, 192], 12 ≤ b ∧ b + 18 ≤ 210 := by decide
    exact this b hb
  refine ⟨⟨fun b hb => (hT.1 b hb).of fun a a0 a1 => ?_, ?_⟩, ?_, ?_, ?_, ?_, ?_, ?_⟩
  · have := pbd b hb
    exact lo a (by omega) (by omega)
  · rw [lo 8 (by decide) (by decide)]; exact hT.2
  · unfold IvI
    rw [lo 1 (by decide) (by decide), lo 2 (by decide) (by decide), fl 13 (by decide), lo 218 (by decide) (by decide)]; exact hI
  · unfold IvO
    rw [lo 3 (by decide) (by decide), lo 4 (by decide) (by decide), fl 27 (by decide), lo 222 (by decide) (by decide)]; exact hO
  · unfold IvE
    rw [lo 5 (by decide) (by decide), fl 14 (by decide), fl 15 (by decide)]; exact hE
  · unfold IvN
    rw [lo 211 (by decide) (by decide)]
    exact PR.of hN fun a a0 a1 => lo a (by omega) (by omega)
  · unfold IvS
    rw [lo 0 (by decide) (by decide), fl 5 (by decide), lo 213 (by decide) (by decide)]
    exact ⟨hS.1, hS.2.1, fun e => (hS.2.2 e).of fun a a0 a1 => lo a (by omega) (by omega)⟩
  · unfold IvP
    rw [t1, t2, f4, lo 214 (by decide) (by decide)]
    refine ⟨rfl, by omega, p3, fun j j0 j1 => (p4 j j0 (by omega)).of fun a a0 a1 => ?_⟩
    have := pb_bd (m := (w 10 1 + j) % 8) (by omega)
    exact lo a (by omega) (by omega)
theorem m_undo35 {F : Nat} {w : aI} (hF : 2000 ≤ F) (hK : 0 ≤ w 210 4 ∧ w 210 4 < 8) : f_X11_undo_b35 F 210 F 0 w = some (w 210 4, stc w 211 (fun k => if 0 ≤ k ∧ k < 1030 then w 214 (1030 * w 210 4 + k) else w 211 k)) := by
  have key : ∀ (n : Nat) (v : Int), 0 ≤ v → v ≤ 1030 → 1030 - v < n → f_X11_undo_b35 F 210 n v (stc w 211 (fun k => if 0 ≤ k ∧ k < v then w 214 (1030 * w 210 4 + k) else w 211 k)) = some (w 210 4, stc w 211 (fun k => if 0 ≤ k ∧ k < 1030 then w 214 (1030 * w 210 4 + k) else w 211 k)) := by
    intro n
    induction n with
    | zero => intro v v0 v1 v2; omega
    | succ n ih =>
      intro v v0 v1 v2
      show f_X11_undo_b35_b F 210 (f_X11_undo_b35 F 210 n) v _ = _
      unfold f_X11_undo_b35_b
      have e210 : ∀ f, stc w 211 f 210 4 = w 210 4 := fun f => by rw [stc_ne (by decide)]
      have e214 : ∀ f, stc w 211 f 214 = w 214 := fun f => by rw [stc_ne (by decide)]
      rw [gd_t (by omega), e210]
      by_cases c : 1030 ≤ v
      · have e : v = 1030 := by omega
        rw [if_pos c, e]
      · rw [if_neg c, m0, n0, m3, n3, gd_t (by omega), gd_t (by omega), ltm, is_stc, stc_eq, stc_stc, e214]
        rw [← ih (v + 1) (by omega) (by omega) (by omega)]
        congr 2
        funext k
        rw [rs_def]
        by_cases ck : k = v
        · rw [if_pos ck, if_pos (by omega), ck]
        · rw [if_neg ck]
          exact ite_iff (by omega)
  have h9 := key F 0 (by omega) (by omega) (by omega)
  have e : stc w 211 (fun k => if 0 ≤ k ∧ k < 0 then w 214 (1030 * w 210 4 + k) else w 211 k) = w := by
    have : (fun k => if 0 ≤ k ∧ k < 0 then w 214 (1030 * w 210 4 + k) else w 211 k) = w 211 := by
      funext k
      exact if_neg (by omega)
    rw [this, stc_self]
  rw [e] at h9
  exact h9
theorem top_undo {F : Nat} (hF : 20000 ≤ F) : Top [eNS] (f_X10_undo F 0) (f_X11_undo F 210) := by
  intro w hI
  obtain ⟨hN, hW, h3⟩ := hI.2.2.2.2.1
  obtain ⟨p1, p2, p3, p4⟩ := hI.2.2.2.2.2.2
  unfold f_X10_undo f_X11_undo f_X1_size
  rw [k8, k5, p1, bs, gd_t (by omega)]
  by_cases c : w 210 4 = 0
  · rw [if_pos c]
    refine ⟨.inr eNS, w, 0, iset w 210 6 1, rfl, ?_, hI.thr 1, ?_⟩
    · rw [gd_t (by omega), if_pos (by omega)]
      unfold f_X11_undo_b13
      rw [show f_X11_may F 210 0 1 1 w = some (false, iset w 210 6 1) from may3a (b := true) (c := true), bk]
      rfl
    · rw [thr_at]; exact ⟨by decide, by decide, by decide⟩
  · rw [if_neg c]
    unfold f_X1_giveBack
    rw [p1, c_postAt p3 (by omega), bs]
    have hP := pb_Pb (m := (w 10 1 + (w 210 4 - 1)) % 8) (by omega)
    have hbd := pb_bd (m := (w 10 1 + (w 210 4 - 1)) % 8) (by omega)
    have old := p4 (w 210 4 - 1) (by omega) (by omega)
    obtain ⟨K, hK⟩ : ∃ K, K = w 210 4 - 1 := ⟨_, rfl⟩
    rw [← hK] at hP hbd old ⊢
    generalize pb ((w 10 1 + K) % 8) = b at hP hbd old ⊢
    obtain ⟨w2, e1, e2, e3⟩ := c_copy (F := F) (b := 12) P12 hP (by omega) old.2.1 old.1 (hI.1.1 12 P12)
    have hoc : ∀ k : Nat → Option aI, oc (some b) none k = k b := fun k => rfl
    rw [hoc, gd_t (pst4 hP), gd_t (by omega), if_neg (by omega), e1, bs, ltm, bs, bs, e3 10 (by omega), p1, ← hK, is_eq, rs_self]
    obtain ⟨wc, hwc⟩ : ∃ wc, wc = iset w2 10 2 K := ⟨_, rfl⟩
    rw [← hwc]
    have c210 : wc 210 = w 210 := by rw [hwc, is_ne (by decide), e3 210 (by omega)]
    have c211 : wc 211 = w 211 := by rw [hwc, is_ne (by decide), e3 211 (by omega)]
    have c214 : wc 214 = w 214 := by rw [hwc, is_ne (by decide), e3 214 (by omega)]
    obtain ⟨x, hx⟩ : ∃ x, x = iset (iset wc 210 6 0) 210 4 K := ⟨_, rfl⟩
    have x4 : x 210 4 = K := by rw [hx, is_eq, rs_self]
    have x6 : x 210 6 = 0 := by rw [hx, is_eq, rs_ne (by decide), is_eq, rs_self]
    have x214 : x 214 = w 214 := by rw [hx, is_ne (by decide), is_ne (by decide), c214]
    have x211 : x 211 = w 211 := by rw [hx, is_ne (by decide), is_ne (by decide), c211]
    have hm := m_undo35 (F := F) (w := x) (by omega) (by omega)
    rw [x4, x214, x211] at hm
    obtain ⟨w3, hw3⟩ : ∃ w3, w3 = stc x 211 (fun k => if 0 ≤ k ∧ k < 1030 then w 214 (1030 * K + k) else w 211 k) := ⟨_, rfl⟩
    rw [← hw3] at hm
    refine ⟨.inl K, wc, K, w3, rfl, ?_, ?_, ?_⟩
    · rw [c210, gd_t (by omega), if_neg (by omega)]
      unfold f_X11_undo_b13
      rw [show f_X11_may F 210 1 1 1 wc = some (true, iset wc 210 6 0) from may3t, bk, if_pos rfl, ltm, is_eq, rs_ne (by decide), c210, ← hK, ← hx, hm]
    · refine (hI.drop (K := K) (by omega)).now (s := iset (iset w2 10 2 K) 210 4 K) (fun a a0 => ?_) ⟨fun a a0 a1 _ _ _ _ _ => ?_, fun k k0 _ _ => ?_⟩ ?_
      · by_cases c1 : a = 210
        · subst c1
          rw [is_eq, is_eq, is_ne (by decide), is_ne (by decide), e3 210 (by omega)]
        · rw [is_ne c1, is_ne c1]
          by_cases c2 : a = 10
          · subst c2
            rw [is_eq, is_eq, e3 10 (by omega)]
          · rw [is_ne c2, is_ne c2, e3 a a0]
      · rw [hw3, stc_ne a1, hx, is_ne a0, is_ne a0, is_ne a0, hwc]
      · rw [hw3, stc_ne (by decide), hx, is_eq]
        by_cases c4 : k = 4
        · rw [c4, rs_self, is_eq, rs_self]
        · rw [rs_ne c4, is_eq, rs_ne k0, is_eq, rs_ne c4, hwc]
      · have hR : PR w2 12 (fun k => w 214 (1030 * K + k)) := ⟨e2, old.2⟩
        have h211 : w3 211 = fun k => if 0 ≤ k ∧ k < 1030 then w 214 (1030 * K + k) else w 211 k := by rw [hw3, stc_eq]
        rw [h211]
        refine (hR.cp fun k k0 k1 => ?_).of fun a a0 a1 => ?_
        · rw [if_pos ⟨k0, k1⟩]
        · rw [hw3, stc_ne (by omega), hx, is_ne (by omega), is_ne (by omega), hwc, is_ne (by omega)]
    · have e6 : w3 210 6 = 0 := by rw [hw3, stc_ne (by decide), x6]
      exact ⟨e6, rfl⟩
theorem top_saveState {F : Nat} (hF : 20000 ≤ F) : TopW (f_X10_saveState F 0) (f_X11_saveState F 210) := by
  intro w hI
  obtain ⟨hT, hII, hO, hE, hN, hS, hP⟩ := hI
  obtain ⟨hNR, hW, h3⟩ := hN
  obtain ⟨p1, p2, p3, p4⟩ := hP
  unfold f_X10_saveState f_X11_saveState
  obtain ⟨w2, e1, e2, e3⟩ := c_copy (F := F) (b := 30) P30 P12 (by omega) hW hNR (hT.1 30 P30)
  rw [k5, k6, e1, bs, ltm]
  obtain ⟨wc, hwc⟩ : ∃ wc, wc = iset w2 0 9 1 := ⟨_, rfl⟩
  rw [← hwc]
  have c30 : wc 30 3 = w 211 2 := by rw [hwc, is_ne (by decide)]; exact e2.1.2.2.2.2
  have c210 : wc 210 = w 210 := by rw [hwc, is_ne (by decide), e3 210 (by omega)]
  obtain ⟨x, hx⟩ : ∃ x, x = iset wc 210 6 0 := ⟨_, rfl⟩
  have xo : ∀ a, 0 < a → (a < 30 ∨ 48 ≤ a) → ¬ a = 210 → x a = w a := fun a a0 a1 a2 => by rw [hx, is_ne a2, hwc, is_ne (by omega), e3 a (by omega)]
  have x211 := xo 211 (by decide) (by decide) (by decide)
  have x213 := xo 213 (by decide) (by decide) (by decide)
  obtain ⟨w3, hw3⟩ : ∃ w3, w3 = iset (stc x 213 (fun k => if 0 ≤ k ∧ k < 1030 then w 211 k else w 213 k)) 210 5 1 := ⟨_, rfl⟩
  have o3 : ∀ a, 0 < a → (a < 30 ∨ 48 ≤ a) → ¬ a = 210 → ¬ a = 213 → w3 a = w a := fun a a0 a1 a2 a3 => by rw [hw3, is_ne a2, stc_ne a3, xo a a0 a1 a2]
  have f3 : ∀ k, ¬ k = 5 → ¬ k = 6 → w3 210 k = w 210 k := fun k h5 h6 => by rw [hw3, is_eq, rs_ne h5, stc_ne (by decide), hx, is_eq, rs_ne h6, c210]
  have f5 : w3 210 5 = 1 := by rw [hw3, is_eq, rs_self]
  have i3 : ∀ a, 30 ≤ a → a < 48 → w3 a = w2 a := fun a a0 a1 => by rw [hw3, is_ne (by omega), stc_ne (by omega), hx, is_ne (by omega), hwc, is_ne (by omega)]
  have z3 : w3 0 9 = 1 := by rw [hw3, is_ne (by decide), stc_ne (by decide), hx, is_ne (by decide), hwc, is_eq, rs_self]
  have s3 : w3 213 = fun k => if 0 ≤ k ∧ k < 1030 then w 211 k else w 213 k := by rw [hw3, is_ne (by decide), stc_eq]
  have g2 : w3 211 2 = w 211 2 := by rw [o3 211 (by decide) (by decide) (by decide) (by decide)]
  refine ⟨w 211 2, wc, w3, by rw [c30], ?_, ?_⟩
  · rw [ltm, ← hx, show shR 210 2 = 213 by decide +kernel, m_copies (by omega) (by decide +kernel) (by decide), bs, ltm, x211, x213, ← hw3, m0, n0, gd_t (by decide), g2]
  · clear hw3 hx hwc
    have pbd : ∀ b, Pb b → ¬ b = 30 → 0 < b ∧ (b + 18 ≤ 30 ∨ 48 ≤ b) ∧ b + 18 ≤ 210 := fun b hb => by
      have : ∀ b ∈ [12, 30, 48, 66, 84, 102, 120, 138, 156, 174, 192], ¬ b = 30 → 0 < b ∧ (b + 18 ≤ 30 ∨ 48 ≤ b) ∧ b + 18 ≤ 210 := by decide
      exact this b hb
    have R30 : PR w3 30 (w 211) := PR.of ⟨e2, hW, h3⟩ fun a a0 a1 => i3 a (by omega) (by omega)
    refine ⟨⟨fun b hb => ?_, ?_⟩, ?_, ?_, ?_, ?_, ?_, ?_⟩
    · by_cases c : b = 30
      · subst c; exact R30.1.1.1
      · have h9 := pbd b hb c
        exact (hT.1 b hb).of fun a a0 a1 => o3 a (by omega) (by omega) (by omega) (by omega)
    · rw [o3 8 (by decide) (by decide) (by decide) (by decide)]; exact hT.2
    · unfold IvI
      rw [o3 1 (by decide) (by decide) (by decide) (by decide), o3 2 (by decide) (by decide) (by decide) (by decide), f3 13 (by decide) (by decide), o3 218 (by decide) (by decide) (by decide) (by decide)]; exact hII
    · unfold IvO
      rw [o3 3 (by decide) (by decide) (by decide) (by decide), o3 4 (by decide) (by decide) (by decide) (by decide), f3 27 (by decide) (by decide), o3 222 (by decide) (by decide) (by decide) (by decide)]; exact hO
    · unfold IvE
      rw [o3 5 (by decide) (by decide) (by decide) (by decide), f3 14 (by decide) (by decide), f3 15 (by decide) (by decide)]; exact hE
    · unfold IvN
      rw [o3 211 (by decide) (by decide) (by decide) (by decide)]
      exact PR.of ⟨hNR, hW, h3⟩ fun a a0 a1 => o3 a (by omega) (by omega) (by omega) (by omega)
    · unfold IvS
      rw [z3, f5, s3]
      exact ⟨rfl, Or.inr rfl, fun _ => R30.cp fun k k0 k1 => if_pos ⟨k0, k1⟩⟩
    · unfold IvP
      rw [o3 10 (by decide) (by decide) (by decide) (by decide), f3 4 (by decide) (by decide), o3 214 (by decide) (by decide) (by decide) (by decide)]
      refine ⟨p1, p2, p3, fun j j0 j1 => (p4 j j0 (by omega)).of fun a a0 a1 => ?_⟩
      have := pb_bd (m := (w 10 1 + j) % 8) (by omega)
      exact o3 a (by omega) (by omega) (by omega) (by omega)
theorem top_restoreState {F : Nat} (hF : 20000 ≤ F) : Top [eNS] (f_X10_restoreState F 0) (f_X11_restoreState F 210) := by
  intro w hI
  obtain ⟨hN, hW, h3⟩ := hI.2.2.2.2.1
  obtain ⟨p1, p2, p3, p4⟩ := hI.2.2.2.2.2.2
  obtain ⟨s1, s2, s4⟩ := hI.2.2.2.2.2.1
  unfold f_X10_restoreState f_X11_restoreState
  rw [s1, gd_t (by omega), k5, k6, k8]
  rcases s2 with s2 | s2
  · rw [if_pos s2]
    refine ⟨.inr eNS, w, 0, iset w 210 6 1, rfl, ?_, hI.thr 1, ?_⟩
    · rw [s2, show f_X11_may F 210 0 1 1 w = some (false, iset w 210 6 1) from may3a (b := true) (c := true), bk]
      rfl
    · rw [thr_at]; exact ⟨by decide, by decide, by decide⟩
  · rw [if_neg (by omega)]
    have old := s4 s2
    obtain ⟨w2, e1, e2, e3⟩ := c_copy (F := F) (b := 12) P12 P30 (by omega) old.2.1 old.1 (hI.1.1 12 P12)
    unfold f_X1_forget
    rw [e1, bs, ltm, bs]
    obtain ⟨wc, hwc⟩ : ∃ wc, wc = iset w2 10 2 0 := ⟨_, rfl⟩
    rw [← hwc]
    have c12 : wc 12 3 = w 213 2 := by rw [hwc, is_ne (by decide)]; exact e2.1.2.2.2.2
    have c210 : wc 210 = w 210 := by rw [hwc, is_ne (by decide), e3 210 (by omega)]
    have c211 : wc 211 = w 211 := by rw [hwc, is_ne (by decide), e3 211 (by omega)]
    have c213 : wc 213 = w 213 := by rw [hwc, is_ne (by decide), e3 213 (by omega)]
    obtain ⟨x, hx⟩ : ∃ x, x = iset wc 210 6 0 := ⟨_, rfl⟩
    have x211 : x 211 = w 211 := by rw [hx, is_ne (by decide), c211]
    have x213 : x 213 = w 213 := by rw [hx, is_ne (by decide), c213]
    have hm := m_gives (F := F) (a := 213) (w := x) (u := 0) (by omega) (by decide +kernel) (by decide)
    rw [x211, x213] at hm
    obtain ⟨w3, hw3⟩ : ∃ w3, w3 = iset (stc x 211 (fun k => if 0 ≤ k ∧ k < 1030 then w 213 k else w 211 k)) 210 4 0 := ⟨_, rfl⟩
    have h211 : w3 211 = fun k => if 0 ≤ k ∧ k < 1030 then w 213 k else w 211 k := by rw [hw3, is_ne (by decide), stc_eq]
    refine ⟨.inl (wc 12 3), wc, w 213 2, w3, rfl, ?_, ?_, ?_⟩
    · rw [c210, s2, show f_X11_may F 210 1 1 1 wc = some (true, iset wc 210 6 0) from may3t, bk, if_pos rfl, ← hx, show shR 210 2 = 213 by decide +kernel, hm, bj, ltm, ← hw3, m0, n0, gd_t (by decide), h211]
      rfl
    · refine (hI.drop (K := 0) (by omega)).now (s := iset (iset w2 10 2 0) 210 4 0) (fun a a0 => ?_) ⟨fun a a0 a1 _ _ _ _ _ => ?_, fun k k0 _ _ => ?_⟩ ?_
      · by_cases c1 : a = 210
        · subst c1
          rw [is_eq, is_eq, is_ne (by decide), is_ne (by decide), e3 210 (by omega)]
        · rw [is_ne c1, is_ne c1]
          by_cases c2 : a = 10
          · subst c2
            rw [is_eq, is_eq, e3 10 (by omega)]
          · rw [is_ne c2, is_ne c2, e3 a a0]
      · rw [hw3, is_ne a0, stc_ne a1, hx, is_ne a0, is_ne a0, hwc]
      · rw [hw3, is_eq]
        by_cases c4 : k = 4
        · rw [c4, rs_self, is_eq, rs_self]
        · rw [rs_ne c4, stc_ne (by decide), hx, is_eq, rs_ne k0, is_eq, rs_ne c4, hwc]
      · have hR : PR w2 12 (w 213) := ⟨e2, old.2⟩
        rw [h211]
        refine (hR.cp fun k k0 k1 => ?_).of fun a a0 a1 => ?_
        · rw [if_pos ⟨k0, k1⟩]
        · rw [hw3, is_ne (by omega), stc_ne (by omega), hx, is_ne (by omega), hwc, is_ne (by omega)]
    · have e6 : w3 210 6 = 0 := by rw [hw3, is_eq, rs_ne (by decide), stc_ne (by decide), hx, is_eq, rs_self]
      exact ⟨e6, c12⟩
