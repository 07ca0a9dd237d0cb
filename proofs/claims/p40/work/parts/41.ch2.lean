/-! ===== changes: keep, act ===== -/
/-- the post of now, on both sides -/
theorem Inv.now {u s w3 : aI} (h : Inv u) (hc : Fc 12 u s) (f : Fw s w3) (hN : PR w3 12 (w3 211)) : Inv w3 := by
  obtain ⟨hT, hI, hO, hE, -, hS, hP⟩ := h
  have lo : ∀ a, a < 210 → (a < 12 ∨ 30 ≤ a) → w3 a = u a := fun a ha h2 => by
    rw [f.1 a (by omega) (by omega) (by omega) (by omega) (by omega) (by omega) (by omega), hc a (by omega)]
  have hi : ∀ a, a = 218 ∨ a = 222 ∨ a = 213 ∨ a = 214 → w3 a = u a := fun a ha => by
    rw [f.1 a (by omega) (by omega) (by omega) (by omega) (by omega) (by omega) (by omega), hc a (by omega)]
  have fl : ∀ k, k = 13 ∨ k = 27 ∨ k = 14 ∨ k = 15 ∨ k = 5 ∨ k = 4 → w3 210 k = u 210 k := fun k hk => by
    rw [f.2 k (by omega) (by omega) (by omega), hc 210 (by omega)]
  refine ⟨⟨fun b hb => ?_, ?_⟩, ?_, ?_, ?_, hN, ?_, ?_⟩
  · by_cases c : b = 12
    · subst c; exact hN.1.1.1
    · have hd := hb.pd P12 c
      have : ∀ b ∈ [12, 30, 48, 66, 84, 102, 120, 138, 156, 174, 192], b + 18 ≤ 210 := by decide
      have h9 := this b hb
      unfold Pd at hd
      exact (hT.1 b hb).of fun a a0 a1 => lo a (by omega) (by omega)
  · rw [lo 8 (by omega) (by omega)]; exact hT.2
  · unfold IvI
    rw [lo 1 (by omega) (by omega), lo 2 (by omega) (by omega), fl 13 (by omega), hi 218 (by omega)]; exact hI
  · unfold IvO
    rw [lo 3 (by omega) (by omega), lo 4 (by omega) (by omega), fl 27 (by omega), hi 222 (by omega)]; exact hO
  · unfold IvE
    rw [lo 5 (by omega) (by omega), fl 14 (by omega), fl 15 (by omega)]; exact hE
  · unfold IvS
    rw [lo 0 (by omega) (by omega), fl 5 (by omega), hi 213 (by omega)]
    exact ⟨hS.1, hS.2.1, fun e => (hS.2.2 e).of fun a a0 a1 => lo a (by omega) (by omega)⟩
  · unfold IvP
    rw [lo 10 (by omega) (by omega), fl 4 (by omega), hi 214 (by omega)]
    refine ⟨hP.1, hP.2.1, hP.2.2.1, fun j j0 j1 => (hP.2.2.2 j j0 j1).of fun a a0 a1 => ?_⟩
    have h9 := hP.2.2.1
    have := pb_bd (m := (u 10 1 + j) % 8) (by omega)
    exact lo a (by omega) (by omega)
/-- both keep; the class acts on its post; then the reference keeps and acts on its row -/
theorem Inv.did {F : Nat} {w : aI} (hF : 20000 ≤ F) (hI : Inv w) : ∃ w1, f_X1_keep F 10 12 w = some w1 ∧ Rep w1 12 (w 211) ∧ (∀ a, 210 ≤ a → w1 a = w a) ∧
    ∀ w2, Fc 12 w1 w2 → ∃ wm, f_X11_remembers F 210 (iset w2 210 6 0) = some wm ∧ wm 211 = w 211 ∧ wm 210 6 = 0 ∧ (∀ a, 12 ≤ a → a < 30 → wm a = w2 a) ∧ ∀ w3, Fm wm w3 → PR w3 12 (w3 211) → Inv w3 ∧ w3 210 6 = 0 := by
  obtain ⟨hN, hW, ht⟩ := hI.2.2.2.2.1
  obtain ⟨p1, p2, p3, p4⟩ := hI.2.2.2.2.2.2
  obtain ⟨w1, f, K, e1, e2, e3, e4, e5, e6⟩ := c_keep (F := F) hI.1 hN hW (by omega) p3
  have hfK : (0 ≤ f ∧ f < 8) ∧ 1 ≤ K ∧ K ≤ 8 := by omega
  have hbd := pb_bd (m := (f + (K - 1)) % 8) (by omega)
  refine ⟨w1, e1, hN.of fun a a0 a1 => e6 a (by omega) (by omega), fun a a0 => e6 a (by omega) (by omega), fun w2 hc => ?_⟩
  have h2 : ∀ a, 30 ≤ a → (a < pb ((f + (K - 1)) % 8) ∨ pb ((f + (K - 1)) % 8) + 18 ≤ a) → w2 a = w a := fun a a0 a1 => by rw [hc a (by omega), e6 a (by omega) a1]
  have h210 := h2 210 (by omega) (by omega)
  have h211 := h2 211 (by omega) (by omega)
  have h214 := h2 214 (by omega) (by omega)
  obtain ⟨x, hx⟩ : ∃ x, x = iset w2 210 6 0 := ⟨_, rfl⟩
  rw [← hx]
  have x4 : x 210 4 = w 210 4 := by rw [hx, is_eq, rs_ne (by omega), h210]
  have x214 : x 214 = w 214 := by rw [hx, is_ne (by decide), h214]
  have x211 : x 211 = w 211 := by rw [hx, is_ne (by decide), h211]
  obtain ⟨K', s, P, r1, r2, r3, r4⟩ := m_remembers (F := F) (w := x) (by omega) (by rw [x4]; exact p2)
  rw [x4] at r2
  rw [x214] at r3
  rw [x211] at r4
  have eK : K' = K := by omega
  subst eK
  refine ⟨_, r1, ?_, ?_, fun a a0 a1 => ?_, fun w3 hm hN3 => ⟨?_, ?_⟩⟩
  · rw [is_ne (by decide), stc_ne (by decide), x211]
  · rw [is_eq, rs_ne (by omega), stc_ne (by decide), hx, is_eq, rs_self]
  · rw [is_ne (by omega), stc_ne (by omega), hx, is_ne (by omega)]
  · have hu : Inv (iset (stc (iset w1 210 6 0) 214 P) 210 4 K') := by
      refine hI.keeps (P := P) (s := s) e2 e3 e4 e5 e6 (fun a a0 a1 => ?_) (fun k k0 k1 => ?_) ?_ ?_ (by omega) r3 r4
      · rw [is_ne a0, stc_ne a1, is_ne a0]
      · rw [is_eq, rs_ne k0, stc_ne (by decide), is_eq, rs_ne k1, e6 210 (by omega) (by omega)]
      · rw [is_eq, rs_self]
      · rw [is_ne (by decide), stc_eq]
    refine hu.now (s := iset (stc x 214 P) 210 4 K') (fun a a0 => ?_) hm.fw hN3
    by_cases c : a = 210
    · subst c
      rw [is_eq, is_eq, stc_ne (by decide), stc_ne (by decide), hx, is_eq, is_eq, h210, e6 210 (by omega) (by omega)]
    · rw [is_ne c, is_ne c]
      by_cases c2 : a = 214
      · subst c2; rw [stc_eq, stc_eq]
      · rw [stc_ne c2, stc_ne c2, hx, is_ne c, is_ne c, hc a a0]
  · rw [hm.2 6 (by omega) (by omega), is_eq, rs_ne (by omega), stc_ne (by decide), hx, is_eq, rs_self]
theorem lc_le {a b : Int} (ha : rgL a) (hb : rgL b) : (0 < lcmpI a b) ↔ b < a := by
  unfold lcmpI
  split <;> rename_i h
  · omega
  · split <;> omega
theorem top_tick {F : Nat} (hF : 20000 ≤ F) {t : Int} (ht : rg t) : Top [eIA, eIS] (f_X10_tick F 0 t) (f_X11_tick F 210 t) := by
  intro w hI
  obtain ⟨hN, hW, h3⟩ := hI.2.2.2.2.1
  obtain ⟨b0, b1, b2, b3, -⟩ := hW.1
  unfold f_X10_tick f_X11_tick
  have hE : ∀ K : Option (Int × aI), gd (rgL (w 211 3 + t)) K = K := fun K => gd_t (by unfold rg at ht; unfold rgL; omega)
  have hB : f_X11_tick_b32 F 210 t 0 = f_X11_tick_b32 F 210 t 0 := rfl
  rw [c_needNumber ht (by decide) (by decide), bN rfl, k5, k8]
  by_cases c : 1 ≤ t ∧ t ≤ 200
  · rw [if_pos c]
    unfold f_X2_hasTimeFor
    rw [hN.1.2.1, gd_t (by omega)]
    by_cases c2 : 9999 < w 211 3 + t
    · rw [if_pos c2, bs, if_neg (by decide)]
      refine ⟨.inr eIS, w, 0, iset w 210 6 2, rfl, ?_, hI.thr 2, ?_⟩
      · rw [gd_t ht, m_in (by omega) (by decide) (by decide), bs, m0, n0, gd_t (by omega), gd_t (by omega), hE, if_pos ((lc_le (by omega) (by decide)).mpr c2), decide_eq_true c]
        unfold f_X11_tick_b32
        rw [show f_X11_may F 210 (bI true) 0 1 w = some (false, iset w 210 6 2) from may2f, bk]
        rfl
      · rw [thr_at]; exact ⟨by decide, by decide, by decide⟩
    · rw [if_neg c2, bs, if_pos rfl]
      obtain ⟨w1, e1, e2, e0, e3⟩ := hI.did hF
      obtain ⟨w2, e4, e5, e6⟩ := c_run (F := F) (t := t) (by omega) P12 e2 hW (by omega) (by omega)
      obtain ⟨wm, e7, e8, e9, e10, e11⟩ := e3 w2 e6
      obtain ⟨w3, g1, g2, g3⟩ := m_goes (F := F) (w := wm) (t := t) (by omega) (by rw [e8]; exact hW) (by omega) (by rw [e8]; omega)
      rw [e8] at g1 g2
      have hG := goT_WF hW t.toNat (by omega)
      obtain ⟨q1, q2⟩ := e11 w3 g3 (by rw [g2]; exact ⟨e5.of fun a a0 a1 => by rw [g3.1 a (by omega) (by omega) (by omega) (by omega) (by omega) (by omega) (by omega), e10 a (by omega) (by omega)], hG.1, by rw [hG.2.1]; omega⟩)
      rw [e1, bs, pf8 P12, getA P12 e2.1.1 (by omega), bs, e4, bs, getA P12 e5.1.1 (by omega), bs]
      refine ⟨.inl (w2 (12 + 10) 5 - w1 (12 + 10) 5), w2, goT (w 211) t.toNat 15 - w 211 15, w3, rfl, ?_, q1, q2, ?_⟩
      · have hw2 : w2 211 = w1 211 := e6 211 (by omega)
        have hw1 : w1 211 = w 211 := e0 211 (by omega)
        rw [gd_t ht, m_in (by omega) (by decide) (by decide), bs, m0, n0, hw2, hw1, gd_t (by omega), gd_t (by omega), hE, if_neg (fun h => c2 ((lc_le (by omega) (by decide)).mp h)), decide_eq_true c]
        unfold f_X11_tick_b32
        rw [show f_X11_may F 210 (bI true) 1 1 w2 = some (true, iset w2 210 6 0) from may2t, bk, if_pos rfl, e7, bs, g1, bj]
      · have a1 := e5.2.2.1 5 (by omega) (by omega)
        have a2 := e2.2.2.1 5 (by omega) (by omega)
        rw [a1, a2]; rfl
  · rw [if_neg c]
    refine ⟨.inr eIA, w, 0, iset w 210 6 1, rfl, ?_, hI.thr 1, ?_⟩
    · rw [gd_t ht, m_in (by omega) (by decide) (by decide), bs, m0, n0, gd_t (by omega), gd_t (by omega), hE, decide_eq_false c]
      have hx : ∀ b, f_X11_tick_b32 F 210 t (bI b) (bI false) 210 w = some (0, iset w 210 6 1) := fun b => by
        unfold f_X11_tick_b32
        rw [may2g, bk]
        rfl
      split
      · exact hx false
      · exact hx true
    · rw [thr_at]; exact ⟨by decide, by decide, by decide⟩
