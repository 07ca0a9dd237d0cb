/-! ===== what would be: the spare post ===== -/
theorem Inv.spare {w s w3 : aI} (h : Inv w) (hc : Fc 48 w s) (hT48 : TOK s 48) (f1 : ∀ a, ¬ a = 210 → ¬ a = 211 → ¬ a = 212 → ¬ a = 215 → ¬ a = 216 → ¬ a = 217 → ¬ a = 220 → ¬ a = 221 → w3 a = s a)
    (f2 : ∀ k, ¬ k = 6 → ¬ k = 8 → ¬ k = 11 → w3 210 k = s 210 k) (hcp : Cp (w 211) (w3 211)) : Inv w3 := by
  obtain ⟨hT, hI, hO, hE, hN, hS, hP⟩ := h
  have lo : ∀ a, a < 210 → (a < 48 ∨ 66 ≤ a) → w3 a = w a := fun a ha h2 => by
    rw [f1 a (by omega) (by omega) (by omega) (by omega) (by omega) (by omega) (by omega) (by omega), hc a (by omega)]
  have hi : ∀ a, a = 218 ∨ a = 222 ∨ a = 213 ∨ a = 214 → w3 a = w a := fun a ha => by
    rw [f1 a (by omega) (by omega) (by omega) (by omega) (by omega) (by omega) (by omega) (by omega), hc a (by omega)]
  have fl : ∀ k, k = 13 ∨ k = 27 ∨ k = 14 ∨ k = 15 ∨ k = 5 ∨ k = 4 → w3 210 k = w 210 k := fun k hk => by
    rw [f2 k (by omega) (by omega) (by omega), hc 210 (by omega)]
  have pbd : ∀ b, Pb b → ¬ b = 48 → (b + 18 ≤ 48 ∨ 66 ≤ b) ∧ b + 18 ≤ 210 := fun b hb => by
    have : ∀ b ∈ [12, 30, 48, 66, 84, 102, 120, 138, 156, 174, 192], ¬ b = 48 → (b + 18 ≤ 48 ∨ 66 ≤ b) ∧ b + 18 ≤ 210 := by decide
    exact this b hb
  refine ⟨⟨fun b hb => ?_, ?_⟩, ?_, ?_, ?_, ?_, ?_, ?_⟩
  · by_cases c : b = 48
    · subst c
      exact hT48.of fun a a0 a1 => f1 a (by omega) (by omega) (by omega) (by omega) (by omega) (by omega) (by omega) (by omega)
    · have h9 := pbd b hb c
      exact (hT.1 b hb).of fun a a0 a1 => lo a (by omega) (by omega)
  · rw [lo 8 (by omega) (by omega)]; exact hT.2
  · unfold IvI
    rw [lo 1 (by omega) (by omega), lo 2 (by omega) (by omega), fl 13 (by omega), hi 218 (by omega)]; exact hI
  · unfold IvO
    rw [lo 3 (by omega) (by omega), lo 4 (by omega) (by omega), fl 27 (by omega), hi 222 (by omega)]; exact hO
  · unfold IvE
    rw [lo 5 (by omega) (by omega), fl 14 (by omega), fl 15 (by omega)]; exact hE
  · exact (PR.cp hN hcp).of fun a a0 a1 => lo a (by omega) (by omega)
  · unfold IvS
    rw [lo 0 (by omega) (by omega), fl 5 (by omega), hi 213 (by omega)]
    exact ⟨hS.1, hS.2.1, fun e => (hS.2.2 e).of fun a a0 a1 => lo a (by omega) (by omega)⟩
  · unfold IvP
    rw [lo 10 (by omega) (by omega), fl 4 (by omega), hi 214 (by omega)]
    refine ⟨hP.1, hP.2.1, hP.2.2.1, fun j j0 j1 => (hP.2.2.2 j j0 j1).of fun a a0 a1 => ?_⟩
    have h9 := hP.2.2.1
    have := pb_bd (m := (w 10 1 + j) % 8) (by omega)
    exact lo a (by omega) (by omega)
/-- the reference lays its row aside, works on it, and takes it back -/
theorem Inv.aside {F : Nat} {w s : aI} (hF : 20000 ≤ F) (hI : Inv w) (hc : Fc 48 w s) (hT48 : TOK s 48) : ∃ y, f_X11_copies F 210 212 (iset s 210 6 0) = some y ∧ y 211 = w 211 ∧
    ∀ y2 v, Fm y y2 → ∃ w3, f_X11_gives F 210 212 v y2 = some (v, w3) ∧ Inv w3 ∧ w3 210 6 = 0 := by
  obtain ⟨x, hx⟩ : ∃ x, x = iset s 210 6 0 := ⟨_, rfl⟩
  rw [← hx]
  have x211 : x 211 = w 211 := by rw [hx, is_ne (by decide), hc 211 (by omega)]
  refine ⟨_, m_copies (by omega) (by decide +kernel) (by decide), by rw [stc_ne (by decide), x211], fun y2 v hm => ?_⟩
  have y212 : y2 212 = fun k => if 0 ≤ k ∧ k < 1030 then x 211 k else x 212 k := by rw [hm.1 212 (by omega) (by omega) (by omega) (by omega) (by omega) (by omega) (by omega), stc_eq]
  obtain ⟨w3, hw3⟩ : ∃ w3, w3 = stc y2 211 (fun k => if 0 ≤ k ∧ k < 1030 then y2 212 k else y2 211 k) := ⟨_, rfl⟩
  refine ⟨w3, by rw [hw3]; exact m_gives (by omega) (by decide +kernel) (by decide), ?_, ?_⟩
  · refine hI.spare hc hT48 (fun a a0 a1 a2 a3 a4 a5 a6 a7 => ?_) (fun k k0 k1 k2 => ?_) (fun k k0 k1 => ?_)
    · rw [hw3, stc_ne a1, hm.1 a a0 a1 a3 a4 a5 a6 a7, stc_ne a2, hx, is_ne a0]
    · rw [hw3, stc_ne (by decide), hm.2 k k1 k2, stc_ne (by decide), hx, is_eq, rs_ne k0]
    · rw [hw3, stc_eq, if_pos ⟨k0, k1⟩, y212]
      dsimp only
      rw [if_pos ⟨k0, k1⟩, x211]
  · rw [hw3, stc_ne (by decide), hm.2 6 (by omega) (by omega), stc_ne (by decide), hx, is_eq, rs_self]
theorem may1t {F : Nat} {w : aI} : f_X11_may F 210 (bI true) (bI true) (bI true) w = some (true, iset w 210 6 0) := m_may3
theorem top_growsBy {F : Nat} (hF : 20000 ≤ F) {k t : Int} (hk : rg k) (ht : rg t) : Top [eIA] (f_X10_growsBy F 0 k t) (f_X11_growsBy F 210 k t) := by
  intro w hI
  obtain ⟨hN, hW, h3⟩ := hI.2.2.2.2.1
  unfold f_X10_growsBy f_X11_growsBy
  rw [c_needNumber hk (by decide) (by decide), c_needNumber ht (by decide) (by decide), bN rfl, bN rfl, k5, k7]
  have t29 : ∀ w, f_X11_growsBy_b29 F 210 k t 210 w = some (0, iset w 210 6 1) := fun w => by
    unfold f_X11_growsBy_b29 f_X11_growsBy_b30
    rw [show f_X11_may F 210 0 1 1 w = some (false, iset w 210 6 1) from may3a (b := true) (c := true), bk]
    rfl
  by_cases c1 : 0 ≤ k ∧ k ≤ 10
  · rw [if_pos c1]
    by_cases c2 : 0 ≤ t ∧ t ≤ 200
    · rw [if_pos c2]
      obtain ⟨w1, e1, e2, e3⟩ := c_copy (F := F) (b := 48) P48 P12 (by omega) hW hN (hI.1.1 48 P48)
      obtain ⟨w2, e4, e5, e6⟩ := c_run (F := F) (t := t) (by omega) P48 e2 hW (by omega) (by omega)
      have hc := e3.trans e6
      obtain ⟨y, g1, g2, g3⟩ := hI.aside hF hc e5.1.1
      obtain ⟨y2, g4, g5, g6⟩ := m_goes (F := F) (w := y) (t := t) (by omega) (by rw [g2]; exact hW) (by omega) (by rw [g2]; omega)
      rw [g2] at g4 g5
      obtain ⟨w3, g7, g8, g9⟩ := g3 y2 (goT (w 211) t.toNat (10 + k) - w 211 (10 + k)) g6
      have a1 := e5.2.2.1 k (by omega) (by omega)
      have a2 := hN.2.2.1 k (by omega) (by omega)
      have a3 : w2 (12 + 10) = w (12 + 10) := hc _ (by omega)
      rw [e1, bs, e4, bs, pf8 P48, getA P48 e5.1.1 (by omega), bs, pf8 P12, getA P12 (hN.1.1.of fun a a0 a1 => hc a (by omega)) (by omega), bs, a1, a3, a2]
      refine ⟨.inl (goT (w 211) t.toNat (10 + k) - w 211 (10 + k)), w2, goT (w 211) t.toNat (10 + k) - w 211 (10 + k), w3, rfl, ?_, g8, g9, rfl⟩
      rw [gd_t hk, m_in (by omega) (by decide) (by decide), bs, decide_eq_true c1, if_pos rfl, gd_t ht, m_in (by omega) (by decide) (by decide), bs, decide_eq_true c2, if_pos rfl]
      unfold f_X11_growsBy_b30
      have x211 : iset w2 210 6 0 211 = w 211 := by rw [is_ne (by decide), hc 211 (by omega)]
      rw [show f_X11_may F 210 1 1 1 w2 = some (true, iset w2 210 6 0) from may1t, bk, if_pos rfl, m0, n0, gd_t (by omega), lti, show shR 210 1 = 212 by decide +kernel, g1, bs, g4, bj, gd_t (by omega), g5, x211, g7, bj]
    · rw [if_neg c2]
      refine ⟨.inr eIA, w, 0, iset w 210 6 1, rfl, ?_, hI.thr 1, ?_⟩
      · rw [gd_t hk, m_in (by omega) (by decide) (by decide), bs, decide_eq_true c1, if_pos rfl, gd_t ht, m_in (by omega) (by decide) (by decide), bs, decide_eq_false c2, if_neg (by decide), t29]
      · rw [thr_at]; exact ⟨by decide, by decide, by decide⟩
  · rw [if_neg c1]
    refine ⟨.inr eIA, w, 0, iset w 210 6 1, rfl, ?_, hI.thr 1, ?_⟩
    · rw [gd_t hk, m_in (by omega) (by decide) (by decide), bs, decide_eq_false c1, if_neg (by decide), t29]
    · rw [thr_at]; exact ⟨by decide, by decide, by decide⟩
theorem comes_out {q : Row} {n j : Int} (hW : WF q) (hn : 0 ≤ n ∧ n < q 2) (hj : 0 ≤ j ∧ j < q 2) (h : ¬ j = n) : comesT q n (220 + 27 * j + 3) = q (220 + 27 * j + 3) := by
  have hl := (land_at hW hn).1
  have l2 := hl 2 (by omega) (by omega) (by omega) (by omega)
  have lk := hl (220 + 27 * j + 3) (by omega) (by omega) (by omega) (by omega)
  unfold comesT
  generalize landT q n = L at l2 lk
  split
  · unfold goalT
    split
    · unfold backT hearT
      rw [rs_ne (by omega), rs_ne (by omega)]
      rw [if_neg (by omega), rs_ne (by omega), lk]
    · have d2 : doneT L n 2 = q 2 := by
        unfold doneT
        rw [rs_ne (by omega), rs_ne (by omega), rs_ne (by omega), l2]
      have dk : doneT L n (220 + 27 * j + 3) = q (220 + 27 * j + 3) := by
        unfold doneT
        rw [rs_ne (by omega), rs_ne (by omega), rs_ne (by omega), lk]
      generalize doneT L n = D at d2 dk
      unfold replyT
      split
      · exact dk
      · rw [newT_out (by omega) (by omega) (by omega) (by omega), dk]
  · exact lk
theorem arr_lost {r : Row} {i : Int} (hW : WF r) (hi : 0 ≤ i ∧ i < r 2) (h : r (220 + 27 * i + 3) = 3) : ∀ n : Nat, (n : Int) ≤ r 2 → itr arrS r n (220 + 27 * i + 3) = 3 := by
  intro n
  induction n with
  | zero => intro _; exact h
  | succ n ih =>
    intro hn
    have ih := ih (by omega)
    obtain ⟨h1, h2⟩ := arr_inv hW n (by omega)
    show arrS n (itr arrS r n) _ = 3
    have k2 := h2.2.1
    generalize itr arrS r n = q at ih h1 k2 ⊢
    unfold arrS
    split
    · rename_i c
      by_cases e : i = n
      · subst e; omega
      · rw [comes_out h1 (by omega) (by omega) e, ih]
    · exact ih
theorem wh_lost {r : Row} {i : Int} (hW : WF r) (hS : Sl r 0) (hi : 0 ≤ i ∧ i < r 2) (h : r (220 + 27 * i + 3) = 3) : ∀ n : Nat, (n : Int) ≤ r 0 → itr whS r n (220 + 27 * i + 3) = 3 := by
  intro n
  have b2 := hW.1.2.2.1
  have b0 := hW.1.1
  induction n with
  | zero => intro _; exact h
  | succ n ih =>
    intro hn
    have ih := ih (by omega)
    obtain ⟨h1, h2, h3, h4, h5, h6⟩ := wh_inv hW hS n (by omega)
    show whS n (itr whS r n) _ = 3
    generalize itr whS r n = q at *
    unfold whS
    split
    · exact ih
    · rename_i c
      have c2 : ¬ firstG q n = -1 := fun z => c (Or.inr z)
      have hc := first_can h1 (x := n) ⟨by omega, by have := h3.1; omega⟩ c2
      have y0 := (h1.2.2.2.1 _ hc.1.1 hc.1.2).1
      have hq0 := h1.1.1
      obtain ⟨a1, -⟩ := whT_st (r := q) (i := firstG q n) (x := n) (j := i) (by omega) (by omega) (by omega)
      have hne : ¬ i = firstG q n := fun e => by
        have := hc.2.2.1
        rw [← e] at this
        omega
      rw [a1, if_neg hne, ih]
theorem lose_lost {r : Row} {i : Int} (hi : 0 ≤ i) (h : r (220 + 27 * i + 3) = 3) : ∀ n : Nat, itr loseS r n (220 + 27 * i + 3) = 3 := by
  intro n
  induction n with
  | zero => exact h
  | succ n ih =>
    show loseS n (itr loseS r n) _ = 3
    generalize itr loseS r n = q at *
    unfold loseS
    split
    · by_cases e : i = n
      · rw [e, rs_ne (by omega), rs_self]
      · rw [rs_ne (by omega), rs_ne (by omega), ih]
    · exact ih
theorem tick_lost {r : Row} {i : Int} (hW : WF r) (h3 : r 3 < 20000) (hi : 0 ≤ i ∧ i < r 2) (h : r (220 + 27 * i + 3) = 3) : tickT r (220 + 27 * i + 3) = 3 := by
  obtain ⟨g1, g2⟩ := WF_time hW h3
  unfold tickT
  have q2 : rs (rs r 3 (r 3 + 1)) 10 (r 10 + 1) 2 = r 2 := by rw [rs_ne (by omega), rs_ne (by omega)]
  have qk : rs (rs r 3 (r 3 + 1)) 10 (r 10 + 1) (220 + 27 * i + 3) = 3 := by rw [rs_ne (by omega), rs_ne (by omega), h]
  generalize rs (rs r 3 (r 3 + 1)) 10 (r 10 + 1) = q at g1 g2 q2 qk
  have b2 := g1.1.2.2.1
  obtain ⟨a1, a2⟩ := arr_inv g1 (q 2).toNat (by omega)
  have a3 := arr_lost g1 (i := i) (by omega) qk (q 2).toNat (by omega)
  rw [← arrT_eq] at a1 a2 a3
  have aS : Sl (arrT q) 0 := by
    refine ⟨fun x x0 x1 => ?_, ?_⟩
    · have e0 : arrT q 0 = q 0 := a2.2.2.1.1
      rw [a2.2.2.2.2 _ (by omega) (by have := g1.1.1; omega), a2.1]
      exact g2.1 x x0 (by omega)
    · rw [a2.2.2.2.1, a2.1]; exact g2.2
  have k2 := a2.2.1
  generalize arrT q = u at a1 a3 aS k2
  have b0 := a1.1.1
  rw [whAllT_eq, loseT_eq]
  split
  · exact lose_lost hi.1 (wh_lost a1 aS (by omega) a3 (u 0).toNat (by omega)) _
  · exact lose_lost hi.1 a3 _
noncomputable def arvR (r : Row) (i : Int) : Nat → Nat → Int
  | 0, _ => -1
  | m + 1, v => if goT r v (220 + 27 * i + 3) = 2 then v else arvR r i m (v + 1)
theorem arvR_lost {r : Row} {i : Int} (hW : WF r) (h3 : r 3 ≤ 9999) (hi : 0 ≤ i ∧ i < r 2) : ∀ m v : Nat, m + v = 201 → goT r v (220 + 27 * i + 3) = 3 → arvR r i m v = -1 := by
  intro m
  induction m with
  | zero => intro v _ _; rfl
  | succ m ih =>
    intro v hv h
    have hG := goT_WF hW v (by omega)
    have ht : tickT (goT r v) (220 + 27 * i + 3) = 3 := tick_lost hG.1 (by omega) (by omega) h
    unfold arvR
    rw [if_neg (by omega)]
    exact ih (v + 1) (by omega) ht
theorem c_arrives {F : Nat} {w : aI} {r : Row} {i : Int} (hF : 20000 ≤ F) (hW : WF r) (h3 : r 3 ≤ 9999) (hi : 0 ≤ i ∧ i < r 2) : ∀ (m v n : Nat) (w1 : aI), m + v = 201 → m < n → Rep w1 48 (goT r v) → Fc 48 w w1 → ∃ w2, f_X10_arrivesIn_b18 F 0 i n v w1 = some (.inl (arvR r i m v), w2) ∧ TOK w2 48 ∧ Fc 48 w w2 := by
  intro m
  have b2 := hW.1.2.2.1
  induction m with
  | zero =>
    intro v n w1 hv hn hR hc
    obtain ⟨n, rfl⟩ : ∃ k, n = k + 1 := ⟨n - 1, by omega⟩
    refine ⟨w1, ?_, hR.1.1, hc⟩
    show f_X10_arrivesIn_b18_b F 0 i (f_X10_arrivesIn_b18 F 0 i n) _ _ = _
    unfold f_X10_arrivesIn_b18_b
    rw [gd_t (by omega), if_pos (by omega)]
    rfl
  | succ m ih =>
    intro v n w1 hv hn hR hc
    obtain ⟨n, rfl⟩ : ∃ k, n = k + 1 := ⟨n - 1, by omega⟩
    have hG := goT_WF hW v (by omega)
    have hG2 := hG.1.1.2.2.1
    have y4 := (hG.1.2.2.2.1 i hi.1 (by omega)).2.2.2.2.1
    show ∃ w2, f_X10_arrivesIn_b18_b F 0 i (f_X10_arrivesIn_b18 F 0 i n) _ _ = _ ∧ _
    unfold f_X10_arrivesIn_b18_b
    rw [gd_t (by omega), if_neg (by omega), k7, pf6 P48, c_tune P48 hR hG2 (by omega) (by omega), bs, gd_t (by omega)]
    by_cases e2 : goT r v (220 + 27 * i + 3) = 2
    · rw [if_pos e2]
      refine ⟨w1, ?_, hR.1.1, hc⟩
      unfold arvR
      rw [if_pos e2]
    · rw [if_neg e2]
      by_cases e3 : goT r v (220 + 27 * i + 3) = 3
      · rw [if_pos e3]
        refine ⟨w1, ?_, hR.1.1, hc⟩
        rw [arvR_lost hW h3 hi (m + 1) v (by omega) e3]
      · rw [if_neg e3]
        obtain ⟨w2, g1, g2, g3⟩ := c_run (F := F) (t := 1) (by omega) P48 hR hG.1 (by omega) (by omega)
        rw [g1, bs]
        have e : arvR r i (m + 1) v = arvR r i m (v + 1) := by
          show (if goT r v (220 + 27 * i + 3) = 2 then (v : Int) else arvR r i m (v + 1)) = _
          rw [if_neg e2]
        rw [e]
        exact ih (v + 1) n w2 (by omega) (by omega) g2 (hc.trans g3)
theorem m_arrives2 {F : Nat} {y : aI} {r : Row} {i : Int} (hF : 20000 ≤ F) (hW : WF r) (h3 : r 3 ≤ 9999) (hi : 0 ≤ i ∧ i < r 2) (P : aI → Prop) (hg : ∀ y2 v, Fm y y2 → ∃ w3, f_X11_gives F 210 212 v y2 = some (v, w3) ∧ P w3) :
    ∀ (m v n : Nat) (y1 : aI), m + v = 201 → m < n → y1 211 = goT r v → Fm y y1 → ∃ w3, f_X11_arrivesIn_b26 F 210 i n v y1 = some (arvR r i m v, w3) ∧ P w3 := by
  intro m
  have b2 := hW.1.2.2.1
  have k1 : shR 210 1 = 212 := by decide +kernel
  induction m with
  | zero =>
    intro v n y1 hv hn hR hc
    obtain ⟨n, rfl⟩ : ∃ k, n = k + 1 := ⟨n - 1, by omega⟩
    obtain ⟨w3, g1, g2⟩ := hg y1 (-1) hc
    refine ⟨w3, ?_, g2⟩
    show f_X11_arrivesIn_b26_b F 210 i (f_X11_arrivesIn_b26 F 210 i n) _ _ = _
    unfold f_X11_arrivesIn_b26_b
    rw [gd_t (by omega), if_pos (by omega), k1, g1, bj]
    rfl
  | succ m ih =>
    intro v n y1 hv hn hR hc
    obtain ⟨n, rfl⟩ : ∃ k, n = k + 1 := ⟨n - 1, by omega⟩
    have hG := goT_WF hW v (by omega)
    have hG2 := hG.1.1.2.2.1
    have y4 := (hG.1.2.2.2.1 i hi.1 (by omega)).2.2.2.2.1
    show ∃ w3, f_X11_arrivesIn_b26_b F 210 i (f_X11_arrivesIn_b26 F 210 i n) _ _ = _ ∧ _
    unfold f_X11_arrivesIn_b26_b
    rw [gd_t (by omega), if_neg (by omega), m_t, bs, m0, n0, hR, gd_t (by omega), gd_t (by omega)]
    by_cases e2 : goT r v (220 + 27 * i + 3) = 2
    · obtain ⟨w3, g1, g2⟩ := hg y1 v hc
      rw [if_pos e2, k1, g1, bj]
      refine ⟨w3, ?_, g2⟩
      unfold arvR
      rw [if_pos e2]
    · rw [if_neg e2]
      obtain ⟨y2, g1, g2, g3⟩ := m_ticks (F := F) (w := y1) (by omega) (by rw [hR]; exact hG.1) (by rw [hR]; omega)
      rw [g1, bs]
      have e : arvR r i (m + 1) v = arvR r i m (v + 1) := by
        show (if goT r v (220 + 27 * i + 3) = 2 then (v : Int) else arvR r i m (v + 1)) = _
        rw [if_neg e2]
      rw [e]
      exact ih (v + 1) n y2 (by omega) (by omega) (by rw [g2, hR]; rfl) (hc.trans g3)
theorem top_arrivesIn {F : Nat} (hF : 20000 ≤ F) {i : Int} (hi : rg i) : Top [eIO] (f_X10_arrivesIn F 0 i) (f_X11_arrivesIn F 210 i) := by
  intro w hI
  obtain ⟨hN, hW, h3⟩ := hI.2.2.2.2.1
  obtain ⟨b0, b1, b2, b3, -⟩ := hW.1
  unfold f_X10_arrivesIn f_X11_arrivesIn
  rw [c_needTune hN hi b2, bN rfl, k5, k7]
  by_cases c1 : 0 ≤ i ∧ i < w 211 2
  · rw [if_pos c1]
    obtain ⟨w1, e1, e2, e3⟩ := c_copy (F := F) (b := 48) P48 P12 (by omega) hW hN (hI.1.1 48 P48)
    obtain ⟨w2, e4, e5, hc⟩ := c_arrives (F := F) (w := w) hF hW h3 c1 201 0 F w1 (by omega) (by omega) e2 e3
    obtain ⟨y, g1, g2, g3⟩ := hI.aside hF hc e5
    obtain ⟨w3, g4, g5, g6⟩ := m_arrives2 (F := F) (y := y) hF hW h3 c1 (fun w3 => Inv w3 ∧ w3 210 6 = 0) g3 201 0 F y (by omega) (by omega) g2 (Fm.refl y)
    rw [e1, bs]
    refine ⟨.inl (arvR (w 211) i 201 0), w2, arvR (w 211) i 201 0, w3, e4, ?_, g5, g6, rfl⟩
    have h211 : w2 211 = w 211 := hc 211 (by omega)
    rw [m_isTune hi (by rw [h211]; exact b2), bs, h211, decide_eq_true c1, show f_X11_may F 210 (bI true) 1 1 w2 = some (true, iset w2 210 6 0) from may1t, bk, if_pos rfl, show shR 210 1 = 212 by decide +kernel, g1, bs]
    exact g4
  · rw [if_neg c1]
    refine ⟨.inr eIO, w, 0, iset w 210 6 1, rfl, ?_, hI.thr 1, ?_⟩
    · rw [m_isTune hi b2, bs, decide_eq_false c1, show f_X11_may F 210 (bI false) 1 1 w = some (false, iset w 210 6 1) from may3a (b := true) (c := true), bk]
      rfl
    · rw [thr_at]; exact ⟨by decide, by decide, by decide⟩
