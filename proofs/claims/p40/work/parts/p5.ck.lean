/-! ===== the class alone, method by method ===== -/
def CK (w : aI) (r : Row) : Prop := IvT w ∧ PR w 12 r ∧ (0 ≤ w 10 2 ∧ w 10 2 ≤ 8) ∧ (0 ≤ w 10 1 ∧ w 10 1 < 8)
theorem pb_ten {b : Nat} (h : Pb b) : 10 < b ∧ b + 18 ≤ 210 := by
  have : ∀ b ∈ [12, 30, 48, 66, 84, 102, 120, 138, 156, 174, 192], 10 < b ∧ b + 18 ≤ 210 := by decide
  exact this b h
theorem CK.ov {w w2 : aI} {r : Row} (h : CK w r) (e : ∀ a, a < 210 → w2 a = w a) : CK w2 r := by
  obtain ⟨h1, h2, h3, h4⟩ := h
  refine ⟨⟨fun b hb => (h1.1 b hb).of fun a a0 a1 => e a (by have := pb_ten hb; omega), by rw [e 8 (by decide)]; exact h1.2⟩, h2.of fun a a0 a1 => e a (by omega), ?_⟩
  rw [e 10 (by decide)]
  exact ⟨h3, h4⟩
theorem CK.keeps {F : Nat} {w : aI} {r : Row} (h : CK w r) : ∃ w1, f_X1_keep F 10 12 w = some w1 ∧ CK w1 r ∧ ∀ a, 210 ≤ a → w1 a = w a := by
  obtain ⟨hT, ⟨hN, hW, ht⟩, hK, hf⟩ := h
  obtain ⟨w1, f, K, e1, e2, e3, e4, e5, e6⟩ := c_keep (F := F) hT hN hW hK hf
  have hfK : (0 ≤ f ∧ f < 8) ∧ 1 ≤ K ∧ K ≤ 8 := by omega
  have hbP := pb_Pb (m := (f + (K - 1)) % 8) (by omega)
  have hbd := pb_bd (m := (f + (K - 1)) % 8) (by omega)
  refine ⟨w1, e1, ⟨⟨fun b hb => ?_, ?_⟩, ⟨hN.of fun a a0 a1 => e6 a (by omega) (by omega), hW, ht⟩, by omega, by omega⟩, fun a a0 => e6 a (by omega) (by omega)⟩
  · by_cases c : b = pb ((f + (K - 1)) % 8)
    · subst c; exact e5.1.1
    · have hd := hb.pd hbP c
      have ht := pb_ten hb
      unfold Pd at hd
      exact (hT.1 b hb).of fun a a0 a1 => e6 a (by omega) (by omega)
  · rw [e6 8 (by omega) (by omega)]; exact hT.2
theorem CK.act {w w2 : aI} {r q : Row} {b : Nat} (h : CK w r) (hb0 : Pb b) (hc : Fc b w w2) (hR : PR w2 12 q) (hK : TOK w2 b) : CK w2 q := by
  obtain ⟨hT, -, hK2, hf⟩ := h
  have h9 := pb_ten hb0
  refine ⟨⟨fun d hd => ?_, by rw [hc 8 (by omega)]; exact hT.2⟩, hR, ?_⟩
  · by_cases c : d = b
    · subst c; exact hK
    · have hp := hd.pd hb0 c
      unfold Pd at hp
      exact (hT.1 d hd).of fun a a0 a1 => hc a (by omega)
  · rw [hc 10 (by omega)]; exact ⟨hK2, hf⟩
theorem CK.act12 {w w2 : aI} {r q : Row} (h : CK w r) (hc : Fc 12 w w2) (hR : PR w2 12 q) : CK w2 q := h.act P12 hc hR hR.1.1.1
section CKs
variable {F : Nat} {w : aI} {r : Row}
theorem k_count (hF : 20000 ≤ F) (h : CK w r) {v : Int} (hv : 0 ≤ v ∧ v ≤ 12) : f_X10_count F 0 v w = some (.inl (NA r v), w) := by
  obtain ⟨hT, ⟨hN, hW, ht⟩, hK, hf⟩ := h
  unfold f_X10_count
  rw [c_needNumber (by omega) (by decide) (by decide), if_pos (by omega), bn0, gd_t (by omega), k8, k5, if_neg (by omega), c_all hF hN hW (by omega), bs]
theorem k_account (h : CK w r) {v : Int} (c : 0 ≤ v ∧ v ≤ 10) : f_X10_account F 0 v w = some (.inl (r (10 + v)), w) := by
  obtain ⟨hT, ⟨hN, hW, ht⟩, hK, hf⟩ := h
  unfold f_X10_account
  rw [c_needNumber (by omega) (by decide) (by decide), if_pos c, bn0, k5, pf8 P12, getA P12 hN.1.1 (by omega), bs, hN.2.2.1 v c.1 (by omega)]
theorem k_roof (h : CK w r) {x v : Int} (c : 0 ≤ x ∧ x < r 0) (hv : v = 3 ∨ v = 4 ∨ v = 7) : f_X10_roof F 0 x v w = some (.inl (if v = 4 then max 0 (r (25 + 13 * x + 11) - r 3) else if v = 7 then r (25 + 13 * x + 12) else r (25 + 13 * x + 10)), w) := by
  obtain ⟨hT, ⟨hN, hW, ht⟩, hK, hf⟩ := h
  obtain ⟨b0, b1, b2, b3, -⟩ := hW.1
  obtain ⟨x0, x1, x2, x3, x4, x5, x6⟩ := hW.2.1 x c.1 c.2
  unfold f_X10_roof
  rw [c_needRoof hN (by omega) (by omega), c_needNumber (by omega) (by decide) (by decide), bN rfl, bN rfl, k5, if_pos c, if_pos (by omega)]
  unfold f_X2_numberOfRoof
  rw [gd_t (by omega)]
  rcases hv with e | e | e <;> subst e
  · rw [if_neg (by decide), if_neg (by decide), if_neg (by decide), if_neg (by decide), if_neg (by decide), pf4 P12, c_roof P12 hN b0.2 c (by omega), bs, bs, show 25 + 13 * x + 7 + 3 = 25 + 13 * x + 10 by omega]
  · rw [if_pos rfl, if_pos rfl, pf4 P12, c_roof P12 hN b0.2 c (by omega), bs, hN.1.2.1, show 25 + 13 * x + 7 + 4 = 25 + 13 * x + 11 by omega, gd_t (by omega), bs]
  · rw [if_neg (by decide), if_neg (by decide), if_neg (by decide), if_neg (by decide), if_pos rfl, pf4 P12, getX P12 hN.1.1 (by omega) (by omega), bs, bs, (hN.2.2.2.1.1 x c.1 c.2).2.2.2.2.2.2.1]
theorem k_route (h : CK w r) {x y : Int} (c : (0 ≤ x ∧ x < r 0) ∧ 0 ≤ y ∧ y < r 0) : f_X10_route F 0 x y w = some (.inl (dist r (-1) y x), w) := by
  obtain ⟨hT, ⟨hN, hW, ht⟩, hK, hf⟩ := h
  obtain ⟨b0, b1, b2, b3, -⟩ := hW.1
  have db := dist_bd b0 b1 hW.2.2.1 (W := -1) (g := y) (x := x) (by omega) c.2 c.1
  unfold f_X10_route
  rw [two_roofs hN (by omega) (by omega) (by omega), if_pos c, k5, pf9 P12, pr1 P12, getM P12 hN.1.1 (by omega) (by omega), bs, ((hN.2.2.2.2.2.2 x y c.1.1 c.1.2 c.2.1 (by omega)).2 c.2.2).1]
  by_cases cd : dist r (-1) y x = -1
  · rw [if_pos cd, gd_t (by decide), if_pos (by decide), cd]
  · rw [if_neg cd, gd_t (by omega), if_neg (by omega)]
theorem k_next (h : CK w r) {x y : Int} (c : (0 ≤ x ∧ x < r 0) ∧ 0 ≤ y ∧ y < r 0) : f_X10_next F 0 x y w = some (.inl (nxt r x y), w) := by
  obtain ⟨hT, ⟨hN, hW, ht⟩, hK, hf⟩ := h
  obtain ⟨b0, b1, b2, b3, -⟩ := hW.1
  unfold f_X10_next
  rw [two_roofs hN (by omega) (by omega) (by omega), if_pos c, k5, pf9 P12, pr2 P12, getN P12 hN.1.1 (by omega) (by omega), bs, ((hN.2.2.2.2.2.2 x y c.1.1 c.1.2 c.2.1 (by omega)).2 c.2.2).2]
theorem k_tune (hF : 100 ≤ F) (h : CK w r) {i v : Int} (c : 0 ≤ i ∧ i < r 2) (c2 : 0 ≤ v ∧ v ≤ 11) (n9 : ¬ v = 9) (n10 : ¬ v = 10) : f_X10_tune F 0 i v w = some (.inl (if v = 11 then r (220 + 27 * i + 9) else r (220 + 27 * i + v)), w) := by
  obtain ⟨hT, ⟨hN, hW, ht⟩, hK, hf⟩ := h
  obtain ⟨b0, b1, b2, b3, -⟩ := hW.1
  unfold f_X10_tune
  rw [c_needTune hN (by omega) b2, c_needNumber (by omega) (by decide) (by decide), bN rfl, bN rfl, k5, if_pos c, if_pos c2]
  unfold f_X2_numberOfTune
  rw [gd_t (by omega), pf6 P12, if_neg n9, if_neg n10]
  by_cases e6 : v = 11
  · rw [if_pos e6, e6, c_tune11 P12 hN b2 c, bs, bs]
  · rw [if_neg e6, c_tune P12 hN b2 c (by omega), bs, bs]
theorem k_note (h : CK w r) {i k hd : Int} (c : 0 ≤ i ∧ i < r 2) (c2 : 0 ≤ k ∧ k < r (220 + 27 * i + 2)) (hh : hd = 0 ∨ hd = 1) : f_X10_note F 0 i k hd w = some (.inl (if hd = 0 then r (220 + 27 * i + 11 + k) else r (220 + 27 * i + 19 + k)), w) := by
  obtain ⟨hT, ⟨hN, hW, ht⟩, hK, hf⟩ := h
  obtain ⟨b0, b1, b2, b3, -⟩ := hW.1
  obtain ⟨y0, y1, y2, y3, y4, y5, y6, y7, y8, y9, y10, y11, y12, y13, y14, y15⟩ := hW.2.2.2.1 i c.1 c.2
  obtain ⟨hN1, hN2⟩ := tuneN7 y12
  unfold f_X10_note
  rw [c_needTune hN (by omega) b2, bN rfl, k5, if_pos c, gd_t (by omega), pf6 P12, if_neg (by omega), c_tune P12 hN b2 c (by omega), bs, gd_t (by omega), if_pos c2.2, gd_t (by omega)]
  by_cases c3 : hd = 0
  · rw [if_pos c3, if_pos c3, c_tune9 P12 hN b2 c, bs, c_noteOf hN1 c2.1 (by omega), bs]
  · rw [if_neg c3, if_neg c3, c_tune10 P12 hN b2 c, bs, c_noteOf hN2 c2.1 (by omega), bs]
theorem k_agree (hF : 20000 ≤ F) (h : CK w r) : ∃ w2, f_X10_agree F 0 w = some (true, w2) ∧ CK w2 r ∧ ∀ a, 210 ≤ a → w2 a = w a := by
  have h0 := h
  obtain ⟨hT, ⟨hN, hW, ht⟩, hK, hf⟩ := h0
  obtain ⟨w2, e1, e2, e3⟩ := c_agree hF (hT.1 48 P48) hN hW
  exact ⟨w2, e1, h.act P48 e2 ⟨hN.of fun a a0 a1 => e2 a (by omega), hW, ht⟩ e3, fun a a0 => e2 a (by omega)⟩
theorem k_tick (hF : 20000 ≤ F) (h : CK w r) {t : Int} (c : 1 ≤ t ∧ t ≤ 200) (c2 : r 3 + t ≤ 9999) : ∃ w2, f_X10_tick F 0 t w = some (.inl (goT r t.toNat 15 - r 15), w2) ∧ CK w2 (goT r t.toNat) ∧ ∀ a, 210 ≤ a → w2 a = w a := by
  have h0 := h
  obtain ⟨hT, ⟨hN, hW, ht⟩, hK, hf⟩ := h0
  obtain ⟨b0, b1, b2, b3, -⟩ := hW.1
  obtain ⟨w1, e1, e2, e3⟩ := h.keeps (F := F)
  have R1 := e2.2.1.1
  obtain ⟨w2, e4, e5, e6⟩ := c_run (F := F) (t := t) (by omega) P12 R1 hW (by omega) (by omega)
  have hG := goT_WF hW t.toNat (by omega)
  unfold f_X10_tick f_X2_hasTimeFor
  rw [c_needNumber (by omega) (by decide) (by decide), bN rfl, k5, k8, if_pos c, hN.1.2.1, gd_t (by omega), if_neg (by omega), bs, if_pos rfl, e1, bs, pf8 P12, getA P12 R1.1.1 (by omega), bs, e4, bs, getA P12 e5.1.1 (by omega), bs]
  refine ⟨w2, ?_, e2.act12 e6 ⟨e5, hG.1, by rw [hG.2.1]; omega⟩, fun a a0 => by rw [e6 a (by omega)]; exact e3 a a0⟩
  have a1 := e5.2.2.1 5 (by omega) (by omega)
  have a2 := R1.2.2.1 5 (by omega) (by omega)
  rw [a1, a2]; rfl
theorem k_give (h : CK w r) {x c : Int} (c1 : 0 ≤ x ∧ x < r 0) (c2 : 1 ≤ c ∧ c ≤ 99) (c3 : r (25 + 13 * x + 10) + c ≤ 9999) : ∃ w2, f_X10_give F 0 x c w = some (.inl (r (25 + 13 * x + 10) + c), w2) ∧ CK w2 (giveT r x c) ∧ ∀ a, 210 ≤ a → w2 a = w a := by
  have h0 := h
  obtain ⟨hT, ⟨hN, hW, ht⟩, hK, hf⟩ := h0
  obtain ⟨b0, b1, b2, b3, -⟩ := hW.1
  obtain ⟨-, -, -, -, -, u5, -⟩ := hW.2.1 x c1.1 c1.2
  have e10 : 25 + 13 * x + 7 + 3 = 25 + 13 * x + 10 := by omega
  obtain ⟨w1, e1, e2, e3⟩ := h.keeps (F := F)
  have R1 := e2.2.1.1
  obtain ⟨w2, e4, e5, e6⟩ := c_take (F := F) (x := x) (c := c) P12 R1 b0.2 b1 c1
  have hG := giveT_WF (c := c) hW c1 (by omega) (by omega)
  have gp := giveT_p (r := r) (c := c) c1.1
  unfold f_X10_give f_X2_hasRoomFor
  rw [c_needRoof hN (by omega) (by omega), c_needNumber (by omega) (by decide) (by decide), bN rfl, bN rfl, k5, k8, if_pos c1, if_pos c2, pf4 P12, c_roof P12 hN b0.2 c1 (by omega), bs, e10, gd_t (by omega), if_neg (by omega), bs, if_pos rfl, e1, bs, e4, bs, c_roof P12 e5 (by rw [giveT_o (by omega) (by omega)]; exact b0.2) (by rw [giveT_o (by omega) (by omega)]; exact c1) (by omega), bs, e10, gp]
  exact ⟨w2, rfl, e2.act12 e6 ⟨e5, hG, by rw [giveT_o (by omega) (by omega)]; exact ht⟩, fun a a0 => by rw [e6 a (by omega)]; exact e3 a a0⟩
theorem k_set (h : CK w r) {k : Int} (c2 : 0 ≤ k ∧ k ≤ 9) : ∃ w2, f_X10_set F 0 8 k w = some (.inl (r 4), w2) ∧ CK w2 (setT r 8 k) ∧ ∀ a, 210 ≤ a → w2 a = w a := by
  have h0 := h
  obtain ⟨hT, ⟨hN, hW, ht⟩, hK, hf⟩ := h0
  obtain ⟨b0, b1, b2, b3, -⟩ := hW.1
  obtain ⟨w1, e1, e2, e3⟩ := h.keeps (F := F)
  have R1 := e2.2.1.1
  obtain ⟨w2, e4, e5, e6⟩ := c_settle (F := F) (v := 8) (k := k) P12 R1 b0.2 b1 (by omega)
  have hG : WF (setT r 8 k) := setT_WF hW (by decide) ⟨fun _ => c2.2, fun e => absurd e (by decide), fun e => absurd e (by decide), c2.1⟩
  have lo : f_X2_leastOf F 8 w = some 0 := rfl
  have hi : f_X2_mostOf F 8 w = some 9 := rfl
  unfold f_X10_set
  rw [c_needNumber (by decide) (by decide) (by decide), bN rfl, k5, k8, if_pos (by decide), lo, bs, hi, bs, c_needNumber (by omega) (by decide) (by decide), bN rfl, if_pos c2, e1, bs, c_setting P12 R1 (by decide), bs, e4, bs]
  refine ⟨w2, rfl, e2.act12 e6 ⟨e5, hG, ?_⟩, fun a a0 => by rw [e6 a (by omega)]; exact e3 a a0⟩
  unfold setT
  rw [rs_ne (by decide)]; exact ht
theorem k_cut (hF : 1000 ≤ F) (h : CK w r) {x y : Int} (c : (0 ≤ x ∧ x < r 0) ∧ 0 ≤ y ∧ y < r 0) (c2 : ¬ wayB r x y = -1) : ∃ w2, f_X10_cut F 0 x y w = some (.inl (r 1 - 1), w2) ∧ CK w2 (cutT r (wayB r x y)) ∧ ∀ a, 210 ≤ a → w2 a = w a := by
  have h0 := h
  obtain ⟨hT, ⟨hN, hW, ht⟩, hK, hf⟩ := h0
  obtain ⟨b0, b1, b2, b3, -⟩ := hW.1
  obtain ⟨w1, e1, e2, e3⟩ := h.keeps (F := F)
  have R1 := e2.2.1.1
  have hv := wayB_r r x y b1.1
  have hV := wayB_en b1.1 c2
  obtain ⟨w2, e4, e5, e6⟩ := c_cutWay (F := F) (x := x) (y := y) (by omega) P12 R1 hW c.1 c.2 c2
  have hG := cutT_WF (v := wayB r x y) hW ⟨hV.1, hV.2.1⟩
  unfold f_X10_cut
  rw [two_roofs hN (by omega) (by omega) (by omega), k5, k8, if_pos c, c_wayB (by omega) P12 hN.1.1 hN.1.2.2.2.1 hN.2.2.2.2.1 b0.2 b1 hW.2.2.1 c.1 c.2, bs, gd_t (by omega), if_neg c2, e1, bs, e4, bk, e5.1.2.2.2.1, cutT_1 hV.1]
  exact ⟨w2, rfl, e2.act12 e6 ⟨e5, hG, by rw [cutT_o (by omega) (by omega) hV.1 b1.2]; exact ht⟩, fun a a0 => by rw [e6 a (by omega)]; exact e3 a a0⟩
theorem k_cutN (hF : 1000 ≤ F) (h : CK w r) {x y : Int} (c : (0 ≤ x ∧ x < r 0) ∧ 0 ≤ y ∧ y < r 0) (c2 : wayB r x y = -1) : f_X10_cut F 0 x y w = some (.inr eIS, w) := by
  obtain ⟨hT, ⟨hN, hW, ht⟩, hK, hf⟩ := h
  obtain ⟨b0, b1, b2, b3, -⟩ := hW.1
  unfold f_X10_cut
  rw [two_roofs hN (by omega) (by omega) (by omega), k5, k8, if_pos c, c_wayB (by omega) P12 hN.1.1 hN.1.2.2.2.1 hN.2.2.2.2.1 b0.2 b1 hW.2.2.1 c.1 c.2, bs, gd_t (by omega), if_pos c2]
theorem k_send (hF : 20000 ≤ F) (h : CK w r) {x y p u : Int} (c : (0 ≤ x ∧ x < r 0) ∧ 0 ≤ y ∧ y < r 0) (hxy : ¬ x = y) (hp : 0 ≤ p ∧ p ≤ 77777777) (hd : dO 8 p = true) (hu : u = 0 ∨ u = 1) (ct : r 2 < 30) : ∃ w2, f_X10_send F 0 x y p u w = some (.inl (r 2), w2) ∧ CK w2 (newT r x y (dM p) (dF p) 0 u) ∧ ∀ a, 210 ≤ a → w2 a = w a := by
  have h0 := h
  obtain ⟨hT, ⟨hN, hW, ht⟩, hK, hf⟩ := h0
  obtain ⟨b0, b1, b2, b3, -⟩ := hW.1
  obtain ⟨w1, e1, e2, e3⟩ := h.keeps (F := F)
  have R1 := e2.2.1.1
  have hA : f_X10_areDigitsNotes F p w = some true := by
    unfold f_X10_areDigitsNotes
    rw [c_areDig 8 F p hp.1 (by omega) (by simp only [tn]; omega) (by omega), hd]
  have hfd := dF_bd hp.1 hd
  have hbM := dM_bd p
  obtain ⟨w2, e4, e5, e6⟩ := c_addTune (F := F) (s := x) (g := y) (n := dM p) (rp := 0) (wa := u) (f := dF p) P12 R1 b0.2 b1 ⟨b2.1, ct⟩ (Or.inl rfl) hu rfl
  have en : rs (newT r x y (dM p) (dF p) 0 u) 12 (r 12) = newT r x y (dM p) (dF p) 0 u := by
    have := newT_12 (r := r) (s := x) (g := y) (n := dM p) (rp := 0) (wa := u) (f := dF p) b2.1
    rw [Int.add_zero] at this
    exact this
  rw [en] at e5
  have hG := WF_new (s := x) (g := y) (n := dM p) (rp := 0) (wa := u) (f := dF p) hW ct c.1 c.2 hxy hbM hfd (Or.inl rfl) hu
  unfold f_X10_send
  rw [two_roofs hN (by omega) (by omega) (by omega), if_pos c, gd_t (by omega), if_neg hxy, c_needNumber (by omega) (by decide) (by decide), bN rfl, if_pos hp, hA, bs, if_pos rfl, k5, k8, hN.1.2.2.2.2, gd_t (by omega), if_pos ct, e1, bs, c_digitsOf (by omega) hp.1 hp.2, bs, c_notesOf (by omega) hp.1 hp.2 hd, bs, e4, bj]
  exact ⟨w2, rfl, e2.act12 e6 ⟨e5, hG, by rw [newT_out (by omega) (by omega) (by omega) (by omega)]; exact ht⟩, fun a a0 => by rw [e6 a (by omega)]; exact e3 a a0⟩
theorem k_sendN (hF : 20000 ≤ F) (h : CK w r) {x y u : Int} (c : (0 ≤ x ∧ x < r 0) ∧ 0 ≤ y ∧ y < r 0) (hxy : ¬ x = y) (ct : r 2 = 30) : f_X10_send F 0 x y 1 u w = some (.inr eIS, w) := by
  obtain ⟨hT, ⟨hN, hW, ht⟩, hK, hf⟩ := h
  obtain ⟨b0, b1, b2, b3, -⟩ := hW.1
  have hA : f_X10_areDigitsNotes F 1 w = some true := by
    unfold f_X10_areDigitsNotes
    rw [c_areDig 8 F 1 (by decide) (by decide) (by simp only [tn]; omega) (by omega)]
    rfl
  unfold f_X10_send
  rw [two_roofs hN (by omega) (by omega) (by omega), if_pos c, gd_t (by omega), if_neg hxy, c_needNumber (by decide) (by decide) (by decide), bN rfl, if_pos (by decide), hA, bs, if_pos rfl, k5, k8, hN.1.2.2.2.2, gd_t (by omega), if_neg (by omega)]
end CKs
