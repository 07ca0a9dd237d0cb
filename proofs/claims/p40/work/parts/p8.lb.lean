/-! ===== one act of the law ===== -/
def StA (w : aI) (q : Row) (m : Int) : Prop := LwR w q ∧ CK w q ∧ Bd q m
def fN (c k : Int) : Int := if k = 0 then 1 + bv c 15 4 % 7 else bv (c * 31 + k) 9 3
theorem fN_0 (c : Int) : 1 ≤ fN c 0 := by
  have := bv_4 c 15
  unfold fN
  rw [if_pos rfl]
  omega
theorem fN_bd (c : Int) : ∀ j : Int, 0 ≤ j → 0 ≤ fN c j ∧ fN c j ≤ 7 := by
  intro j _
  have h1 := bv_4 c 15
  have h2 := bv_3 (c * 31 + j) 9
  unfold fN
  split <;> omega
theorem Bd.dl {r q : Row} {m : Int} (h : Bd r m) (k : ∀ j, Dk j → q j = r j) (e3 : q 3 = r 3) (e7 : q 7 + q 20 ≤ r 7 + r 20 + 16) : Bd q (m + 1) := by
  refine ⟨fun j hj => ?_, by rw [e3]; have := h.2.1; omega, by have := h.2.2; omega⟩
  rw [k j hj, e3]
  exact h.1 j hj
section Act
variable {F : Nat} {w : aI} {r : Row} {m : Int}
theorem l_actN (hF : 20000 ≤ F) (h : LwR w r) (hK : CK w r) (hB : Bd r m) {p2 a b N : Int} (ha : 0 ≤ a ∧ a < r 0) (hb : 0 ≤ b ∧ b < r 0) (hab : ¬ a = b) (h2 : r 2 < 30) (hN : 1 ≤ N ∧ N ≤ 8) :
    ∀ (n k : Nat) (u : aI), (k : Int) ≤ N → N - k < n → (∀ c, ¬ c = 331 + 2 * (r 2).toNat → ¬ c = 999 → u c = w c) → u 999 0 = w 999 0 + 1 → u (331 + 2 * (r 2).toNat) 100 = N → (∀ j : Int, 0 ≤ j → j < (k : Int) → u (331 + 2 * (r 2).toNat) j = fN p2 j) →
    ∃ z q, f_L_acts_b129 F 300 0 p2 n a b N (331 + 2 * (r 2).toNat) (Nm (fN p2) k) k u = some (true, z) ∧ StA z q (m + 1) := by
  have hW := hK.2.1.2.1
  obtain ⟨b0, b1, b2, b3, b4, b5, b6⟩ := hW.1
  have hy : ∀ t, 0 ≤ t → t < r 2 → r (220 + 27 * t + 2) ≤ 8 := fun t t0 t1 => (hW.2.2.2.1 t t0 t1).2.2.2.1.2
  have d1 := h.2.2.2.2.2.2.2.1
  intro n
  induction n with
  | zero => intro k u k1 k2; omega
  | succ n ih =>
    intro k u k1 k2 u1 u9 u2 u3
    show ∃ z q, f_L_acts_b129_b F 300 0 p2 (f_L_acts_b129 F 300 0 p2 n) _ _ _ _ _ _ _ = _ ∧ _
    unfold f_L_acts_b129_b
    rw [gd_t (by omega)]
    by_cases c : N ≤ k
    · have e : (k : Int) = N := by omega
      have hQ : LwQ u r := LwQ.of h b1 ⟨b2.1, h2⟩ hy u1 u9
      have hw1 := bv_1 p2 19
      have hwa : bv p2 19 1 = 0 ∨ bv p2 19 1 = 1 := by omega
      obtain ⟨z, z1, z2, z3⟩ := l_sends (F := F) (s := a) (g := b) (want := bv p2 19 1) (rp := 0) (f := fN p2) hQ b1 b2 hy h2 rfl hN u2 (fun j j0 j1 => u3 j j0 (by omega))
      obtain ⟨m1, m2, m3, m4⟩ := Nm_all (fN_0 p2) (fN_bd p2) (n := k) (by omega)
      have hKz : CK z r := hK.ov fun c hc => by rw [z3 c (by omega), u1 c (by omega) (by omega)]
      obtain ⟨z4, g1, g2, g3⟩ := k_send hF hKz ⟨ha, hb⟩ hab m1 m2 hwa h2
      have eR : newT r a b (dM (Nm (fN p2) k)) (dF (Nm (fN p2) k)) 0 (bv p2 19 1) = newT r a b N (fN p2) 0 (bv p2 19 1) := by
        rw [m3, e]
        exact newT_congr fun j j0 j1 => m4 j j0 (by omega)
      rw [eR] at g2
      have hL : LwR z4 (newT r a b N (fN p2) 0 (bv p2 19 1)) := z2.ov g2.2.1.2.1 g3
      have hD := Dl_new (s := a) (g := b) (n := N) (rp := 0) (wa := bv p2 19 1) (f := fN p2) b2.1 (by decide)
      have h21 : z4 300 21 = r 2 + 1 := by
        rw [hL.2.1.2.1]
        unfold newT
        rw [if_neg (by omega), if_pos rfl]
      have go : f_L_acts_b231 F 300 0 p2 (bv p2 19 1) (Nm (fN p2) k) b a 0 z = some (true, z4) := by
        unfold f_L_acts_b231
        rw [g1, bt0, h21, gd_t (by omega), if_pos (by omega)]
      refine ⟨z4, newT r a b N (fN p2) 0 (bv p2 19 1), ?_, hL, g2, hB.dl (fun j hj => by have := hD.1 j hj; omega) ?_ ?_⟩
      · rw [if_pos c, bv_eq (by decide), bs, z1, bs, gd_t (by omega)]
        by_cases e1 : bv p2 19 1 = 1
        · rw [if_pos e1]
          rw [e1] at go
          exact go
        · rw [if_neg e1]
          rw [show bv p2 19 1 = 0 by omega] at go
          exact go
      · exact newT_out (by omega) (by omega) (by omega) (by omega)
      · rw [hD.2.1, hD.2.2]; omega
    · have hk0 : inI (k : Int) (N.toNat) := ⟨by omega, by omega⟩
      have hv := fN_bd p2 k (by omega)
      have step : ∀ v, v = fN p2 k → ∃ z q, f_L_acts_b173 F 300 0 p2 (f_L_acts_b129 F 300 0 p2 n) a b N (331 + 2 * (r 2).toNat) (Nm (fN p2) k) k v k (331 + 2 * (r 2).toNat) u = some (true, z) ∧ StA z q (m + 1) := fun v hv2 => by
        unfold f_L_acts_b173
        have e100 : iset u (331 + 2 * (r 2).toNat) k v (331 + 2 * (r 2).toNat) 100 = N := by rw [is_eq, rs_ne (by omega)]; exact u2
        rw [u2, gd_t ⟨hk0, by omega⟩, ltm, e100, gd_t ⟨hk0, by omega⟩, is_eq, rs_self, lti, hv2]
        exact ih (k + 1) (iset u (331 + 2 * (r 2).toNat) k (fN p2 k)) (by omega) (by omega) (fun c p1 p3 => by rw [is_ne p1]; exact u1 c p1 p3) (by rw [is_ne (by omega)]; exact u9) (by rw [← hv2]; exact e100) (fun j j0 j1 => by
          rw [is_eq, rs_def]
          by_cases ej : j = k
          · rw [if_pos ej, ej]
          · rw [if_neg ej]; exact u3 j j0 (by omega))
      rw [if_neg c]
      by_cases ck : (k : Int) = 0
      · have h15 := bv_4 p2 15
        rw [if_pos ck, bv_eq (by decide), bs, gd_t (by omega), tm 7 (by omega)]
        exact step _ (by unfold fN; rw [if_pos ck])
      · rw [if_neg ck, bv_eq (by decide), bs]
        exact step _ (by unfold fN; rw [if_neg ck])
theorem l_actS (hF : 20000 ≤ F) (h : LwR w r) (hK : CK w r) (hB : Bd r m) {p2 a b : Int} (ha : 0 ≤ a ∧ a < r 0) (hb : 0 ≤ b ∧ b < r 0) (hab : ¬ a = b) :
    ∃ z q, gd (rg (w 300 21)) (if (w 300 21) = 30 then (bKW (f_L_isRefused F 0 1 a b w) (fun r39 w40 => some (r39, w40))) else ((f_L_bits F p2 12 3 w).bind (fun r15 => ltI (1 + r15) (fun v5_16 => gd ((0 ≤ v5_16 ∧ v5_16 ≤ 8) ∧ (241 ≤ w 999 0 ∧ w 999 0 < 800) ∧ olds w) (ltM (newW w v5_16) (fun w17 => f_L_acts_b129 F 300 0 p2 F a b v5_16 ((w 999 0 + 90).toNat) 0 0 w17)))))) = some (true, z) ∧ StA z q (m + 1) := by
  have hW := hK.2.1.2.1
  obtain ⟨b0, b1, b2, b3, b4, b5, b6⟩ := hW.1
  have hD := h.2.2.2.2.2.2.2
  have d1 := hD.1
  have e21 : w 300 21 = r 2 := h.2.1.2.1
  rw [e21, gd_t (by omega)]
  by_cases c : r 2 = 30
  · rw [if_pos c]
    unfold f_L_isRefused
    rw [gd_t (by decide), if_neg (by decide), k_sendN hF hK ⟨ha, hb⟩ hab c]
    exact ⟨w, r, rfl, h, hK, hB.up⟩
  · have h3 := bv_3 p2 12
    have e90 : (w 999 0 + 90).toNat = 331 + 2 * (r 2).toNat := by rw [d1]; omega
    rw [if_neg c, bv_eq (by decide), bs, lti, gd_t ⟨by omega, by omega, hD.olds b2⟩, ltm, e90]
    have hn0 : ¬ (999 : Nat) = (w 999 0 + 90).toNat := by rw [e90]; omega
    exact l_actN hF h hK hB ha hb hab (by omega) (by omega) F 0 (newW w (1 + bv p2 12 3)) (by omega) (by omega) (fun c p1 p3 => newW_old (by rw [e90]; exact p1) p3) (newW_999 hn0) (by rw [newW_new e90.symm]; rfl) (fun j j0 j1 => by omega)
theorem l_actC (hF : 20000 ≤ F) (h : LwR w r) (hK : CK w r) (hB : Bd r m) {p2 a b : Int} (ha : 0 ≤ a ∧ a < r 0) (hb : 0 ≤ b ∧ b < r 0) :
    ∃ z q, (gd (inI a (shL (shR 300 6))) (gd (inI b (shL (shR (shR 300 6) a.toNat))) (gd (rg (w (shR (shR 300 6) a.toNat) b)) (if (w (shR (shR 300 6) a.toNat) b) = 0 then (bKW (f_L_isRefused F 0 0 a b w) (fun r102 w103 => some (r102, w103))) else ((f_L_bits F p2 12 2 w).bind (fun r92 => gd (rg r92) (if r92 ≤ 0 then (gd (inI a (shL (shR 300 6))) (gd (inI b (shL (shR (shR 300 6) a.toNat))) (ltM (iset w (shR (shR 300 6) a.toNat) b 0) (fun w95 => gd (inI b (shL (shR 300 6))) (gd (inI a (shL (shR (shR 300 6) b.toNat))) (ltM (iset w95 (shR (shR 300 6) b.toNat) a 0) (fun w97 => (f_L_reckon F 300 w97).bind (fun w98 => bTW (f_X10_cut F 0 a b w98) (fun r99 w100 => gd (rg r99) (if r99 < 0 then (some (false, w100)) else (some (true, w100)))))))))))) else (some (true, w))))))))) = some (true, z) ∧ StA z q (m + 1) := by
  have hW := hK.2.1.2.1
  obtain ⟨b0, b1, b2, b3, b4, b5, b6⟩ := hW.1
  have h5 := h.1
  have hw := h.2.2.2.1 a b ha.1 ha.2 hb.1 hb.2
  obtain ⟨q1, q2⟩ := lway (x := a) (by omega)
  obtain ⟨q3, q4⟩ := lway (x := b) (by omega)
  have l7 := ll5.2.2.2.2.2.2.1
  rw [lf6, l7, q1, q2, q3, q4, gd_t (by omega), gd_t (by omega), hw]
  by_cases cf : farB r a b = -1
  · have hv : wayB r a b = -1 := by
      refine Classical.byContradiction fun hv => ?_
      obtain ⟨v0, v1, -⟩ := wayB_en b1.1 hv
      have := hW.2.2.1.1 _ v0 v1
      unfold farB at cf
      rw [if_neg hv] at cf
      omega
    rw [if_pos cf, gd_t (by decide), if_pos rfl]
    unfold f_L_isRefused
    rw [gd_t (by decide), if_pos rfl, k_cutN (by omega) hK ⟨ha, hb⟩ hv]
    exact ⟨w, r, rfl, h, hK, hB.up⟩
  · have hv : ¬ wayB r a b = -1 := fun e => cf (by unfold farB; rw [if_pos e])
    obtain ⟨i, i0, i1, -, ef, -⟩ := farB_en hW.2.2.1 b1.1 cf
    have hl := hW.2.2.1.1 i i0 i1
    have h2 := bv_2 p2 12
    rw [if_neg cf, gd_t (by omega), if_neg (by omega), bv_eq (by decide), bs, gd_t (by omega)]
    by_cases cb : bv p2 12 2 ≤ 0
    · rw [if_pos cb, gd_t (by omega), gd_t (by omega), ltm, gd_t (by omega), gd_t (by omega), ltm]
      obtain ⟨z, z1, z2, z3⟩ := l_cut (F := F) (by omega) h hW ha hb hv
      have hKz : CK z r := hK.ov fun c hc => z3 c (by omega)
      obtain ⟨z4, g1, g2, g3⟩ := k_cut (F := F) (by omega) hKz ⟨ha, hb⟩ hv
      obtain ⟨v0, v1, -⟩ := wayB_en b1.1 hv
      rw [z1, bs, g1, bt0, gd_t (by omega), if_neg (by omega)]
      have o : ∀ k, (k < 160 ∨ 220 ≤ k) → ¬ k = 1 → cutT r (wayB r a b) k = r k := fun k h h1 => cutT_o h h1 v0 b1.2
      exact ⟨z4, _, rfl, z2.ov g2.2.1.2.1 g3, g2, hB.dl (fun j hj => o j (Or.inl hj.lo.2.2.1) hj.lo.2.2.2.2.2.2.2.2.2.2.2.1) (o 3 (by omega) (by decide)) (by rw [o 7 (by omega) (by decide), o 20 (by omega) (by decide)]; omega)⟩
    · rw [if_neg cb]
      exact ⟨w, r, rfl, h, hK, hB.up⟩
theorem l_actW (h : LwR w r) (hK : CK w r) (hB : Bd r m) {p2 : Int} :
    ∃ z q, (ltI (w 300 23) (fun v5_105 => (f_L_bits F p2 12 4 w).bind (fun r106 => gd (rg r106) (ltM (iset w 300 23 (Int.tmod r106 10)) (fun w108 => bTW (f_X10_set F 0 8 (w108 300 23) w108) (fun r109 w110 => gd (rg r109 ∧ rg v5_105) (if r109 = v5_105 then (some (true, w110)) else (some (false, w110))))))))) = some (true, z) ∧ StA z q (m + 1) := by
  have hW := hK.2.1.2.1
  obtain ⟨b0, b1, b2, b3, b4, b5, b6⟩ := hW.1
  have h4 := bv_4 p2 12
  have e23 : w 300 23 = r 4 := h.2.1.2.2.2.1
  rw [lti, bv_eq (by decide), bs, gd_t (by omega), ltm, tm 10 (by omega), is_eq, rs_self, e23]
  have hL := l_wind (k := bv p2 12 4 % 10) h hW
  have hKz : CK (iset w 300 23 (bv p2 12 4 % 10)) r := hK.ov fun c hc => is_ne (by omega)
  obtain ⟨z4, g1, g2, g3⟩ := k_set (F := F) (k := bv p2 12 4 % 10) hKz (by omega)
  rw [g1, bt0, gd_t (by omega), if_pos rfl]
  have o : ∀ k', ¬ k' = 4 → setT r 8 (bv p2 12 4 % 10) k' = r k' := fun k' h1 => rs_ne h1
  exact ⟨z4, _, rfl, hL.ov g2.2.1.2.1 g3, g2, hB.dl (fun j hj => o j hj.lo.2.2.2.2.2.2.2.2.2.2.2.2) (o 3 (by decide)) (by rw [o 7 (by decide), o 20 (by decide)]; omega)⟩
theorem l_actG (h : LwR w r) (hK : CK w r) (hB : Bd r m) (hm : m ≤ 40) {p2 a : Int} (ha : 0 ≤ a ∧ a < r 0) :
    ∃ z q, ((f_L_bits F p2 12 4 w).bind (fun r113 => ltI (1 + r113) (fun v5_114 => gd (inI a (shL (shR 300 3))) (gd (inI a (shL (shR 300 3))) (ltM (iset w (shR 300 3) a ((w (shR 300 3) a) + v5_114)) (fun w115 => bTW (f_X10_give F 0 a v5_114 w115) (fun r116 w117 => gd (inI a (shL (shR 300 3))) (gd (rg r116 ∧ rg (w117 (shR 300 3) a)) (if r116 = (w117 (shR 300 3) a) then (some (true, w117)) else (some (false, w117))))))))))) = some (true, z) ∧ StA z q (m + 1) := by
  have hW := hK.2.1.2.1
  obtain ⟨b0, b1, b2, b3, b4, b5, b6⟩ := hW.1
  have h5 := h.1
  have h4 := bv_4 p2 12
  have l304 := ll5.2.2.2.1
  have w4 := (h.2.2.1 a ha.1 ha.2).2.2.2.1
  have hp := purse_le hW hB ha
  have hL := l_give (c := 1 + bv p2 12 4) h hW ha
  have hKz : CK (iset w 304 a (w 304 a + (1 + bv p2 12 4))) r := hK.ov fun c hc => is_ne (by omega)
  obtain ⟨z4, g1, g2, g3⟩ := k_give (F := F) (c := 1 + bv p2 12 4) hKz ha (by omega) (by omega)
  have e4 : z4 304 a = r (25 + 13 * a + 10) + (1 + bv p2 12 4) := by rw [g3 304 (by decide), is_eq, rs_self, w4]
  rw [bv_eq (by decide), bs, lti, lf3, l304, gd_t (by omega), gd_t (by omega), ltm, g1, bt0, gd_t (by omega), e4, gd_t (by omega), if_pos rfl]
  have o : ∀ k, ¬ k = 25 + 13 * a + 10 → ¬ k = 20 → giveT r a (1 + bv p2 12 4) k = r k := fun k h1 h2 => giveT_o h1 h2
  refine ⟨z4, _, rfl, hL.ov g2.2.1.2.1 g3, g2, hB.dl (fun j hj => o j ?_ hj.lo.2.1) (o 3 (by omega) (by decide)) (by rw [o 7 (by omega) (by decide), giveT_20]; omega)⟩
  rcases hj with e | e | e | e | ⟨x, x0, x1, e⟩ <;> omega
theorem l_actT (hF : 20000 ≤ F) (h : LwR w r) (hK : CK w r) (hB : Bd r m) (hm : 0 ≤ m ∧ m ≤ 40) {p2 : Int} :
    ∃ z q, ((f_L_bits F p2 12 3 w).bind (fun r119 => ltI (1 + r119) (fun v5_120 => ltI (w 300 28) (fun v6_121 => f_L_acts_b427 F 300 0 p2 F v5_120 v6_121 0 w)))) = some (true, z) ∧ StA z q (m + 1) := by
  have hW := hK.2.1.2.1
  obtain ⟨b0, b1, b2, b3, b4, b5, b6⟩ := hW.1
  have h3 := hB.2.1
  have hb := bv_3 p2 12
  have e28 : w 300 28 = r 15 := h.2.1.2.2.2.2.2.2.2.2.1
  have h15 := (r15_bd hW).1
  rw [bv_eq (by decide), bs, lti, lti, e28]
  have hN : 1 ≤ 1 + bv p2 12 3 ∧ 1 + bv p2 12 3 ≤ 8 := by omega
  generalize 1 + bv p2 12 3 = N at hN ⊢
  clear hb
  have key : ∀ (n k : Nat) (u : aI), (k : Int) ≤ N → N - k < n → LwR u (goT r k) → (∀ c, c < 300 → u c = w c) → ∃ z q, f_L_acts_b427 F 300 0 p2 n N (r 15) k u = some (true, z) ∧ StA z q (m + 1) := by
    intro n
    induction n with
    | zero => intro k u k1 k2; omega
    | succ n ih =>
      intro k u k1 k2 hL hu
      show ∃ z q, f_L_acts_b427_b F 300 0 p2 (f_L_acts_b427 F 300 0 p2 n) _ _ _ _ = _ ∧ _
      unfold f_L_acts_b427_b
      rw [gd_t (by omega), gd_t (by omega)]
      obtain ⟨d1, d2, d3⟩ := Bd_go hW hB (by omega) k (by omega)
      by_cases c : N ≤ k
      · have e : k = N.toNat := by omega
        have hKu : CK u r := hK.ov fun c hc => hu c (by omega)
        obtain ⟨z4, g1, g2, g3⟩ := k_tick (t := N) hF hKu (by omega) (by omega)
        rw [← e] at g1 g2
        have hLz := hL.ov g2.2.1.2.1 g3
        have e28 : z4 300 28 = goT r k 15 := hLz.2.1.2.2.2.2.2.2.2.2.1
        have h15' := (r15_bd d2).1
        rw [if_pos c, g1, bt0, e28, gd_t (by omega), if_pos rfl]
        exact ⟨z4, goT r k, rfl, hLz, g2, d1⟩
      · rw [if_neg c]
        obtain ⟨z, g1, g2, g3⟩ := l_ticks (F := F) (by omega) hL d2 (by omega)
        rw [g1, bs]
        exact ih (k + 1) z (by omega) (by omega) g2 (fun c hc => by rw [g3 c hc]; exact hu c hc)
  exact key F 0 w (by omega) (by omega) h (fun _ _ => rfl)
theorem ab_bd {R x y : Int} (hR : 2 ≤ R ∧ R ≤ 5) (hx : 0 ≤ x) (hy : 0 ≤ y) : (0 ≤ x % R ∧ x % R < R) ∧ (0 ≤ y % (R - 1) ∧ y % (R - 1) < R - 1) ∧ (0 ≤ (x % R + 1 + y % (R - 1)) % R ∧ (x % R + 1 + y % (R - 1)) % R < R) ∧ ¬ x % R = (x % R + 1 + y % (R - 1)) % R := by
  have h : R = 2 ∨ R = 3 ∨ R = 4 ∨ R = 5 := by omega
  rcases h with rfl | rfl | rfl | rfl
  · rw [show (2 : Int) - 1 = 1 from rfl]; omega
  · rw [show (3 : Int) - 1 = 2 from rfl]; omega
  · rw [show (4 : Int) - 1 = 3 from rfl]; omega
  · rw [show (5 : Int) - 1 = 4 from rfl]; omega
theorem l_acts (hF : 20000 ≤ F) (h : LwR w r) (hK : CK w r) (hB : Bd r m) (hm : 0 ≤ m ∧ m ≤ 40) (p2 : Int) : ∃ z q, f_L_acts F 300 0 p2 w = some (true, z) ∧ StA z q (m + 1) := by
  have hW := hK.2.1.2.1
  obtain ⟨b0, b1, b2, b3, b4, b5, b6⟩ := hW.1
  have h5 := h.1
  have hx := bv_4 p2 4
  have hy := bv_4 p2 8
  have h0 := bv_4 p2 0
  obtain ⟨ha, ht, hb, hab⟩ := ab_bd (R := r 0) (x := bv p2 4 4) (y := bv p2 8 4) (by omega) hx.1 hy.1
  unfold f_L_acts
  rw [gd_t (h.2.2.2.2.2.2.2.n9 b2), bv_eq (by decide), bs, h.2.1.1, gd_t (by omega), gd_t (by omega), lti, tm (r 0) (by omega), bv_eq (by decide), bs, gd_t (by omega), gd_t (by omega), tm (r 0 - 1) (by omega), gd_t (by omega), gd_t (by omega), lti, tm (r 0) (by omega), bv_eq (by decide), bs, gd_t (by omega)]
  generalize bv p2 4 4 % r 0 = a at ha hb hab ⊢
  generalize bv p2 8 4 % (r 0 - 1) = t at ht hb hab ⊢
  generalize (a + 1 + t) % r 0 = b at hb hab ⊢
  by_cases c0 : bv p2 0 4 = 0
  · rw [if_pos c0]; exact l_actS hF h hK hB ha hb hab
  rw [if_neg c0]
  by_cases c1 : bv p2 0 4 = 1
  · rw [if_pos c1]; exact l_actS hF h hK hB ha hb hab
  rw [if_neg c1]
  by_cases c2 : bv p2 0 4 = 2
  · rw [if_pos c2]; exact l_actS hF h hK hB ha hb hab
  rw [if_neg c2]
  by_cases c3 : bv p2 0 4 = 3
  · rw [if_pos c3]; exact l_actS hF h hK hB ha hb hab
  rw [if_neg c3]
  by_cases c4 : bv p2 0 4 = 4
  · rw [if_pos c4]; exact l_actS hF h hK hB ha hb hab
  rw [if_neg c4]
  by_cases c5 : bv p2 0 4 = 5
  · rw [if_pos c5]; exact l_actC hF h hK hB ha hb
  rw [if_neg c5]
  by_cases c6 : bv p2 0 4 = 6
  · rw [if_pos c6]; exact l_actW h hK hB
  rw [if_neg c6]
  by_cases c7 : bv p2 0 4 = 7
  · rw [if_pos c7]; exact l_actG h hK hB hm.2 ha
  rw [if_neg c7]
  exact l_actT hF h hK hB hm
end Act
