/-! ===== a deed is done, both sides ===== -/
theorem Ddz.cog {r r' : Row} {a a' b b' : Int → Int} {i : Int} (h : Ddz r a b i) (h0 : r' 0 = r 0) (ha : ∀ k, 5 * i ≤ k → k < 5 * i + 5 → a' k = a k) (hb : ∀ k, 12 * i ≤ k → k < 12 * i + 12 → b' k = b k) : Ddz r' a' b' i := by
  have a0 := ha (5 * i) (by omega) (by omega)
  have a1 := ha (5 * i + 1) (by omega) (by omega)
  have a2 := ha (5 * i + 2) (by omega) (by omega)
  have a3 := ha (5 * i + 3) (by omega) (by omega)
  have a4 := ha (5 * i + 4) (by omega) (by omega)
  have b0 := hb (12 * i) (by omega) (by omega)
  have b1 := hb (12 * i + 1) (by omega) (by omega)
  have b2 := hb (12 * i + 2) (by omega) (by omega)
  have b3 := hb (12 * i + 3) (by omega) (by omega)
  unfold Ddz at h ⊢
  rw [a0, a1, a2, a3, b0, b1, b2, h0]
  refine h.imp (fun x => ?_) id
  refine ⟨x.1, x.2.1, x.2.2.1, x.2.2.2.1, x.2.2.2.2.1, x.2.2.2.2.2.1, x.2.2.2.2.2.2.1, ?_⟩
  obtain ⟨n1, n2, n3, n4⟩ := x.2.2.2.2.2.2.2
  unfold Nzk
  rw [a3, a4, b3]
  refine ⟨n1, n2, fun j j0 j1 => by rw [hb _ (by omega) (by omega)]; exact n3 j j0 j1, ?_⟩
  rw [n4]
  refine pk_congr fun j j0 j1 => ?_
  show (if j < b (12 * i + 3) then b (12 * i + 4 + j) else 0) = if j < b (12 * i + 3) then b' (12 * i + 4 + j) else 0
  rw [hb _ (by omega) (by omega)]
section Pl
variable {F : Nat} {u v : aI} {r : Row} {i : Int}
theorem pl_sentC {x y : Int} (hN : Rep u 12 r) (hW : WF r) (hT : u 8 0 = 30 ∧ u 8 1 = 5) (hi : 0 ≤ i ∧ i < 30) {n : Int} {f : Int → Int} (hk : u 9 (5 * i) = 0 ∨ u 9 (5 * i) = 1) (h4 : u 9 (5 * i + 4) = n) (h3 : u 9 (5 * i + 3) = pk (fun j => if j < n then f j else 0)) :
    (r 2 < 30 → ∃ u', f_X10_isSent F 0 x y i u = some (true, u') ∧ Rep u' 12 (newT r x y n f 0 (u 9 (5 * i))) ∧ Fc 12 u u') ∧ (¬ r 2 < 30 → f_X10_isSent F 0 x y i u = some (false, u)) := by
  obtain ⟨b0, b1, b2, b3, b4, b5, b6⟩ := hW.1
  unfold f_X10_isSent f_X10_isSent_b63
  rw [k4, k5, t72, hN.1.2.2.2.2, gd_t (by omega)]
  refine ⟨fun c => ?_, fun c => by rw [if_neg c]⟩
  rw [if_pos c, get9 hT hi (by decide), bs, get9 hT hi (by decide), bs, get9 hT hi (by decide), bs, show 5 * i + 0 = 5 * i by omega, gd_t (by omega), h4]
  obtain ⟨w2, e4, e5, e6⟩ := c_addTune (F := F) (s := x) (g := y) (n := n) (rp := 0) (wa := u 9 (5 * i)) (f := f) P12 hN b0.2 b1 ⟨b2.1, c⟩ (Or.inl rfl) hk h3
  have en : rs (newT r x y n f 0 (u 9 (5 * i))) 12 (r 12) = newT r x y n f 0 (u 9 (5 * i)) := by
    have := newT_12 (r := r) (s := x) (g := y) (n := n) (rp := 0) (wa := u 9 (5 * i)) (f := f) b2.1
    rw [Int.add_zero] at this
    exact this
  rw [en] at e5
  rcases hk with e | e
  · rw [e] at e4 e5 ⊢
    rw [if_neg (by decide), e4, bj]
    exact ⟨w2, rfl, e5, e6⟩
  · rw [e] at e4 e5 ⊢
    rw [if_pos rfl, e4, bj]
    exact ⟨w2, rfl, e5, e6⟩
theorem pl_sentM (hF : 1000 ≤ F) (h1 : v 211 = r) (h2 : 0 ≤ r 2 ∧ r 2 < 30) (hi : 0 ≤ i ∧ i < 30) {n : Int} (hn : v 219 (12 * i + 3) = n) (n0 : 1 ≤ n ∧ n ≤ 8) (hk : v 219 (12 * i) = 0 ∨ v 219 (12 * i) = 1) :
    ∃ v', f_X11_sendsDeed F 210 (12 * i) v = some (r 2, v') ∧ v' 211 = newT r (v 219 (12 * i + 1)) (v 219 (12 * i + 2)) n (fun j => v 219 (12 * i + 4 + j)) 0 (v 219 (12 * i)) ∧ Fm v v' := by
  have key : ∀ (m : Nat) (j : Int) (w : aI), 0 ≤ j → j ≤ n → n - j < m → w 210 11 = n → w 211 = r → (∀ t, 0 ≤ t → t < j → w 217 t = v 219 (12 * i + 4 + t)) → Fm v w →
      ∃ v', f_X11_sendsDeed_b14 F 210 (12 * i) m j w = some (r 2, v') ∧ v' 211 = newT r (v 219 (12 * i + 1)) (v 219 (12 * i + 2)) n (fun j => v 219 (12 * i + 4 + j)) 0 (v 219 (12 * i)) ∧ Fm v v' := by
    intro m
    induction m with
    | zero => intro j w j0 j1 j2; omega
    | succ m ih =>
      intro j w j0 j1 j2 w11 w211 w217 fm
      have em : f_X11_sendsDeed_b14 F 210 (12 * i) (m + 1) j w = f_X11_sendsDeed_b14_b F 210 (12 * i) (f_X11_sendsDeed_b14 F 210 (12 * i) m) j w := rfl
      have w219 : w 219 = v 219 := fm.1 219 (by decide) (by decide) (by decide) (by decide) (by decide) (by decide) (by decide)
      rw [em]
      unfold f_X11_sendsDeed_b14_b
      rw [m22, n22, m10, n10, w11, w219, gd_t (by omega)]
      by_cases c : n ≤ j
      · have e : j = n := by omega
        subst e
        have hnt := fun wa (hwa : wa = 0 ∨ wa = 1) => m_newTune (F := F) (w := w) (s := v 219 (12 * i + 1)) (g := v 219 (12 * i + 2)) (rp := 0) (wa := wa) (by omega) (by rw [w211]; exact h2) (by rw [w11]; omega) (Or.inl rfl) hwa
        rw [w211, w11] at hnt
        have hcg := fun wa => newT_congr (r := r) (s := v 219 (12 * i + 1)) (g := v 219 (12 * i + 2)) (n := j) (f := w 217) (f' := fun j => v 219 (12 * i + 4 + j)) (rp := 0) (wa := wa) (fun t t0 t1 => w217 t t0 t1)
        rw [if_pos c, gd_t (by omega), gd_t (by omega), gd_t (by omega), gd_t (by omega)]
        rcases hk with e | e
        · rw [e, if_neg (by decide), hnt 0 (Or.inl rfl), bj, hcg]
          exact ⟨_, rfl, stc_eq _ _ _, fm.stc _ (by omega)⟩
        · rw [e, if_pos rfl, hnt 1 (Or.inr rfl), bj, hcg]
          exact ⟨_, rfl, stc_eq _ _ _, fm.stc _ (by omega)⟩
      · rw [if_neg c, gd_t (by omega), gd_t (by omega), ltm, is_stc]
        refine ih (j + 1) _ (by omega) (by omega) (by omega) (by rw [stc_ne (by decide)]; exact w11) (by rw [stc_ne (by decide)]; exact w211) (fun t t0 t1 => ?_) (fm.stc _ (by omega))
        rw [stc_eq]
        by_cases ct : t = j
        · rw [ct, rs_self]
        · rw [rs_ne ct]; exact w217 t t0 (by omega)
  unfold f_X11_sendsDeed
  rw [m22, n22, gd_t (by omega), ltm, hn]
  refine key F 0 _ (by omega) (by omega) (by omega) (by rw [is_eq, rs_self]) (by rw [is_ne (by decide)]; exact h1) (fun t t0 t1 => by omega) ⟨fun a a1 _ _ _ _ _ _ => is_ne a1, fun k _ k2 => by rw [is_eq, rs_ne k2]⟩
theorem pl_one (hF : 20000 ≤ F) (hN : Rep u 12 r) (hW : WF r) (h3 : r 3 ≤ 9999) (h1 : v 211 = r) (hT : u 8 0 = 30 ∧ u 8 1 = 5) (hi : 0 ≤ i ∧ i < 30) (hd : Ddz r (u 9) (v 219) i) :
    ∃ b u' v' r', f_X10_isPlayed F 0 i u = some (b, u') ∧ f_X11_does F 210 i v = some (b, v') ∧ Fc 12 u u' ∧ Fm v v' ∧ v' 211 = r' ∧ Rep u' 12 r' ∧ WF r' ∧ r' 3 ≤ 9999 ∧ r' 0 = r 0 := by
  obtain ⟨b0, b1, b2, b3, b4, b5, b6⟩ := hW.1
  have stay : ∃ u' v' r', (some (false, u) : Option (Bool × aI)) = some (false, u') ∧ (some (false, v) : Option (Bool × aI)) = some (false, v') ∧ Fc 12 u u' ∧ Fm v v' ∧ v' 211 = r' ∧ Rep u' 12 r' ∧ WF r' ∧ r' 3 ≤ 9999 ∧ r' 0 = r 0 := ⟨u, v, r, rfl, rfl, Fc.refl 12 u, Fm.refl v, h1, hN, hW, h3, rfl⟩
  unfold f_X10_isPlayed f_X11_does
  rw [k4, k5, t72, get9 hT hi (by decide), bs, get9 hT hi (by decide), bs, get9 hT hi (by decide), bs, get9 hT hi (by decide), bs, show 5 * i + 0 = 5 * i by omega, lti, m22, n22, m0, n0, gd_t (show inI (12 * i + 1) 360 by omega), lti, gd_t (show inI (12 * i + 2) 360 by omega), lti, gd_t (show inI (12 * i) 360 by omega), lti, h1]
  rcases hd with ⟨d0, d1, d2, d3, d4, d5, d6, n1, n2, n3, n4⟩ | ⟨d0, d1, d2, d3, d4⟩ | ⟨d0, d1, d2, d3, d4, d5, d6⟩ | ⟨d0, d1, d2, d3, d4, d5, d6⟩ | ⟨d0, d1, d2, d3, d4, d5⟩
  · -- a tune is sent
    obtain ⟨cA, cB⟩ := pl_sentC (F := F) (x := u 9 (5 * i + 1)) (y := u 9 (5 * i + 2)) (f := fun j => v 219 (12 * i + 4 + j)) hN hW hT hi d0 n2 n4
    have hM := fun hz => pl_sentM (F := F) (i := i) (by omega) h1 hz hi rfl n1 (by rw [d1]; exact d0)
    have hG := fun c => WF_new (s := u 9 (5 * i + 1)) (g := u 9 (5 * i + 2)) (n := v 219 (12 * i + 3)) (rp := 0) (wa := u 9 (5 * i)) (f := fun j => v 219 (12 * i + 4 + j)) hW c d2 d3 (fun z => d4 z.symm) n1 n3 (Or.inl rfl) d0
    rw [d1, gd_t (by omega), gd_t (by omega), gd_t (by omega), gd_t (by omega), gd_t (by omega)]
    by_cases c : r 2 < 30
    · obtain ⟨u', e1, e2, e3⟩ := cA c
      obtain ⟨v', g1, g2, g3⟩ := hM ⟨b2.1, c⟩
      rw [d5, d6, d1] at g2
      rw [e1, bk, if_neg (show ¬ 30 ≤ r 2 by omega), g1, bj, gd_t (by omega), if_neg (show ¬ r 2 < 0 by omega)]
      refine ⟨true, u', v', _, ?_, ?_, e3, g3, g2, e2, hG c, by rw [newT_out (by omega) (by omega) (by omega) (by omega)]; exact h3, newT_out (by omega) (by omega) (by omega) (by omega)⟩
      · rcases d0 with e | e
        · rw [if_pos e]
        · rw [if_neg (by omega), if_pos e]
      · rcases d0 with e | e
        · rw [if_pos e]
        · rw [if_neg (by omega), if_pos e]
    · rw [cB c, bk, if_pos (show 30 ≤ r 2 by omega)]
      refine ⟨false, u, v, r, ?_, ?_, Fc.refl 12 u, Fm.refl v, h1, hN, hW, h3, rfl⟩
      · rcases d0 with e | e
        · rw [if_pos e]
        · rw [if_neg (by omega), if_pos e]
      · rcases d0 with e | e
        · rw [if_pos e]
        · rw [if_neg (by omega), if_pos e]
  · -- ticks
    have t0 : ¬ (u 9 (5 * i)) = 0 := by omega
    have t1 : ¬ (u 9 (5 * i)) = 1 := by omega
    rw [gd_t (by omega), if_neg t0, if_neg t1, if_pos d0, d1, gd_t (by decide), if_neg (show ¬ (2 : Int) = 0 by decide), if_neg (show ¬ (2 : Int) = 1 by decide), if_pos (show (2 : Int) = 2 from rfl), d2, gd_t (by omega)]
    generalize u 9 (5 * i + 3) = t at *
    unfold f_X2_hasTimeFor
    rw [hN.1.2.1, gd_t (by omega), gd_t (by omega)]
    by_cases c : 9999 < r 3 + t
    · rw [if_pos c, bs, if_neg (by decide), if_pos c]
      exact ⟨false, stay⟩
    · obtain ⟨u', e4, e5, e6⟩ := c_run (F := F) (t := t) (by omega) P12 hN hW (by omega) (by omega)
      obtain ⟨v', g1, g2, g3⟩ := m_goes (F := F) (w := v) (t := t) (by omega) (by rw [h1]; exact hW) (by omega) (by rw [h1]; omega)
      rw [h1] at g1 g2
      have hG := goT_WF hW t.toNat (by omega)
      have hm := go15 hW t.toNat (by omega)
      have ha := hG.1.2.2.2.2.2.1
      have hl := cnt_le (fun i => decide (goT r t.toNat (220 + 27 * i + 3) = 2)) (goT r t.toNat 2).toNat
      have hb2 := hG.1.1.2.2.1
      have hr0 := hW.2.2.2.2.2.2.2.1
      rw [if_neg c, bs, if_pos rfl, e4, bs, if_neg c, g1, bj, gd_t (by omega), if_neg (by omega)]
      exact ⟨true, u', v', _, rfl, rfl, e6, g3, g2, e5, hG.1, by rw [hG.2.1]; omega, hG.2.2.1.1⟩
  · -- coins
    have t0 : ¬ (u 9 (5 * i)) = 0 := by omega
    have t1 : ¬ (u 9 (5 * i)) = 1 := by omega
    have t2 : ¬ (u 9 (5 * i)) = 2 := by omega
    rw [gd_t (by omega), if_neg t0, if_neg t1, if_neg t2, if_pos d0, d1, gd_t (by decide), if_neg (show ¬ (3 : Int) = 0 by decide), if_neg (show ¬ (3 : Int) = 1 by decide), if_neg (show ¬ (3 : Int) = 2 by decide), if_pos (show (3 : Int) = 3 from rfl), d3, d4]
    generalize u 9 (5 * i + 3) = t at *
    generalize u 9 (5 * i + 1) = x at *
    obtain ⟨-, -, -, -, -, u5, -⟩ := hW.2.1 x d2.1 d2.2
    have e10 : 25 + 13 * x + 7 + 3 = 25 + 13 * x + 10 := by omega
    unfold f_X2_hasRoomFor
    rw [pf4 P12, c_roof P12 hN b0.2 d2 (by omega), bs, e10, gd_t (by omega), m_r, bs, gd_t (by omega), gd_t (by omega)]
    by_cases c : 9999 < r (25 + 13 * x + 10) + t
    · rw [if_pos c, bs, if_neg (by decide), if_pos c]
      exact ⟨false, stay⟩
    · obtain ⟨u', e4, e5, e6⟩ := c_take (F := F) (x := x) (c := t) P12 hN b0.2 b1 d2
      have hG := giveT_WF (c := t) hW d2 (by omega) (by omega)
      have hg : f_X11_givesCoins F 210 x t v = some (r (25 + 13 * x + 10) + t, stc v 211 (giveT r x t)) := by
        unfold f_X11_givesCoins
        rw [m_r, bs, m0, lti, n0, gd_t (by omega), gd_t (by omega), ltm, is_stc, m_counts F t _ (by omega), bs, m_r, bs, gd_t (by omega), stc_eq, stc_eq, stc_stc, h1, rs_ne (show ¬ (25 + 13 * x + 10 : Int) = 10 + 10 by omega), rs_self, show (10 : Int) + 10 = 20 from rfl, rs_ne (show ¬ (20 : Int) = 25 + 13 * x + 10 by omega)]
        rfl
      rw [if_neg c, bs, if_pos rfl, e4, bs, if_neg c, hg, bj, gd_t (by omega), if_neg (by omega)]
      exact ⟨true, u', _, _, rfl, rfl, e6, (Fm.refl v).stc _ (by omega), stc_eq _ _ _, e5, hG, by rw [giveT_o (by omega) (by omega)]; exact h3, giveT_o (by omega) (by omega)⟩
  · -- a way is cut
    have t0 : ¬ (u 9 (5 * i)) = 0 := by omega
    have t1 : ¬ (u 9 (5 * i)) = 1 := by omega
    have t2 : ¬ (u 9 (5 * i)) = 2 := by omega
    have t3 : ¬ (u 9 (5 * i)) = 3 := by omega
    have hww : ∀ j, 0 ≤ j → j < r 1 → rg (r (160 + 3 * j)) ∧ rg (r (160 + 3 * j + 1)) := fun j j0 j1 => by
      have := hW.2.2.1.1 j j0 j1
      omega
    rw [gd_t (by omega), if_neg t0, if_neg t1, if_neg t2, if_neg t3, if_pos d0, d1, gd_t (by decide), if_neg (show ¬ (4 : Int) = 0 by decide), if_neg (show ¬ (4 : Int) = 1 by decide), if_neg (show ¬ (4 : Int) = 2 by decide), if_neg (show ¬ (4 : Int) = 3 by decide), if_pos (show (4 : Int) = 4 from rfl), d5, d6]
    generalize u 9 (5 * i + 2) = y at *
    generalize u 9 (5 * i + 1) = x at *
    have hv := wayB_r r x y b1.1
    have hwm := m_wayB (F := F) (w := v) (a := x) (b := y) (by omega) (by rw [h1]; exact b1) (by rw [h1]; exact hww) (by omega) (by omega)
    rw [h1] at hwm
    rw [hwm, bs, bs, gd_t (by omega)]
    by_cases c : wayB r x y = -1
    · unfold f_X2_cutWay
      rw [c_wayB (by omega) P12 hN.1.1 hN.1.2.2.2.1 hN.2.2.2.2.1 b0.2 b1 hW.2.2.1 d2 d3, bs, gd_t (by omega), if_pos c, if_pos c, bk]
      exact ⟨false, stay⟩
    · have hV := wayB_en b1.1 c
      obtain ⟨u', e4, e5, e6⟩ := c_cutWay (F := F) (x := x) (y := y) (by omega) P12 hN hW d2 d3 c
      have hG := cutT_WF (v := wayB r x y) hW ⟨hV.1, hV.2.1⟩
      have hg := m_cuts (F := F) (w := v) (v := wayB r x y) (by omega) (by rw [h1]; exact b1) (by rw [h1]; exact ⟨hV.1, hV.2.1⟩)
      rw [h1] at hg
      rw [e4, bk, if_neg c, hg, bj, gd_t (by omega), if_neg (by omega)]
      exact ⟨true, u', _, _, rfl, rfl, e6, (Fm.refl v).stc _ (by omega), stc_eq _ _ _, e5, hG, by rw [cutT_o (by omega) (by omega) hV.1 b1.2]; exact h3, cutT_o (by omega) (by omega) hV.1 b1.2⟩
  · -- a setting
    have t0 : ¬ (u 9 (5 * i)) = 0 := by omega
    have t1 : ¬ (u 9 (5 * i)) = 1 := by omega
    have t2 : ¬ (u 9 (5 * i)) = 2 := by omega
    have t3 : ¬ (u 9 (5 * i)) = 3 := by omega
    have t4 : ¬ (u 9 (5 * i)) = 4 := by omega
    rw [gd_t (by omega), if_neg t0, if_neg t1, if_neg t2, if_neg t3, if_neg t4, d1, gd_t (by decide), if_neg (show ¬ (5 : Int) = 0 by decide), if_neg (show ¬ (5 : Int) = 1 by decide), if_neg (show ¬ (5 : Int) = 2 by decide), if_neg (show ¬ (5 : Int) = 3 by decide), if_neg (show ¬ (5 : Int) = 4 by decide), d2, d3]
    generalize u 9 (5 * i + 3) = t at *
    generalize u 9 (5 * i) = s at *
    obtain ⟨u', e4, e5, e6⟩ := c_settle (F := F) (v := s) (k := t) P12 hN b0.2 b1 (by omega)
    have hG : WF (setT r s t) := by
      refine setT_WF hW (by omega) ?_
      unfold loV at d4
      unfold hiV at d5
      rcases d0 with e | e | e <;> subst e
      · simp at d4 d5; omega
      · simp at d4 d5; omega
      · simp at d4 d5; omega
    have hs : f_X11_sets F 210 (s - 4) t v = some (r (s - 4), stc v 211 (setT r s t)) := by
      unfold f_X11_sets setT
      rw [m0, n0, gd_t (by omega), lti, gd_t (by omega), ltm, is_stc, h1]
    have hr4 : 0 ≤ r (s - 4) ∧ r (s - 4) ≤ 60 := by
      rcases d0 with e | e | e <;> subst e
      · show 0 ≤ r 4 ∧ r 4 ≤ 60; omega
      · show 0 ≤ r 5 ∧ r 5 ≤ 60; omega
      · show 0 ≤ r 6 ∧ r 6 ≤ 60; omega
    rw [e4, bs, hs, bj, gd_t (by omega), if_neg (by omega)]
    exact ⟨true, u', _, _, rfl, rfl, e6, (Fm.refl v).stc _ (by omega), stc_eq _ _ _, e5, hG, by unfold setT; rw [rs_ne (by omega)]; exact h3, by unfold setT; rw [rs_ne (by omega)]⟩
/-- deed after deed -/
theorem pl_loop (hF : 20000 ≤ F) {L : Int} (hL : 0 ≤ L ∧ L ≤ 30) : ∀ (n m : Nat) (j : Int) (u v : aI) (r : Row), 0 ≤ j → j ≤ L → L - j < n → L - j < m → Rep u 12 r → WF r → r 3 ≤ 9999 → v 211 = r → (u 8 0 = 30 ∧ u 8 1 = 5) → u 7 3 = L → v 210 23 = L → (∀ i, 0 ≤ i → i < L → Ddz r (u 9) (v 219) i) →
    ∃ k u' v', f_X10_playScript_b34 F 0 n j u = some (k, u') ∧ f_X11_playScript_b54 F 210 m j v = some (k, v') ∧ Fc 12 u u' ∧ Fm v v' ∧ Rep u' 12 (v' 211) ∧ WF (v' 211) ∧ v' 211 3 ≤ 9999 := by
  intro n
  induction n with
  | zero => intro m j u v r j0 j1 j2; omega
  | succ n ih =>
    intro m j u v r j0 j1 j2 j3 hN hW h3 h1 hT h7 h23 hd
    obtain ⟨m, rfl⟩ : ∃ l, m = l + 1 := ⟨m - 1, by omega⟩
    have ec : f_X10_playScript_b34 F 0 (n + 1) j u = f_X10_playScript_b34_b F 0 (f_X10_playScript_b34 F 0 n) j u := rfl
    have em : f_X11_playScript_b54 F 210 (m + 1) j v = f_X11_playScript_b54_b F 210 (f_X11_playScript_b54 F 210 m) j v := rfl
    rw [ec, em]
    unfold f_X10_playScript_b34_b f_X11_playScript_b54_b
    rw [k4, h7, h23, gd_t (by omega), gd_t (by omega)]
    by_cases c : L ≤ j
    · rw [if_pos c, if_pos c]
      exact ⟨j, u, v, rfl, rfl, Fc.refl 12 u, Fm.refl v, by rw [h1]; exact hN, by rw [h1]; exact hW, by rw [h1]; exact h3⟩
    · obtain ⟨b, u', v', r', e1, e2, e3, e4, e5, e6, e7, e8, e9⟩ := pl_one hF hN hW h3 h1 hT (i := j) (by omega) (hd j j0 (by omega))
      rw [if_neg c, if_neg c, e1, bk, e2, bk]
      cases b with
      | false =>
        rw [if_neg (by decide), if_neg (by decide)]
        exact ⟨j, u', v', rfl, rfl, e3, e4, by rw [e5]; exact e6, by rw [e5]; exact e7, by rw [e5]; exact e8⟩
      | true =>
        rw [if_pos rfl, if_pos rfl]
        obtain ⟨k, u2, v2, f1, f2, f3, f4, f5⟩ := ih m (j + 1) u' v' r' (by omega) (by omega) (by omega) (by omega) e6 e7 e8 e5 (by rw [e3 8 (by omega)]; exact hT) (by rw [e3 7 (by omega)]; exact h7) (by rw [e4.2 23 (by decide) (by decide)]; exact h23) (fun i i0 i1 => (hd i i0 i1).cog e9 (fun k _ _ => by rw [e3 9 (by omega)]) (fun k _ _ => by rw [e4.1 219 (by decide) (by decide) (by decide) (by decide) (by decide) (by decide) (by decide)]))
        exact ⟨k, u2, v2, f1, f2, e3.trans f3, e4.trans f4, f5⟩
end Pl
