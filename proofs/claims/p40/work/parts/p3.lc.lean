/-! ===== the law lands a tune, whole ===== -/
theorem l_resets0 {F : Nat} {u : aI} {i N : Int} {s e : Nat} (h9 : 241 ≤ u 999 0 ∧ u 999 0 ≤ 800) (g1 : inI i (shL 329) ∧ 331 ≤ u 329 i ∧ u 329 i < u 999 0 + 90 ∧ u 999 0 ≤ 800) (g3 : inI i (shL 330) ∧ 331 ≤ u 330 i ∧ u 330 i < u 999 0 + 90 ∧ u 999 0 ≤ 800) (hs : (u 329 i).toNat = s) (he : (u 330 i).toNat = e) (n1 : u s 100 = N) (n2 : u e 100 = N) (hN : 0 ≤ N ∧ N ≤ 100) : f_L_resets F 300 i u = some (icpy u s e N) := by
  unfold f_L_resets
  rw [lf18, lf19, gd_t h9, gd_t g1, gd_t g3, gd_t g1, hs, he, n1, n2, gd_t (by omega), gd_t (by omega)]
  rfl
theorem landT_k {r : Row} {i k : Int} (h19 : k < 220 + 27 * i + 19 ∨ 220 + 27 * i + 19 + r (220 + 27 * i + 2) ≤ k) (h14 : ¬ k = 14) (h5 : ¬ k = 220 + 27 * i + 5) (h3 : ¬ k = 220 + 27 * i + 3) : landT r i k = r k := by
  unfold landT
  rw [rs_ne h3, rs_ne h5, blurT_ne h19 h14]
theorem landT_3 {r : Row} {i : Int} : landT r i (220 + 27 * i + 3) = 0 := rs_self _ _ _
theorem landT_5 {r : Row} {i : Int} : landT r i (220 + 27 * i + 5) = -1 := by
  unfold landT
  rw [rs_ne (by omega), rs_self]
theorem landT_14 {r : Row} {i : Int} (hi : 0 ≤ i) : landT r i 14 = r 14 + wrg r (r 4) (r (220 + 27 * i + 10)) (r (220 + 27 * i + 4)) (r (220 + 27 * i + 2)) := by
  unfold landT blurT
  rw [rs_ne (by omega), rs_ne (by omega), if_neg (by omega), if_pos rfl]
theorem landT_h {r : Row} {i k : Int} (hi : 0 ≤ i) (hk : 0 ≤ k ∧ k < r (220 + 27 * i + 2)) : landT r i (220 + 27 * i + 19 + k) = if (k - i) % r (220 + 27 * i + 2) < wrg r (r 4) (r (220 + 27 * i + 10)) (r (220 + 27 * i + 4)) (r (220 + 27 * i + 2)) then (r (220 + 27 * i + 19 + k) + 1) % 8 else r (220 + 27 * i + 19 + k) := by
  unfold landT blurT
  rw [rs_ne (by omega), rs_ne (by omega), show 220 + 27 * i + 19 + k - (220 + 27 * i + 19) - i = k - i by omega]
  by_cases c : (k - i) % r (220 + 27 * i + 2) < wrg r (r 4) (r (220 + 27 * i + 10)) (r (220 + 27 * i + 4)) (r (220 + 27 * i + 2))
  · rw [if_pos ⟨by omega, by omega, c⟩, if_pos c]
  · rw [if_neg (fun z => c z.2.2), if_neg (by omega), if_neg c]
set_option maxHeartbeats 1000000 in
theorem l_back {F : Nat} {w : aI} {r : Row} {i N : Int} (h : LwR w r) (hL : Ly r i) (h3 : r (220 + 27 * i + 3) = 0) (h5 : r (220 + 27 * i + 5) = -1) (hN : r (220 + 27 * i + 2) = N) :
    ∃ z, ((f_L_resets F 300 i (iset (iset w 325 i (r (220 + 27 * i + 8) + 1)) 300 30 (r 17 + 1))).bind (fun u => gd (inI i (shL 319)) (gd (inI i (shL 322)) (ltM (iset u 322 i (u 319 i)) (fun v => some v))))) = some z ∧ LwR z (backT r i) ∧ ∀ a, a < 300 → z a = w a := by
  obtain ⟨hi, b0, b1, b2, hy, y3, y12, ys, yg, ya, yw, yt, y6⟩ := hL
  obtain ⟨l319, l320, l321, l322, l323, l324, l325, l326, l327, l328, l329, l330⟩ := ll30
  have h0 := h
  obtain ⟨h05, hA, hX, hWy, hS, hT, hNn, hD⟩ := h0
  obtain ⟨g1, g2⟩ := hD.snt b2 hi
  obtain ⟨g3, g4⟩ := hD.hrd b2 hi
  obtain ⟨n1, n2, n3⟩ := hNn i hi.1 hi.2
  obtain ⟨⟨t1, t2, t3, t4, t5, t6, t7, t8⟩, -⟩ := hT i hi.1 hi.2
  have hZ := hA.2.2.2.2.2.2.2.2.2.2.2.2.2.2
  obtain ⟨u, hu⟩ : ∃ u, u = iset (iset w 325 i (r (220 + 27 * i + 8) + 1)) 300 30 (r 17 + 1) := ⟨_, rfl⟩
  rw [← hu]
  have uo : ∀ a, ¬ a = 300 → ¬ a = 325 → u a = w a := fun a p1 p2 => by rw [hu, is_ne p1, is_ne p2]
  have u300 : u 300 = rs (w 300) 30 (r 17 + 1) := by rw [hu, is_eq, is_ne (by decide)]
  have u325 : u 325 = rs (w 325) i (r (220 + 27 * i + 8) + 1) := by rw [hu, is_ne (by decide), is_eq]
  have e999 : u 999 = w 999 := uo 999 (by decide) (by decide)
  have e329 : u 329 = w 329 := uo 329 (by decide) (by decide)
  have e330 : u 330 = w 330 := uo 330 (by decide) (by decide)
  rw [l_resets0 (N := N) (s := 331 + 2 * i.toNat) (e := 332 + 2 * i.toNat) (by rw [e999]; exact hD.n9 b2) (by rw [e999, e329]; exact g1) (by rw [e999, e330]; exact g3) (by rw [e329]; exact g2) (by rw [e330]; exact g4) (by rw [uo _ (by omega) (by omega), n1]; exact hN) (by rw [uo _ (by omega) (by omega), n2]; exact hN) (by omega), bs, l319, l322, gd_t (by omega), gd_t (by omega), ltm]
  obtain ⟨z, hz⟩ : ∃ z, z = iset (icpy u (331 + 2 * i.toNat) (332 + 2 * i.toNat) N) 322 i (icpy u (331 + 2 * i.toNat) (332 + 2 * i.toNat) N 319 i) := ⟨_, rfl⟩
  rw [← hz]
  have zo : ∀ a, ¬ a = 322 → ¬ a = 332 + 2 * i.toNat → z a = u a := fun a p1 p2 => by rw [hz, is_ne p1, ic_ne p2]
  have z322 : z 322 = rs (w 322) i (r (220 + 27 * i)) := by rw [hz, is_eq, ic_ne (by omega), ic_ne (by omega), uo 322 (by decide) (by decide), uo 319 (by decide) (by decide), t1]
  have zh : ∀ j, z (332 + 2 * i.toNat) j = if 0 ≤ j ∧ j < N then w (331 + 2 * i.toNat) j else w (332 + 2 * i.toNat) j := fun j => by
    rw [hz, is_ne (by omega), ic_eq]
    show (if _ then _ else _) = _
    rw [uo _ (by omega) (by omega), uo _ (by omega) (by omega)]
  have zw : ∀ a, ¬ a = 322 → ¬ a = 332 + 2 * i.toNat → ¬ a = 300 → ¬ a = 325 → z a = w a := fun a p1 p2 p3 p4 => by rw [zo a p1 p2, uo a p3 p4]
  have z300 : z 300 = rs (w 300) 30 (r 17 + 1) := by rw [zo 300 (by decide) (by omega), u300]
  have z325 : z 325 = rs (w 325) i (r (220 + 27 * i + 8) + 1) := by rw [zo 325 (by decide) (by omega), u325]
  -- the row
  have bk0 : ∀ k, ¬ k = 17 → ¬ k = 220 + 27 * i + 4 → ¬ k = 220 + 27 * i + 8 → (k < 220 + 27 * i + 19 ∨ 220 + 27 * i + 27 ≤ k) → backT r i k = r k := fun k p1 p2 p3 p4 => by
    unfold backT hearT
    rw [rs_ne p1, rs_ne p2, if_neg (by omega), rs_ne p3]
  have bk17 : backT r i 17 = r 17 + 1 := rs_self _ _ _
  have bk4 : backT r i (220 + 27 * i + 4) = r (220 + 27 * i) := by
    unfold backT
    rw [rs_ne (by omega), rs_self]
  have bk8 : backT r i (220 + 27 * i + 8) = r (220 + 27 * i + 8) + 1 := by
    unfold backT hearT
    rw [rs_ne (by omega), rs_ne (by omega), if_neg (by omega), rs_self]
  have bkh : ∀ k, 0 ≤ k → k < 8 → backT r i (220 + 27 * i + 19 + k) = r (220 + 27 * i + 11 + k) := fun k k0 k1 => by
    unfold backT hearT
    rw [rs_ne (by omega), rs_ne (by omega), if_pos (by omega), rs_ne (by omega)]
    congr 1; omega
  generalize backT r i = q at bk0 bk17 bk4 bk8 bkh ⊢
  refine ⟨z, rfl, ?_, fun a ha => zw a (by omega) (by omega) (by omega) (by omega)⟩
  refine h.step b1 b2.2 hy hi ⟨bk0 0 (by omega) (by omega) (by omega) (by omega), bk0 1 (by omega) (by omega) (by omega) (by omega), fun k p1 p2 => bk0 k (by omega) (by omega) (by omega) (by omega)⟩ (bk0 2 (by omega) (by omega) (by omega) (by omega)) (fun k p1 p2 => bk0 k (by omega) (by omega) (by omega) (by omega)) (fun a p1 p2 t p3 => ?_) (fun a p1 p2 => zw a (by omega) p2 (by omega) (by omega)) ?_ (hX.keep h05 (bk0 0 (by omega) (by omega) (by omega) (by omega)) (fun a p1 p2 => zw a (by omega) (by omega) (by omega) (by omega)) (fun k p1 p2 => bk0 k (by omega) (by omega) (by omega) (by omega))) ?_ ?_
  · by_cases e : a = 322
    · subst e; rw [z322, rs_ne p3]
    · by_cases e2 : a = 325
      · subst e2; rw [z325, rs_ne p3]
      · rw [zw a e (by omega) (by omega) e2]
  · refine LwA.set 30 17 (r 17 + 1) (by decide) hA (fun k => by rw [z300]) (fun a p1 p2 => ?_) (fun t p1 p2 => ?_)
    · rw [rs_def]
      by_cases e : a = 17
      · rw [if_pos e, e]; exact bk17
      · rw [if_neg e]; exact bk0 a e (by omega) (by omega) (by omega)
    · rw [bk0 2 (by omega) (by omega) (by omega) (by omega)] at p1
      rw [z325, rs_ne (by omega), zw 326 (by decide) (by omega) (by decide) (by decide)]
      exact hZ t p1 p2
  · unfold LwT1
    rw [zw 319 (by decide) (by omega) (by decide) (by decide), zw 320 (by decide) (by omega) (by decide) (by decide), zw 321 (by decide) (by omega) (by decide) (by decide), zw 326 (by decide) (by omega) (by decide) (by decide), zw 327 (by decide) (by omega) (by decide) (by decide), zw 328 (by decide) (by omega) (by decide) (by decide), z322, z325, rs_self, rs_self, bk4, bk8, bk0 (220 + 27 * i) (by omega) (by omega) (by omega) (by omega), bk0 (220 + 27 * i + 1) (by omega) (by omega) (by omega) (by omega), bk0 (220 + 27 * i + 3) (by omega) (by omega) (by omega) (by omega), bk0 (220 + 27 * i + 5) (by omega) (by omega) (by omega) (by omega), bk0 (220 + 27 * i + 6) (by omega) (by omega) (by omega) (by omega), bk0 (220 + 27 * i + 7) (by omega) (by omega) (by omega) (by omega), bk0 (220 + 27 * i + 9) (by omega) (by omega) (by omega) (by omega)]
    exact ⟨⟨t1, t2, t3, rfl, rfl, t6, t7, t8⟩, fun z9 => absurd (h3.symm.trans z9) (by decide), fun _ => h5⟩
  · unfold LwN1
    rw [zw (331 + 2 * i.toNat) (by omega) (by omega) (by omega) (by omega), zh, if_neg (by omega), bk0 (220 + 27 * i + 2) (by omega) (by omega) (by omega) (by omega)]
    refine ⟨n1, n2, fun k k0 k1 => ?_⟩
    obtain ⟨a1, a2⟩ := n3 k k0 k1
    rw [zh, if_pos ⟨k0, by omega⟩, bkh k k0 (by omega), bk0 (220 + 27 * i + 11 + k) (by omega) (by omega) (by omega) (by omega)]
    exact ⟨a1, a1⟩
set_option maxHeartbeats 2000000 in
theorem l_lands {F : Nat} (hF : 100 ≤ F) {w : aI} {r : Row} {i : Int} (h : LwR w r) (hW : WF r) (hi : 0 ≤ i ∧ i < r 2) (h3 : r (220 + 27 * i + 3) = 1) :
    ∃ z, f_L_lands F 300 i w = some z ∧ LwR z (comesT r i) ∧ ∀ a, a < 300 → z a = w a := by
  obtain ⟨l319, l320, l321, l322, l323, l324, l325, l326, l327, l328, l329, l330⟩ := ll30
  obtain ⟨c0, c1, c2, c3, c4, c5, c6⟩ := hW.1
  obtain ⟨y0, y1, y2, y3, y4, y5, y6, y7, y8, y9, y10, y11, y12, y13, y14, y15⟩ := hW.2.2.2.1 i hi.1 hi.2
  have hy : ∀ t, 0 ≤ t → t < r 2 → r (220 + 27 * t + 2) ≤ 8 := fun t t0 t1 => (hW.2.2.2.1 t t0 t1).2.2.2.1.2
  have h0 := h
  obtain ⟨h05, hA, hX, hWy, hS, hT, hNn, hD⟩ := h0
  obtain ⟨g1, g2⟩ := hD.snt c2 hi
  obtain ⟨g3, g4⟩ := hD.hrd c2 hi
  obtain ⟨n1, n2, n3⟩ := hNn i hi.1 hi.2
  obtain ⟨⟨t1, t2, t3, t4, t5, t6, t7, t8⟩, t9, t10⟩ := hT i hi.1 hi.2
  obtain ⟨t323, t324⟩ := t9 h3
  have hx := hX (r (220 + 27 * i + 4)) y5.1 y5.2
  have hear := (hW.2.1 _ y5.1 y5.2).2.2.2.1
  have hZ := hA.2.2.2.2.2.2.2.2.2.2.2.2.2.2
  have e23 := hA.2.2.2.1
  have e25 := hA.2.2.2.2.2.1
  have e27 := hA.2.2.2.2.2.2.2.1
  have e30 := hA.2.2.2.2.2.2.2.2.2.2.1
  have hm : 0 ≤ r 4 * r (220 + 27 * i + 10) ∧ r 4 * r (220 + 27 * i + 10) ≤ 81 := by
    have q1 := Int.mul_nonneg c4.1 y11.1
    have q2 : r 4 * r (220 + 27 * i + 10) ≤ 9 * 9 := Int.mul_le_mul c4.2 y11.2 y11.1 (by decide)
    omega
  have hwr : wrg r (r 4) (r (220 + 27 * i + 10)) (r (220 + 27 * i + 4)) (r (220 + 27 * i + 2)) = min (max 0 (r 4 * r (220 + 27 * i + 10) - 3 * r (25 + 13 * r (220 + 27 * i + 4) + 8)) / 10) (r (220 + 27 * i + 2)) := by
    unfold wrg
    generalize r 4 * r (220 + 27 * i + 10) = p at hm ⊢
    omega
  unfold f_L_lands
  rw [lf18, gd_t (hD.n9 c2), gd_t g1, g2, n1, gd_t (by omega), lti, lf13, lf11, lf1, l324, l322, ll5.2.1, gd_t (by omega), gd_t (by omega), t4, gd_t (by omega), e23, t324, hx.2.1]
  generalize hp : r 4 * r (220 + 27 * i + 10) = p at hm hwr ⊢
  rw [gd_t (by omega), gd_t (by omega), lti, td 10 (by omega)]
  generalize hM : max 0 (p - 3 * r (25 + 13 * r (220 + 27 * i + 4) + 8)) / 10 = M at hwr ⊢
  have hMb : 0 ≤ M ∧ M ≤ 1000 := by omega
  generalize hNN : r (220 + 27 * i + 2) = N at *
  obtain ⟨z1, f1, f2, f3, f4, f5⟩ := l_blur (F := F) (w := w) (r := r) (i := i) (N := N) (M := M) (by omega) y3 hMb g3 g4 n2 (fun k k0 k1 => (n3 k k0 k1).2) (fun k k0 k1 => y12 _ (by omega) (by omega)) F 0 w (by omega) (by omega) (by omega) (fun _ _ _ => rfl) (fun k => by
    rw [rs_def]
    split
    · rename_i e; rw [e]; omega
    · rfl) n2 (fun k k0 k1 => by
    have := mod_rg (n := N) y3 (k - i)
    rw [if_neg (by omega)]; exact (n3 k k0 k1).2)
  rw [f1]
  have lk : ∀ k, (k < 220 + 27 * i + 19 ∨ 220 + 27 * i + 27 ≤ k) → ¬ k = 14 → ¬ k = 220 + 27 * i + 5 → ¬ k = 220 + 27 * i + 3 → landT r i k = r k := fun k p1 p2 p3 p4 => landT_k (by omega) p2 p3 p4
  have l14 := landT_14 (r := r) (i := i) hi.1
  have lh : ∀ k, 0 ≤ k → k < N → landT r i (220 + 27 * i + 19 + k) = if (k - i) % N < min M N then (r (220 + 27 * i + 19 + k) + 1) % 8 else r (220 + 27 * i + 19 + k) := fun k k0 k1 => by
    have := landT_h (r := r) (i := i) (k := k) hi.1 ⟨k0, by omega⟩
    rw [hNN, hwr] at this
    exact this
  rw [hNN, hwr] at l14
  have l3 := landT_3 (r := r) (i := i)
  have l5 := landT_5 (r := r) (i := i)
  obtain ⟨u, hu⟩ : ∃ u, u = iset z1 321 i 0 := ⟨_, rfl⟩
  have uo : ∀ a, ¬ a = 300 → ¬ a = 321 → ¬ a = 332 + 2 * i.toNat → u a = w a := fun a p1 p2 p3 => by rw [hu, is_ne p2, f2 a p1 p3]
  have u300 : ∀ k, u 300 k = rs (w 300) 27 (r 14 + min M N) k := fun k => by rw [hu, is_ne (by decide), f3, e27]
  have u321 : u 321 = rs (w 321) i 0 := by rw [hu, is_eq, f2 321 (by decide) (by omega)]
  have hU : LwR u (landT r i) := by
    refine h.step c1 c2.2 hy hi ⟨lk 0 (by omega) (by omega) (by omega) (by omega), lk 1 (by omega) (by omega) (by omega) (by omega), fun k p1 p2 => lk k (by omega) (by omega) (by omega) (by omega)⟩ (lk 2 (by omega) (by omega) (by omega) (by omega)) (fun k p1 p2 => lk k (by omega) (by omega) (by omega) (by omega)) (fun a p1 p2 t p3 => ?_) (fun a p1 p2 => uo a (by omega) (by omega) p2) ?_ (hX.keep h05 (lk 0 (by omega) (by omega) (by omega) (by omega)) (fun a p1 p2 => uo a (by omega) (by omega) (by omega)) (fun k p1 p2 => lk k (by omega) (by omega) (by omega) (by omega))) ?_ ?_
    · by_cases e : a = 321
      · subst e; rw [u321, rs_ne p3]
      · rw [uo a (by omega) e (by omega)]
    · refine LwA.set 27 14 (r 14 + min M N) (by decide) hA u300 (fun a p1 p2 => ?_) (fun t p1 p2 => ?_)
      · rw [rs_def]
        by_cases e : a = 14
        · rw [if_pos e, e]; exact l14
        · rw [if_neg e]; exact lk a (by omega) e (by omega) (by omega)
      · rw [lk 2 (by omega) (by omega) (by omega) (by omega)] at p1
        rw [uo 325 (by decide) (by decide) (by omega), uo 326 (by decide) (by decide) (by omega)]
        exact hZ t p1 p2
    · unfold LwT1
      rw [uo 319 (by decide) (by decide) (by omega), uo 320 (by decide) (by decide) (by omega), uo 322 (by decide) (by decide) (by omega), uo 325 (by decide) (by decide) (by omega), uo 326 (by decide) (by decide) (by omega), uo 327 (by decide) (by decide) (by omega), uo 328 (by decide) (by decide) (by omega), u321, rs_self, l3, l5, lk (220 + 27 * i) (by omega) (by omega) (by omega) (by omega), lk (220 + 27 * i + 1) (by omega) (by omega) (by omega) (by omega), lk (220 + 27 * i + 4) (by omega) (by omega) (by omega) (by omega), lk (220 + 27 * i + 6) (by omega) (by omega) (by omega) (by omega), lk (220 + 27 * i + 7) (by omega) (by omega) (by omega) (by omega), lk (220 + 27 * i + 8) (by omega) (by omega) (by omega) (by omega), lk (220 + 27 * i + 9) (by omega) (by omega) (by omega) (by omega)]
      exact ⟨⟨t1, t2, rfl, t4, t5, t6, t7, t8⟩, fun z9 => absurd z9 (by decide), fun _ => rfl⟩
    · unfold LwN1
      rw [uo (331 + 2 * i.toNat) (by omega) (by omega) (by omega), hu, is_ne (by omega), f4, lk (220 + 27 * i + 2) (by omega) (by omega) (by omega) (by omega), hNN]
      refine ⟨n1, rfl, fun k k0 k1 => ?_⟩
      rw [f5 k k0 k1, lh k k0 k1, lk (220 + 27 * i + 11 + k) (by omega) (by omega) (by omega) (by omega)]
      exact ⟨(n3 k k0 k1).1, rfl⟩
  have u0 : ∀ a, a < 300 → u a = w a := fun a ha => uo a (by omega) (by omega) (by omega)
  have hLy : Ly (landT r i) i := by
    have hh := blurT_hear hW hi
    unfold Ly
    rw [lk 2 (by omega) (by omega) (by omega) (by omega), lk 0 (by omega) (by omega) (by omega) (by omega), lk 1 (by omega) (by omega) (by omega) (by omega), lk 6 (by omega) (by omega) (by omega) (by omega), lk (220 + 27 * i + 2) (by omega) (by omega) (by omega) (by omega), lk (220 + 27 * i) (by omega) (by omega) (by omega) (by omega), lk (220 + 27 * i + 1) (by omega) (by omega) (by omega) (by omega), lk (220 + 27 * i + 4) (by omega) (by omega) (by omega) (by omega), lk (220 + 27 * i + 7) (by omega) (by omega) (by omega) (by omega), lk (220 + 27 * i + 8) (by omega) (by omega) (by omega) (by omega), hNN]
    refine ⟨hi, ⟨c0.1, h05⟩, c1, c2, fun t p1 p2 => ?_, y3, fun k p1 p2 => ?_, y0, y1, y5, y8, y9, c6⟩
    · by_cases e : t = i
      · subst e; rw [lk (220 + 27 * t + 2) (by omega) (by omega) (by omega) (by omega)]; exact hy t p1 p2
      · rw [lk _ (by omega) (by omega) (by omega) (by omega)]; exact hy t p1 p2
    · have := hh.1 k p1 p2
      unfold landT
      rw [rs_ne (by omega), rs_ne (by omega)]
      exact this
  have cT : comesT r i = if r (220 + 27 * i + 4) = r (220 + 27 * i + 1) then goalT (landT r i) i else landT r i := rfl
  show ∃ z, f_L_lands_b44_b F 300 i (f_L_lands_b44 F 300 i 0) N M (min M N) z1 = _ ∧ _
  unfold f_L_lands_b44_b
  rw [gd_t (by omega), gd_t (by omega), if_pos (Int.le_refl _), lf10, l321, gd_t (by omega), ltm, ← hu, lf11, lf9, l322, l320, gd_t (by omega), gd_t (by omega), uo 322 (by decide) (by decide) (by omega), uo 320 (by decide) (by decide) (by omega), t4, t2, gd_t (by omega), cT]
  by_cases cg : r (220 + 27 * i + 4) = r (220 + 27 * i + 1)
  · have hLy0 := hLy
    obtain ⟨li, lb0, lb1, lb2, ly, ly3, ly12, -⟩ := hLy0
    have e8 : landT r i (220 + 27 * i + 8) = r (220 + 27 * i + 8) := lk _ (by omega) (by omega) (by omega) (by omega)
    have e6 : landT r i 6 = r 6 := lk 6 (by omega) (by omega) (by omega) (by omega)
    have e2 : landT r i (220 + 27 * i + 2) = N := by rw [lk _ (by omega) (by omega) (by omega) (by omega)]; exact hNN
    have hub := unl_bd (r := landT r i) (i := i) ly3
    rw [if_pos cg, if_pos cg, l_isRight hF hU lb2 li ly3 ly12, bs]
    have done : (unl (landT r i) i = 0 ∨ ¬ r (220 + 27 * i + 8) < r 6) → ∃ z, f_L_lands_b198 F 300 i N u = some z ∧ LwR z (goalT (landT r i) i) ∧ ∀ a, a < 300 → z a = w a := by
      intro hc
      obtain ⟨z, q1, q2, q3⟩ := l_done (F := F) hF hU hLy l5 e2
      refine ⟨z, q1, ?_, fun a ha => by rw [q3 a ha]; exact u0 a ha⟩
      unfold goalT
      rw [if_neg (by rw [e8, e6]; omega)]
      exact q2
    by_cases cr : unl (landT r i) i = 0
    · rw [if_pos (decide_eq_true cr)]
      exact done (Or.inl cr)
    · rw [if_neg (by rw [decide_eq_true_iff]; exact cr), lf14, l325, gd_t (by omega), uo 325 (by decide) (by decide) (by omega), t5, u300, rs_ne (by decide), e25, gd_t (by omega)]
      by_cases ct : r 6 ≤ r (220 + 27 * i + 8)
      · rw [if_pos ct]
        exact done (Or.inr (by omega))
      · have e17 : landT r i 17 = r 17 := lk 17 (by omega) (by omega) (by omega) (by omega)
        have e30' : iset u 325 i (r (220 + 27 * i + 8) + 1) 300 30 = r 17 := by rw [is_ne (by decide), u300, rs_ne (by decide)]; exact e30
        rw [if_neg ct, gd_t (by omega), gd_t (by omega), ltm, ltm, e30', lf8, l319]
        obtain ⟨z, q1, q2, q3⟩ := l_back (F := F) hU hLy l3 l5 e2
        rw [e8, e17, l319, l322] at q1
        refine ⟨z, q1, ?_, fun a ha => by rw [q3 a ha]; exact u0 a ha⟩
        unfold goalT
        rw [if_pos (by rw [e8, e6]; omega)]
        exact q2
  · rw [if_neg cg, if_neg cg]
    exact ⟨u, rfl, hU, u0⟩
