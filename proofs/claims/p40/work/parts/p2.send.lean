/-! ===== the law makes a tune ===== -/
theorem LwW.sw {w w2 : aI} {r q : Row} (h : LwW w r) (h5 : r 0 ≤ 5) (b1 : 0 ≤ r 1 ∧ r 1 ≤ 20) (hS : SameW r q) (k : ∀ a, 307 ≤ a → a ≤ 312 → w2 a = w a) : LwW w2 q := by
  intro x y x0 x1 y0 y1
  have e0 := hS.1
  rw [k _ (by omega) (by omega), hS.fE b1]
  exact h x y x0 (by omega) y0 (by omega)
theorem LwS.sw {w w2 : aI} {r q : Row} (h : LwS w r) (h5 : r 0 ≤ 5) (b1 : 0 ≤ r 1 ∧ r 1 ≤ 20) (hS : SameW r q) (k : ∀ a, 314 ≤ a → a ≤ 318 → w2 a = w a) : LwS w2 q := by
  intro x y x0 x1 y0 y1
  have e0 := hS.1
  rw [k _ (by omega) (by omega), hS.dE b1.2]
  exact h x y x0 (by omega) y0 (by omega)
theorem LwT1.of {w w2 : aI} {r q : Row} {t : Int} (h : LwT1 w r t) (k : ∀ a, 319 ≤ a → a ≤ 328 → w2 a t = w a t) (e : ∀ j, 220 + 27 * t ≤ j → j < 220 + 27 * t + 27 → q j = r j) : LwT1 w2 q t := by
  unfold LwT1 at h ⊢
  rw [k 319 (by omega) (by omega), k 320 (by omega) (by omega), k 321 (by omega) (by omega), k 322 (by omega) (by omega), k 323 (by omega) (by omega), k 324 (by omega) (by omega), k 325 (by omega) (by omega), k 326 (by omega) (by omega), k 327 (by omega) (by omega), k 328 (by omega) (by omega), e (220 + 27 * t) (by omega) (by omega), e (220 + 27 * t + 1) (by omega) (by omega), e (220 + 27 * t + 3) (by omega) (by omega), e (220 + 27 * t + 4) (by omega) (by omega), e (220 + 27 * t + 5) (by omega) (by omega), e (220 + 27 * t + 6) (by omega) (by omega), e (220 + 27 * t + 7) (by omega) (by omega), e (220 + 27 * t + 8) (by omega) (by omega), e (220 + 27 * t + 9) (by omega) (by omega), e (220 + 27 * t + 10) (by omega) (by omega)]
  exact h
theorem LwN1.of {w w2 : aI} {r q : Row} {t : Int} (h : LwN1 w r t) (hn : r (220 + 27 * t + 2) ≤ 8) (k1 : w2 (331 + 2 * t.toNat) = w (331 + 2 * t.toNat)) (k2 : w2 (332 + 2 * t.toNat) = w (332 + 2 * t.toNat)) (e : ∀ j, 220 + 27 * t ≤ j → j < 220 + 27 * t + 27 → q j = r j) : LwN1 w2 q t := by
  unfold LwN1 at h ⊢
  rw [k1, k2, e (220 + 27 * t + 2) (by omega) (by omega)]
  refine ⟨h.1, h.2.1, fun k k0 k1 => ?_⟩
  rw [e (220 + 27 * t + 11 + k) (by omega) (by omega), e (220 + 27 * t + 19 + k) (by omega) (by omega)]
  exact h.2.2 k k0 k1
/-- the law's numbers where one row more was made than tunes need -/
def LwQ (w : aI) (r : Row) : Prop := r 0 ≤ 5 ∧ LwA w r ∧ LwX w r ∧ LwW w r ∧ LwS w r ∧ LwT w r ∧ LwN w r ∧ w 999 0 = 242 + 2 * r 2 ∧ ∀ k, 0 ≤ k → k < 30 → w 329 k = (if k < r 2 then 331 + 2 * k else 0) ∧ w 330 k = (if k < r 2 then 332 + 2 * k else 0)
theorem icpy_at (w : aI) (a b : Nat) (n : Int) : icpy w a b n b = fun j => if 0 ≤ j ∧ j < n then w a j else w b j := ic_eq w a b n
theorem newW_old {w : aI} {n : Int} {a : Nat} (h1 : ¬ a = (w 999 0 + 90).toNat) (h2 : ¬ a = 999) : newW w n a = w a := by
  funext k
  unfold newW
  rw [if_neg h1, if_neg (fun z => h2 z.1)]
theorem newW_new {w : aI} {n : Int} {a : Nat} (h1 : a = (w 999 0 + 90).toNat) : newW w n a = fun k => if k = 100 then n else 0 := by
  funext k
  unfold newW
  rw [if_pos h1]
theorem newW_999 {w : aI} {n : Int} (h : ¬ 999 = (w 999 0 + 90).toNat) : newW w n 999 0 = w 999 0 + 1 := by
  unfold newW
  rw [if_neg h, if_pos ⟨rfl, rfl⟩]
set_option maxHeartbeats 1000000 in
theorem l_sends0 {F : Nat} {w : aI} {r : Row} {s g n want rp : Int} {c : Nat} (h : LwQ w r) (b1 : 0 ≤ r 1 ∧ r 1 ≤ 20) (b2 : 0 ≤ r 2 ∧ r 2 ≤ 30) (hy : ∀ t, 0 ≤ t → t < r 2 → r (220 + 27 * t + 2) ≤ 8) (h2 : r 2 < 30) (hc : c = 331 + 2 * (r 2).toNat) (hn : 1 ≤ n ∧ n ≤ 8) (c1 : w c 100 = n) :
    ∃ z, f_L_sends F 300 s g c want rp w = some z ∧ (z 300 = rs (rs (w 300) 26 (w 300 26 + rp)) 21 (r 2 + 1)) ∧ (∀ a, ¬ a = 300 → ¬ a = 332 + 2 * (r 2).toNat → ¬ a = 999 → ¬ a = 330 → ¬ a = 319 → ¬ a = 320 → ¬ a = 321 → ¬ a = 322 → ¬ a = 327 → ¬ a = 328 → ¬ a = 329 → z a = w a) ∧ (∀ j, z (332 + 2 * (r 2).toNat) j = if 0 ≤ j ∧ j < n then w c j else if j = 100 then n else 0) ∧ (z 319 = rs (w 319) (r 2) s) ∧ (z 320 = rs (w 320) (r 2) g) ∧ (z 322 = rs (w 322) (r 2) s) ∧ (z 321 = rs (w 321) (r 2) 0) ∧ (z 327 = rs (w 327) (r 2) want) ∧ (z 328 = rs (w 328) (r 2) rp) ∧ (z 329 = rs (w 329) (r 2) c) ∧ (z 330 = rs (w 330) (r 2) ((332 + 2 * (r 2).toNat : Nat) : Int)) ∧ z 999 0 = 243 + 2 * r 2 := by
  obtain ⟨h5, hA, hX, hWy, hS, hT, hN, d1, d2⟩ := h
  have e21 := hA.2.1
  obtain ⟨l319, l320, l321, l322, l323, l324, l325, l326, l327, l328, l329, l330⟩ := ll30
  unfold f_L_sends
  rw [gd_t (by omega), gd_t (by omega)]
  have a0 : w 300 21 = r 2 := e21
  rw [a0, lf8, l319, gd_t (by omega), ltm]
  obtain ⟨v1, hv1⟩ : ∃ v, v = iset w 319 (r 2) s := ⟨_, rfl⟩
  rw [← hv1]
  have f1 : ∀ a, ¬ a = 319 → v1 a = w a := fun a ha => by rw [hv1, is_ne ha]
  have a1 : v1 300 21 = r 2 := by rw [f1 300 (by decide)]; exact a0
  have m1 : v1 319 = rs (w 319) (r 2) s := by rw [hv1, is_eq]
  rw [a1, lf9, l320, gd_t (by omega), ltm]
  obtain ⟨v2, hv2⟩ : ∃ v, v = iset v1 320 (r 2) g := ⟨_, rfl⟩
  rw [← hv2]
  have f2 : ∀ a, ¬ a = 320 → v2 a = v1 a := fun a ha => by rw [hv2, is_ne ha]
  have a2 : v2 300 21 = r 2 := by rw [f2 300 (by decide)]; exact a1
  have m2 : v2 320 = rs (w 320) (r 2) g := by rw [hv2, is_eq, f1 320 (by decide)]
  rw [a2, lf11, l322, gd_t (by omega), ltm]
  obtain ⟨v3, hv3⟩ : ∃ v, v = iset v2 322 (r 2) s := ⟨_, rfl⟩
  rw [← hv3]
  have f3 : ∀ a, ¬ a = 322 → v3 a = v2 a := fun a ha => by rw [hv3, is_ne ha]
  have a3 : v3 300 21 = r 2 := by rw [f3 300 (by decide)]; exact a2
  have m3 : v3 322 = rs (w 322) (r 2) s := by rw [hv3, is_eq, f2 322 (by decide), f1 322 (by decide)]
  rw [a3, lf10, l321, gd_t (by omega), ltm]
  obtain ⟨v4, hv4⟩ : ∃ v, v = iset v3 321 (r 2) 0 := ⟨_, rfl⟩
  rw [← hv4]
  have f4 : ∀ a, ¬ a = 321 → v4 a = v3 a := fun a ha => by rw [hv4, is_ne ha]
  have a4 : v4 300 21 = r 2 := by rw [f4 300 (by decide)]; exact a3
  have m4 : v4 321 = rs (w 321) (r 2) 0 := by rw [hv4, is_eq, f3 321 (by decide), f2 321 (by decide), f1 321 (by decide)]
  rw [a4, lf16, l327, gd_t (by omega), ltm]
  obtain ⟨v5, hv5⟩ : ∃ v, v = iset v4 327 (r 2) want := ⟨_, rfl⟩
  rw [← hv5]
  have f5 : ∀ a, ¬ a = 327 → v5 a = v4 a := fun a ha => by rw [hv5, is_ne ha]
  have a5 : v5 300 21 = r 2 := by rw [f5 300 (by decide)]; exact a4
  have m5 : v5 327 = rs (w 327) (r 2) want := by rw [hv5, is_eq, f4 327 (by decide), f3 327 (by decide), f2 327 (by decide), f1 327 (by decide)]
  rw [a5, lf17, l328, gd_t (by omega), ltm]
  obtain ⟨v6, hv6⟩ : ∃ v, v = iset v5 328 (r 2) rp := ⟨_, rfl⟩
  rw [← hv6]
  have f6 : ∀ a, ¬ a = 328 → v6 a = v5 a := fun a ha => by rw [hv6, is_ne ha]
  have a6 : v6 300 21 = r 2 := by rw [f6 300 (by decide)]; exact a5
  have m6 : v6 328 = rs (w 328) (r 2) rp := by rw [hv6, is_eq, f5 328 (by decide), f4 328 (by decide), f3 328 (by decide), f2 328 (by decide), f1 328 (by decide)]
  rw [a6, lf18, l329, gd_t (by omega), ltm]
  obtain ⟨v7, hv7⟩ : ∃ v, v = iset v6 329 (r 2) (c : Int) := ⟨_, rfl⟩
  rw [← hv7]
  have f7 : ∀ a, ¬ a = 329 → v7 a = v6 a := fun a ha => by rw [hv7, is_ne ha]
  have a7 : v7 300 21 = r 2 := by rw [f7 300 (by decide)]; exact a6
  have m7 : v7 329 = rs (w 329) (r 2) (c : Int) := by rw [hv7, is_eq, f6 329 (by decide), f5 329 (by decide), f4 329 (by decide), f3 329 (by decide), f2 329 (by decide), f1 329 (by decide)]
  have g7 : ∀ a, ¬ a = 319 → ¬ a = 320 → ¬ a = 321 → ¬ a = 322 → ¬ a = 327 → ¬ a = 328 → ¬ a = 329 → v7 a = w a := fun a p1 p2 p3 p4 p5 p6 p7 => by rw [f7 a p7, f6 a p6, f5 a p5, f4 a p3, f3 a p4, f2 a p2, f1 a p1]
  have n7 : v7 999 0 = 242 + 2 * r 2 := by rw [g7 999 (by decide) (by decide) (by decide) (by decide) (by decide) (by decide) (by decide)]; exact d1
  have k7 : v7 c 100 = n := by rw [g7 c (by omega) (by omega) (by omega) (by omega) (by omega) (by omega) (by omega)]; exact c1
  have hold : olds v7 := by
    intro k hk
    obtain ⟨q1, q2⟩ := d2 k (by omega) (by omega)
    rw [m7, g7 330 (by decide) (by decide) (by decide) (by decide) (by decide) (by decide) (by decide), q2, n7, rs_def, q1]
    split <;> split <;> omega
  have hq : (v7 999 0 + 90).toNat = 332 + 2 * (r 2).toNat := by rw [n7]; omega
  rw [k7, gd_t (by omega), gd_t (show (0 ≤ n ∧ n ≤ 8) ∧ (241 ≤ v7 999 0 ∧ v7 999 0 < 800) ∧ olds v7 from ⟨by omega, by omega, hold⟩), ltm]
  obtain ⟨v9, hv9⟩ : ∃ v, v = newW v7 n := ⟨_, rfl⟩
  rw [← hv9]
  have f9 : ∀ a, ¬ a = 332 + 2 * (r 2).toNat → ¬ a = 999 → v9 a = v7 a := fun a p1 p2 => by rw [hv9, newW_old (by rw [hq]; exact p1) p2]
  have n9 : v9 999 0 = 243 + 2 * r 2 := by rw [hv9, newW_999 (by rw [hq]; omega), n7]; omega
  have m9 : v9 (332 + 2 * (r 2).toNat) = fun k => if k = 100 then n else 0 := by rw [hv9]; exact newW_new hq.symm
  rw [a7, lf19, l330, gd_t (by omega), hq, ltm]
  obtain ⟨v15, hv15⟩ : ∃ v, v = iset v9 330 (r 2) ((332 + 2 * (r 2).toNat : Nat) : Int) := ⟨_, rfl⟩
  rw [← hv15]
  have f15 : ∀ a, ¬ a = 330 → v15 a = v9 a := fun a ha => by rw [hv15, is_ne ha]
  have m15 : v15 330 = rs (w 330) (r 2) ((332 + 2 * (r 2).toNat : Nat) : Int) := by rw [hv15, is_eq, f9 330 (by omega) (by decide), g7 330 (by decide) (by decide) (by decide) (by decide) (by decide) (by decide) (by decide)]
  have a15 : v15 300 21 = r 2 := by rw [f15 300 (by decide), f9 300 (by omega) (by decide)]; exact a7
  have m15a : v15 329 (r 2) = c := by rw [f15 329 (by decide), f9 329 (by omega) (by decide), m7, rs_self]
  have m15b : v15 330 (r 2) = ((332 + 2 * (r 2).toNat : Nat) : Int) := by rw [m15, rs_self]
  have n15 : v15 999 0 = 243 + 2 * r 2 := by rw [f15 999 (by decide)]; exact n9
  have k15 : v15 c 100 = n := by rw [f15 c (by omega), f9 c (by omega) (by omega)]; exact k7
  have k15h : v15 (332 + 2 * (r 2).toNat) 100 = n := by rw [f15 _ (by omega), m9]; exact if_pos rfl
  rw [a15]
  have hres : f_L_resets F 300 (r 2) v15 = some (icpy v15 c (332 + 2 * (r 2).toNat) n) := by
    unfold f_L_resets
    rw [lf18, lf19, l329, l330, m15a, m15b, n15, Int.toNat_natCast, Int.toNat_natCast, k15, k15h, gd_t (by omega), gd_t (by omega), gd_t (by omega), gd_t (by omega), gd_t (by omega), gd_t (by omega)]
    rfl
  rw [hres, bs]
  obtain ⟨v16, hv16⟩ : ∃ v, v = icpy v15 c (332 + 2 * (r 2).toNat) n := ⟨_, rfl⟩
  rw [← hv16]
  have f16 : ∀ a, ¬ a = 332 + 2 * (r 2).toNat → v16 a = v15 a := fun a ha => by rw [hv16, ic_ne ha]
  have m16 : v16 (332 + 2 * (r 2).toNat) = fun j => if 0 ≤ j ∧ j < n then v15 c j else v15 (332 + 2 * (r 2).toNat) j := by rw [hv16, icpy_at]
  rw [ltm, ltm]
  have a16 : v16 300 = w 300 := by rw [f16 300 (by omega), f15 300 (by decide), f9 300 (by omega) (by decide), g7 300 (by decide) (by decide) (by decide) (by decide) (by decide) (by decide) (by decide)]
  obtain ⟨z, hz⟩ : ∃ v, v = iset (iset v16 300 26 (v16 300 26 + rp)) 300 21 (iset v16 300 26 (v16 300 26 + rp) 300 21 + 1) := ⟨_, rfl⟩
  rw [← hz]
  have z300 : z 300 = rs (rs (w 300) 26 (w 300 26 + rp)) 21 (r 2 + 1) := by rw [hz, is_eq, is_eq, a16, rs_ne (show ¬ (21 : Int) = 26 by decide), e21]
  have zo : ∀ a, ¬ a = 300 → z a = v16 a := fun a ha => by rw [hz, is_ne ha, is_ne ha]
  have z16 : ∀ a, ¬ a = 300 → ¬ a = 332 + 2 * (r 2).toNat → ¬ a = 999 → ¬ a = 330 → z a = v7 a := fun a p1 p2 p3 p4 => by rw [zo a p1, f16 a p2, f15 a p4, f9 a p2 p3]
  have zw : ∀ a, ¬ a = 300 → ¬ a = 332 + 2 * (r 2).toNat → ¬ a = 999 → ¬ a = 330 → ¬ a = 319 → ¬ a = 320 → ¬ a = 321 → ¬ a = 322 → ¬ a = 327 → ¬ a = 328 → ¬ a = 329 → z a = w a := fun a p1 p2 p3 p4 q1 q2 q3 q4 q5 q6 q7 => by rw [z16 a p1 p2 p3 p4, g7 a q1 q2 q3 q4 q5 q6 q7]
  have zh : ∀ j, z (332 + 2 * (r 2).toNat) j = if 0 ≤ j ∧ j < n then w c j else if j = 100 then n else 0 := fun j => by
    rw [zo _ (by omega), m16]
    show (if _ then _ else _) = _
    rw [f15 c (by omega), f9 c (by omega) (by omega), g7 c (by omega) (by omega) (by omega) (by omega) (by omega) (by omega) (by omega), f15 _ (by omega), m9]
  have z319 : z 319 = rs (w 319) (r 2) s := by rw [z16 319 (by decide) (by omega) (by decide) (by decide), f7 319 (by decide), f6 319 (by decide), f5 319 (by decide), f4 319 (by decide), f3 319 (by decide), f2 319 (by decide), m1]
  have z320 : z 320 = rs (w 320) (r 2) g := by rw [z16 320 (by decide) (by omega) (by decide) (by decide), f7 320 (by decide), f6 320 (by decide), f5 320 (by decide), f4 320 (by decide), f3 320 (by decide), m2]
  have z322 : z 322 = rs (w 322) (r 2) s := by rw [z16 322 (by decide) (by omega) (by decide) (by decide), f7 322 (by decide), f6 322 (by decide), f5 322 (by decide), f4 322 (by decide), m3]
  have z321 : z 321 = rs (w 321) (r 2) 0 := by rw [z16 321 (by decide) (by omega) (by decide) (by decide), f7 321 (by decide), f6 321 (by decide), f5 321 (by decide), m4]
  have z327 : z 327 = rs (w 327) (r 2) want := by rw [z16 327 (by decide) (by omega) (by decide) (by decide), f7 327 (by decide), f6 327 (by decide), m5]
  have z328 : z 328 = rs (w 328) (r 2) rp := by rw [z16 328 (by decide) (by omega) (by decide) (by decide), f7 328 (by decide), m6]
  have z329 : z 329 = rs (w 329) (r 2) c := by rw [z16 329 (by decide) (by omega) (by decide) (by decide), m7]
  have z330 : z 330 = rs (w 330) (r 2) ((332 + 2 * (r 2).toNat : Nat) : Int) := by rw [zo 330 (by decide), f16 330 (by omega), m15]
  have z999 : z 999 0 = 243 + 2 * r 2 := by rw [zo 999 (by decide), f16 999 (by omega)]; exact n15
  exact ⟨z, rfl, z300, zw, zh, z319, z320, z322, z321, z327, z328, z329, z330, z999⟩
set_option maxHeartbeats 1000000 in
theorem l_sends {F : Nat} {w : aI} {r : Row} {s g n want rp : Int} {f : Int → Int} {c : Nat} (h : LwQ w r) (b1 : 0 ≤ r 1 ∧ r 1 ≤ 20) (b2 : 0 ≤ r 2 ∧ r 2 ≤ 30) (hy : ∀ t, 0 ≤ t → t < r 2 → r (220 + 27 * t + 2) ≤ 8) (h2 : r 2 < 30) (hc : c = 331 + 2 * (r 2).toNat) (hn : 1 ≤ n ∧ n ≤ 8) (c1 : w c 100 = n) (c2 : ∀ k, 0 ≤ k → k < n → w c k = f k) :
    ∃ z, f_L_sends F 300 s g c want rp w = some z ∧ LwR z (newT r s g n f rp want) ∧ ∀ a, a < 300 → z a = w a := by
  obtain ⟨z, hz, z300, zw, zh, z319, z320, z322, z321, z327, z328, z329, z330, z999⟩ := l_sends0 (F := F) (s := s) (g := g) (want := want) (rp := rp) h b1 b2 hy h2 hc hn c1
  obtain ⟨h5, hA, hX, hWy, hS, hT, hN, d1, d2⟩ := h
  have out : ∀ k, (k < 220 + 27 * r 2 ∨ 220 + 27 * r 2 + 27 ≤ k) → ¬ k = 2 → ¬ k = 11 → ¬ k = 12 → newT r s g n f rp want k = r k := fun k q1 q2 q3 q4 => newT_out q1 q2 q3 q4
  obtain ⟨t2, t11, t12, t0, t1, tn, t3, t4, t5, t6, t7, t8, tj⟩ := newT_at (r := r) (s := s) (g := g) (n := n) (rp := rp) (wa := want) (f := f) b2.1
  have sw : SameW r (newT r s g n f rp want) := ⟨out 0 (by omega) (by omega) (by omega) (by omega), out 1 (by omega) (by omega) (by omega) (by omega), fun k p1 p2 => out k (by omega) (by omega) (by omega) (by omega)⟩
  generalize newT r s g n f rp want = q at out t2 t11 t12 t0 t1 tn t3 t4 t5 t6 t7 t8 tj sw ⊢
  have e0 := sw.1
  refine ⟨z, hz, ⟨by omega, ?_, ?_, hWy.sw h5 b1 sw (fun a p1 p2 => zw a (by omega) (by omega) (by omega) (by omega) (by omega) (by omega) (by omega) (by omega) (by omega) (by omega) (by omega)), hS.sw h5 b1 sw (fun a p1 p2 => zw a (by omega) (by omega) (by omega) (by omega) (by omega) (by omega) (by omega) (by omega) (by omega) (by omega) (by omega)), ?_, ?_, ?_⟩, fun a ha => zw a (by omega) (by omega) (by omega) (by omega) (by omega) (by omega) (by omega) (by omega) (by omega) (by omega) (by omega)⟩
  · obtain ⟨q20, q21, q22, q23, q24, q25, q26, q27, q28, q29, q30, q31, q32, q33, qz⟩ := hA
    have zz : ∀ k, ¬ k = 21 → ¬ k = 26 → z 300 k = w 300 k := fun k p1 p2 => by rw [z300, rs_ne p1, rs_ne p2]
    refine ⟨?_, ?_, ?_, ?_, ?_, ?_, ?_, ?_, ?_, ?_, ?_, ?_, ?_, ?_, fun t p1 p2 => ?_⟩
    · rw [zz 20 (by decide) (by decide), e0]; exact q20
    · rw [z300, rs_self, t2]
    · rw [zz 22 (by decide) (by decide), out 3 (by omega) (by omega) (by omega) (by omega)]; exact q22
    · rw [zz 23 (by decide) (by decide), out 4 (by omega) (by omega) (by omega) (by omega)]; exact q23
    · rw [zz 24 (by decide) (by decide), out 5 (by omega) (by omega) (by omega) (by omega)]; exact q24
    · rw [zz 25 (by decide) (by decide), out 6 (by omega) (by omega) (by omega) (by omega)]; exact q25
    · rw [z300, rs_ne (by decide), rs_self, t12, q26]
    · rw [zz 27 (by decide) (by decide), out 14 (by omega) (by omega) (by omega) (by omega)]; exact q27
    · rw [zz 28 (by decide) (by decide), out 15 (by omega) (by omega) (by omega) (by omega)]; exact q28
    · rw [zz 29 (by decide) (by decide), out 16 (by omega) (by omega) (by omega) (by omega)]; exact q29
    · rw [zz 30 (by decide) (by decide), out 17 (by omega) (by omega) (by omega) (by omega)]; exact q30
    · rw [zz 31 (by decide) (by decide), out 18 (by omega) (by omega) (by omega) (by omega)]; exact q31
    · rw [zz 32 (by decide) (by decide), out 19 (by omega) (by omega) (by omega) (by omega)]; exact q32
    · rw [zz 33 (by decide) (by decide), out 13 (by omega) (by omega) (by omega) (by omega)]; exact q33
    · rw [zw 325 (by decide) (by omega) (by decide) (by decide) (by decide) (by decide) (by decide) (by decide) (by decide) (by decide) (by decide), zw 326 (by decide) (by omega) (by decide) (by decide) (by decide) (by decide) (by decide) (by decide) (by decide) (by decide) (by decide)]
      exact qz t (by omega) p2
  · intro x x0 x1
    have hx := hX x x0 (by omega)
    have zx : ∀ a, 301 ≤ a → a ≤ 306 → z a = w a := fun a p1 p2 => zw a (by omega) (by omega) (by omega) (by omega) (by omega) (by omega) (by omega) (by omega) (by omega) (by omega) (by omega)
    rw [zx 301 (by decide) (by decide), zx 302 (by decide) (by decide), zx 303 (by decide) (by decide), zx 304 (by decide) (by decide), zx 305 (by decide) (by decide), zx 306 (by decide) (by decide), out _ (by omega) (by omega) (by omega) (by omega), out _ (by omega) (by omega) (by omega) (by omega), out _ (by omega) (by omega) (by omega) (by omega), out _ (by omega) (by omega) (by omega) (by omega), out _ (by omega) (by omega) (by omega) (by omega), out _ (by omega) (by omega) (by omega) (by omega)]
    exact hx
  · intro t p0 p1
    by_cases e : t = r 2
    · subst e
      have q25 := (hA.2.2.2.2.2.2.2.2.2.2.2.2.2.2 (r 2) (Int.le_refl _) h2)
      refine ⟨⟨by rw [z319, rs_self, t0], by rw [z320, rs_self, t1], by rw [z321, rs_self, t3], by rw [z322, rs_self, t4], ?_, ?_, by rw [z327, rs_self, t7], by rw [z328, rs_self, t6]⟩, fun z9 => (by rw [t3] at z9; exact absurd z9 (by decide)), fun _ => t5⟩
      · rw [zw 325 (by decide) (by omega) (by decide) (by decide) (by decide) (by decide) (by decide) (by decide) (by decide) (by decide) (by decide), t8 _ (by omega) (by omega)]; exact q25.1
      · rw [zw 326 (by decide) (by omega) (by decide) (by decide) (by decide) (by decide) (by decide) (by decide) (by decide) (by decide) (by decide), t8 _ (by omega) (by omega)]; exact q25.2
    · refine (hT t p0 (by omega)).of (fun a p2 p3 => ?_) (fun k p2 p3 => out k (by omega) (by omega) (by omega) (by omega))
      have ha : a = 319 ∨ a = 320 ∨ a = 321 ∨ a = 322 ∨ a = 327 ∨ a = 328 ∨ a = 323 ∨ a = 324 ∨ a = 325 ∨ a = 326 := by omega
      rcases ha with rfl | rfl | rfl | rfl | rfl | rfl | ha
      · rw [z319, rs_ne e]
      · rw [z320, rs_ne e]
      · rw [z321, rs_ne e]
      · rw [z322, rs_ne e]
      · rw [z327, rs_ne e]
      · rw [z328, rs_ne e]
      · rw [zw a (by omega) (by omega) (by omega) (by omega) (by omega) (by omega) (by omega) (by omega) (by omega) (by omega) (by omega)]
  · intro t p0 p1
    by_cases e : t = r 2
    · subst e
      have zc : z c = w c := zw c (by omega) (by omega) (by omega) (by omega) (by omega) (by omega) (by omega) (by omega) (by omega) (by omega) (by omega)
      unfold LwN1
      rw [← hc, zc, tn]
      refine ⟨c1, by rw [zh, if_neg (by omega), if_pos rfl], fun k k0 k1 => ?_⟩
      obtain ⟨j1, j2⟩ := tj k k0 (by omega)
      rw [zh, if_pos ⟨k0, k1⟩, j1, j2, if_pos k1, c2 k k0 k1]
      exact ⟨rfl, rfl⟩
    · have y3 := hy t p0 (by omega)
      exact (hN t p0 (by omega)).of y3 (zw _ (by omega) (by omega) (by omega) (by omega) (by omega) (by omega) (by omega) (by omega) (by omega) (by omega) (by omega)) (zw _ (by omega) (by omega) (by omega) (by omega) (by omega) (by omega) (by omega) (by omega) (by omega) (by omega) (by omega)) (fun k p2 p3 => out k (by omega) (by omega) (by omega) (by omega))
  · clear tj t8 zh hN hT hS hWy hX hA out c2 zw
    refine ⟨by rw [z999, t2]; omega, fun k k0 k1 => ?_⟩
    obtain ⟨q1, q2⟩ := d2 k k0 k1
    rw [z329, z330, rs_def, rs_def, q1, q2, t2]
    by_cases e : k = r 2
    · rw [if_pos e, if_pos e, if_pos (by omega), if_pos (by omega)]
      omega
    · rw [if_neg e, if_neg e]
      by_cases e2 : k < r 2
      · rw [if_pos e2, if_pos e2, if_pos (by omega), if_pos (by omega)]
        exact ⟨rfl, rfl⟩
      · rw [if_neg e2, if_neg e2, if_neg (by omega), if_neg (by omega)]
        exact ⟨rfl, rfl⟩
