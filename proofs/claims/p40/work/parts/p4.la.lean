/-! ===== the law whistles a tune ===== -/
theorem brth_eq {n b : Int} (hn : 1 ≤ n ∧ n ≤ 8) (hb : 1 ≤ b ∧ b ≤ 8) : n / b + (if n % b ≤ 0 then 0 else 1) = (n + b - 1) / b := by
  have h : b = 1 ∨ b = 2 ∨ b = 3 ∨ b = 4 ∨ b = 5 ∨ b = 6 ∨ b = 7 ∨ b = 8 := by omega
  rcases h with h | h | h | h | h | h | h | h <;> subst h <;> split <;> omega
set_option maxHeartbeats 2000000 in
theorem l_wh2 {F : Nat} (hF : 100 ≤ F) {w u : aI} {r : Row} {i x : Int} {k58 : Int → aI → Option aI} (h : LwR w r) (hW : WF r) (hc : CanW r i x)
    (hu : u = iset (iset (iset w 304 (r (220 + 27 * i)) (w 304 (r (220 + 27 * i)) - feeA r i x)) 304 x (iset w 304 (r (220 + 27 * i)) (w 304 (r (220 + 27 * i)) - feeA r i x) 304 x + feeA r i x)) 300 32 (w 300 32 + feeA r i x)) {z0 z1 : Int} (hz : z1 + z0 = r 3 + (r (220 + 27 * i + 2) + r (25 + 13 * x + 7) - 1) / r (25 + 13 * x + 7)) :
    ∃ z, f_L_ticks_b207 F 300 k58 x i z0 z1 x 305 u = k58 (x + 1) z ∧ LwR z (whT r i x) ∧ ∀ a, a < 300 → z a = w a := by
  obtain ⟨n1, n2, -⟩ := hc.nx hW
  obtain ⟨l319, l320, l321, l322, l323, l324, l325, l326, l327, l328, l329, l330⟩ := ll30
  obtain ⟨l301, l302, l303, l304, l305, l306, l307, l313⟩ := ll5
  have h0 := h
  obtain ⟨h05, hA, hX, hWy, hS, hT, hNn, hD⟩ := h0
  obtain ⟨b0, b1, b2, b3, b4, b5, b6⟩ := hW.1
  obtain ⟨c1, c2, c3, c4, c5, c6⟩ := hc
  obtain ⟨y0, y1, y2, y3, y4, y5, y6, -⟩ := hW.2.2.2.1 i c1.1 c1.2
  have hy : ∀ t, 0 ≤ t → t < r 2 → r (220 + 27 * t + 2) ≤ 8 := fun t t0 t1 => (hW.2.2.2.1 t t0 t1).2.2.2.1.2
  obtain ⟨⟨t1, t2, t3, t4, t5, t6, t7, t8⟩, -⟩ := hT i c1.1 c1.2
  obtain ⟨q1, q2⟩ := lway (x := x) (by omega)
  have uo : ∀ a, ¬ a = 300 → ¬ a = 304 → u a = w a := fun a p1 p2 => by rw [hu, is_ne p1, is_ne p2, is_ne p2]
  have u300 : u 300 = rs (w 300) 32 (r 19 + feeA r i x) := by rw [hu, is_eq, is_ne (by decide), is_ne (by decide), hA.2.2.2.2.2.2.2.2.2.2.2.2.1]
  have u304 : u 304 = rs (rs (w 304) (r (220 + 27 * i)) (w 304 (r (220 + 27 * i)) - feeA r i x)) x (rs (w 304) (r (220 + 27 * i)) (w 304 (r (220 + 27 * i)) - feeA r i x) x + feeA r i x) := by rw [hu, is_ne (by decide), is_eq, is_eq]
  have hnx : ∀ u' : aI, (∀ a, ¬ a = 300 → ¬ a = 304 → ¬ a = 305 → ¬ a = 306 → u' a = w a) → u' 300 20 = w 300 20 → f_L_next F 300 x (r (220 + 27 * i + 1)) u' = some (nxt r x (r (220 + 27 * i + 1))) := fun u' k1 k2 => by
    refine l_nextz hF h05 (by rw [k2]; exact hA.1) (fun p q p0 p1 q0 q1 => by rw [k1 _ (by omega) (by omega) (by omega) (by omega)]; exact hWy p q p0 p1 q0 q1) (fun p q p0 p1 q0 q1 => by rw [k1 _ (by omega) (by omega) (by omega) (by omega)]; exact hS p q p0 p1 q0 q1) (by rw [k1 999 (by decide) (by decide) (by decide) (by decide)]; exact hD.n9 b2) hW c2 y1
  have hwf := hWy x (nxt r x (r (220 + 27 * i + 1))) c2.1 c2.2 n1.1 n1.2
  unfold whT
  generalize hfe : feeA r i x = fe at *
  generalize hbr : (r (220 + 27 * i + 2) + r (25 + 13 * x + 7) - 1) / r (25 + 13 * x + 7) = B at *
  generalize hnn : nxt r x (r (220 + 27 * i + 1)) = nx at *
  generalize hfr : farB r x nx = fr at *
  rw [if_neg (by omega)] at hwf
  have x12 := (hX x c2.1 c2.2).2.2.2.2.2
  unfold f_L_ticks_b207
  rw [lf5, lf9, lf6, lf13, lf4, lf12, lf11, lf10, lf15, l305, l306, l320, l324, l323, l322, l321, l326, gd_t (by omega), ltm, gd_t (by omega), gd_t (by omega), ltm, gd_t (by omega), hz]
  obtain ⟨v, hv⟩ : ∃ v, v = iset (iset u 305 x (r 3 + B)) 306 x (iset u 305 x (r 3 + B) 306 x + 1) := ⟨_, rfl⟩
  have vo : ∀ a, ¬ a = 305 → ¬ a = 306 → v a = u a := fun a p1 p2 => by rw [hv, is_ne p2, is_ne p1]
  have v305 : v 305 = rs (w 305) x (r 3 + B) := by rw [hv, is_ne (by decide), is_eq, uo 305 (by decide) (by decide)]
  have v306 : v 306 = rs (w 306) x (r (25 + 13 * x + 12) + 1) := by rw [hv, is_eq, is_ne (by decide), uo 306 (by decide) (by decide), x12]
  rw [← hv, vo 320 (by decide) (by decide), uo 320 (by decide) (by decide), t2, hnx v (fun a p1 p2 p3 p4 => by rw [vo a p3 p4, uo a p1 p2]) (by rw [vo 300 (by decide) (by decide), u300, rs_ne (by decide)]), bs, gd_t (by omega), q1, q2, gd_t (by omega), gd_t (by omega), ltm, vo _ (by omega) (by omega), uo _ (by omega) (by omega), hwf, gd_t (by omega), gd_t (by omega), gd_t (by omega), ltm, is_eq, rs_self, is_ne (show ¬ 305 = 324 by decide), v305, rs_self, gd_t (by omega), ltm, gd_t (by omega), ltm, gd_t (by omega), gd_t (by omega), ltm, ltm]
  obtain ⟨a1, ha1⟩ : ∃ a1, a1 = iset (iset (iset (iset v 324 i fr) 323 i (r 3 + B + fr)) 322 i nx) 321 i 1 := ⟨_, rfl⟩
  rw [← ha1]
  have ao : ∀ a, ¬ a = 324 → ¬ a = 323 → ¬ a = 322 → ¬ a = 321 → a1 a = v a := fun a p1 p2 p3 p4 => by rw [ha1, is_ne p4, is_ne p3, is_ne p2, is_ne p1]
  have a324 : a1 324 = rs (w 324) i fr := by rw [ha1, is_ne (by decide), is_ne (by decide), is_ne (by decide), is_eq, vo 324 (by decide) (by decide), uo 324 (by decide) (by decide)]
  have a323 : a1 323 = rs (w 323) i (r 3 + B + fr) := by rw [ha1, is_ne (by decide), is_ne (by decide), is_eq, is_ne (by decide), vo 323 (by decide) (by decide), uo 323 (by decide) (by decide)]
  have a322 : a1 322 = rs (w 322) i nx := by rw [ha1, is_ne (by decide), is_eq, is_ne (by decide), is_ne (by decide), vo 322 (by decide) (by decide), uo 322 (by decide) (by decide)]
  have a321 : a1 321 = rs (w 321) i 1 := by rw [ha1, is_eq, is_ne (by decide), is_ne (by decide), is_ne (by decide), vo 321 (by decide) (by decide), uo 321 (by decide) (by decide)]
  have a326 : a1 326 i = r (220 + 27 * i + 9) := by rw [ao 326 (by decide) (by decide) (by decide) (by decide), vo 326 (by decide) (by decide), uo 326 (by decide) (by decide)]; exact t6
  have a300 : a1 300 = rs (w 300) 32 (r 19 + fe) := by rw [ao 300 (by decide) (by decide) (by decide) (by decide), vo 300 (by decide) (by decide)]; exact u300
  have a33 : iset a1 326 i (a1 326 i + 1) 300 33 = r 13 := by rw [is_ne (by decide), a300, rs_ne (by decide)]; exact hA.2.2.2.2.2.2.2.2.2.2.2.2.2.1
  rw [a33, a326]
  obtain ⟨z, hz⟩ : ∃ z, z = iset (iset a1 326 i (r (220 + 27 * i + 9) + 1)) 300 33 (r 13 + 1) := ⟨_, rfl⟩
  rw [← hz]
  have zo : ∀ a, ¬ a = 300 → ¬ a = 304 → ¬ a = 305 → ¬ a = 306 → ¬ a = 321 → ¬ a = 322 → ¬ a = 323 → ¬ a = 324 → ¬ a = 326 → z a = w a := fun a p1 p2 p3 p4 p5 p6 p7 p8 p9 => by rw [hz, is_ne p1, is_ne p9, ao a p8 p7 p6 p5, vo a p3 p4, uo a p1 p2]
  have z300 : z 300 = rs (rs (w 300) 32 (r 19 + fe)) 33 (r 13 + 1) := by rw [hz, is_eq, is_ne (by decide), a300]
  have z304 : z 304 = u 304 := by rw [hz, is_ne (by decide), is_ne (by decide), ao 304 (by decide) (by decide) (by decide) (by decide), vo 304 (by decide) (by decide)]
  have z305 : z 305 = rs (w 305) x (r 3 + B) := by rw [hz, is_ne (by decide), is_ne (by decide), ao 305 (by decide) (by decide) (by decide) (by decide), v305]
  have z306 : z 306 = rs (w 306) x (r (25 + 13 * x + 12) + 1) := by rw [hz, is_ne (by decide), is_ne (by decide), ao 306 (by decide) (by decide) (by decide) (by decide), v306]
  have z321 : z 321 = rs (w 321) i 1 := by rw [hz, is_ne (by decide), is_ne (by decide), a321]
  have z322 : z 322 = rs (w 322) i nx := by rw [hz, is_ne (by decide), is_ne (by decide), a322]
  have z323 : z 323 = rs (w 323) i (r 3 + B + fr) := by rw [hz, is_ne (by decide), is_ne (by decide), a323]
  have z324 : z 324 = rs (w 324) i fr := by rw [hz, is_ne (by decide), is_ne (by decide), a324]
  have z326 : z 326 = rs (w 326) i (r (220 + 27 * i + 9) + 1) := by rw [hz, is_ne (by decide), is_eq, ao 326 (by decide) (by decide) (by decide) (by decide), vo 326 (by decide) (by decide), uo 326 (by decide) (by decide)]
  clear hz a33 a300 a326 a321 a322 a323 a324 ao ha1 a1 hnx v305 v306 vo hv uo u300 hu
  rw [u304] at z304
  have hp : pur r i = r (25 + 13 * r (220 + 27 * i) + 10) := rfl
  rw [hp]
  generalize hs : r (220 + 27 * i) = s at y0 y2 z304 t1 hp ⊢
  have w304 : ∀ y, 0 ≤ y → y < r 0 → w 304 y = r (25 + 13 * y + 10) := fun y p0 p1 => (hX y p0 p1).2.2.2.1
  obtain ⟨A, hA'⟩ : ∃ A, A = rs r (25 + 13 * s + 10) (r (25 + 13 * s + 10) - fe) := ⟨_, rfl⟩
  rw [← hA']
  obtain ⟨q, hq⟩ : ∃ q, q = rs (rs (rs (rs (rs (rs (rs (rs (rs (rs A (25 + 13 * x + 10) (A (25 + 13 * x + 10) + fe)) (25 + 13 * x + 11) (r 3 + B)) (25 + 13 * x + 12) (r (25 + 13 * x + 12) + 1)) (220 + 27 * i + 10) fr) (220 + 27 * i + 5) (r 3 + B + fr)) (220 + 27 * i + 4) nx) (220 + 27 * i + 3) 1) (220 + 27 * i + 9) (r (220 + 27 * i + 9) + 1)) 13 (r 13 + 1)) 19 (r 19 + fe) := ⟨_, rfl⟩
  rw [← hq]
  have qA : ∀ k, ¬ k = 25 + 13 * x + 10 → ¬ k = 25 + 13 * x + 11 → ¬ k = 25 + 13 * x + 12 → (k < 220 + 27 * i + 3 ∨ 220 + 27 * i + 5 < k) → ¬ k = 220 + 27 * i + 10 → ¬ k = 220 + 27 * i + 9 → ¬ k = 13 → ¬ k = 19 → q k = A k := fun k p1 p2 p3 p4 p5 p6 p7 p8 => by
    rw [hq, rs_ne p8, rs_ne p7, rs_ne p6, rs_ne (by omega), rs_ne (by omega), rs_ne (by omega), rs_ne p5, rs_ne p3, rs_ne p2, rs_ne p1]
  have q10 : q (25 + 13 * x + 10) = A (25 + 13 * x + 10) + fe := by rw [hq, rs_ne (by omega), rs_ne (by omega), rs_ne (by omega), rs_ne (by omega), rs_ne (by omega), rs_ne (by omega), rs_ne (by omega), rs_ne (by omega), rs_ne (by omega), rs_self]
  have q11 : q (25 + 13 * x + 11) = r 3 + B := by rw [hq, rs_ne (by omega), rs_ne (by omega), rs_ne (by omega), rs_ne (by omega), rs_ne (by omega), rs_ne (by omega), rs_ne (by omega), rs_ne (by omega), rs_self]
  have q12 : q (25 + 13 * x + 12) = r (25 + 13 * x + 12) + 1 := by rw [hq, rs_ne (by omega), rs_ne (by omega), rs_ne (by omega), rs_ne (by omega), rs_ne (by omega), rs_ne (by omega), rs_ne (by omega), rs_self]
  have qf : q (220 + 27 * i + 10) = fr := by rw [hq, rs_ne (by omega), rs_ne (by omega), rs_ne (by omega), rs_ne (by omega), rs_ne (by omega), rs_ne (by omega), rs_self]
  have q5 : q (220 + 27 * i + 5) = r 3 + B + fr := by rw [hq, rs_ne (by omega), rs_ne (by omega), rs_ne (by omega), rs_ne (by omega), rs_ne (by omega), rs_self]
  have q4 : q (220 + 27 * i + 4) = nx := by rw [hq, rs_ne (by omega), rs_ne (by omega), rs_ne (by omega), rs_ne (by omega), rs_self]
  have q3 : q (220 + 27 * i + 3) = 1 := by rw [hq, rs_ne (by omega), rs_ne (by omega), rs_ne (by omega), rs_self]
  have q9 : q (220 + 27 * i + 9) = r (220 + 27 * i + 9) + 1 := by rw [hq, rs_ne (by omega), rs_ne (by omega), rs_self]
  have q13 : q 13 = r 13 + 1 := by rw [hq, rs_ne (by omega), rs_self]
  have q19 : q 19 = r 19 + fe := by rw [hq, rs_self]
  clear hq
  have Ao : ∀ k, ¬ k = 25 + 13 * s + 10 → A k = r k := fun k hk => by rw [hA', rs_ne hk]
  have As : A (25 + 13 * s + 10) = r (25 + 13 * s + 10) - fe := by rw [hA', rs_self]
  have qr : ∀ k, (k < 25 ∨ 155 ≤ k) → (k < 220 + 27 * i + 3 ∨ 220 + 27 * i + 5 < k) → ¬ k = 220 + 27 * i + 10 → ¬ k = 220 + 27 * i + 9 → ¬ k = 13 → ¬ k = 19 → q k = r k := fun k p1 p2 p3 p4 p5 p6 => by rw [qA k (by omega) (by omega) (by omega) p2 p3 p4 p5 p6, Ao k (by omega)]
  clear hA'
  refine ⟨z, rfl, ?_, fun a ha => zo a (by omega) (by omega) (by omega) (by omega) (by omega) (by omega) (by omega) (by omega) (by omega)⟩
  refine h.step b1 b2.2 hy c1 ⟨qr 0 (by omega) (by omega) (by omega) (by omega) (by omega) (by omega), qr 1 (by omega) (by omega) (by omega) (by omega) (by omega) (by omega), fun k p1 p2 => qr k (by omega) (by omega) (by omega) (by omega) (by omega) (by omega)⟩ (qr 2 (by omega) (by omega) (by omega) (by omega) (by omega) (by omega)) (fun k p1 p2 => qr k (by omega) (by omega) (by omega) (by omega) (by omega) (by omega)) (fun a p1 p2 t p3 => ?_) (fun a p1 p2 => zo a (by omega) (by omega) (by omega) (by omega) (by omega) (by omega) (by omega) (by omega) (by omega)) ?_ ?_ ?_ ?_
  · by_cases e1 : a = 321
    · subst e1; rw [z321, rs_ne p3]
    by_cases e2 : a = 322
    · subst e2; rw [z322, rs_ne p3]
    by_cases e3 : a = 323
    · subst e3; rw [z323, rs_ne p3]
    by_cases e4 : a = 324
    · subst e4; rw [z324, rs_ne p3]
    by_cases e5 : a = 326
    · subst e5; rw [z326, rs_ne p3]
    rw [zo a (by omega) (by omega) (by omega) (by omega) e1 e2 e3 e4 e5]
  · have hA1 : LwA (iset w 300 32 (r 19 + fe)) (rs r 19 (r 19 + fe)) := LwA.set 32 19 (r 19 + fe) (by decide) hA (fun k => by rw [is_eq]) (fun a p1 p2 => rfl) (fun t p1 p2 => by
      rw [rs_ne (by decide)] at p1
      rw [is_ne (by decide), is_ne (by decide)]; exact hA.2.2.2.2.2.2.2.2.2.2.2.2.2.2 t p1 p2)
    refine LwA.set 33 13 (r 13 + 1) (by decide) hA1 (fun k => by rw [z300, is_eq]) (fun a p1 p2 => ?_) (fun t p1 p2 => ?_)
    · rw [rs_def]
      by_cases e : a = 13
      · rw [if_pos e, e]; exact q13
      · rw [if_neg e, rs_def]
        by_cases e2 : a = 19
        · rw [if_pos e2, e2]; exact q19
        · rw [if_neg e2]; exact qr a (by omega) (by omega) (by omega) (by omega) e e2
    · rw [qr 2 (by omega) (by omega) (by omega) (by omega) (by omega) (by omega)] at p1
      rw [zo 325 (by decide) (by decide) (by decide) (by decide) (by decide) (by decide) (by decide) (by decide) (by decide), z326, rs_ne (by omega)]
      exact hA.2.2.2.2.2.2.2.2.2.2.2.2.2.2 t p1 p2
  · intro y p0 p1
    rw [qr 0 (by omega) (by omega) (by omega) (by omega) (by omega) (by omega)] at p1
    obtain ⟨g1, g2, g3, g4, g5, g6⟩ := hX y p0 p1
    rw [zo 301 (by decide) (by decide) (by decide) (by decide) (by decide) (by decide) (by decide) (by decide) (by decide), zo 302 (by decide) (by decide) (by decide) (by decide) (by decide) (by decide) (by decide) (by decide) (by decide), zo 303 (by decide) (by decide) (by decide) (by decide) (by decide) (by decide) (by decide) (by decide) (by decide), z304, z305, z306, qA (25 + 13 * y + 7) (by omega) (by omega) (by omega) (by omega) (by omega) (by omega) (by omega) (by omega), qA (25 + 13 * y + 8) (by omega) (by omega) (by omega) (by omega) (by omega) (by omega) (by omega) (by omega), qA (25 + 13 * y + 9) (by omega) (by omega) (by omega) (by omega) (by omega) (by omega) (by omega) (by omega), Ao (25 + 13 * y + 7) (by omega), Ao (25 + 13 * y + 8) (by omega), Ao (25 + 13 * y + 9) (by omega), g1, g2, g3]
    refine ⟨rfl, rfl, rfl, ?_⟩
    by_cases e : y = x
    · subst e
      rw [rs_self, rs_self, rs_self, q10, q11, q12]
      refine ⟨?_, rfl, rfl⟩
      rw [rs_def, w304 s y0.1 y0.2]
      by_cases e2 : y = s
      · subst e2; rw [if_pos rfl, As]
      · rw [if_neg e2, Ao _ (by omega), g4]
    · rw [rs_ne e, rs_ne e, rs_ne e, qA (25 + 13 * y + 10) (by omega) (by omega) (by omega) (by omega) (by omega) (by omega) (by omega) (by omega), qA (25 + 13 * y + 11) (by omega) (by omega) (by omega) (by omega) (by omega) (by omega) (by omega) (by omega), qA (25 + 13 * y + 12) (by omega) (by omega) (by omega) (by omega) (by omega) (by omega) (by omega) (by omega), Ao (25 + 13 * y + 11) (by omega), Ao (25 + 13 * y + 12) (by omega), g5, g6]
      refine ⟨?_, rfl, rfl⟩
      rw [rs_def, w304 s y0.1 y0.2]
      by_cases e2 : y = s
      · subst e2; rw [if_pos rfl, As]
      · rw [if_neg e2, Ao _ (by omega), g4]
  · unfold LwT1
    rw [zo 319 (by decide) (by decide) (by decide) (by decide) (by decide) (by decide) (by decide) (by decide) (by decide), zo 320 (by decide) (by decide) (by decide) (by decide) (by decide) (by decide) (by decide) (by decide) (by decide), zo 325 (by decide) (by decide) (by decide) (by decide) (by decide) (by decide) (by decide) (by decide) (by decide), zo 327 (by decide) (by decide) (by decide) (by decide) (by decide) (by decide) (by decide) (by decide) (by decide), zo 328 (by decide) (by decide) (by decide) (by decide) (by decide) (by decide) (by decide) (by decide) (by decide), z321, z322, z323, z324, z326, rs_self, rs_self, rs_self, rs_self, rs_self, q3, q4, q5, q9, qf, qr (220 + 27 * i) (by omega) (by omega) (by omega) (by omega) (by omega) (by omega), qr (220 + 27 * i + 1) (by omega) (by omega) (by omega) (by omega) (by omega) (by omega), qr (220 + 27 * i + 6) (by omega) (by omega) (by omega) (by omega) (by omega) (by omega), qr (220 + 27 * i + 7) (by omega) (by omega) (by omega) (by omega) (by omega) (by omega), qr (220 + 27 * i + 8) (by omega) (by omega) (by omega) (by omega) (by omega) (by omega), hs]
    exact ⟨⟨t1, t2, rfl, rfl, t5, rfl, t7, t8⟩, fun _ => ⟨rfl, rfl⟩, fun e => absurd rfl e⟩
  · obtain ⟨m1, m2, m3⟩ := hNn i c1.1 c1.2
    unfold LwN1
    rw [zo _ (by omega) (by omega) (by omega) (by omega) (by omega) (by omega) (by omega) (by omega) (by omega), zo _ (by omega) (by omega) (by omega) (by omega) (by omega) (by omega) (by omega) (by omega) (by omega), qr (220 + 27 * i + 2) (by omega) (by omega) (by omega) (by omega) (by omega) (by omega)]
    refine ⟨m1, m2, fun k k0 k1 => ?_⟩
    rw [qr (220 + 27 * i + 11 + k) (by omega) (by omega) (by omega) (by omega) (by omega) (by omega), qr (220 + 27 * i + 19 + k) (by omega) (by omega) (by omega) (by omega) (by omega) (by omega)]
    exact m3 k k0 k1
