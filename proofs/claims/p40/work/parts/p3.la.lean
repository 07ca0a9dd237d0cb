/-! ===== the law lands a tune ===== -/
def lwtab : List (Int × Int) := [(20, 0), (21, 2), (22, 3), (23, 4), (24, 5), (25, 6), (26, 12), (27, 14), (28, 15), (29, 16), (30, 17), (31, 18), (32, 19), (33, 13)]
theorem LwA.set {w w2 : aI} {r q : Row} (k0 a0 v : Int) (hp : (k0, a0) ∈ lwtab) (h : LwA w r) (E : ∀ k, w2 300 k = rs (w 300) k0 v k) (Q : ∀ a, 0 ≤ a → a < 25 → q a = rs r a0 v a) (Z : ∀ t, q 2 ≤ t → t < 30 → w2 325 t = 0 ∧ w2 326 t = 0) : LwA w2 q := by
  obtain ⟨q20, q21, q22, q23, q24, q25, q26, q27, q28, q29, q30, q31, q32, q33, -⟩ := h
  simp only [lwtab, List.mem_cons, Prod.mk.injEq, List.not_mem_nil, or_false] at hp
  refine ⟨?_, ?_, ?_, ?_, ?_, ?_, ?_, ?_, ?_, ?_, ?_, ?_, ?_, ?_, Z⟩ <;> rw [E, Q _ (by decide) (by decide), rs_def, rs_def] <;> split <;> split <;> first | rfl | assumption | omega
theorem LwA.keep {w w2 : aI} {r q : Row} (h : LwA w r) (E : w2 300 = w 300) (Q : ∀ a, 0 ≤ a → a < 25 → q a = r a) (Z : ∀ t, r 2 ≤ t → w2 325 t = w 325 t ∧ w2 326 t = w 326 t) : LwA w2 q := by
  obtain ⟨q20, q21, q22, q23, q24, q25, q26, q27, q28, q29, q30, q31, q32, q33, qz⟩ := h
  refine ⟨?_, ?_, ?_, ?_, ?_, ?_, ?_, ?_, ?_, ?_, ?_, ?_, ?_, ?_, fun t p1 p2 => ?_⟩
  all_goals first | (rw [E, Q _ (by decide) (by decide)]; assumption) | skip
  rw [Q 2 (by decide) (by decide)] at p1
  rw [(Z t p1).1, (Z t p1).2]
  exact qz t p1 p2
theorem LwX.keep {w w2 : aI} {r q : Row} (h : LwX w r) (h5 : r 0 ≤ 5) (e0 : q 0 = r 0) (E : ∀ a, 301 ≤ a → a ≤ 306 → w2 a = w a) (Q : ∀ k, 25 ≤ k → k < 160 → q k = r k) : LwX w2 q := by
  intro x x0 x1
  rw [E 301 (by decide) (by decide), E 302 (by decide) (by decide), E 303 (by decide) (by decide), E 304 (by decide) (by decide), E 305 (by decide) (by decide), E 306 (by decide) (by decide), Q _ (by omega) (by omega), Q _ (by omega) (by omega), Q _ (by omega) (by omega), Q _ (by omega) (by omega), Q _ (by omega) (by omega), Q _ (by omega) (by omega)]
  exact h x x0 (by omega)
theorem LwR.step {w w2 : aI} {r q : Row} {i : Int} (h : LwR w r) (b1 : 0 ≤ r 1 ∧ r 1 ≤ 20) (b2 : r 2 ≤ 30) (hy : ∀ t, 0 ≤ t → t < r 2 → r (220 + 27 * t + 2) ≤ 8) (hi : 0 ≤ i ∧ i < r 2) (sw : SameW r q) (q2 : q 2 = r 2) (fq : ∀ k, 220 ≤ k → (k < 220 + 27 * i ∨ 220 + 27 * i + 27 ≤ k) → q k = r k) (f1 : ∀ a, 319 ≤ a → a ≤ 328 → ∀ t, ¬ t = i → w2 a t = w a t) (f2 : ∀ a, (307 ≤ a ∧ a ≤ 318 ∨ 329 ≤ a) → ¬ a = 332 + 2 * i.toNat → w2 a = w a) (hA : LwA w2 q) (hX : LwX w2 q) (hT : LwT1 w2 q i) (hN : LwN1 w2 q i) : LwR w2 q := by
  obtain ⟨h5, -, -, hWy, hS, hT0, hN0, d1, d2⟩ := h
  have e0 := sw.1
  refine ⟨by omega, hA, hX, hWy.sw h5 b1 sw (fun a p1 p2 => f2 a (by omega) (by omega)), hS.sw h5 b1 sw (fun a p1 p2 => f2 a (by omega) (by omega)), fun t t0 t1 => ?_, fun t t0 t1 => ?_, ?_, fun k k0 k1 => ?_⟩
  · by_cases e : t = i
    · subst e; exact hT
    · exact (hT0 t t0 (by omega)).of (fun a p1 p2 => f1 a p1 p2 t e) (fun j p1 p2 => fq j (by omega) (by omega))
  · by_cases e : t = i
    · subst e; exact hN
    · exact (hN0 t t0 (by omega)).of (hy t t0 (by omega)) (f2 _ (by omega) (by omega)) (f2 _ (by omega) (by omega)) (fun j p1 p2 => fq j (by omega) (by omega))
  · rw [f2 999 (by omega) (by omega), q2]; exact d1
  · rw [f2 329 (by omega) (by omega), f2 330 (by omega) (by omega), q2]; exact d2 k k0 k1
/-- what the loop over the wrong notes leaves -/
theorem l_blur {F : Nat} {w : aI} {r : Row} {i N M : Int} (hi : 0 ≤ i ∧ i < 30) (hN : 1 ≤ N ∧ N ≤ 8) (hM : 0 ≤ M ∧ M ≤ 1000) (g3 : inI i (shL 330) ∧ 331 ≤ w 330 i ∧ w 330 i < w 999 0 + 90 ∧ w 999 0 ≤ 800) (g4 : (w 330 i).toNat = 332 + 2 * i.toNat) (n2 : w (332 + 2 * i.toNat) 100 = N) (n3 : ∀ k, 0 ≤ k → k < N → w (332 + 2 * i.toNat) k = r (220 + 27 * i + 19 + k)) (y12 : ∀ k, 0 ≤ k → k < N → 0 ≤ r (220 + 27 * i + 19 + k) ∧ r (220 + 27 * i + 19 + k) ≤ 7) :
    ∀ (n : Nat) (v : Int) (u : aI), 0 ≤ v → v ≤ min M N → min M N - v < n → (∀ a, ¬ a = 300 → ¬ a = 332 + 2 * i.toNat → u a = w a) → (∀ k, u 300 k = rs (w 300) 27 (w 300 27 + v) k) → u (332 + 2 * i.toNat) 100 = N → (∀ k, 0 ≤ k → k < N → u (332 + 2 * i.toNat) k = if (k - i) % N < v then (r (220 + 27 * i + 19 + k) + 1) % 8 else r (220 + 27 * i + 19 + k)) →
    ∃ z, f_L_lands_b44 F 300 i n N M v u = f_L_lands_b44 F 300 i 1 N M (min M N) z ∧ (∀ a, ¬ a = 300 → ¬ a = 332 + 2 * i.toNat → z a = w a) ∧ (∀ k, z 300 k = rs (w 300) 27 (w 300 27 + min M N) k) ∧ z (332 + 2 * i.toNat) 100 = N ∧ (∀ k, 0 ≤ k → k < N → z (332 + 2 * i.toNat) k = if (k - i) % N < min M N then (r (220 + 27 * i + 19 + k) + 1) % 8 else r (220 + 27 * i + 19 + k)) := by
  intro n
  induction n with
  | zero => intro v u v0 v1 v2; omega
  | succ n ih =>
    intro v u v0 v1 v2 u1 u2 u3 u4
    by_cases c : min M N ≤ v
    · have e : v = min M N := by omega
      subst e
      refine ⟨u, ?_, u1, u2, u3, u4⟩
      show f_L_lands_b44_b F 300 i (f_L_lands_b44 F 300 i n) _ _ _ _ = f_L_lands_b44_b F 300 i (f_L_lands_b44 F 300 i 0) _ _ _ _
      unfold f_L_lands_b44_b
      rw [if_pos (Int.le_refl _), if_pos (Int.le_refl _)]
    · have hp := mod_rg (n := N) hN (i + v)
      have hme := (mod_at (n := N) hN i v ((i + v) % N) (by omega) hp).mpr rfl
      have hcell := y12 ((i + v) % N) hp.1 hp.2
      have hu := u4 ((i + v) % N) hp.1 hp.2
      rw [hme, if_neg (by omega)] at hu
      have e330 : u 330 = w 330 := u1 330 (by decide) (by omega)
      have e999 : u 999 = w 999 := u1 999 (by decide) (by omega)
      show ∃ z, f_L_lands_b44_b F 300 i (f_L_lands_b44 F 300 i n) _ _ _ _ = _ ∧ _
      unfold f_L_lands_b44_b
      rw [gd_t (by omega), gd_t (by omega), if_neg c, gd_t (by omega), gd_t (by omega), lti, tm N (by omega), lf19, e330, e999, gd_t g3, gd_t g3, g4, u3, gd_t (by omega), gd_t (by omega), hu]
      have go : ∀ x, x = (r (220 + 27 * i + 19 + (i + v) % N) + 1) % 8 → ∃ z, f_L_lands_b99 F 300 i (f_L_lands_b44 F 300 i n) N M v x ((i + v) % N) (332 + 2 * i.toNat) u = f_L_lands_b44 F 300 i 1 N M (min M N) z ∧ (∀ a, ¬ a = 300 → ¬ a = 332 + 2 * i.toNat → z a = w a) ∧ (∀ k, z 300 k = rs (w 300) 27 (w 300 27 + min M N) k) ∧ z (332 + 2 * i.toNat) 100 = N ∧ (∀ k, 0 ≤ k → k < N → z (332 + 2 * i.toNat) k = if (k - i) % N < min M N then (r (220 + 27 * i + 19 + k) + 1) % 8 else r (220 + 27 * i + 19 + k)) := by
        intro x hx
        unfold f_L_lands_b99
        rw [u3, gd_t (by omega), ltm, ltm]
        refine ih (v + 1) _ (by omega) (by omega) (by omega) (fun a p1 p2 => by rw [is_ne p1, is_ne p2]; exact u1 a p1 p2) (fun k => ?_) ?_ (fun k k0 k1 => ?_)
        · rw [is_eq, is_ne (by omega), rs_def, u2, u2, rs_def, rs_def, rs_def, if_pos rfl]
          split <;> omega
        · rw [is_ne (by omega), is_eq, rs_ne (by omega)]; exact u3
        · rw [is_ne (by omega), is_eq]
          by_cases e : k = (i + v) % N
          · subst e
            rw [rs_self, hme, if_pos (by omega)]; exact hx
          · have hk2 : ¬ (k - i) % N = v := fun z => e ((mod_at (n := N) hN i v k (by omega) ⟨k0, k1⟩).mp z)
            rw [rs_ne e, u4 k k0 k1, ite_iff (show (k - i) % N < v ↔ (k - i) % N < v + 1 by omega)]
      by_cases c7 : r (220 + 27 * i + 19 + (i + v) % N) = 7
      · rw [if_pos c7]
        exact go 0 (by rw [c7]; rfl)
      · rw [if_neg c7, gd_t g3, gd_t (by omega)]
        exact go _ (by omega)
