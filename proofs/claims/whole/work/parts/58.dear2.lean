/-! ===== the dearest way: pairs of roofs that are parted ===== -/
theorem bc_dec : ∀ C : Fin 1024, f_J6_bitCount_0f7a4 0 ((C : Nat) : Int) (fun _ _ => 0) = some (cnt (fun x => (C : Nat).testBit x.toNat) 10) := by decide +kernel
theorem c_bits {F : Nat} {w : aI} {C : Nat} (hC : C < 1024) : f_J6_bitCount_0f7a4 F (C : Int) w = some (cnt (fun x => bt C x) 10) := bc_dec ⟨C, hC⟩
theorem mask_not {L P : Nat} (hL : L < 1024) (hP : P < 1024) : ∃ M : Nat, andI (L : Int) (xorI (P : Int) (-1)) = (M : Int) ∧ M < 1024 ∧ ∀ x : Int, 0 ≤ x → x < 10 → bt M x = (bt L x && !bt P x) := by
  have hle := Nat.and_le_left (n := L) (m := P ^^^ (2 ^ 32 - 1))
  have hn : ((oI (L : Int)).toBitVec &&& ((oI (P : Int)).toBitVec ^^^ (oI (-1)).toBitVec)).toNat = (L &&& (P ^^^ (2 ^ 32 - 1))) := by
    rw [show (oI (-1)).toBitVec = BitVec.allOnes 32 by decide, oI_bv, oI_bv, BitVec.toNat_and, BitVec.toNat_xor, BitVec.toNat_ofNat, BitVec.toNat_ofNat, BitVec.toNat_allOnes, Nat.mod_eq_of_lt (by omega), Nat.mod_eq_of_lt (by omega)]
  refine ⟨L &&& (P ^^^ (2 ^ 32 - 1)), ?_, by omega, fun x x0 x1 => ?_⟩
  · have e1 : andI (L : Int) (xorI (P : Int) (-1)) = (oI (L : Int) &&& (oI (P : Int) ^^^ oI (-1))).toInt := by
      unfold andI xorI
      rw [oI_of]
    rw [e1]
    show ((oI (L : Int)).toBitVec &&& ((oI (P : Int)).toBitVec ^^^ (oI (-1)).toBitVec)).toInt = _
    rw [BitVec.toInt_eq_toNat_of_lt (by omega), hn]
  · unfold bt
    rw [Nat.testBit_and, Nat.testBit_xor, Nat.testBit_two_pow_sub_one, decide_eq_true (by omega), Bool.xor_true]
/-- pairs, each once -/
def prs (q : Int → Int → Bool) (n : Nat) : Int := sm (fun g => cnt (fun i => q g i) g.toNat) n
theorem prs_split {q q1 q2 : Int → Int → Bool} {n : Nat} (h : ∀ g i : Int, 0 ≤ i → i < g → g < n → bI (q g i) = bI (q1 g i) + bI (q2 g i)) : prs q n = prs q1 n + prs q2 n := by
  induction n with
  | zero => rfl
  | succ n ih =>
    have e := cnt_split (p := fun i => q n i) (q := fun i => q1 n i) (s := fun i => q2 n i) (n := n) (fun i i0 i1 => h n i i0 i1 (by omega))
    have h2 := ih (fun g i i0 i1 i2 => h g i i0 i1 (by omega))
    unfold prs at h2 ⊢
    rw [sm, sm, sm, h2, Int.toNat_natCast, e]
    omega
theorem prs_congr {q q1 : Int → Int → Bool} {n : Nat} (h : ∀ g i : Int, 0 ≤ i → i < g → g < n → q g i = q1 g i) : prs q n = prs q1 n := by
  unfold prs
  exact sm_congr fun g g0 g1 => cnt_congr fun i i0 i1 => h g i i0 (by omega) g1
theorem prs_bd (q : Int → Int → Bool) {n : Nat} (hn : n ≤ 10) : 0 ≤ prs q n ∧ prs q n ≤ 100 := by
  have h1 : 0 ≤ prs q n := sm_nn fun g g0 g1 => (cnt_le _ _).1
  have h2 : prs q n ≤ 10 * n := sm_le fun g g0 g1 => by have := (cnt_le (fun i => q g i) g.toNat).2; omega
  omega
theorem prs_mul {a c : Int → Bool} : ∀ {n : Nat}, (∀ g : Int, 0 ≤ g → g < n → (a g && c g) = false) → prs (fun g i => (a g && c i) || (a i && c g)) n = cnt a n * cnt c n := by
  intro n
  induction n with
  | zero => intro _; rfl
  | succ n ih =>
    intro h
    have h2 := ih (fun g g0 g1 => h g g0 (by omega))
    have h3 := h n (by omega) (by omega)
    unfold prs at h2 ⊢
    rw [sm, h2, Int.toNat_natCast, cnt, cnt]
    show cnt a n * cnt c n + cnt (fun i => (a n && c i) || (a i && c n)) n = _
    cases ha : a n
    · cases hc : c n
      · have e : cnt (fun i => (false && c i) || (a i && false)) n = 0 := cnt_all0 fun i _ _ => by simp
        rw [e]
        show _ = (cnt a n + 0) * (cnt c n + 0)
        simp
      · have e : cnt (fun i => (false && c i) || (a i && true)) n = cnt a n := cnt_congr fun i _ _ => by simp
        rw [e]
        show _ = (cnt a n + 0) * (cnt c n + 1)
        rw [Int.add_zero, Int.mul_add, Int.mul_one]
    · cases hc : c n
      · have e : cnt (fun i => (true && c i) || (a i && false)) n = cnt c n := cnt_congr fun i _ _ => by simp
        rw [e]
        show _ = (cnt a n + 1) * (cnt c n + 0)
        rw [Int.add_zero, Int.add_mul, Int.one_mul]
      · rw [ha, hc] at h3; cases h3
/-- the pairs that have no route without the way -/
noncomputable def apt (r : Row) (W : Int) (g i : Int) : Bool := decide (dist r W g i = -1)
noncomputable def AP (r : Row) (W : Int) : Int := prs (apt r W) (r 0).toNat
section Pairs
variable {F : Nat} {b : Nat} {w : aI} {r : Row} {W : Int}
theorem c_pairs (hF : 100 ≤ F) (hP : Pb b) (h : Rep w b r) (hWf : WF r) (hW : -1 ≤ W ∧ W < 20) : f_X6_pairsApartWithout F b W w = some (AP r W) := by
  obtain ⟨b0, b1, -⟩ := hWf.1
  have hw := hWf.2.2.1
  have hsym := fun {g x : Int} (hg : 0 ≤ g ∧ g < r 0) (hx : 0 ≤ x ∧ x < r 0) => dist_sym b0 b1 hw hW hg hx
  have htr := fun {g k x : Int} (hg : 0 ≤ g ∧ g < r 0) (hk : 0 ≤ k ∧ k < r 0) (hx : 0 ≤ x ∧ x < r 0) (q1 : ¬ dist r W g k = -1) (q2 : ¬ dist r W k x = -1) => (dist_tr b0 b1 hw hW hg hk hx q1 q2).1
  have key : ∀ (n : Nat) (v : Int) (L : Nat), 0 ≤ v → v ≤ r 0 → r 0 - v < n → L < 1024 → (∀ x, 0 ≤ x → x < 10 → bt L x = true → x < r 0) → (∀ x y, (0 ≤ x ∧ x < r 0) → (0 ≤ y ∧ y < r 0) → ¬ dist r W x y = -1 → bt L x = bt L y) → (∀ x, 0 ≤ x → x < v → bt L x = false) →
      f_X6_pairsApartWithout_b14 F b W w n (prs (fun g i => apt r W g i && (!bt L g || !bt L i)) (r 0).toNat) L v = some (AP r W) := by
    intro n
    induction n with
    | zero => intro v L v0 v1 v2; omega
    | succ n ih =>
      intro v L v0 v1 v2 hL hLr hLc hLv
      show f_X6_pairsApartWithout_b14_b F b W w (f_X6_pairsApartWithout_b14 F b W w n) _ _ _ = _
      unfold f_X6_pairsApartWithout_b14_b
      rw [h.1.2.2.1, gd_t (by omega)]
      by_cases c : r 0 ≤ v
      · rw [if_pos c]
        congr 1
        unfold AP
        refine prs_congr fun g i i0 i1 i2 => ?_
        rw [hLv i i0 (by omega)]
        simp
      · have hv : 0 ≤ v ∧ v < r 0 := by omega
        rw [if_neg c, gd_t (by omega), gd_t (by omega), shr_bit hL v0]
        by_cases c2 : bt L v = true
        · have c2' : L.testBit v.toNat = true := c2
          rw [if_pos c2', gd_t (by omega), if_pos rfl]
          obtain ⟨P, p1, p2, p3⟩ := c_partOf (F := F) (g := v) hF hP h hWf hW hv
          obtain ⟨M, m1, m2, m3⟩ := mask_not hL p2
          rw [p1, bs, m1, lti, c_bits p2, bs, c_bits m2, bs, lti]
          have pL : ∀ x, 0 ≤ x → x < r 0 → bt P x = true → bt L x = true := fun x x0 x1 q => by
            rw [← hLc v x hv ⟨x0, x1⟩ ((p3 x x0 (by omega)).mp q).2]; exact c2
          have pS : ∀ x y, (0 ≤ x ∧ x < r 0) → (0 ≤ y ∧ y < r 0) → ¬ dist r W x y = -1 → bt P x = true → bt P y = true := fun x y hx hy hxy q => by
            have d1 := ((p3 x hx.1 (by omega)).mp q).2
            exact (p3 y hy.1 (by omega)).mpr ⟨hy.2, htr hv hx hy d1 hxy⟩
          have pU : ∀ x y, (0 ≤ x ∧ x < r 0) → (0 ≤ y ∧ y < r 0) → bt P x = true → bt P y = true → ¬ dist r W x y = -1 := fun x y hx hy q1 q2 => by
            have d1 := ((p3 x hx.1 (by omega)).mp q1).2
            have d2 := ((p3 y hy.1 (by omega)).mp q2).2
            rw [hsym hv hx] at d1
            exact htr hx hv hy d1 d2
          have hmul := prs_mul (a := fun x => bt P x) (c := fun x => bt M x) (n := 10) (fun g g0 g1 => by
            show (bt P g && bt M g) = false
            rw [m3 g g0 (by omega)]
            cases bt P g <;> simp)
          have c10 : ∀ D : Nat, (∀ x, 0 ≤ x → x < 10 → bt D x = true → x < r 0) → cnt (fun x => bt D x) 10 = cnt (fun x => bt D x) (r 0).toNat := fun D hD => by
            have : ∀ k : Nat, (r 0).toNat + k ≤ 10 → cnt (fun x => bt D x) ((r 0).toNat + k) = cnt (fun x => bt D x) (r 0).toNat := by
              intro k
              induction k with
              | zero => intro _; rfl
              | succ k ihk =>
                intro hk
                rw [← Nat.add_assoc, cnt, ihk (by omega)]
                have e : bt D (((r 0).toNat + k : Nat) : Int) = false := by
                  cases hq : bt D (((r 0).toNat + k : Nat) : Int)
                  · rfl
                  · have := hD _ (by omega) (by omega) hq
                    omega
                rw [e]
                exact Int.add_zero _
            have h9 := this (10 - (r 0).toNat) (by omega)
            rw [show (r 0).toNat + (10 - (r 0).toNat) = 10 by omega] at h9
            exact h9
          have cP := c10 P (fun x x0 x1 q => ((p3 x x0 x1).mp q).1)
          have cM := c10 M (fun x x0 x1 q => by
            rw [m3 x x0 x1, Bool.and_eq_true] at q
            exact hLr x x0 x1 q.1)
          have hmul2 := prs_mul (a := fun x => bt P x) (c := fun x => bt M x) (n := (r 0).toNat) (fun g g0 g1 => by
            show (bt P g && bt M g) = false
            rw [m3 g g0 (by omega)]
            cases bt P g <;> simp)
          have hsp : prs (fun g i => apt r W g i && (!bt M g || !bt M i)) (r 0).toNat = prs (fun g i => apt r W g i && (!bt L g || !bt L i)) (r 0).toNat + prs (fun g i => (bt P g && bt M i) || (bt P i && bt M g)) (r 0).toNat := by
            refine prs_split fun g i i0 i1 i2 => ?_
            have hg : 0 ≤ g ∧ g < r 0 := by omega
            have hi : 0 ≤ i ∧ i < r 0 := by omega
            rw [m3 g hg.1 (by omega), m3 i hi.1 (by omega)]
            have l1 := pL g hg.1 hg.2
            have l2 := pL i hi.1 hi.2
            have s1 := pS g i hg hi
            have u1 := pU g i hg hi
            have s2 := pS i g hi hg
            rw [hsym hi hg] at s2
            unfold apt
            by_cases cd : dist r W g i = -1
            · rw [decide_eq_true cd]
              cases q1 : bt P g
              · cases q2 : bt P i
                · cases q3 : bt L g <;> cases q4 : bt L i <;> rfl
                · rw [l2 q2]
                  cases q3 : bt L g <;> rfl
              · rw [l1 q1]
                cases q2 : bt P i
                · cases q4 : bt L i <;> rfl
                · exact absurd cd (u1 q1 q2)
            · rw [decide_eq_false cd]
              cases q1 : bt P g
              · cases q2 : bt P i
                · rfl
                · rw [s2 cd q2] at q1; cases q1
              · rw [s1 cd q1]
                cases bt L g <;> cases bt L i <;> rfl
          rw [cP, cM, ← hmul2, ← hsp]
          refine ih (v + 1) M (by omega) (by omega) (by omega) m2 (fun x x0 x1 q => ?_) (fun x y hx hy hxy => ?_) (fun x x0 x1 => ?_)
          · rw [m3 x x0 x1, Bool.and_eq_true] at q
            exact hLr x x0 x1 q.1
          · rw [m3 x hx.1 (by omega), m3 y hy.1 (by omega), hLc x y hx hy hxy]
            have e : bt P x = bt P y := by
              cases q1 : bt P x
              · cases q2 : bt P y
                · rfl
                · rw [pS y x hy hx (by rw [hsym hy hx]; exact hxy) q2] at q1; cases q1
              · exact (pS x y hx hy hxy q1).symm
            rw [e]
          · rw [m3 x x0 (by omega)]
            by_cases e : x = v
            · subst e
              have : bt P x = true := (p3 x x0 (by omega)).mpr ⟨hv.2, by rw [dist_0 b0 b1 hw hW hv]; omega⟩
              rw [this]; simp
            · rw [hLv x x0 (by omega), Bool.false_and]
        · have c2' : ¬ L.testBit v.toNat = true := c2
          have c3 : bt L v = false := by
            cases hq : bt L v
            · rfl
            · exact absurd hq c2
          rw [if_neg c2', gd_t (by omega), if_neg (by omega)]
          refine ih (v + 1) L (by omega) (by omega) (by omega) hL hLr hLc (fun x x0 x1 => ?_)
          by_cases e : x = v
          · rw [e]; exact c3
          · exact hLv x x0 (by omega)
  have e2 : (2 : Nat) ^ (r 0).toNat ≤ 2 ^ 10 := Nat.pow_le_pow_right (by decide) (by omega)
  have e3 : 0 < (2 : Nat) ^ (r 0).toNat := Nat.pow_pos (by decide)
  have e4 : shl 1 (r 0) - 1 = ((2 ^ (r 0).toNat - 1 : Nat) : Int) := by rw [shl_pow1]; omega
  have hbt : ∀ x : Int, 0 ≤ x → bt (2 ^ (r 0).toNat - 1) x = decide (x < r 0) := fun x x0 => by
    unfold bt
    rw [Nat.testBit_two_pow_sub_one]
    by_cases c : x < r 0
    · rw [decide_eq_true c, decide_eq_true (by omega)]
    · rw [decide_eq_false c, decide_eq_false (by omega)]
  unfold f_X6_pairsApartWithout
  rw [h.1.2.2.1, gd_t (by omega), lti, e4]
  have h0 := key F 0 (2 ^ (r 0).toNat - 1) (by omega) (by omega) (by omega) (by omega) (fun x x0 x1 q => by rw [hbt x x0] at q; exact of_decide_eq_true q) (fun x y hx hy _ => by rw [hbt x hx.1, hbt y hy.1, decide_eq_true hx.2, decide_eq_true hy.2]) (fun x x0 x1 => by omega)
  have e5 : prs (fun g i => apt r W g i && (!bt (2 ^ (r 0).toNat - 1) g || !bt (2 ^ (r 0).toNat - 1) i)) (r 0).toNat = 0 := by
    have : ∀ n : Nat, prs (fun _ _ => false) n = 0 := by
      intro n
      induction n with
      | zero => rfl
      | succ n ih =>
        unfold prs at ih ⊢
        rw [sm, ih, cnt_all0 (fun _ _ _ => rfl)]; rfl
    rw [prs_congr (q1 := fun _ _ => false) (fun g i i0 i1 i2 => by
      rw [hbt g (by omega), hbt i i0, decide_eq_true (by omega), decide_eq_true (by omega)]
      simp), this]
  rw [e5] at h0
  exact h0
/-- the reference counts them -/
theorem m_parted {w : aI} (hF : 20000 ≤ F) (hWf : WF r) (hW : -1 ≤ W ∧ W < 20) (h1 : w 211 = r) : ∃ w2, f_X11_partedWithout F 210 W w = some (AP r W, w2) ∧ w2 211 = r ∧ Fm w w2 := by
  obtain ⟨b0, b1, -⟩ := hWf.1
  have hw := hWf.2.2.1
  have k23 : ∀ (k4 : Int → Int → aI → Option (Int × aI)) (g v : Int) (w1 : aI), (0 ≤ g ∧ g < r 0) → w1 211 = r → (∀ x, 0 ≤ x → x < r 0 → w1 216 x = dist r W g x) → ∀ (n i : Nat), (i : Int) ≤ g → g - i < n → f_X11_partedWithout_b23 F 210 W k4 n (v + cnt (fun i => apt r W g i) i) g i w1 = k4 (v + cnt (fun i => apt r W g i) g.toNat) (g + 1) w1 := by
    intro k4 g v w1 hg e1 hq n
    induction n with
    | zero => intro i i1 i2; omega
    | succ n ih =>
      intro i i1 i2
      show f_X11_partedWithout_b23_b F 210 W k4 (f_X11_partedWithout_b23 F 210 W k4 n) _ _ _ _ = _
      unfold f_X11_partedWithout_b23_b
      rw [gd_t (by omega)]
      by_cases c : g ≤ i
      · have e : i = g.toNat := by omega
        rw [if_pos c, ← e]
      · have db := dist_bd b0 b1 hw hW hg (x := (i : Int)) (by omega)
        have nx : f_X11_partedWithout_b23 F 210 W k4 n (v + (cnt (fun i => apt r W g i) i + bI (apt r W g i))) g ((i : Int) + 1) w1 = _ := ih (i + 1) (by omega) (by omega)
        rw [if_neg c, m9, n9, gd_t (by omega), hq i (by omega) (by omega), gd_t (by omega)]
        unfold apt at nx
        by_cases c2 : dist r W g i = -1
        · rw [if_pos c2, m_one F w1 (Or.inr rfl), bs, lti]
          rw [decide_eq_true c2] at nx
          rw [Int.add_assoc]
          exact nx
        · rw [if_neg c2, m_one F w1 (Or.inl rfl), bs, lti]
          rw [decide_eq_false c2] at nx
          rw [Int.add_assoc]
          exact nx
  have k4 : ∀ (n g : Nat) (w1 : aI), (g : Int) ≤ r 0 → r 0 - g < n → w1 211 = r → Fm w w1 → ∃ w2, f_X11_partedWithout_b4 F 210 W n (prs (apt r W) g) g w1 = some (AP r W, w2) ∧ w2 211 = r ∧ Fm w w2 := by
    intro n
    induction n with
    | zero => intro g w1 g1 g2; omega
    | succ n ih =>
      intro g w1 g1 g2 e1 f1
      show ∃ w2, f_X11_partedWithout_b4_b F 210 W (f_X11_partedWithout_b4 F 210 W n) _ _ _ = _ ∧ _
      unfold f_X11_partedWithout_b4_b
      rw [m0, n0, gd_t (by omega), e1, gd_t (by omega)]
      by_cases c : r 0 ≤ g
      · have e : g = (r 0).toNat := by omega
        rw [if_pos c, e]
        exact ⟨w1, rfl, e1, f1⟩
      · have hg : 0 ≤ (g : Int) ∧ (g : Int) < r 0 := by omega
        obtain ⟨q, q1, q2, q3⟩ := m_reckons (F := F) (w := w1) (g := (g : Int)) (W := W) (by omega) (by rw [e1]; exact b0) (by rw [e1]; exact b1) (by rw [e1]; exact hw) hW (by rw [e1]; exact hg)
        rw [e1] at q2
        have x1 : stc w1 216 q 211 = r := by rw [stc_ne (by decide)]; exact e1
        have h23 := k23 (f_X11_partedWithout_b4 F 210 W n) g (prs (apt r W) g) (stc w1 216 q) hg x1 (fun x x0 x1 => by rw [stc_eq]; exact (dist_of hw q2 x0 x1).symm) F 0 (by omega) (by omega)
        have e0 : prs (apt r W) g + cnt (fun i => apt r W g i) 0 = prs (apt r W) g := Int.add_zero _
        rw [e0] at h23
        have h23' : f_X11_partedWithout_b23 F 210 W (f_X11_partedWithout_b4 F 210 W n) F (prs (apt r W) g) g 0 (stc w1 216 q) = _ := h23
        rw [if_neg c, q1, bs, h23']
        have e9 : prs (apt r W) g + cnt (fun i => apt r W g i) (g : Int).toNat = prs (apt r W) (g + 1) := rfl
        rw [e9]
        exact ih (g + 1) _ (by omega) (by omega) x1 (f1.stc q (by omega))
  unfold f_X11_partedWithout
  exact k4 F 0 w (by omega) (by omega) h1 (Fm.refl w)
end Pairs
/-- the way, and how many pairs -/
noncomputable def dwS (r : Row) : Nat → Int × Int
  | 0 => (-1, -1)
  | n + 1 => if AP r n ≤ (dwS r n).2 then dwS r n else ((n : Int), AP r n)
theorem AP_bd {r : Row} (b0 : r 0 ≤ 10) (W : Int) : 0 ≤ AP r W ∧ AP r W ≤ 100 := prs_bd _ (by omega)
theorem dwS_bd {r : Row} (b0 : r 0 ≤ 10) : ∀ n : Nat, n ≤ 20 → -1 ≤ (dwS r n).2 ∧ (dwS r n).2 ≤ 100 := by
  intro n
  induction n with
  | zero => intro _; show -1 ≤ (-1 : Int) ∧ (-1 : Int) ≤ 100; omega
  | succ n ih =>
    intro hn
    have := ih (by omega)
    have := AP_bd b0 (n : Int)
    rw [dwS]
    split
    · assumption
    · show -1 ≤ AP r n ∧ AP r n ≤ 100; omega
theorem top_dearestWay {F : Nat} (hF : 20000 ≤ F) : TopQ (f_X10_dearestWay F 0) (f_X11_dearestWay F 210) := by
  intro w hI
  obtain ⟨hN, hW, h3⟩ := hI.2.2.2.2.1
  obtain ⟨b0, b1, b2, b3, b4, b5, b6⟩ := hW.1
  have hc : f_X10_dearestWay F 0 w = some (dwS (w 211) (w 211 1).toNat).1 := by
    have key : ∀ (n i : Nat), (i : Int) ≤ w 211 1 → w 211 1 - i < n → f_X6_mostNeededWay_b6 F 12 w n (dwS (w 211) i).1 (dwS (w 211) i).2 i = some (dwS (w 211) (w 211 1).toNat).1 := by
      intro n
      induction n with
      | zero => intro i i1 i2; omega
      | succ n ih =>
        intro i i1 i2
        show f_X6_mostNeededWay_b6_b F 12 w (f_X6_mostNeededWay_b6 F 12 w n) _ _ _ = _
        unfold f_X6_mostNeededWay_b6_b
        rw [hN.1.2.2.2.1, gd_t (by omega)]
        by_cases c : w 211 1 ≤ i
        · have e : i = (w 211 1).toNat := by omega
          rw [if_pos c, ← e]
        · have hd := dwS_bd b0.2 i (by omega)
          have ha := AP_bd b0.2 (i : Int)
          have nx : f_X6_mostNeededWay_b6 F 12 w n (if AP (w 211) i ≤ (dwS (w 211) i).2 then dwS (w 211) i else ((i : Int), AP (w 211) i)).1 (if AP (w 211) i ≤ (dwS (w 211) i).2 then dwS (w 211) i else ((i : Int), AP (w 211) i)).2 ((i : Int) + 1) = _ := ih (i + 1) (by omega) (by omega)
          rw [if_neg c, c_pairs (by omega) P12 hN hW (by omega), bs, gd_t (by omega)]
          by_cases c2 : AP (w 211) i ≤ (dwS (w 211) i).2
          · rw [if_pos c2]
            rw [if_pos c2] at nx
            exact nx
          · rw [if_neg c2]
            rw [if_neg c2] at nx
            exact nx
    unfold f_X10_dearestWay f_X6_mostNeededWay
    rw [k5]
    have := key F 0 (by omega) (by omega)
    have t : f_X6_mostNeededWay_b6 F 12 w F (-1) (-1) 0 = _ := this
    rw [t, bs]
  have hm : ∃ w2, f_X11_dearestWay F 210 w = some ((dwS (w 211) (w 211 1).toNat).1, w2) ∧ w2 211 = w 211 ∧ Fm (iset w 210 6 0) w2 := by
    have key : ∀ (n i : Nat) (w1 : aI), (i : Int) ≤ w 211 1 → w 211 1 - i < n → w1 211 = w 211 → Fm (iset w 210 6 0) w1 → ∃ w2, f_X11_dearestWay_b11 F 210 n (dwS (w 211) i).1 (dwS (w 211) i).2 i w1 = some ((dwS (w 211) (w 211 1).toNat).1, w2) ∧ w2 211 = w 211 ∧ Fm (iset w 210 6 0) w2 := by
      intro n
      induction n with
      | zero => intro i w1 i1 i2; omega
      | succ n ih =>
        intro i w1 i1 i2 e1 f1
        show ∃ w2, f_X11_dearestWay_b11_b F 210 (f_X11_dearestWay_b11 F 210 n) _ _ _ _ = _ ∧ _
        unfold f_X11_dearestWay_b11_b
        rw [m0, n0, gd_t (by omega), e1, gd_t (by omega)]
        by_cases c : w 211 1 ≤ i
        · have e : i = (w 211 1).toNat := by omega
          rw [if_pos c, ← e]
          exact ⟨w1, rfl, e1, f1⟩
        · have hd := dwS_bd b0.2 i (by omega)
          have ha := AP_bd b0.2 (i : Int)
          obtain ⟨w2, g1, g2, g3⟩ := m_parted (F := F) (W := (i : Int)) (r := w 211) hF hW (by omega) e1
          have nx : ∃ w3, f_X11_dearestWay_b11 F 210 n (if AP (w 211) i ≤ (dwS (w 211) i).2 then dwS (w 211) i else ((i : Int), AP (w 211) i)).1 (if AP (w 211) i ≤ (dwS (w 211) i).2 then dwS (w 211) i else ((i : Int), AP (w 211) i)).2 ((i : Int) + 1) w2 = _ ∧ _ := ih (i + 1) w2 (by omega) (by omega) g2 (f1.trans g3)
          rw [if_neg c, g1, bj, gd_t (by omega)]
          by_cases c2 : AP (w 211) i ≤ (dwS (w 211) i).2
          · rw [if_pos c2]
            rw [if_pos c2] at nx
            exact nx
          · rw [if_neg c2]
            rw [if_neg c2] at nx
            exact nx
    unfold f_X11_dearestWay
    rw [ltm]
    exact key F 0 (iset w 210 6 0) (by omega) (by omega) (thr_211 w 0) (Fm.refl _)
  obtain ⟨w2, g1, g2, g3⟩ := hm
  exact ⟨_, w2, hc, g1, (hI.thr 0).scratch g3.fw (by rw [g2, thr_211])⟩
