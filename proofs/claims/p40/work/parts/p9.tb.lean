/-! ===== the statements of the law's text ===== -/
def wdz (v : Int) : List Int := if v = 8 then [119, 105, 110, 100] else if v = 9 then [100, 117, 115, 107] else [97, 103, 97, 105, 110]
def bRf (x br ea fe pu : Int) : List Int := [114, 111, 111, 102, 32, 97 + x, 32, 48 + br, 32, 48 + ea, 32, 48 + fe, 32] ++ (dgz pu ++ [59])
def bWy (b a far : Int) : List Int := [119, 97, 121, 32, 97 + b, 32, 97 + a, 32, 48 + far, 59]
def bSt (v k : Int) : List Int := wdz v ++ ([32] ++ (dgz k ++ [59]))
def rRf (r : Row) (x br ea fe pu : Int) : Row := roofA r 1 (fun _ => 97 + x) br ea fe pu
def NmZ (r : Row) : Prop := ∀ y, 0 ≤ y → y < r 0 → r (25 + 13 * y) = 1 ∧ r (25 + 13 * y + 1) = 97 + y
def oRf (r : Row) (x br ea fe pu : Int) : Prop := x = r 0 ∧ r 0 < 10 ∧ (1 ≤ br ∧ br ≤ 8) ∧ (0 ≤ ea ∧ ea ≤ 9) ∧ (0 ≤ fe ∧ fe ≤ 9) ∧ (0 ≤ pu ∧ pu ≤ 99)
def oWy (r : Row) (b a far : Int) : Prop := (0 ≤ a ∧ a < r 0) ∧ (0 ≤ b ∧ b < r 0) ∧ ¬ a = b ∧ r 1 < 20 ∧ (1 ≤ far ∧ far ≤ 9) ∧ wayB r b a = -1
def oSt (v k : Int) : Prop := (8 ≤ v ∧ v ≤ 10) ∧ (v = 8 → k ≤ 9) ∧ (v = 9 → 1 ≤ k ∧ k ≤ 60) ∧ (v = 10 → k ≤ 3) ∧ 0 ≤ k
theorem nm_1 (f : Int → Int) : nm 1 f = f 0 - 96 := by
  unfold nm
  simp only [Int.reduceLT, reduceIte]
  omega
theorem nmR_Z {r : Row} {y : Int} (h : NmZ r) (hy : 0 ≤ y ∧ y < r 0) : nmR r y = 1 + y := by
  obtain ⟨e1, e2⟩ := h y hy.1 hy.2
  unfold nmR
  rw [e1, nm_1, Int.add_zero, e2]
  omega
theorem nmd_Z {r : Row} {x : Int} (h : NmZ r) (hx : 0 ≤ x ∧ x < r 0) : nmd r (1 + x) = x := by
  unfold nmd
  refine ff_at hx.1 (decide_eq_true (nmR_Z h hx)) (fun i i0 i1 => decide_eq_false ?_) (by omega)
  rw [nmR_Z h ⟨i0, by omega⟩]
  omega
theorem nmd_N {r : Row} {x : Int} (h : NmZ r) (hx : x = r 0) : nmd r (1 + x) = -1 := by
  unfold nmd
  refine ff_none fun i i0 i1 => decide_eq_false ?_
  rw [nmR_Z h ⟨i0, by omega⟩]
  omega
theorem roofA_cg {r : Row} {f g : Int → Int} {br ea fe pu : Int} (h : f 0 = g 0) : roofA r 1 f br ea fe pu = roofA r 1 g br ea fe pu := by
  funext k
  unfold roofA
  by_cases c : 25 + 13 * r 0 + 1 ≤ k ∧ k < 25 + 13 * r 0 + 1 + 1
  · rw [if_pos c, if_pos c, show k - (25 + 13 * r 0 + 1) = 0 by omega, h]
  · rw [if_neg c, if_neg c]
theorem xW_l : (xB 18).length = 4 ∧ (xB 19).length = 3 ∧ (xB 20).length = 4 ∧ (xB 21).length = 4 ∧ (xB 22).length = 5 := by decide +kernel
theorem xW_18 : ∀ i, i < 4 → ((xB 18).getD i 0).toInt = ([114, 111, 111, 102] : List Int).getD i 0 := by decide +kernel
theorem xW_19 : ∀ i, i < 3 → ((xB 19).getD i 0).toInt = ([119, 97, 121] : List Int).getD i 0 := by decide +kernel
theorem xW_20 : ∀ i, i < 4 → ((xB 20).getD i 0).toInt = ([119, 105, 110, 100] : List Int).getD i 0 := by decide +kernel
theorem xW_21 : ∀ i, i < 4 → ((xB 21).getD i 0).toInt = ([100, 117, 115, 107] : List Int).getD i 0 := by decide +kernel
theorem xW_22 : ∀ i, i < 5 → ((xB 22).getD i 0).toInt = ([97, 103, 97, 105, 110] : List Int).getD i 0 := by decide +kernel
section Zz
variable {F : Nat} {u : aI} {B : Int → Int} {N p : Int} {r : Row}
/-- a word of small letters that stands at once -/
theorem tok_word {L : List Int} (h : At B N p L) (h1 : 1 ≤ L.length ∧ L.length ≤ 8) (hl : ∀ c ∈ L, 97 ≤ c ∧ c ≤ 122) (h2 : p + L.length < N) (h3 : B (p + L.length) = 32) : tS B N p = p ∧ tE B N p = p + L.length ∧ tK B N p = 1 := by
  have hm : ∀ j : Nat, j < L.length → kd (B (p + j)) = 1 := fun j hj => by
    rw [h.2.2 j hj]
    refine kd_1 (hl _ ?_)
    rw [List.getD_eq_getElem?_getD, List.getElem?_eq_getElem hj]
    exact List.getElem_mem hj
  have h0 := hm 0 (by omega)
  rw [show ((0 : Nat) : Int) = 0 from rfl, Int.add_zero] at h0
  have hS : tS B N p = p := tok_S (Or.inl rfl) (by omega) (by rw [h0]; decide)
  obtain ⟨k1, k2⟩ := tok_W hS h1 hm (by omega) (Or.inr (by rw [h3]; decide))
  exact ⟨hS, k1, k2⟩
theorem z_roof {x br ea fe pu : Int} (hF : 1000 ≤ F) (hc : CS u B N p) (hD : DR u 48 r) (hW : DW r) (hZ : NmZ r) (hA : At B N p (bRf x br ea fe pu)) (ok : oRf r x br ea fe pu) :
    ¬ tK B N p = 0 ∧ ∃ u', f_X5_isStatementRead F 6 u = some (true, u') ∧ CS u' B N (p + (bRf x br ea fe pu).length) ∧ DR u' 48 (rRf r x br ea fe pu) ∧ DW (rRf r x br ea fe pu) ∧ FdzU u u' := by
  obtain ⟨o1, o2, o3, o4, o5, o6⟩ := ok
  have b0 := hW.1
  have hl := dgz_len pu
  have el : ((bRf x br ea fe pu).length : Int) = 13 + (dgz pu).length + 1 := by
    show ((([114, 111, 111, 102, 32, 97 + x, 32, 48 + br, 32, 48 + ea, 32, 48 + fe, 32] : List Int) ++ (dgz pu ++ [59])).length : Int) = _
    rw [List.length_append, List.length_append]
    show (((13 : Nat) + ((dgz pu).length + 1) : Nat) : Int) = _
    omega
  have hN := hA.2.1
  rw [el] at hN ⊢
  have hA0 : At B N p (([114, 111, 111, 102] : List Int) ++ [32, 97 + x, 32, 48 + br, 32, 48 + ea, 32, 48 + fe, 32] ++ (dgz pu ++ [59])) := hA
  obtain ⟨h1, h2⟩ := hA0.app
  obtain ⟨h3, h4⟩ := h1.app
  have h2 : At B N (p + 13) (dgz pu ++ [59]) := h2
  have g : ∀ j : Nat, j < 9 → B (p + 4 + j) = ([32, 97 + x, 32, 48 + br, 32, 48 + ea, 32, 48 + fe, 32] : List Int).getD j 0 := h4.2.2
  have b4 : B (p + 4) = 32 := by have := g 0 (by decide); rw [show p + 4 + ((0 : Nat) : Int) = p + 4 by omega] at this; exact this
  have b5 : B (p + 4 + 1) = 97 + x := g 1 (by decide)
  have b6 : B (p + 4 + 2) = 32 := g 2 (by decide)
  have b7 : B (p + 4 + 3) = 48 + br := g 3 (by decide)
  have b8 : B (p + 4 + 4) = 32 := g 4 (by decide)
  have b9 : B (p + 4 + 5) = 48 + ea := g 5 (by decide)
  have b10 : B (p + 4 + 6) = 32 := g 6 (by decide)
  have b11 : B (p + 4 + 7) = 48 + fe := g 7 (by decide)
  have b12 : B (p + 4 + 8) = 32 := g 8 (by decide)
  rw [show p + 4 + 2 = p + 6 by omega] at b6
  rw [show p + 4 + 3 = p + 6 + 1 by omega] at b7
  rw [show p + 4 + 4 = p + 8 by omega] at b8
  rw [show p + 4 + 5 = p + 8 + 1 by omega] at b9
  rw [show p + 4 + 6 = p + 10 by omega] at b10
  rw [show p + 4 + 7 = p + 10 + 1 by omega] at b11
  rw [show p + 4 + 8 = p + 12 by omega] at b12
  obtain ⟨w1, w2, w3⟩ := tok_word h3 (by decide) (by decide) (show p + 4 < N by omega) b4
  have w2 : tE B N p = p + 4 := w2
  obtain ⟨n1, n2, n3⟩ := tok_l1 (N := N) (p := p + 4) (n := 97 + x) (by omega) b4 b5 (by omega) (by rw [show p + 4 + 2 = p + 6 by omega]; exact b6)
  rw [show p + 4 + 2 = p + 6 by omega] at n2
  obtain ⟨d1, d2, d3⟩ := tok_d1 (N := N) (p := p + 6) (n := br) (by omega) b6 b7 (by omega) (by rw [show p + 6 + 2 = p + 8 by omega, b8]; decide)
  rw [show p + 6 + 2 = p + 8 by omega] at d1
  obtain ⟨d4, d5, d6⟩ := tok_d1 (N := N) (p := p + 8) (n := ea) (by omega) b8 b9 (by omega) (by rw [show p + 8 + 2 = p + 10 by omega, b10]; decide)
  rw [show p + 8 + 2 = p + 10 by omega] at d4
  obtain ⟨d7, d8, d9⟩ := tok_d1 (N := N) (p := p + 10) (n := fe) (by omega) b10 b11 (by omega) (by rw [show p + 10 + 2 = p + 12 by omega, b12]; decide)
  rw [show p + 10 + 2 = p + 12 by omega] at d7
  obtain ⟨s1, s2, s3, s4, s5⟩ := tok_dgz (p := p + 12) (n := pu) (by omega) b12 (by rw [show p + 12 + 1 = p + 13 by omega]; exact h2)
  rw [show p + 12 + 1 = p + 13 by omega] at s2 s5
  have b59 : B (p + 13 + (dgz pu).length) = 59 := by
    have := s5.2.2 0 (by decide)
    rw [show ((0 : Nat) : Int) = 0 from rfl, Int.add_zero] at this
    exact this
  have t1 : tS B N (p + 13 + (dgz pu).length) = p + 13 + (dgz pu).length := tok_S (Or.inl rfl) (by omega) (by rw [b59]; decide)
  obtain ⟨t2, t3⟩ := tok_C t1 (by omega) b59
  have hw : Wd B N p 18 := by
    refine ⟨w3, by rw [w1, w2, xW_l.1]; omega, fun i hi => ?_⟩
    rw [xW_l.1] at hi
    rw [w1, xW_18 i hi]
    exact h3.2.2 i hi
  have hNm : nmH B N (p + 4) = 1 + x := by
    unfold nmH
    rw [n1, n2, show p + 6 - (p + 4 + 1) = 1 by omega, nm_1, Int.add_zero, b5]
    omega
  obtain ⟨u', k1, k2, k3, k4, k5⟩ := c_fiRoof (F := F) (p1 := p + 4) (p2 := p + 6) (p3 := p + 8) (p4 := p + 10) (p5 := p + 12) (p6 := p + 13 + (dgz pu).length) hF hc hD hW hw o2 w2 ⟨n3, by rw [n1, n2]; omega⟩ (by rw [hNm]; exact nmd_N hZ o1) n2 (by unfold nbE; rw [d2, d3, if_pos rfl, if_pos o3]) d1 (by unfold nbE; rw [d5, d6, if_pos rfl, if_pos o4]) d4 (by unfold nbE; rw [d8, d9, if_pos rfl, if_pos o5]) d7 (by unfold nbE; rw [s3, s4, if_pos rfl, if_pos (by omega)]) s2 (by unfold smE; rw [t3, if_pos rfl])
  have er : roofA r (p + 6 - tS B N (p + 4)) (fun k => B (tS B N (p + 4) + k)) (tV B N (p + 6)) (tV B N (p + 8)) (tV B N (p + 10)) (tV B N (p + 12)) = rRf r x br ea fe pu := by
    rw [n1, d3, d6, d9, s4, show p + 6 - (p + 4 + 1) = 1 by omega]
    exact roofA_cg (by show B (p + 4 + 1 + 0) = 97 + x; rw [Int.add_zero]; exact b5)
  rw [er] at k3 k4
  rw [t2] at k2
  exact ⟨by rw [w3]; decide, u', k1, by rw [show p + (13 + ((dgz pu).length : Int) + 1) = p + 13 + (dgz pu).length + 1 by omega]; exact k2, k3, k4, k5⟩
theorem z_way {b a far : Int} (hF : 1000 ≤ F) (hc : CS u B N p) (hD : DR u 48 r) (hW : DW r) (hZ : NmZ r) (hA : At B N p (bWy b a far)) (ok : oWy r b a far) :
    ¬ tK B N p = 0 ∧ ∃ u', f_X5_isStatementRead F 6 u = some (true, u') ∧ CS u' B N (p + (bWy b a far).length) ∧ DR u' 48 (wayA r b a far) ∧ DW (wayA r b a far) ∧ FdzU u u' := by
  obtain ⟨o1, o2, o3, o4, o5, o6⟩ := ok
  have b0 := hW.1
  have el : ((bWy b a far).length : Int) = 10 := rfl
  have hN := hA.2.1
  rw [el] at hN ⊢
  have hA0 : At B N p (([119, 97, 121] : List Int) ++ [32, 97 + b, 32, 97 + a, 32, 48 + far, 59]) := hA
  obtain ⟨h3, h4⟩ := hA0.app
  have g : ∀ j : Nat, j < 7 → B (p + 3 + j) = ([32, 97 + b, 32, 97 + a, 32, 48 + far, 59] : List Int).getD j 0 := h4.2.2
  have b4 : B (p + 3) = 32 := by have := g 0 (by decide); rw [show p + 3 + ((0 : Nat) : Int) = p + 3 by omega] at this; exact this
  have b5 : B (p + 3 + 1) = 97 + b := g 1 (by decide)
  have b6 : B (p + 3 + 2) = 32 := g 2 (by decide)
  have b7 : B (p + 3 + 3) = 97 + a := g 3 (by decide)
  have b8 : B (p + 3 + 4) = 32 := g 4 (by decide)
  have b9 : B (p + 3 + 5) = 48 + far := g 5 (by decide)
  have b10 : B (p + 3 + 6) = 59 := g 6 (by decide)
  rw [show p + 3 + 3 = p + 5 + 1 by omega] at b7
  rw [show p + 3 + 5 = p + 7 + 1 by omega] at b9
  rw [show p + 3 + 6 = p + 9 by omega] at b10
  have b6' : B (p + 5) = 32 := by rw [show p + 5 = p + 3 + 2 by omega]; exact b6
  have b8' : B (p + 7) = 32 := by rw [show p + 7 = p + 3 + 4 by omega]; exact b8
  obtain ⟨w1, w2, w3⟩ := tok_word h3 (by decide) (by decide) (show p + 3 < N by omega) b4
  have w2 : tE B N p = p + 3 := w2
  obtain ⟨n1, n2, n3⟩ := tok_l1 (N := N) (p := p + 3) (n := 97 + b) (by omega) b4 b5 (by omega) b6
  rw [show p + 3 + 2 = p + 5 by omega] at n2
  obtain ⟨m1, m2, m3⟩ := tok_l1 (N := N) (p := p + 5) (n := 97 + a) (by omega) b6' b7 (by omega) (by rw [show p + 5 + 2 = p + 7 by omega]; exact b8')
  rw [show p + 5 + 2 = p + 7 by omega] at m2
  obtain ⟨d1, d2, d3⟩ := tok_d1 (N := N) (p := p + 7) (n := far) (by omega) b8' b9 (by omega) (by rw [show p + 7 + 2 = p + 9 by omega, b10]; decide)
  rw [show p + 7 + 2 = p + 9 by omega] at d1
  have t1 : tS B N (p + 9) = p + 9 := tok_S (Or.inl rfl) (by omega) (by rw [b10]; decide)
  obtain ⟨t2, t3⟩ := tok_C t1 (by omega) b10
  have hn : ¬ Wd B N p 18 := fun z => by
    have := z.2.1
    rw [w1, w2, xW_l.1] at this
    omega
  have hw : Wd B N p 19 := by
    refine ⟨w3, by rw [w1, w2, xW_l.2.1]; omega, fun i hi => ?_⟩
    rw [xW_l.2.1] at hi
    rw [w1, xW_19 i hi]
    exact h3.2.2 i hi
  have e1 : nmd r (nmH B N (p + 3)) = b := by
    have : nmH B N (p + 3) = 1 + b := by
      unfold nmH
      rw [n1, n2, show p + 5 - (p + 3 + 1) = 1 by omega, nm_1, Int.add_zero, b5]
      omega
    rw [this]; exact nmd_Z hZ o2
  have e2 : nmd r (nmH B N (p + 5)) = a := by
    have : nmH B N (p + 5) = 1 + a := by
      unfold nmH
      rw [m1, m2, show p + 7 - (p + 5 + 1) = 1 by omega, nm_1, Int.add_zero, b7]
      omega
    rw [this]; exact nmd_Z hZ o1
  obtain ⟨u', k1, k2, k3, k4, k5⟩ := c_fiWay (F := F) (p1 := p + 3) (p2 := p + 5) (p3 := p + 7) (p4 := p + 9) (x := b) (y := a) hF hc hD hW hn hw o4 w2 (by unfold rhE; rw [if_pos ⟨n3, by rw [n1, n2]; omega⟩, e1, if_neg (by omega)]) e1 n2 (by unfold rhE; rw [if_pos ⟨m3, by rw [m1, m2]; omega⟩, e2, if_neg (by omega)]) e2 o6 m2 (by unfold nbE; rw [d2, d3, if_pos rfl, if_pos o5]) d1 (by unfold smE; rw [t3, if_pos rfl])
  rw [d3] at k3 k4
  rw [t2] at k2
  exact ⟨by rw [w3]; decide, u', k1, by rw [show p + 10 = p + 9 + 1 by omega]; exact k2, k3, k4, k5⟩
theorem c_fiSet {p1 p2 v : Int} (hF : 1000 ≤ F) (hc : CS u B N p) (hD : DR u 48 r) (hW : DW r) (hn : ¬ Wd B N p 18) (hn2 : ¬ Wd B N p 19) (hv : swd B N p = v) (h8 : 8 ≤ v ∧ v ≤ 10) (e1 : tE B N p = p1) (n1 : nbE B N p1 (loV v) (hiV v) = 0) (e2 : tE B N p1 = p2) (n2 : smE B N p2 = 0) :
    ∃ u', f_X5_isStatementRead F 6 u = some (true, u') ∧ CS u' B N (tE B N p2) ∧ DR u' 48 (setT r v (tV B N p1)) ∧ DW (setT r v (tV B N p1)) ∧ FdzU u u' := by
  have id1 : ∀ (o : Option (Bool × aI)), bKW o (fun a b => some (a, b)) = o := fun o => by cases o <;> rfl
  have b0 := hW.1
  have b1 := hW.2.1
  have lo : ∀ w, f_X2_leastOf F v w = some (loV v) := fun w => by
    unfold f_X2_leastOf loV
    rw [gd_t (by omega)]
    split <;> rfl
  have hi : ∀ w, f_X2_mostOf F v w = some (hiV v) := fun w => by
    unfold f_X2_mostOf hiV
    rw [gd_t (by omega)]
    split
    · rfl
    · split <;> rfl
  have bd : (0 ≤ loV v ∧ loV v ≤ 1) ∧ 3 ≤ hiV v ∧ hiV v ≤ 60 := by
    unfold loV hiV
    repeat' split
    all_goals omega
  unfold f_X5_isStatementRead
  rw [p60, c_isWord hF (by decide) hc, bs, if_neg (by rw [decide_eq_true_iff]; exact hn), c_isWord hF (by decide) hc, bs, if_neg (by rw [decide_eq_true_iff]; exact hn2), c_setWord hF hc, bs, hv, gd_t (by omega), if_neg (by omega), id1]
  unfold f_X5_isSettingRead
  obtain ⟨u1, a1, a2, a3⟩ := c_next hF hc
  rw [e1] at a2
  obtain ⟨u4, s4, s5, s6⟩ := (c_takeNum (F := F) (lo := loV v) (hi := hiV v) hF a2 (by omega) (by omega)).1 n1
  rw [e2] at s5
  obtain ⟨u7, o1, o2, o3⟩ := (c_semi (F := F) hF s5).1 n2
  have w3 := nb_v n1
  have D7 := (((hD.fk a3).fk s6).fk o3)
  obtain ⟨u8, o7, o8, o9⟩ := c_settleD (F := F) (v := v) (k := tV B N p1) P48 D7 b0.2 b1.2 h8
  rw [p60, p61, a1, bs, lo, bs, hi, bs, s4, bj, gd_t (by omega), if_neg (by omega), o1, bk, if_pos rfl, o7, bs]
  refine ⟨u8, rfl, o2.cut o9, o8, setT_DW hW h8 ?_, (((a3.fd.trans s6.fd).trans o3.fd).trans o9.fd)⟩
  unfold loV hiV at w3
  repeat' split at w3
  all_goals omega
theorem z_set {v k : Int} (hF : 1000 ≤ F) (hc : CS u B N p) (hD : DR u 48 r) (hW : DW r) (hA : At B N p (bSt v k)) (ok : oSt v k) :
    ¬ tK B N p = 0 ∧ ∃ u', f_X5_isStatementRead F 6 u = some (true, u') ∧ CS u' B N (p + (bSt v k).length) ∧ DR u' 48 (setT r v k) ∧ DW (setT r v k) ∧ FdzU u u' := by
  obtain ⟨o1, o2, o3, o4, o5⟩ := ok
  have hl := dgz_len k
  have hk9 : 0 ≤ k ∧ k ≤ 99 := by omega
  have hb0 := hc.bd
  have hA0 : At B N p (wdz v ++ ([32] ++ (dgz k ++ [59]))) := hA
  obtain ⟨h1, h2⟩ := hA0.app
  obtain ⟨h3, h4⟩ := h2.app
  have el : ((bSt v k).length : Int) = (wdz v).length + 1 + (dgz k).length + 1 := by
    show ((wdz v ++ ([32] ++ (dgz k ++ [59]))).length : Int) = _
    rw [List.length_append, List.length_append, List.length_append]
    show (((wdz v).length + ((1 : Nat) + ((dgz k).length + 1)) : Nat) : Int) = _
    omega
  have hN := hA.2.1
  rw [el] at hN ⊢
  have b4 : B (p + (wdz v).length) = 32 := by
    have := h3.2.2 0 (by decide)
    rw [show ((0 : Nat) : Int) = 0 from rfl, Int.add_zero] at this
    exact this
  have hwl : (4 ≤ (wdz v).length ∧ (wdz v).length ≤ 5) ∧ ∀ c ∈ wdz v, 97 ≤ c ∧ c ≤ 122 := by
    unfold wdz
    split
    · decide
    · split
      · decide
      · decide
  obtain ⟨w1, w2, w3⟩ := tok_word h1 (by omega) hwl.2 (by omega) b4
  have h4 : At B N (p + (wdz v).length + 1) (dgz k ++ [59]) := h4
  obtain ⟨s1, s2, s3, s4, s5⟩ := tok_dgz (p := p + (wdz v).length) (n := k) hk9 b4 h4
  have b59 : B (p + (wdz v).length + 1 + (dgz k).length) = 59 := by
    have := s5.2.2 0 (by decide)
    rw [show ((0 : Nat) : Int) = 0 from rfl, Int.add_zero] at this
    exact this
  have t1 : tS B N (p + (wdz v).length + 1 + (dgz k).length) = p + (wdz v).length + 1 + (dgz k).length := tok_S (Or.inl rfl) (by omega) (by rw [b59]; decide)
  obtain ⟨t2, t3⟩ := tok_C t1 (by omega) b59
  have first : B (p + ((0 : Nat) : Int)) = (wdz v).getD 0 0 := h1.2.2 0 (by omega)
  have hv3 : v = 8 ∨ v = 9 ∨ v = 10 := by omega
  have hn : ¬ Wd B N p 18 := fun z => by
    have q1 := z.2.1
    have q2 := z.2.2 0 (by rw [xW_l.1]; decide)
    rw [w1, w2, xW_l.1] at q1
    rw [w1, xW_18 0 (by decide), first] at q2
    rcases hv3 with rfl | rfl | rfl
    · exact absurd q2 (by decide)
    · exact absurd q2 (by decide)
    · exact absurd q2 (by decide)
  have hn2 : ¬ Wd B N p 19 := fun z => by
    have q1 := z.2.1
    rw [w1, w2, xW_l.2.1] at q1
    omega
  have hs : swd B N p = v := by
    unfold swd
    rcases hv3 with rfl | rfl | rfl
    · rw [if_pos ⟨w3, by rw [w1, w2, xW_l.2.2.1]; show p + 4 - p = 4; omega, fun i hi => by
        rw [xW_l.2.2.1] at hi
        rw [w1, xW_20 i hi]
        exact h1.2.2 i hi⟩]
    · rw [if_neg (fun z => by
        have q2 := z.2.2 0 (by rw [xW_l.2.2.1]; decide)
        rw [w1, xW_20 0 (by decide), first] at q2
        exact absurd q2 (by decide)), if_pos ⟨w3, by rw [w1, w2, xW_l.2.2.2.1]; show p + 4 - p = 4; omega, fun i hi => by
        rw [xW_l.2.2.2.1] at hi
        rw [w1, xW_21 i hi]
        exact h1.2.2 i hi⟩]
    · rw [if_neg (fun z => by
        have q2 := z.2.2 0 (by rw [xW_l.2.2.1]; decide)
        rw [w1, xW_20 0 (by decide), first] at q2
        exact absurd q2 (by decide)), if_neg (fun z => by
        have q2 := z.2.2 0 (by rw [xW_l.2.2.2.1]; decide)
        rw [w1, xW_21 0 (by decide), first] at q2
        exact absurd q2 (by decide)), if_pos ⟨w3, by rw [w1, w2, xW_l.2.2.2.2]; show p + 5 - p = 5; omega, fun i hi => by
        rw [xW_l.2.2.2.2] at hi
        rw [w1, xW_22 i hi]
        exact h1.2.2 i hi⟩]
  obtain ⟨u', k1, k2, k3, k4, k5⟩ := c_fiSet (F := F) (p1 := p + (wdz v).length) (p2 := p + (wdz v).length + 1 + (dgz k).length) (v := v) hF hc hD hW hn hn2 hs o1 w2 (by
    unfold nbE
    rw [s3, s4, if_pos rfl, if_pos]
    unfold loV hiV
    rcases hv3 with rfl | rfl | rfl
    · exact ⟨o5, o2 rfl⟩
    · exact o3 rfl
    · exact ⟨o5, o4 rfl⟩) s2 (by unfold smE; rw [t3, if_pos rfl])
  rw [s4] at k3 k4
  rw [t2] at k2
  exact ⟨by rw [w3]; decide, u', k1, by rw [show p + ((wdz v).length + 1 + ((dgz k).length : Int) + 1) = p + (wdz v).length + 1 + (dgz k).length + 1 by omega]; exact k2, k3, k4, k5⟩
end Zz
