/-! ===== the dearest way: parts of the roofs as bits ===== -/
def bt (C : Nat) (x : Int) : Bool := C.testBit x.toNat
def SubB (C D : Nat) : Prop := ∀ k : Nat, C.testBit k = true → D.testBit k = true
theorem SubB.refl (C : Nat) : SubB C C := fun _ h => h
theorem SubB.trans {C D E : Nat} (h : SubB C D) (k : SubB D E) : SubB C E := fun j q => k j (h j q)
theorem SubB.anti {C D : Nat} (h : SubB C D) (k : SubB D C) : C = D := by
  apply Nat.eq_of_testBit_eq
  intro i
  cases hc : C.testBit i
  · cases hd : D.testBit i
    · rfl
    · rw [k i hd] at hc; cases hc
  · exact (h i hc).symm
theorem shl_pow1 {a : Int} : shl 1 a = ((2 ^ a.toNat : Nat) : Int) := by
  unfold shl
  rw [Int.one_mul, Int.natCast_pow]
  rfl
/-- two ends as bits -/
def ebit (A B : Int) : Nat := 2 ^ A.toNat ||| 2 ^ B.toNat
theorem ebit_bit (A B : Int) (k : Nat) : (ebit A B).testBit k = (decide (A.toNat = k) || decide (B.toNat = k)) := by
  unfold ebit
  rw [Nat.testBit_or, Nat.testBit_two_pow, Nat.testBit_two_pow]
theorem ebit_or {A B : Int} (hA : 0 ≤ A ∧ A < 10) (hB : 0 ≤ B ∧ B < 10) : orI (shl 1 A) (shl 1 B) = (ebit A B : Int) ∧ ebit A B < 1024 := by
  have h2 : (2 : Nat) ^ A.toNat < 2 ^ 10 := Nat.pow_lt_pow_right (by decide) (by omega)
  rw [shl_pow1 (a := A)]
  exact or_bit h2 hB
theorem ebit_and {C : Nat} (hC : C < 1024) {A B : Int} (hA : 0 ≤ A ∧ A < 10) (hB : 0 ≤ B ∧ B < 10) : andI (C : Int) (ebit A B : Int) = ((C &&& ebit A B : Nat) : Int) ∧ ((C &&& ebit A B) = 0 ↔ bt C A = false ∧ bt C B = false) := by
  have hE := (ebit_or hA hB).2
  refine ⟨andI_nat (by omega) (by omega), fun h => ⟨?_, ?_⟩, fun h => ?_⟩
  · have e : (C &&& ebit A B).testBit A.toNat = false := by rw [h]; exact Nat.zero_testBit _
    rw [Nat.testBit_and, ebit_bit, decide_eq_true rfl, Bool.true_or, Bool.and_true] at e
    exact e
  · have e : (C &&& ebit A B).testBit B.toNat = false := by rw [h]; exact Nat.zero_testBit _
    rw [Nat.testBit_and, ebit_bit, decide_eq_true (rfl : B.toNat = B.toNat), Bool.or_true, Bool.and_true] at e
    exact e
  · apply Nat.eq_of_testBit_eq
    intro i
    rw [Nat.zero_testBit, Nat.testBit_and, ebit_bit]
    by_cases c1 : A.toNat = i
    · have := h.1
      unfold bt at this
      rw [c1] at this
      rw [this, Bool.false_and]
    · by_cases c2 : B.toNat = i
      · have := h.2
        unfold bt at this
        rw [c2] at this
        rw [this, Bool.false_and]
      · rw [decide_eq_false c1, decide_eq_false c2, Bool.or_false, Bool.and_false]
theorem bt_or (C : Nat) {A B x : Int} (hA : 0 ≤ A) (hB : 0 ≤ B) (hx : 0 ≤ x) : bt (C ||| ebit A B) x = (bt C x || (decide (x = A) || decide (x = B))) := by
  unfold bt
  rw [Nat.testBit_or, ebit_bit]
  congr 1
  congr 1
  · by_cases c : x = A
    · rw [decide_eq_true c, decide_eq_true (by omega)]
    · rw [decide_eq_false c, decide_eq_false (by omega)]
  · by_cases c : x = B
    · rw [decide_eq_true c, decide_eq_true (by omega)]
    · rw [decide_eq_false c, decide_eq_false (by omega)]
/-- a number of ten bits, a bit for roofs to which g has a route -/
def Snd (r : Row) (W g : Int) (C : Nat) : Prop := C < 1024 ∧ ∀ x, 0 ≤ x → x < 10 → bt C x = true → x < r 0 ∧ ¬ dist r W g x = -1
def ClsN (r : Row) (W : Int) (C : Nat) (n : Int) : Prop := ∀ j x y, 0 ≤ j → j < n → ¬ j = W → En2 r j x y → bt C x = bt C y
section Part
variable {F : Nat} {b : Nat} {w : aI} {r : Row} {W g : Int}
theorem c_part22 {k7 : Int → Int → Option Int} {p1 t : Int} (hP : Pb b) (h : Rep w b r) (hWf : WF r) (hW : -1 ≤ W ∧ W < 20) (hg : 0 ≤ g ∧ g < r 0) {C0 : Nat} (hC0 : C0 < 1024) :
    ∀ (n i C : Nat), (i : Int) ≤ r 1 → r 1 - i < n → Snd r W g C → SubB C0 C → (C = C0 → ClsN r W C i) → ∃ C2 : Nat, Snd r W g C2 ∧ SubB C0 C2 ∧ (C2 = C0 → ClsN r W C2 (r 1)) ∧ f_X6_partOf_b22 F b p1 W w k7 n C t C0 i = if (C2 : Int) = C0 then some (C2 : Int) else k7 C2 (t + 1) := by
  obtain ⟨b0, b1, -⟩ := hWf.1
  have hw := hWf.2.2.1
  intro n
  induction n with
  | zero => intro i C i1 i2; omega
  | succ n ih =>
    intro i C i1 i2 hC hS hcl
    show ∃ C2 : Nat, _ ∧ _ ∧ _ ∧ f_X6_partOf_b22_b F b p1 W w k7 (f_X6_partOf_b22 F b p1 W w k7 n) _ _ _ _ = _
    unfold f_X6_partOf_b22_b
    have hC9 := hC.1
    rw [h.1.2.2.2.1, gd_t (by omega)]
    by_cases c : r 1 ≤ i
    · have e : (i : Int) = r 1 := by omega
      rw [e] at hcl
      rw [if_pos c, gd_t (by omega)]
      exact ⟨C, hC, hS, hcl, rfl⟩
    · have hi : 0 ≤ (i : Int) ∧ (i : Int) < r 1 := by omega
      have a := hw.1 i hi.1 hi.2
      rw [if_neg c, pf5 hP, c_way hP h b1 hi (by omega), bs, Int.add_zero, gd_t (by omega), c_way hP h b1 hi (by omega), bs, gd_t (by omega), lti]
      obtain ⟨A, hA⟩ : ∃ A, A = r (160 + 3 * (i : Int)) := ⟨_, rfl⟩
      obtain ⟨B, hB⟩ : ∃ B, B = r (160 + 3 * (i : Int) + 1) := ⟨_, rfl⟩
      have eAB : En2 r i A B := Or.inl ⟨hA.symm, hB.symm⟩
      have eN : ∀ x y, En2 r i x y → (x = A ∧ y = B) ∨ (x = B ∧ y = A) := fun x y e => by
        rcases e with ⟨e1, e2⟩ | ⟨e1, e2⟩
        · left; omega
        · right; omega
      rw [← hA, ← hB] at a ⊢
      have hA9 : 0 ≤ A ∧ A < 10 := by omega
      have hB9 : 0 ≤ B ∧ B < 10 := by omega
      obtain ⟨o1, o2⟩ := ebit_or hA9 hB9
      rw [o1, gd_t (by omega)]
      by_cases c2 : (i : Int) = W
      · rw [if_pos c2]
        refine ih (i + 1) C (by omega) (by omega) hC hS (fun e j x y j0 j1 j2 ej => ?_)
        exact hcl e j x y j0 (by omega) j2 ej
      · obtain ⟨n1, n2⟩ := ebit_and hC9 hA9 hB9
        rw [if_neg c2, n1, gd_t (by have := Nat.and_le_left (n := C) (m := ebit A B); omega)]
        by_cases c3 : (C &&& ebit A B) = 0
        · rw [if_pos (by omega)]
          refine ih (i + 1) C (by omega) (by omega) hC hS (fun e j x y j0 j1 j2 ej => ?_)
          by_cases cj : j = i
          · subst cj
            have nn := n2.mp c3
            rcases eN x y ej with ⟨q1, q2⟩ | ⟨q1, q2⟩ <;> rw [q1, q2, nn.1, nn.2]
          · exact hcl e j x y j0 (by omega) j2 ej
        · rw [if_neg (by omega), lti, orI_nat (by omega) (by omega)]
          have hlt : (C ||| ebit A B) < 1024 := Nat.or_lt_two_pow (n := 10) hC9 o2
          have hsub : SubB C (C ||| ebit A B) := fun k q => by rw [Nat.testBit_or, q, Bool.true_or]
          have hd : ¬ dist r W g A = -1 ∧ ¬ dist r W g B = -1 := by
            have hor : bt C A = true ∨ bt C B = true := by
              cases hp : bt C A
              · cases hq : bt C B
                · exact absurd (n2.mpr ⟨hp, hq⟩) c3
                · right; rfl
              · left; rfl
            rcases hor with q | q
            · have d := (hC.2 A hA9.1 hA9.2 q).2
              exact ⟨d, ((isd b0 b1 hw hW hg).2.2.1 i hi.1 hi.2 c2 B A eAB.sym d).1⟩
            · have d := (hC.2 B hB9.1 hB9.2 q).2
              exact ⟨((isd b0 b1 hw hW hg).2.2.1 i hi.1 hi.2 c2 A B eAB d).1, d⟩
          have hbt : ∀ x, 0 ≤ x → bt (C ||| ebit A B) x = (bt C x || (decide (x = A) || decide (x = B))) := fun x x0 => bt_or C hA9.1 hB9.1 x0
          refine ih (i + 1) (C ||| ebit A B) (by omega) (by omega) ⟨hlt, fun x x0 x1 q => ?_⟩ (hS.trans hsub) (fun e j x y j0 j1 j2 ej => ?_)
          · rw [hbt x x0, Bool.or_eq_true, Bool.or_eq_true, decide_eq_true_iff, decide_eq_true_iff] at q
            rcases q with q | q | q
            · exact hC.2 x x0 x1 q
            · rw [q]; exact ⟨by omega, hd.1⟩
            · rw [q]; exact ⟨by omega, hd.2⟩
          · have eC : C = C0 := by
              rw [e] at hsub
              exact hsub.anti hS
            by_cases cj : j = i
            · subst cj
              have p1 : bt (C ||| ebit A B) A = true := by rw [hbt A hA9.1, decide_eq_true rfl, Bool.true_or, Bool.or_true]
              have p2 : bt (C ||| ebit A B) B = true := by rw [hbt B hB9.1, decide_eq_true (rfl : B = B), Bool.or_true, Bool.or_true]
              rcases eN x y ej with ⟨q1, q2⟩ | ⟨q1, q2⟩ <;> rw [q1, q2, p1, p2]
            · rw [e, ← eC]
              exact hcl eC j x y j0 (by omega) j2 ej
/-- closed under the ways, with g: all that g has a route to -/
theorem cls_all {C : Nat} (hWf : WF r) (hW : -1 ≤ W ∧ W < 20) (hg : 0 ≤ g ∧ g < r 0) (hc : ClsN r W C (r 1)) (hb : bt C g = true) : ∀ (n : Nat) (x : Int), 0 ≤ x → x < r 0 → ¬ dist r W g x = -1 → dist r W g x ≤ n → bt C x = true := by
  obtain ⟨b0, b1, -⟩ := hWf.1
  have hw := hWf.2.2.1
  intro n
  induction n with
  | zero =>
    intro x x0 x1 hx hn
    by_cases c : x = g
    · subst c; exact hb
    · obtain ⟨i, y, i0, i1, i2, e, e1, e2⟩ := (isd b0 b1 hw hW hg).2.2.2 x x0 x1 c hx
      have a := e.rg hw i0 i1
      have := dist_bd b0 b1 hw hW hg a.2.1
      omega
  | succ n ih =>
    intro x x0 x1 hx hn
    by_cases c : x = g
    · subst c; exact hb
    · obtain ⟨i, y, i0, i1, i2, e, e1, e2⟩ := (isd b0 b1 hw hW hg).2.2.2 x x0 x1 c hx
      have a := e.rg hw i0 i1
      rw [hc i x y i0 i1 i2 e]
      exact ih y a.2.1.1 a.2.1.2 e1 (by omega)
theorem c_partOf (hF : 100 ≤ F) (hP : Pb b) (h : Rep w b r) (hWf : WF r) (hW : -1 ≤ W ∧ W < 20) (hg : 0 ≤ g ∧ g < r 0) :
    ∃ C : Nat, f_X6_partOf F b g W w = some (C : Int) ∧ C < 1024 ∧ ∀ x, 0 ≤ x → x < 10 → (bt C x = true ↔ x < r 0 ∧ ¬ dist r W g x = -1) := by
  obtain ⟨b0, b1, -⟩ := hWf.1
  have hw := hWf.2.2.1
  have d0 := dist_0 b0 b1 hw hW hg
  have key : ∀ (n : Nat) (t : Int) (C : Nat), 0 ≤ t → t ≤ r 0 → r 0 - t < n → Snd r W g C → bt C g = true → t ≤ cnt (fun x => bt C x) (r 0).toNat → ∃ C2 : Nat, f_X6_partOf_b7 F b g W w n C t = some (C2 : Int) ∧ C2 < 1024 ∧ ∀ x, 0 ≤ x → x < 10 → (bt C2 x = true ↔ x < r 0 ∧ ¬ dist r W g x = -1) := by
    intro n
    induction n with
    | zero => intro t C t0 t1 t2; omega
    | succ n ih =>
      intro t C t0 t1 t2 hC hb ht
      show ∃ C2 : Nat, f_X6_partOf_b7_b F b g W w (f_X6_partOf_b7 F b g W w n) _ _ = _ ∧ _
      unfold f_X6_partOf_b7_b
      have hC9 := hC.1
      rw [h.1.2.2.1, gd_t (by omega)]
      by_cases c : r 0 ≤ t
      · rw [if_pos c]
        refine ⟨C, rfl, hC9, fun x x0 x1 => ⟨hC.2 x x0 x1, fun q => ?_⟩⟩
        have hall : ∀ x : Int, 0 ≤ x → x < r 0 → bt C x = true := by
          intro x x0 x1
          cases hx : bt C x
          · have := cnt_less (p := fun x => bt C x) (q := fun _ => true) (n := (r 0).toNat) (k := x) (fun _ _ _ _ => rfl) x0 (by omega) hx rfl
            have h2 := cnt_le (fun _ => true) (r 0).toNat
            omega
          · rfl
        exact hall x x0 q.1
      · rw [if_neg c]
        obtain ⟨C2, s1, s2, s3, s4⟩ := c_part22 (F := F) (k7 := f_X6_partOf_b7 F b g W w n) (p1 := g) (t := t) hP h hWf hW hg hC9 F 0 C (by omega) (by omega) hC (SubB.refl C) (fun _ j x y j0 j1 => by omega)
        have hb2 : bt C2 g = true := s2 _ hb
        have s4' : f_X6_partOf_b22 F b g W w (f_X6_partOf_b7 F b g W w n) F C t C 0 = _ := s4
        rw [s4']
        by_cases c2 : C2 = C
        · rw [if_pos (by omega)]
          refine ⟨C2, rfl, s1.1, fun x x0 x1 => ⟨s1.2 x x0 x1, fun q => ?_⟩⟩
          have dx := dist_bd b0 b1 hw hW hg ⟨x0, q.1⟩
          exact cls_all hWf hW hg (s3 c2) hb2 (dist r W g x).toNat x x0 q.1 q.2 (by omega)
        · rw [if_neg (by omega)]
          refine ih (t + 1) C2 (by omega) (by omega) (by omega) s1 hb2 ?_
          have hnew : ∃ k : Nat, C2.testBit k = true ∧ C.testBit k = false := by
            apply Classical.byContradiction
            intro q
            apply c2
            refine SubB.anti (fun k hk => ?_) s2
            cases hc : C.testBit k
            · exact absurd ⟨k, hk, hc⟩ q
            · rfl
          obtain ⟨k, q1, q2⟩ := hnew
          have hk10 : k < 10 := by
            apply Classical.byContradiction
            intro q
            have : (2 : Nat) ^ 10 ≤ 2 ^ k := Nat.pow_le_pow_right (by decide) (by omega)
            have e9 := Nat.testBit_lt_two_pow (x := C2) (i := k) (by have := s1.1; omega)
            rw [e9] at q1
            cases q1
          have hk := (s1.2 (k : Int) (by omega) (by omega) (by unfold bt; rw [Int.toNat_natCast]; exact q1)).1
          have := cnt_less (p := fun x => bt C x) (q := fun x => bt C2 x) (n := (r 0).toNat) (k := (k : Int)) (fun i _ _ z => s2 _ z) (by omega) (by omega) (by unfold bt; rw [Int.toNat_natCast]; exact q2) (by unfold bt; rw [Int.toNat_natCast]; exact q1)
          omega
  unfold f_X6_partOf
  rw [gd_t (by omega), lti, shl_pow1]
  have hb : ∀ x, bt (2 ^ g.toNat) x = decide (g.toNat = x.toNat) := fun x => by unfold bt; rw [Nat.testBit_two_pow]
  have h2 : (2 : Nat) ^ g.toNat < 2 ^ 10 := Nat.pow_lt_pow_right (by decide) (by omega)
  refine key F 1 (2 ^ g.toNat) (by omega) (by omega) (by omega) ⟨h2, fun x x0 x1 q => ?_⟩ (by rw [hb]; exact decide_eq_true rfl) ?_
  · rw [hb] at q
    have := of_decide_eq_true q
    have e : x = g := by omega
    rw [e]
    exact ⟨hg.2, by omega⟩
  · have := cnt_less (p := fun _ => false) (q := fun x => bt (2 ^ g.toNat) x) (n := (r 0).toNat) (k := g) (fun _ _ _ z => by cases z) hg.1 (by omega) rfl (by rw [hb]; exact decide_eq_true rfl)
    rw [cnt_all0 (p := fun _ => false) (fun _ _ _ => rfl)] at this
    omega
end Part
