/-! ===== the roads: over every roof, and where they begin ===== -/
def AllS (R : Int) (S : Int → Int → Int) (f : Int → Int) : Prop := ∀ p q, (0 ≤ p ∧ p < R) → (0 ≤ q ∧ q < R) → f (10 * p + q) = S p q
def MixS (R : Int) (S T : Int → Int → Int) (x y : Int) (f : Int → Int) : Prop := ∀ p q, (0 ≤ p ∧ p < R) → (0 ≤ q ∧ q < R) → f (10 * p + q) = if p < x ∨ (p = x ∧ q < y) then T p q else S p q
section Fw
variable {F : Nat} {b c : Nat} {R : Int} {w : aI}
theorem fw_b75 {k54 : Int → aI → Option aI} {k64 : Int → Int → aI → Option aI} {S : Int → Int → Int} {k : Int} (hP : Pb b) (hK : TOK w b) (hc : ¬ c = b + 15) (h1 : w c 1 = R) (hR : 2 ≤ R ∧ R ≤ 10) (hS : ∀ x y, (0 ≤ x ∧ x < R) → (0 ≤ y ∧ y < R) → 0 ≤ S x y ∧ S x y ≤ 9999) (hk : 0 ≤ k ∧ k < R) (hkk : S k k = 0) {x : Int} (hx : 0 ≤ x ∧ x < R) :
    ∀ (n : Nat) (y : Int) (f : Int → Int), 0 ≤ y → y ≤ R → R - y < n → MixS R S (fwT S k) x y f → ∃ f2, f_X3_lay_b75 F (b + 11) c k54 k64 n k x y (stc w (b + 15) f) = k64 k (x + 1) (stc w (b + 15) f2) ∧ MixS R S (fwT S k) (x + 1) 0 f2 := by
  intro n
  induction n with
  | zero => intro y f y0 y1 y2; omega
  | succ n ih =>
    intro y f y0 y1 y2 hf
    show ∃ f2, f_X3_lay_b75_b F (b + 11) c k54 k64 (f_X3_lay_b75 F (b + 11) c k54 k64 n) _ _ _ _ = _ ∧ _
    unfold f_X3_lay_b75_b
    rw [stc_ne hc, h1, gd_t (by omega)]
    by_cases c2 : R ≤ y
    · rw [if_pos c2]
      refine ⟨f, rfl, fun p q hp hq => ?_⟩
      rw [hf p q hp hq, ite_iff (show (p < x ∨ (p = x ∧ q < y)) ↔ (p < x + 1 ∨ (p = x + 1 ∧ q < 0)) by omega)]
    · have K1 : ∀ f, TOK (stc w (b + 15) f) b := fun f => hK.stc (by omega)
      have a1 := hS x k hx hk
      have a2 := hS k y hk (by omega)
      have a3 := hS x y hx (by omega)
      have e1 : f (10 * x + k) = S x k := by
        rw [hf x k hx hk]
        split
        · rw [fwT_at]; omega
        · rfl
      have e2 : f (10 * k + y) = S k y := by
        rw [hf k y hk (by omega)]
        split
        · rw [fwT_at]; omega
        · rfl
      have e3 : f (10 * x + y) = S x y := by
        rw [hf x y hx (by omega), if_neg (by omega)]
      rw [if_neg c2, pr1 hP, getM hP (K1 f) (by omega) (by omega), bs, getM hP (K1 f) (by omega) (by omega), bs, stc_eq, e1, e2, c_short hP (K1 f) (by omega) (by omega) (by omega) (by rw [stc_eq, e3]; omega), bs, stc_eq, e3, stc_stc]
      refine ih (y + 1) _ (by omega) (by omega) (by omega) (fun p q hp hq => ?_)
      by_cases e : 10 * p + q = 10 * x + y
      · have ep : p = x := by omega
        have eq : q = y := by omega
        subst ep; subst eq
        rw [rs_self, if_pos (by omega)]
        rfl
      · rw [rs_ne e, hf p q hp hq, ite_iff (show (p < x ∨ (p = x ∧ q < y)) ↔ (p < x ∨ (p = x ∧ q < y + 1)) by omega)]
theorem fw_b64 {k54 : Int → aI → Option aI} {S : Int → Int → Int} {k : Int} (hF : 100 ≤ F) (hP : Pb b) (hK : TOK w b) (hc : ¬ c = b + 15) (h1 : w c 1 = R) (hR : 2 ≤ R ∧ R ≤ 10) (hS : ∀ x y, (0 ≤ x ∧ x < R) → (0 ≤ y ∧ y < R) → 0 ≤ S x y ∧ S x y ≤ 9999) (hk : 0 ≤ k ∧ k < R) (hkk : S k k = 0) :
    ∀ (n : Nat) (x : Int) (f : Int → Int), 0 ≤ x → x ≤ R → R - x < n → MixS R S (fwT S k) x 0 f → ∃ f2, f_X3_lay_b64 F (b + 11) c k54 n k x (stc w (b + 15) f) = k54 (k + 1) (stc w (b + 15) f2) ∧ AllS R (fwT S k) f2 := by
  intro n
  induction n with
  | zero => intro x f x0 x1 x2; omega
  | succ n ih =>
    intro x f x0 x1 x2 hf
    show ∃ f2, f_X3_lay_b64_b F (b + 11) c k54 (f_X3_lay_b64 F (b + 11) c k54 n) _ _ _ = _ ∧ _
    unfold f_X3_lay_b64_b
    rw [stc_ne hc, h1, gd_t (by omega)]
    by_cases c2 : R ≤ x
    · rw [if_pos c2]
      refine ⟨f, rfl, fun p q hp hq => ?_⟩
      rw [hf p q hp hq, if_pos (by omega)]
    · rw [if_neg c2]
      obtain ⟨f2, e1, e2⟩ := fw_b75 (F := F) (k54 := k54) (k64 := f_X3_lay_b64 F (b + 11) c k54 n) hP hK hc h1 hR hS hk hkk (x := x) (by omega) F 0 f (by omega) (by omega) (by omega) hf
      rw [e1]
      exact ih (x + 1) f2 (by omega) (by omega) (by omega) e2
theorem fw_b54 {r : Row} (hF : 100 ≤ F) (hP : Pb b) (hK : TOK w b) (hc : ¬ c = b + 15) (h1 : w c 1 = r 0) (b0 : 2 ≤ r 0 ∧ r 0 ≤ 10) (b1 : 0 ≤ r 1 ∧ r 1 ≤ 20) (hw : Ww r) :
    ∀ (n : Nat) (k : Int) (f : Int → Int) (S : Int → Int → Int), 0 ≤ k → k ≤ r 0 → r 0 - k < n → AllS (r 0) S f → FwOK r S → FwT r S k → ∃ f2, f_X3_lay_b54 F (b + 11) c n k (stc w (b + 15) f) = f_X3_pointAll F (b + 11) c (stc w (b + 15) f2) ∧ ∀ x y, (0 ≤ x ∧ x < r 0) → (0 ≤ y ∧ y < r 0) → f2 (10 * x + y) = if dist r (-1) y x = -1 then 9999 else dist r (-1) y x := by
  intro n
  induction n with
  | zero => intro k f S k0 k1 k2; omega
  | succ n ih =>
    intro k f S k0 k1 k2 hf hS hT
    show ∃ f2, f_X3_lay_b54_b F (b + 11) c (f_X3_lay_b54 F (b + 11) c n) _ _ = _ ∧ _
    unfold f_X3_lay_b54_b
    rw [stc_ne hc, h1, gd_t (by omega)]
    by_cases c2 : r 0 ≤ k
    · have e : k = r 0 := by omega
      subst e
      rw [if_pos c2]
      refine ⟨f, ?_, fun x y hx hy => ?_⟩
      · cases f_X3_pointAll F (b + 11) c (stc w (b + 15) f) <;> rfl
      · rw [hf x y hx hy, fw_fin b0 b1 hw hS hT hx hy]
    · rw [if_neg c2]
      obtain ⟨f2, e1, e2⟩ := fw_b64 (F := F) (k54 := f_X3_lay_b54 F (b + 11) c n) hF hP hK hc h1 b0 hS.1 (k := k) (by omega) (hS.2.1 k (by omega)) F 0 f (by omega) (by omega) (by omega) (fun p q hp hq => by
        rw [hf p q hp hq, if_neg (by omega)])
      rw [e1]
      exact ih (k + 1) f2 (fwT S k) (by omega) (by omega) (by omega) e2 (fw_ok b0 b1 hw hS (by omega)) (fw_t hS (by omega) hT)
/-- where a route begins -/
theorem c_begin {r : Row} {x y : Int} (hF : 100 ≤ F) (hP : Pb b) (hK : TOK w b) (b0 : 2 ≤ r 0 ∧ r 0 ≤ 10) (b1 : 0 ≤ r 1 ∧ r 1 ≤ 20) (hw : Ww r)
    (f13 : ∀ x y, (0 ≤ x ∧ x < r 0) → (0 ≤ y ∧ y < 10) → w (b + 13) (10 * x + y) = farB r x y) (f15 : ∀ x y, (0 ≤ x ∧ x < r 0) → (0 ≤ y ∧ y < r 0) → w (b + 15) (10 * x + y) = if dist r (-1) y x = -1 then 9999 else dist r (-1) y x)
    (hx : 0 ≤ x ∧ x < r 0) (hy : 0 ≤ y ∧ y < r 0) (hxy : ¬ x = y) (hd : ¬ dist r (-1) y x = -1) : f_X3_beginOf F (b + 11) x y w = some (nxt r x y) := by
  have e0 : nxt r x y = ff (fun z => decide (¬ farB r x z = -1 ∧ ¬ dist r (-1) y z = -1 ∧ farB r x z + dist r (-1) y z = dist r (-1) y x)) 10 := by
    unfold nxt; rw [if_neg (by intro q; exact q.elim hxy hd)]
  rw [e0]
  have key : ∀ (n z : Nat), z ≤ 10 → 10 - z < n → (∀ i : Int, 0 ≤ i → i < z → decide (¬ farB r x i = -1 ∧ ¬ dist r (-1) y i = -1 ∧ farB r x i + dist r (-1) y i = dist r (-1) y x) = false) → f_X3_beginOf_b2 F (b + 11) x y w n z = some (ff (fun z => decide (¬ farB r x z = -1 ∧ ¬ dist r (-1) y z = -1 ∧ farB r x z + dist r (-1) y z = dist r (-1) y x)) 10) := by
    intro n
    induction n with
    | zero => intro z z1 z2; omega
    | succ n ih =>
      intro z z1 z2 hz
      show f_X3_beginOf_b2_b F (b + 11) x y w (f_X3_beginOf_b2 F (b + 11) x y w n) _ = _
      unfold f_X3_beginOf_b2_b
      rw [gd_t (by omega)]
      by_cases c2 : (10 : Int) ≤ z
      · have e : z = 10 := by omega
        rw [if_pos c2, ff_none (fun i i0 i1 => hz i i0 (by omega))]
      · have nx : decide (¬ farB r x z = -1 ∧ ¬ dist r (-1) y z = -1 ∧ farB r x z + dist r (-1) y z = dist r (-1) y x) = false → f_X3_beginOf_b2 F (b + 11) x y w n ((z : Int) + 1) = _ := fun q => ih (z + 1) (by omega) (by omega) (fun i i0 i1 => by
          by_cases e : i = z
          · rw [e]; exact q
          · exact hz i i0 (by omega))
        have dx := dist_bd b0 b1 hw (W := -1) (by omega) hy hx
        rw [if_neg c2, pr0 hP, getF hP hK (by omega) (by omega), bs, f13 x z hx (by omega)]
        by_cases c3 : farB r x z = -1
        · rw [gd_t (by omega), if_pos c3]
          exact nx (decide_eq_false fun q => q.1 c3)
        · obtain ⟨i, i0, i1, e, ef, -⟩ := farB_en hw b1.1 c3
          have a := e.rg hw i0 i1
          have dz := dist_bd b0 b1 hw (W := -1) (by omega) hy a.2.1
          rw [gd_t (by omega), if_neg c3, pr1 hP, getM hP hK (by omega) (by omega), bs, getM hP hK (by omega) (by omega), bs, f15 z y a.2.1 hy, f15 x y hx hy, if_neg hd]
          by_cases c4 : dist r (-1) y z = -1
          · rw [if_pos c4, gd_t (by omega), if_neg (by omega)]
            exact nx (decide_eq_false fun q => q.2.1 c4)
          · rw [if_neg c4, gd_t (by omega)]
            by_cases c5 : farB r x z + dist r (-1) y z = dist r (-1) y x
            · rw [if_pos c5]
              congr 1
              exact (ff_at (by omega) (decide_eq_true ⟨c3, c4, c5⟩) hz (by omega)).symm
            · rw [if_neg c5]
              exact nx (decide_eq_false fun q => c5 q.2.2)
  exact key F 0 (by omega) (by omega) (fun i i0 i1 => by omega)
end Fw
section Point
variable {F : Nat} {b c : Nat} {r : Row} {w : aI}
def NxM (r : Row) (x y : Int) (f : Int → Int) : Prop := ∀ p q, (0 ≤ p ∧ p < r 0) → (0 ≤ q ∧ q < r 0) → f (10 * p + q) = if p < x ∨ (p = x ∧ q < y) then nxt r p q else -1
theorem c_point (hF : 100 ≤ F) (hP : Pb b) (hK : TOK w b) (hc : ¬ c = b + 17) (h1 : w c 1 = r 0) (b0 : 2 ≤ r 0 ∧ r 0 ≤ 10) (b1 : 0 ≤ r 1 ∧ r 1 ≤ 20) (hw : Ww r)
    (f13 : ∀ x y, (0 ≤ x ∧ x < r 0) → (0 ≤ y ∧ y < 10) → w (b + 13) (10 * x + y) = farB r x y) (f15 : ∀ x y, (0 ≤ x ∧ x < r 0) → (0 ≤ y ∧ y < r 0) → w (b + 15) (10 * x + y) = if dist r (-1) y x = -1 then 9999 else dist r (-1) y x)
    (f17 : ∀ j, 0 ≤ j → j < 100 → w (b + 17) j = -1) : ∃ f2, f_X3_pointAll F (b + 11) c w = some (stc w (b + 17) f2) ∧ ∀ x y, (0 ≤ x ∧ x < r 0) → (0 ≤ y ∧ y < r 0) → f2 (10 * x + y) = nxt r x y := by
  have k12 : ∀ (k2 : Int → aI → Option aI) (x : Int), (0 ≤ x ∧ x < r 0) → ∀ (n : Nat) (y : Int) (f : Int → Int), 0 ≤ y → y ≤ r 0 → r 0 - y < n → NxM r x y f → ∃ f2, f_X3_pointAll_b12 F (b + 11) c k2 n x y (stc w (b + 17) f) = k2 (x + 1) (stc w (b + 17) f2) ∧ NxM r (x + 1) 0 f2 := by
    intro k2 x hx n
    induction n with
    | zero => intro y f y0 y1 y2; omega
    | succ n ih =>
      intro y f y0 y1 y2 hf
      show ∃ f2, f_X3_pointAll_b12_b F (b + 11) c k2 (f_X3_pointAll_b12 F (b + 11) c k2 n) _ _ _ = _ ∧ _
      unfold f_X3_pointAll_b12_b
      rw [stc_ne hc, h1, gd_t (by omega)]
      by_cases c2 : r 0 ≤ y
      · rw [if_pos c2]
        refine ⟨f, rfl, fun p q hp hq => ?_⟩
        rw [hf p q hp hq, ite_iff (show (p < x ∨ (p = x ∧ q < y)) ↔ (p < x + 1 ∨ (p = x + 1 ∧ q < 0)) by omega)]
      · have K1 : ∀ f, TOK (stc w (b + 17) f) b := fun f => hK.stc (by omega)
        have hy : 0 ≤ y ∧ y < r 0 := by omega
        have same : nxt r x y = -1 → NxM r x (y + 1) f := fun e p q hp hq => by
          rw [hf p q hp hq]
          by_cases d : p = x ∧ q = y
          · rw [d.1, d.2, if_neg (by omega), if_pos (by omega), e]
          · rw [ite_iff (show (p < x ∨ (p = x ∧ q < y)) ↔ (p < x ∨ (p = x ∧ q < y + 1)) by omega)]
        rw [if_neg c2, gd_t (by omega)]
        by_cases c3 : x = y
        · rw [if_pos c3]
          exact ih (y + 1) f (by omega) (by omega) (by omega) (same (nxt_no (Or.inl c3)))
        · have dx := dist_bd b0 b1 hw (W := -1) (by omega) hy hx
          rw [if_neg c3, pr1 hP, getM hP (K1 f) (by omega) (by omega), bs, stc_ne (by omega), f15 x y hx hy]
          by_cases c4 : dist r (-1) y x = -1
          · rw [if_pos c4, gd_t (by decide), if_pos (by decide)]
            exact ih (y + 1) f (by omega) (by omega) (by omega) (same (nxt_no (Or.inr c4)))
          · rw [if_neg c4, gd_t (by omega), if_neg (by omega), c_begin hF hP (K1 f) b0 b1 hw (fun p q hp hq => by rw [stc_ne (by omega)]; exact f13 p q hp hq) (fun p q hp hq => by rw [stc_ne (by omega)]; exact f15 p q hp hq) hx hy c3 c4, bs, pr2 hP, putN hP (K1 f) (by omega) (by omega), bs, stc_stc, stc_eq]
            refine ih (y + 1) _ (by omega) (by omega) (by omega) (fun p q hp hq => ?_)
            by_cases e : 10 * p + q = 10 * x + y
            · have ep : p = x := by omega
              have eq : q = y := by omega
              subst ep; subst eq
              rw [rs_self, if_pos (by omega)]
            · rw [rs_ne e, hf p q hp hq, ite_iff (show (p < x ∨ (p = x ∧ q < y)) ↔ (p < x ∨ (p = x ∧ q < y + 1)) by omega)]
  have k2 : ∀ (n : Nat) (x : Int) (f : Int → Int), 0 ≤ x → x ≤ r 0 → r 0 - x < n → NxM r x 0 f → ∃ f2, f_X3_pointAll_b2 F (b + 11) c n x (stc w (b + 17) f) = some (stc w (b + 17) f2) ∧ ∀ x y, (0 ≤ x ∧ x < r 0) → (0 ≤ y ∧ y < r 0) → f2 (10 * x + y) = nxt r x y := by
    intro n
    induction n with
    | zero => intro x f x0 x1 x2; omega
    | succ n ih =>
      intro x f x0 x1 x2 hf
      show ∃ f2, f_X3_pointAll_b2_b F (b + 11) c (f_X3_pointAll_b2 F (b + 11) c n) _ _ = _ ∧ _
      unfold f_X3_pointAll_b2_b
      rw [stc_ne hc, h1, gd_t (by omega)]
      by_cases c2 : r 0 ≤ x
      · rw [if_pos c2]
        exact ⟨f, rfl, fun p q hp hq => by rw [hf p q hp hq, if_pos (by omega)]⟩
      · obtain ⟨f2, e1, e2⟩ := k12 (f_X3_pointAll_b2 F (b + 11) c n) x (by omega) F 0 f (by omega) (by omega) (by omega) hf
        rw [if_neg c2, e1]
        exact ih (x + 1) f2 (by omega) (by omega) (by omega) e2
  obtain ⟨f2, e1, e2⟩ := k2 F 0 (w (b + 17)) (by omega) (by omega) (by omega) (fun p q hp hq => by
    rw [f17 _ (by omega) (by omega), if_neg (by omega)])
  rw [stc_self] at e1
  exact ⟨f2, e1, e2⟩
end Point
/-- the class's roads, laid anew -/
theorem c_lay {F : Nat} {b : Nat} {r : Row} {w : aI} (hF : 1000 ≤ F) (hP : Pb b) (hK : TOK w b) (h1 : w b 1 = r 0) (h2 : w b 2 = r 1) (hRW : RepW w b r) (b0 : 2 ≤ r 0 ∧ r 0 ≤ 10) (b1 : 0 ≤ r 1 ∧ r 1 ≤ 20) (hw : Ww r) :
    ∃ w2, f_X3_lay F (b + 11) b w = some w2 ∧ RepR w2 b r ∧ ∀ a, ¬ a = b + 13 → ¬ a = b + 15 → ¬ a = b + 17 → w2 a = w a := by
  unfold f_X3_lay
  obtain ⟨w1, e1, e2, e3, e4⟩ := c_layNone (F := F) (b := b) (c := b) (r := r) hF hP hK (by omega) h1 b0
  obtain ⟨w2, g1, g2, g3, g4, g5⟩ := c_layWays (F := F) (c := b) (w := w) hP hK (by omega) hP hK (by omega) (fun w2 h => hK.lay h) h2 hRW b0 b1 hw F 0 w1 (by omega) (by omega) e2 (fun j j0 j1 => (e3 j j0 j1).2)
    (fun x y hx hy => by rw [(e3 _ (by omega) (by omega)).1]; rfl) (fun x y hx hy => by rw [e4 x y hx hy]; rfl)
  have K2 : TOK w2 b := hK.lay g2
  have g1' : f_X3_lay_b7 F (b + 11) b F 0 w1 = _ := g1
  have hOK : FwOK r (sumN r (r 1).toNat) := by
    have hN : ∀ x y, sumN r (r 1).toNat x y = if x = y then 0 else if farB r x y = -1 then 9999 else farB r x y := fun x y => rfl
    have hF9 : ∀ x y, ¬ farB r x y = -1 → ∃ i, 0 ≤ i ∧ i < r 1 ∧ En2 r i x y ∧ farB r x y = r (160 + 3 * i + 2) := fun x y h => by
      obtain ⟨i, i0, i1, e, ef, -⟩ := farB_en hw b1.1 h
      exact ⟨i, i0, i1, e, ef⟩
    refine ⟨fun x y hx hy => ?_, fun x hx => ?_, fun x y hx hy => ?_, fun i x y i0 i1 e => ?_⟩
    · rw [hN]
      split
      · omega
      · split
        · omega
        · rename_i h
          obtain ⟨i, i0, i1, e, ef⟩ := hF9 x y h
          have := e.rg hw i0 i1
          omega
    · rw [hN, if_pos rfl]
    · rw [hN]
      split
      · rename_i h
        subst h
        have := dist_0 b0 b1 hw (W := -1) (by omega) hx
        right; omega
      · split
        · left; rfl
        · rename_i h
          obtain ⟨i, i0, i1, e, ef⟩ := hF9 x y h
          have := dist_edge b0 b1 hw (W := -1) (by omega) i0 i1 (by omega) e
          right; rw [ef]; exact this
    · have a := e.rg hw i0 i1
      rw [hN, if_neg a.2.2.1, farB_of hw b1.1 i0 i1 e, if_neg (by omega)]
      exact Int.le_refl _
  obtain ⟨f, k1, k2⟩ := fw_b54 (F := F) (w := w2) (c := b) (r := r) (by omega) hP K2 (by omega) (by rw [g2 b (by omega) (by omega) (by omega)]; exact h1) b0 b1 hw F 0 (w2 (b + 15)) (sumN r (r 1).toNat) (by omega) (by omega) (by omega) (fun p q hp hq => g5 p q hp hq) hOK (fun j j0 j1 => by omega)
  rw [stc_self] at k1
  have K3 : TOK (stc w2 (b + 15) f) b := K2.stc (by omega)
  obtain ⟨f2, q1, q2⟩ := c_point (F := F) (w := stc w2 (b + 15) f) (c := b) (r := r) (by omega) hP K3 (by omega) (by rw [stc_ne (by omega), g2 b (by omega) (by omega) (by omega)]; exact h1) b0 b1 hw
    (fun x y hx hy => by rw [stc_ne (by omega)]; exact g4 x y hx hy) (fun x y hx hy => by rw [stc_eq]; exact k2 x y hx hy) (fun j j0 j1 => by rw [stc_ne (by omega)]; exact g3 j j0 j1)
  rw [e1, bs, g1', k1, q1]
  refine ⟨_, rfl, fun x y x0 x1 y0 y1 => ⟨?_, fun y2 => ⟨?_, ?_⟩⟩, fun a a1 a2 a3 => ?_⟩
  · rw [stc_ne (by omega), stc_ne (by omega)]; exact g4 x y ⟨x0, x1⟩ ⟨y0, y1⟩
  · rw [stc_ne (by omega), stc_eq]; exact k2 x y ⟨x0, x1⟩ ⟨y0, y2⟩
  · rw [stc_eq]; exact q2 x y ⟨x0, x1⟩ ⟨y0, y2⟩
  · rw [stc_ne a3, stc_ne a2, g2 a a1 a2 a3]
