/-! ===== agree: the class ===== -/
/-- sums on the way to the least ones -/
def BfOK (r : Row) (f : Int → Int) : Prop :=
  (∀ p q, (0 ≤ p ∧ p < r 0) → (0 ≤ q ∧ q < r 0) → 0 ≤ f (10 * p + q) ∧ f (10 * p + q) ≤ 9999) ∧ (∀ p, (0 ≤ p ∧ p < r 0) → f (10 * p + p) = 0) ∧
  (∀ p q, (0 ≤ p ∧ p < r 0) → (0 ≤ q ∧ q < r 0) → f (10 * p + q) = 9999 ∨ (¬ dist r (-1) p q = -1 ∧ dist r (-1) p q ≤ f (10 * p + q)))
def LeS (r : Row) (f g : Int → Int) : Prop := ∀ p q, (0 ≤ p ∧ p < r 0) → (0 ≤ q ∧ q < r 0) → f (10 * p + q) ≤ g (10 * p + q)
theorem LeS.refl (r : Row) (f : Int → Int) : LeS r f f := fun _ _ _ _ => Int.le_refl _
theorem LeS.trans {r : Row} {f g h : Int → Int} (a : LeS r f g) (b : LeS r g h) : LeS r f h := fun p q hp hq => Int.le_trans (a p q hp hq) (b p q hp hq)
/-- one sum becomes less over a way -/
theorem bf_one {r : Row} (hW : WF r) {f : Int → Int} (h : BfOK r f) {i x y p : Int} (i0 : 0 ≤ i) (i1 : i < r 1) (e : En2 r i x y) (hp : 0 ≤ p ∧ p < r 0) :
    BfOK r (rs f (10 * p + x) (min (f (10 * p + x)) (f (10 * p + y) + r (160 + 3 * i + 2)))) ∧ LeS r (rs f (10 * p + x) (min (f (10 * p + x)) (f (10 * p + y) + r (160 + 3 * i + 2)))) f := by
  obtain ⟨b0, b1, -⟩ := hW.1
  have hw := hW.2.2.1
  have a := e.rg hw i0 i1
  obtain ⟨h1, h2, h3⟩ := h
  have p1 := h1 p x hp a.1
  have p2 := h1 p y hp a.2.1
  refine ⟨⟨fun u q hu hq => ?_, fun u hu => ?_, fun u q hu hq => ?_⟩, fun u q hu hq => ?_⟩
  · have := h1 u q hu hq
    rw [rs_def]
    split <;> omega
  · have := h2 u hu
    rw [rs_def]
    split
    · rename_i c
      have e1 : u = p := by omega
      have e2 : x = u := by omega
      subst e1; subst e2
      omega
    · exact this
  · rw [rs_def]
    split
    · rename_i c
      have e1 : u = p := by omega
      have e2 : q = x := by omega
      subst e1; subst e2
      by_cases c2 : f (10 * u + q) ≤ f (10 * u + y) + r (160 + 3 * i + 2)
      · have e9 : min (f (10 * u + q)) (f (10 * u + y) + r (160 + 3 * i + 2)) = f (10 * u + q) := by omega
        rw [e9]; exact h3 u q hu hq
      · have e9 : min (f (10 * u + q)) (f (10 * u + y) + r (160 + 3 * i + 2)) = f (10 * u + y) + r (160 + 3 * i + 2) := by omega
        rw [e9]
        right
        have d := (h3 u y hp a.2.1).resolve_left (by omega)
        have t := (isd b0 b1 hw (W := -1) (by omega) hu).2.2.1 i i0 i1 (by omega) q y e d.1
        exact ⟨t.1, by omega⟩
    · exact h3 u q hu hq
  · rw [rs_def]
    split
    · rename_i c; rw [c]; omega
    · exact Int.le_refl _
/-- all that have few roofs nearer are right -/
def Upto (r : Row) (t : Int) (f : Int → Int) : Prop := ∀ p q, (0 ≤ p ∧ p < r 0) → (0 ≤ q ∧ q < r 0) → ¬ dist r (-1) p q = -1 → rank r p q ≤ t → f (10 * p + q) ≤ dist r (-1) p q
/-- way i has been gone over, from sums g -/
def Over (r : Row) (g f : Int → Int) (i : Int) (v : Int) : Prop := ∀ p x y, (0 ≤ p ∧ p < v) → En2 r i x y → f (10 * p + x) ≤ g (10 * p + y) + r (160 + 3 * i + 2)
section Bf
variable {F : Nat} {w : aI} {r : Row}
theorem bf_61 {k7 : Int → aI → Option aI} {k17 : Int → Int → aI → Option aI} {t : Int} {g : Int → Int} (hK : TOK w 48) (h1 : w 12 1 = r 0) (hW : WF r) {i : Int} (i0 : 0 ≤ i) (i1 : i < r 1) :
    ∀ (n : Nat) (v : Int) (f : Int → Int), 0 ≤ v → v ≤ r 0 → r 0 - v < n → BfOK r f → LeS r f g → Over r g f i v → ∃ f2, f_X3_sumByWays_b61 F 59 12 k7 k17 n t i (r (160 + 3 * i)) (r (160 + 3 * i + 1)) (r (160 + 3 * i + 2)) v (stc w 63 f) = k17 t (i + 1) (stc w 63 f2) ∧ BfOK r f2 ∧ LeS r f2 f ∧ LeS r f2 g ∧ Over r g f2 i (r 0) := by
  obtain ⟨b0, b1, -⟩ := hW.1
  have hw := hW.2.2.1
  have a := hw.1 i i0 i1
  have P48' := P48
  intro n
  induction n with
  | zero => intro v f v0 v1 v2; omega
  | succ n ih =>
    intro v f v0 v1 v2 hf hg ho
    show ∃ f2, f_X3_sumByWays_b61_b F 59 12 k7 k17 (f_X3_sumByWays_b61 F 59 12 k7 k17 n) _ _ _ _ _ _ _ = _ ∧ _
    unfold f_X3_sumByWays_b61_b
    rw [stc_ne (show ¬ 12 = 63 by decide), h1, gd_t (by omega)]
    by_cases c : r 0 ≤ v
    · have e : v = r 0 := by omega
      subst e
      rw [if_pos c]
      exact ⟨f, rfl, hf, LeS.refl r f, hg, ho⟩
    · have hv : 0 ≤ v ∧ v < r 0 := by omega
      have e1 : En2 r i (r (160 + 3 * i)) (r (160 + 3 * i + 1)) := Or.inl ⟨rfl, rfl⟩
      obtain ⟨A, hA⟩ : ∃ A, A = r (160 + 3 * i) := ⟨_, rfl⟩
      obtain ⟨B, hB⟩ : ∃ B, B = r (160 + 3 * i + 1) := ⟨_, rfl⟩
      obtain ⟨V, hV⟩ : ∃ V, V = r (160 + 3 * i + 2) := ⟨_, rfl⟩
      rw [← hA, ← hB] at e1
      have q1 := bf_one hW hf i0 i1 e1 hv
      have q2 := bf_one hW q1.1 i0 i1 e1.sym hv
      rw [← hA, ← hB, ← hV] at a ih ⊢
      rw [← hV] at q1 q2
      have K1 : ∀ f, TOK (stc w 63 f) 48 := fun f => hK.stc (by omega)
      have s63 : (48 : Nat) + 15 = 63 := rfl
      have r1 := hf.1 v A hv (by omega)
      have r2 := hf.1 v B hv (by omega)
      have r3 := q1.1.1 v A hv (by omega)
      have r4 := q1.1.1 v B hv (by omega)
      have gM : ∀ (f : Int → Int) (x : Int), (0 ≤ x ∧ x < 10) → f_X7_get F (shR 59 1) v x (stc w 63 f) = some (f (10 * v + x)) := fun f x hx => by
        have := getM (F := F) P48' (K1 f) (i := v) (j := x) (by omega) hx
        rw [s63, stc_eq] at this
        rw [show shR 59 1 = 48 + 14 by decide +kernel]
        exact this
      have sh : ∀ (f : Int → Int) (x u : Int), (0 ≤ x ∧ x < 10) → rg u → rg (f (10 * v + x)) → f_X3_shorten F 59 v x u (stc w 63 f) = some (stc w 63 (rs f (10 * v + x) (min (f (10 * v + x)) u))) := fun f x u hx hu hr => by
        have := c_short (F := F) P48' (K1 f) (x := v) (y := x) (v := u) (by omega) hx hu (by rw [s63, stc_eq]; exact hr)
        rw [s63, stc_eq, stc_stc] at this
        exact this
      rw [if_neg c, gM f B (by omega), bs, sh f A _ (by omega) (by omega) (by omega), bs, gM _ A (by omega), bs, sh _ B _ (by omega) (by omega) (by omega), bs]
      obtain ⟨f2, z1, z2, z3, z4, z5⟩ := ih (v + 1) _ (by omega) (by omega) (by omega) q2.1 ((q2.2.trans q1.2).trans hg) (fun p x y hp exy => by
        have ab : (x = A ∧ y = B) ∨ (x = B ∧ y = A) := by
          rcases exy with ⟨e1, e2⟩ | ⟨e1, e2⟩
          · left; omega
          · right; omega
        have gA := hg v A hv (by omega)
        have gB := hg v B hv (by omega)
        rw [← hV]
        by_cases cp : p = v
        · subst cp
          rcases ab with ⟨ex, ey⟩ | ⟨ex, ey⟩
          · rw [ex, ey, rs_ne (by omega), rs_self]; omega
          · rw [ex, ey, rs_self, rs_self]; omega
        · rcases ab with ⟨ex, ey⟩ | ⟨ex, ey⟩
          · have := ho p x y (by omega) exy
            rw [← hV] at this
            rw [rs_ne (by omega), rs_ne (by omega)]; exact this
          · have := ho p x y (by omega) exy
            rw [← hV] at this
            rw [rs_ne (by omega), rs_ne (by omega)]; exact this)
      exact ⟨f2, z1, z2, z3.trans (q2.2.trans q1.2), z4, z5⟩
theorem bf_17 {k7 : Int → aI → Option aI} {t : Int} {g : Int → Int} (hF : 100 ≤ F) (hK : TOK w 48) (hN : Rep w 12 r) (hW : WF r) :
    ∀ (n : Nat) (i : Int) (f : Int → Int), 0 ≤ i → i ≤ r 1 → r 1 - i < n → BfOK r f → LeS r f g → (∀ j, 0 ≤ j → j < i → Over r g f j (r 0)) → ∃ f2, f_X3_sumByWays_b17 F 59 12 k7 n t i (stc w 63 f) = k7 (t + 1) (stc w 63 f2) ∧ BfOK r f2 ∧ LeS r f2 g ∧ (∀ j, 0 ≤ j → j < r 1 → Over r g f2 j (r 0)) := by
  obtain ⟨b0, b1, -⟩ := hW.1
  intro n
  induction n with
  | zero => intro i f i0 i1 i2; omega
  | succ n ih =>
    intro i f i0 i1 i2 hf hg ho
    show ∃ f2, f_X3_sumByWays_b17_b F 59 12 k7 (f_X3_sumByWays_b17 F 59 12 k7 n) _ _ _ = _ ∧ _
    unfold f_X3_sumByWays_b17_b
    have hN1 : Rep (stc w 63 f) 12 r := hN.of fun a a0 a1 => stc_ne (by omega)
    rw [hN1.1.2.2.2.1, gd_t (by omega)]
    by_cases c : r 1 ≤ i
    · have e : i = r 1 := by omega
      subst e
      rw [if_pos c]
      exact ⟨f, rfl, hf, hg, ho⟩
    · have hi : 0 ≤ i ∧ i < r 1 := by omega
      rw [if_neg c, pf5 P12, c_way P12 hN1 b1 hi (by omega), bs, c_way P12 hN1 b1 hi (by omega), bs, c_way P12 hN1 b1 hi (by omega), bs, Int.add_zero]
      obtain ⟨f2, z1, z2, z3, z4, z5⟩ := bf_61 (F := F) (k7 := k7) (k17 := f_X3_sumByWays_b17 F 59 12 k7 n) (t := t) (g := g) hK hN.1.2.2.1 hW i0 hi.2 F 0 f (by omega) (by omega) (by omega) hf hg (fun p x y hp => by omega)
      rw [z1]
      refine ih (i + 1) f2 (by omega) (by omega) (by omega) z2 z4 (fun j j0 j1 => ?_)
      by_cases cj : j = i
      · subst cj; exact z5
      · intro p x y hp exy
        have h1 := ho j j0 (by omega) p x y hp exy
        have a := exy.rg hW.2.2.1 j0 (by omega)
        have h2 := z3 p x hp a.1
        omega
theorem bf_7 (hF : 100 ≤ F) (hK : TOK w 48) (hN : Rep w 12 r) (hW : WF r) :
    ∀ (n : Nat) (t : Int) (f : Int → Int), 1 ≤ t → t ≤ r 0 → r 0 - t < n → BfOK r f → Upto r (t - 1) f → ∃ f2, f_X3_sumByWays_b7 F 59 12 n t (stc w 63 f) = some (stc w 63 f2) ∧ BfOK r f2 ∧ Upto r (r 0 - 1) f2 := by
  obtain ⟨b0, b1, -⟩ := hW.1
  have hw := hW.2.2.1
  intro n
  induction n with
  | zero => intro t f t0 t1 t2; omega
  | succ n ih =>
    intro t f t0 t1 t2 hf hu
    show ∃ f2, f_X3_sumByWays_b7_b F 59 12 (f_X3_sumByWays_b7 F 59 12 n) _ _ = _ ∧ _
    unfold f_X3_sumByWays_b7_b
    rw [stc_ne (show ¬ 12 = 63 by decide), hN.1.2.2.1, gd_t (by omega)]
    by_cases c : r 0 ≤ t
    · have e : t = r 0 := by omega
      subst e
      rw [if_pos c]
      exact ⟨f, rfl, hf, hu⟩
    · rw [if_neg c]
      obtain ⟨f2, z1, z2, z3, z4⟩ := bf_17 (F := F) (k7 := f_X3_sumByWays_b7 F 59 12 n) (t := t) (g := f) hF hK hN hW F 0 f (by omega) (by omega) (by omega) hf (LeS.refl r f) (fun j j0 j1 => by omega)
      rw [z1]
      refine ih (t + 1) f2 (by omega) (by omega) (by omega) z2 (fun p q hp hq hd hr => ?_)
      by_cases cp : q = p
      · subst cp
        have := z2.2.1 q hq
        have := dist_bd b0 b1 hw (W := -1) (by omega) hq hq
        omega
      · obtain ⟨s1, s2, s3⟩ := rank_step hW hq hp cp hd
        obtain ⟨i, i0, i1, e, n1, n2, n3, n4, -⟩ := nxt_ok b0 hw b1.1 (isd b0 b1 hw (W := -1) (by omega) hp) hq.1 hq.2 cp hd
        have u1 := hu p (nxt r q p) hp s1 s2 (by omega)
        have u2 := z4 i i0 i1 p q (nxt r q p) hp e
        omega
/-- the sums of another way come out the same -/
theorem c_sumByWays (hF : 1000 ≤ F) (hK : TOK w 48) (hN : Rep w 12 r) (hW : WF r) :
    ∃ w2, f_X3_sumByWays F 59 12 w = some w2 ∧ Fc 48 w w2 ∧ TOK w2 48 ∧ ∀ p q, (0 ≤ p ∧ p < r 0) → (0 ≤ q ∧ q < r 0) → w2 63 (10 * p + q) = if dist r (-1) q p = -1 then 9999 else dist r (-1) q p := by
  obtain ⟨b0, b1, -⟩ := hW.1
  have hw := hW.2.2.1
  obtain ⟨w1, e1, e2, e3, e4⟩ := c_layNone (F := F) (b := 48) (c := 12) (r := r) hF P48 hK (by omega) hN.1.2.2.1 b0
  have e1' : f_X3_layNone F 59 12 w = some w1 := e1
  have K1 : TOK w1 48 := hK.lay e2
  have N1 : Rep w1 12 r := hN.of fun a a0 a1 => e2 a (by omega) (by omega) (by omega)
  have v15 : ∀ p q, (0 ≤ p ∧ p < r 0) → (0 ≤ q ∧ q < r 0) → w1 63 (10 * p + q) = if p = q then 0 else 9999 := e4
  have hf0 : BfOK r (w1 63) := by
    refine ⟨fun p q hp hq => ?_, fun p hp => ?_, fun p q hp hq => ?_⟩
    · rw [v15 p q hp hq]; split <;> omega
    · rw [v15 p p hp hp, if_pos rfl]
    · rw [v15 p q hp hq]
      split
      · rename_i c
        subst c
        right
        have := dist_0 b0 b1 hw (W := -1) (by omega) hp
        omega
      · left; rfl
  obtain ⟨f2, z1, z2, z3⟩ := bf_7 (F := F) (w := w1) (by omega) K1 N1 hW F 1 (w1 63) (by omega) (by omega) (by omega) hf0 (fun p q hp hq hd hr => by
    have := rank_0 hW hq hp hd (by omega)
    subst this
    rw [v15 q q hq hq, if_pos rfl]
    have := dist_bd b0 b1 hw (W := -1) (by omega) hq hq
    omega)
  rw [stc_self] at z1
  unfold f_X3_sumByWays
  rw [e1', bs, z1]
  refine ⟨_, rfl, fun a ha => ?_, K1.stc (by omega), fun p q hp hq => ?_⟩
  · rw [stc_ne (by omega), e2 a (by omega) (by omega) (by omega)]
  · have rb := rank_bd (g := p) hq
    have s := dist_sym b0 b1 hw (W := -1) (by omega) hp hq
    have lo := z2.2.2 p q hp hq
    have bd := dist_bd b0 b1 hw (W := -1) (by omega) hp hq
    rw [stc_eq, ← s]
    by_cases c : dist r (-1) p q = -1
    · rw [if_pos c]
      exact lo.resolve_right (fun z => z.1 c)
    · have up := z3 p q hp hq c (by omega)
      rw [if_neg c]
      have := lo.resolve_left (by omega)
      omega
theorem c_same (hF : 100 ≤ F) (hK : TOK w 48) (hN : Rep w 12 r) (hW : WF r) (h63 : ∀ p q, (0 ≤ p ∧ p < r 0) → (0 ≤ q ∧ q < r 0) → w 63 (10 * p + q) = if dist r (-1) q p = -1 then 9999 else dist r (-1) q p) : f_X3_hasSameSums F 23 59 (r 0) w = some true := by
  obtain ⟨b0, b1, -⟩ := hW.1
  have hw := hW.2.2.1
  have s1 : shR 23 1 = 12 + 14 := by decide +kernel
  have s2 : shR 59 1 = 48 + 14 := by decide +kernel
  have k10 : ∀ (k2 : Int → Option Bool) (p : Int), (0 ≤ p ∧ p < r 0) → ∀ (n : Nat) (q : Int), 0 ≤ q → q ≤ r 0 → r 0 - q < n → f_X3_hasSameSums_b10 F 23 59 (r 0) w k2 n p q = k2 (p + 1) := by
    intro k2 p hp n
    induction n with
    | zero => intro q q0 q1 q2; omega
    | succ n ih =>
      intro q q0 q1 q2
      show f_X3_hasSameSums_b10_b F 23 59 (r 0) w k2 (f_X3_hasSameSums_b10 F 23 59 (r 0) w k2 n) _ _ = _
      unfold f_X3_hasSameSums_b10_b
      rw [gd_t (by omega)]
      by_cases c : r 0 ≤ q
      · rw [if_pos c]
      · have hq : 0 ≤ q ∧ q < r 0 := by omega
        have bd := dist_bd b0 b1 hw (W := -1) (by omega) hq hp
        have h63' : w (48 + 15) (10 * p + q) = _ := h63 p q hp hq
        rw [if_neg c, s1, s2, getM P12 hN.1.1 (by omega) (by omega), bs, getM P48 hK (by omega) (by omega), bs, ((hN.2.2.2.2.2.2 p q hp.1 hp.2 hq.1 (by omega)).2 hq.2).1, h63', gd_t (by split <;> omega), if_pos rfl]
        exact ih (q + 1) (by omega) (by omega) (by omega)
  have k2 : ∀ (n : Nat) (p : Int), 0 ≤ p → p ≤ r 0 → r 0 - p < n → f_X3_hasSameSums_b2 F 23 59 (r 0) w n p = some true := by
    intro n
    induction n with
    | zero => intro p p0 p1 p2; omega
    | succ n ih =>
      intro p p0 p1 p2
      show f_X3_hasSameSums_b2_b F 23 59 (r 0) w (f_X3_hasSameSums_b2 F 23 59 (r 0) w n) _ = _
      unfold f_X3_hasSameSums_b2_b
      rw [gd_t (by omega)]
      by_cases c : r 0 ≤ p
      · rw [if_pos c]
      · rw [if_neg c, k10 _ p (by omega) F 0 (by omega) (by omega) (by omega)]
        exact ih (p + 1) (by omega) (by omega) (by omega)
  exact k2 F 0 (by omega) (by omega) (by omega)
theorem c_tunesOK (hF : 100 ≤ F) (hN : Rep w 12 r) (hW : WF r) : f_X6_areTunesRight F 12 w = some true := by
  obtain ⟨b0, b1, b2, b3, -⟩ := hW.1
  have key : ∀ (n : Nat) (i : Int), 0 ≤ i → i ≤ r 2 → r 2 - i < n → f_X6_areTunesRight_b2 F 12 w n i = some true := by
    intro n
    induction n with
    | zero => intro i i0 i1 i2; omega
    | succ n ih =>
      intro i i0 i1 i2
      show f_X6_areTunesRight_b2_b F 12 w (f_X6_areTunesRight_b2 F 12 w n) _ = _
      unfold f_X6_areTunesRight_b2_b
      rw [hN.1.2.2.2.2, hN.1.2.2.1, gd_t (by omega)]
      by_cases c : r 2 ≤ i
      · rw [if_pos c]
      · have hi : 0 ≤ i ∧ i < r 2 := by omega
        obtain ⟨y0, y1, y2, y3, y4, y5, y6, y7, y8, y9, y10, y11, y12, y13, y14, y15⟩ := hW.2.2.2.1 i hi.1 hi.2
        rw [if_neg c, pf6 P12, c_tune P12 hN b2 hi (by omega), bs, c_tune P12 hN b2 hi (by omega), bs, gd_t (by omega), if_neg (by omega), if_neg (by omega), gd_t (by omega), if_neg (by omega), gd_t (by omega), if_pos y5.2]
        by_cases c2 : r (220 + 27 * i + 3) = 2
        · rw [if_pos c2, c_tune P12 hN b2 hi (by omega), bs, gd_t (by omega), if_pos (y15 c2)]
          exact ih (i + 1) (by omega) (by omega) (by omega)
        · rw [if_neg c2]
          exact ih (i + 1) (by omega) (by omega) (by omega)
  exact key F 0 (by omega) (by omega) (by omega)
theorem c_accOK (hF : 100 ≤ F) (hN : Rep w 12 r) (hW : WF r) : f_X6_areAccountsRight F 12 w = some true := by
  obtain ⟨b0, b1, b2, b3, -⟩ := hW.1
  obtain ⟨a1, a2, a3, a4, a5, a6, a7⟩ := hW.2.2.2.2
  have hA := hN.2.2.1
  have gA : ∀ k : Int, 0 ≤ k → k < 11 → f_X7_get F (shR 12 8) 0 k w = some (r (10 + k)) := fun k k0 k1 => by
    rw [pf8 P12, getA P12 hN.1.1 ⟨k0, k1⟩, hA k k0 k1]
  have k35 : ∀ (n i : Nat), (i : Int) ≤ r 2 → r 2 - i < n → f_X6_areAccountsRight_b35 F 12 w n (r 7) (sm (fun i => r (220 + 27 * i + 9)) i) i = some true := by
    intro n
    induction n with
    | zero => intro i i1 i2; omega
    | succ n ih =>
      intro i i1 i2
      show f_X6_areAccountsRight_b35_b F 12 w (f_X6_areAccountsRight_b35 F 12 w n) _ _ _ = _
      unfold f_X6_areAccountsRight_b35_b
      rw [hN.1.2.2.2.2, gd_t (by omega)]
      by_cases c : r 2 ≤ i
      · have e : i = (r 2).toNat := by omega
        have t2 := cnt_le (fun i => decide (r (220 + 27 * i + 3) = 2)) (r 2).toNat
        have t3 := cnt_le (fun i => decide (r (220 + 27 * i + 3) = 3)) (r 2).toNat
        have p0 : 0 ≤ sm (fun x => r (25 + 13 * x + 10)) (r 0).toNat := sm_nn fun x x0 x1 => (hW.2.1 x x0 (by omega)).2.2.2.2.2.1.1
        have p1 : sm (fun x => r (25 + 13 * x + 10)) (r 0).toNat ≤ (9999 + 18 * 20000) * (r 0).toNat := sm_le fun x x0 x1 => by have := (hW.2.1 x x0 (by omega)).2.2.2.2.2.1.2; omega
        rw [if_pos c, gA 1 (by omega) (by omega), bs, show (10 : Int) + 1 = 11 from rfl, gd_t (by omega), if_pos (by omega), gA 5 (by omega) (by omega), bs, show (10 : Int) + 5 = 15 from rfl, c_tunesIn (by omega) P12 hN hW (by decide), bs, gd_t (by omega), if_pos a2, gA 8 (by omega) (by omega), bs, show (10 : Int) + 8 = 18 from rfl, c_tunesIn (by omega) P12 hN hW (by decide), bs, gd_t (by omega), if_pos a3, c_purses (by omega) P12 hN hW, bs, gA 10 (by omega) (by omega), bs, show (10 : Int) + 10 = 20 from rfl, gd_t (by omega), if_pos a7, gA 3 (by omega) (by omega), bs, show (10 : Int) + 3 = 13 from rfl, e, ← a5]
        have s0 : 0 ≤ r 13 := by rw [a5]; exact sm_nn fun i i0 i1 => (hW.2.2.2.1 i i0 (by omega)).2.2.2.2.2.2.2.2.2.2.1.1
        rw [gd_t (by omega), if_pos rfl, gA 6 (by omega) (by omega), bs, bs, show (10 : Int) + 6 = 16 from rfl, gd_t (by omega), if_neg (by omega)]
      · have hi : 0 ≤ (i : Int) ∧ (i : Int) < r 2 := by omega
        rw [if_neg c, pf6 P12, c_tune11 P12 hN b2 hi, bs, lti]
        exact ih (i + 1) (by omega) (by omega)
  have k4 : ∀ (n x : Nat), (x : Int) ≤ r 0 → r 0 - x < n → f_X6_areAccountsRight_b4 F 12 w n (sm (fun x => w (12 + 2) (8 * x + 6)) x) x = some true := by
    intro n
    induction n with
    | zero => intro x x1 x2; omega
    | succ n ih =>
      intro x x1 x2
      show f_X6_areAccountsRight_b4_b F 12 w (f_X6_areAccountsRight_b4 F 12 w n) _ _ = _
      unfold f_X6_areAccountsRight_b4_b
      rw [hN.1.2.2.1, gd_t (by omega)]
      by_cases c : r 0 ≤ x
      · have e : x = (r 0).toNat := by omega
        rw [if_pos c, e, hN.2.2.2.1.2]
        exact k35 F 0 (by omega) (by omega)
      · rw [if_neg c, pf4 P12, getX P12 hN.1.1 (by omega) (by omega), bs, lti]
        exact ih (x + 1) (by omega) (by omega)
  exact k4 F 0 (by omega) (by omega)
theorem c_agree (hF : 20000 ≤ F) (hK : TOK w 48) (hN : Rep w 12 r) (hW : WF r) : ∃ w2, f_X10_agree F 0 w = some (true, w2) ∧ Fc 48 w w2 ∧ TOK w2 48 := by
  obtain ⟨w2, e1, e2, e3, e4⟩ := c_sumByWays (F := F) (by omega) hK hN hW
  have N2 : Rep w2 12 r := hN.of fun a a0 a1 => e2 a (by omega)
  unfold f_X10_agree
  rw [k7, k5, pf9 P48, pf9 P12]
  have e1' : f_X3_sumByWays F (48 + 11) 12 w = some w2 := e1
  have s1 : f_X3_hasSameSums F (12 + 11) (48 + 11) (w2 12 1) w2 = some true := by
    rw [N2.1.2.2.1]
    exact c_same (by omega) e3 N2 hW e4
  rw [e1', bs, s1, bs, if_pos rfl, c_tunesOK (by omega) N2 hW, bs, if_pos rfl, c_accOK (by omega) N2 hW, bs, if_pos rfl]
  exact ⟨w2, rfl, e2, e3⟩
end Bf
