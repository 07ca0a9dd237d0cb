/-! ===== the law's own start: its statements, and the row they make ===== -/
theorem farB_add {r : Row} {b a far : Int} (hW : DW r) (hW2 : DW (wayA r b a far)) (h1 : r 1 < 20) (hf : 1 ≤ far) (x y : Int) : farB (wayA r b a far) x y = if (x = b ∧ y = a) ∨ (x = a ∧ y = b) then far else farB r x y := by
  obtain ⟨e1, eb, ea, ef, eo⟩ := wayA_at (r := r) (a := b) (b := a) (far := far) hW.2.1.1
  have hw := hW.2.2.2.2.2.2.2.1
  have hw2 := hW2.2.2.2.2.2.2.2.1
  have r1 := hW.2.1
  have q1 := hW2.2.1
  generalize wayA r b a far = q at e1 eb ea ef eo hw2 q1 ⊢
  have en : En2 q (r 1) b a := Or.inl ⟨eb, ea⟩
  have eq : ∀ i, 0 ≤ i → i < r 1 → ∀ x y, En2 q i x y ↔ En2 r i x y := fun i i0 i1 x y => by
    unfold En2
    rw [eo _ (by omega) (by omega), eo _ (by omega) (by omega)]
  by_cases c : (x = b ∧ y = a) ∨ (x = a ∧ y = b)
  · rw [if_pos c]
    have hb := wayB_of hw2 q1.1 r1.1 (by omega) (en2_pr en c)
    unfold farB
    rw [hb, if_neg (by omega)]
    exact ef
  · rw [if_neg c]
    by_cases hfr : farB r x y = -1
    · rw [hfr]
      refine Classical.byContradiction fun h => ?_
      obtain ⟨i, i0, i1, e, -⟩ := farB_en hw2 q1.1 h
      by_cases ei : i = r 1
      · rw [ei] at e
        exact c (en2_un en e)
      · have e2 := (eq i i0 (by omega) x y).mp e
        have hb := wayB_of hw r1.1 i0 (by omega) e2
        have hl := hw.1 i i0 (by omega)
        unfold farB at hfr
        rw [hb, if_neg (by omega)] at hfr
        omega
    · obtain ⟨j, j0, j1, je, jf, -⟩ := farB_en hw r1.1 hfr
      have hb := wayB_of hw2 q1.1 j0 (by omega) ((eq j j0 j1 x y).mpr je)
      rw [jf]
      unfold farB
      rw [hb, if_neg (by omega)]
      exact eo _ (by omega) (by omega)
theorem wayB_none {r : Row} (hw : Ww r) (h1 : 0 ≤ r 1) {a b : Int} (h : farB r a b = -1) : wayB r a b = -1 := by
  refine Classical.byContradiction fun hv => ?_
  obtain ⟨v0, v1, -⟩ := wayB_en h1 hv
  have := hw.1 _ v0 v1
  unfold farB at h
  rw [if_neg hv] at h
  omega
theorem txz_app : ∀ (A C : List Sz), txz (A ++ C) = txz A ++ txz C := by
  intro A
  induction A with
  | nil => intro C; rfl
  | cons q A ih => intro C; show sbz q ++ txz (A ++ C) = sbz q ++ txz A ++ txz C; rw [ih, List.append_assoc]
theorem rowsz_app : ∀ (A C : List Sz) (r : Row), rowsz r (A ++ C) = rowsz (rowsz r A) C := by
  intro A
  induction A with
  | nil => intro C r; rfl
  | cons q A ih => intro C r; exact ih C (rowz r q)
theorem rowsz_1 (r : Row) (q : Sz) : rowsz r [q] = rowz r q := rfl
theorem rowz_wy (r : Row) (b a f : Int) : rowz r (1, b, a, f, 0, 0) = wayA r b a f := (if_neg (show ¬ (1 : Int) = 0 by decide)).trans (if_pos rfl)
theorem rowz_st {r : Row} {v k : Int} (h : 8 ≤ v) : rowz r (v, k, 0, 0, 0, 0) = setT r v k := (if_neg (show ¬ v = 0 by omega)).trans (if_neg (show ¬ v = 1 by omega))
theorem okz_wy {r : Row} {b a f : Int} (h : oWy r b a f) : okz r (1, b, a, f, 0, 0) := ((if_neg (show ¬ (1 : Int) = 0 by decide)).trans (if_pos rfl)).mpr h
theorem okz_st {r : Row} {v k : Int} (h : oSt v k) : okz r (v, k, 0, 0, 0, 0) := ((if_neg (show ¬ v = 0 by have := h.1; omega)).trans (if_neg (show ¬ v = 1 by have := h.1; omega))).mpr h
theorem okA_app : ∀ (A C : List Sz) (r : Row), okA r A → okA (rowsz r A) C → okA r (A ++ C) := by
  intro A
  induction A with
  | nil => intro C r _ h; exact h
  | cons q A ih => intro C r h k; exact ⟨h.1, ih C (rowz r q) h.2 k⟩
/-- what the law drew -/
abbrev Dt : Type := Int × (Int → Int) × (Int → Int) × (Int → Int) × (Int → Int) × (Int → Int → Int) × Int × Int × Int
abbrev tR (d : Dt) : Int := d.1
abbrev tb (d : Dt) : Int → Int := d.2.1
abbrev te (d : Dt) : Int → Int := d.2.2.1
abbrev tf (d : Dt) : Int → Int := d.2.2.2.1
abbrev tp (d : Dt) : Int → Int := d.2.2.2.2.1
abbrev tw (d : Dt) : Int → Int → Int := d.2.2.2.2.2.1
abbrev twi (d : Dt) : Int := d.2.2.2.2.2.2.1
abbrev tdu (d : Dt) : Int := d.2.2.2.2.2.2.2.1
abbrev tag (d : Dt) : Int := d.2.2.2.2.2.2.2.2
def DtOK (d : Dt) : Prop := (3 ≤ tR d ∧ tR d ≤ 5) ∧ (∀ x, 0 ≤ x → x < tR d → (1 ≤ tb d x ∧ tb d x ≤ 8) ∧ (0 ≤ te d x ∧ te d x ≤ 9) ∧ (0 ≤ tf d x ∧ tf d x ≤ 3) ∧ (0 ≤ tp d x ∧ tp d x ≤ 31)) ∧ (∀ a b, 0 ≤ a → a < b → b < tR d → 0 ≤ tw d a b ∧ tw d a b ≤ 9) ∧ (0 ≤ twi d ∧ twi d ≤ 9) ∧ (20 ≤ tdu d ∧ tdu d ≤ 51) ∧ (0 ≤ tag d ∧ tag d ≤ 3)
def rfL (d : Dt) : Nat → List Sz
  | 0 => []
  | n + 1 => rfL d n ++ [(0, (n : Int), tb d n, te d n, tf d n, tp d n)]
def wyB (d : Dt) (a : Nat) : Nat → List Sz
  | 0 => []
  | k + 1 => wyB d a k ++ (if tw d a (a + 1 + k) = 0 then [] else [(1, (a : Int) + 1 + k, (a : Int), tw d a (a + 1 + k), 0, 0)])
def wyA (d : Dt) : Nat → List Sz
  | 0 => []
  | a + 1 => wyA d a ++ wyB d a ((tR d).toNat - 1 - a)
def stL (d : Dt) : List Sz := [(8, twi d, 0, 0, 0, 0), (9, tdu d, 0, 0, 0, 0), (10, tag d, 0, 0, 0, 0)]
def allz (d : Dt) : List Sz := rfL d (tR d).toNat ++ wyA d (tR d).toNat ++ stL d
/-- the way's length between two roofs, either way round -/
def twS (d : Dt) (x y : Int) : Int := if x < y then tw d x y else if y < x then tw d y x else 0
/-- the row while it grows: n roofs; the pairs that P tells have been asked -/
def RIz (d : Dt) (n : Int) (P : Int → Int → Prop) (r : Row) : Prop := DW r ∧ r 0 = n ∧ (∀ x, 0 ≤ x → x < n → r (25 + 13 * x + 7) = tb d x ∧ r (25 + 13 * x + 8) = te d x ∧ r (25 + 13 * x + 9) = tf d x ∧ r (25 + 13 * x + 10) = tp d x ∧ r (25 + 13 * x + 11) = 0 ∧ r (25 + 13 * x + 12) = 0) ∧ (∀ x y, 0 ≤ x → x < y → y < n → (P x y → farB r x y = if tw d x y = 0 then -1 else tw d x y) ∧ (¬ P x y → farB r x y = -1)) ∧ r 7 ≤ 31 * n
section Dz
variable {d : Dt}
theorem farB_0 {r : Row} (h : r 1 = 0) (x y : Int) : farB r x y = -1 := by
  have : wayB r x y = -1 := by
    unfold wayB
    rw [h]; rfl
  unfold farB
  rw [if_pos this]
theorem rw_rf (hd : DtOK d) : ∀ n : Nat, (n : Int) ≤ tR d → okA R0z (rfL d n) ∧ RIz d n (fun _ _ => False) (rowsz R0z (rfL d n)) ∧ rowsz R0z (rfL d n) 1 = 0 := by
  intro n
  induction n with
  | zero =>
    intro _
    refine ⟨trivial, ⟨clrT_DW _, rfl, fun x x0 x1 => ?_, fun x y x0 x1 x2 => ?_, ?_⟩, rfl⟩
    · rw [show ((0 : Nat) : Int) = 0 from rfl] at x1; omega
    · rw [show ((0 : Nat) : Int) = 0 from rfl] at x2; omega
    · have : rowsz R0z (rfL d 0) 7 = 0 := rfl
      omega
  | succ n ih =>
    intro hn
    obtain ⟨h1, ⟨g1, g2, g3, g4, g7⟩, h3⟩ := ih (by omega)
    obtain ⟨k1, k2, k3, k4⟩ := hd.2.1 n (by omega) (by omega)
    have h5 := hd.1
    have e : rowsz R0z (rfL d (n + 1)) = rRf (rowsz R0z (rfL d n)) n (tb d n) (te d n) (tf d n) (tp d n) := by
      show rowsz R0z (rfL d n ++ _) = _
      rw [rowsz_app, rowsz_1]
      unfold rowz
      rw [if_pos rfl]
    have ok : okA R0z (rfL d (n + 1)) := by
      refine okA_app _ _ _ h1 ⟨?_, trivial⟩
      unfold okz
      rw [if_pos rfl]
      exact ⟨g2.symm, by omega, k1, k2, ⟨k3.1, Int.le_trans k3.2 (by decide)⟩, ⟨k4.1, Int.le_trans k4.2 (by decide)⟩⟩
    rw [e]
    generalize rowsz R0z (rfL d n) = r at h3 g1 g2 g3 g4 g7 ⊢
    have b0 := g1.1
    obtain ⟨a0, a7, aL, aN, p7, p8, p9, p10, p11, p12, ao⟩ := roofA_at (r := r) (l := 1) (f := fun _ => 97 + (n : Int)) (br := tb d n) (ea := te d n) (fe := tf d n) (pu := tp d n) b0.1 (by decide)
    have hD := roofA_DW (l := 1) (f := fun _ => 97 + (n : Int)) g1 (by omega) ⟨by decide, fun _ _ _ => by show 97 ≤ 97 + (n : Int) ∧ 97 + (n : Int) ≤ 122; omega⟩ k1 k2 (fe := tf d n) (by omega) (pu := tp d n) (by omega)
    have z := g1.2.2.2.2.2.2.2.2.2.2
    have e0 : rRf r n (tb d n) (te d n) (tf d n) (tp d n) = roofA r 1 (fun _ => 97 + (n : Int)) (tb d n) (te d n) (tf d n) (tp d n) := rfl
    rw [e0]
    generalize roofA r 1 (fun _ => 97 + (n : Int)) (tb d n) (te d n) (tf d n) (tp d n) = q at a0 a7 p7 p8 p9 p10 p11 p12 ao hD
    have q1 : q 1 = 0 := by rw [ao 1 (by omega) (by decide) (by decide)]; exact h3
    refine ⟨ok, ⟨hD, by rw [a0, g2]; omega, fun x x0 x1 => ?_, fun x y x0 x1 x2 => ⟨fun h => h.elim, fun _ => farB_0 q1 x y⟩, by rw [a7]; omega⟩, q1⟩
    by_cases c : x = n
    · rw [c]
      rw [g2] at p7 p8 p9 p10 p11 p12
      exact ⟨p7, p8, p9, p10, by rw [p11]; exact z _ (by omega) (by omega), by rw [p12]; exact z _ (by omega) (by omega)⟩
    · rw [ao _ (by omega) (by omega) (by omega), ao _ (by omega) (by omega) (by omega), ao _ (by omega) (by omega) (by omega), ao _ (by omega) (by omega) (by omega), ao _ (by omega) (by omega) (by omega), ao _ (by omega) (by omega) (by omega)]
      exact g3 x x0 (by omega)
theorem RIz.iff {n : Int} {P Q : Int → Int → Prop} {r : Row} (h : RIz d n P r) (e : ∀ x y, 0 ≤ x → x < y → y < n → (P x y ↔ Q x y)) : RIz d n Q r := ⟨h.1, h.2.1, h.2.2.1, fun x y x0 x1 x2 => ⟨fun z => (h.2.2.2.1 x y x0 x1 x2).1 ((e x y x0 x1 x2).mpr z), fun z => (h.2.2.2.1 x y x0 x1 x2).2 (fun k => z ((e x y x0 x1 x2).mp k))⟩, h.2.2.2.2⟩
/-- a pair is asked -/
theorem rw_pair (hd : DtOK d) {P : Int → Int → Prop} {r : Row} {a b : Int} (h : RIz d (tR d) P r) (hab : 0 ≤ a ∧ a < b ∧ b < tR d) (hP : ¬ P a b) (h1 : r 1 < 20) {L : List Sz} (hL : L = if tw d a b = 0 then [] else [(1, b, a, tw d a b, 0, 0)]) :
    okA r L ∧ RIz d (tR d) (fun x y => P x y ∨ (x = a ∧ y = b)) (rowsz r L) ∧ rowsz r L 1 ≤ r 1 + 1 := by
  obtain ⟨g1, g2, g3, g4, g7⟩ := h
  have hf := hd.2.2.1 a b hab.1 hab.2.1 hab.2.2
  have h5 := hd.1
  have f0 := (g4 a b hab.1 hab.2.1 hab.2.2).2 hP
  by_cases c : tw d a b = 0
  · rw [if_pos c] at hL
    subst hL
    refine ⟨trivial, ⟨g1, g2, g3, fun x y x0 x1 x2 => ⟨fun z => ?_, fun z => (g4 x y x0 x1 x2).2 (fun k => z (Or.inl k))⟩, g7⟩, by show r 1 ≤ _; omega⟩
    rcases z with z | ⟨rfl, rfl⟩
    · exact (g4 x y x0 x1 x2).1 z
    · rw [if_pos c]; exact f0
  · rw [if_neg c] at hL
    subst hL
    have hww := g1.2.2.2.2.2.2.2.1
    have r1 := g1.2.1
    have hn : wayB r b a = -1 := wayB_none hww r1.1 (by rw [farB_sym hww r1.1]; exact f0)
    have e : rowsz r [(1, b, a, tw d a b, 0, 0)] = wayA r b a (tw d a b) := by
      rw [rowsz_1, rowz_wy]
    have ok : okA r [(1, b, a, tw d a b, 0, 0)] := by
      refine ⟨okz_wy ?_, trivial⟩
      exact ⟨(by omega : 0 ≤ a ∧ a < r 0), (by omega : 0 ≤ b ∧ b < r 0), (by omega : ¬ a = b), h1, (by omega : 1 ≤ tw d a b ∧ tw d a b ≤ 9), hn⟩
    have hD := wayA_DW (far := tw d a b) g1 h1 (a := b) (b := a) (by omega) (by omega) (by omega) (by omega) hn
    have hF := farB_add g1 hD h1 (by omega)
    obtain ⟨e1, eb, ea, ef, eo⟩ := wayA_at (r := r) (a := b) (b := a) (far := tw d a b) r1.1
    rw [e]
    generalize wayA r b a (tw d a b) = q at hD hF e1 eb ea ef eo
    refine ⟨ok, ⟨hD, by rw [eo 0 (by omega) (by decide)]; exact g2, fun x x0 x1 => ?_, fun x y x0 x1 x2 => ?_, by rw [eo 7 (by omega) (by decide)]; exact g7⟩, by rw [e1]; omega⟩
    · rw [eo _ (by omega) (by omega), eo _ (by omega) (by omega), eo _ (by omega) (by omega), eo _ (by omega) (by omega), eo _ (by omega) (by omega), eo _ (by omega) (by omega)]
      exact g3 x x0 x1
    · rw [hF]
      by_cases cx : x = a ∧ y = b
      · obtain ⟨rfl, rfl⟩ := cx
        rw [if_pos (Or.inr ⟨rfl, rfl⟩)]
        exact ⟨fun _ => (if_neg c).symm, fun z => absurd (Or.inr ⟨rfl, rfl⟩) z⟩
      · rw [if_neg (by omega)]
        exact ⟨fun z => (g4 x y x0 x1 x2).1 (z.resolve_right cx), fun z => (g4 x y x0 x1 x2).2 (fun k => z (Or.inl k))⟩
theorem rw_B (hd : DtOK d) {r : Row} {a : Nat} (ha : (a : Int) < tR d) (h : RIz d (tR d) (fun x _ => x < a) r) (h1 : r 1 ≤ 4 * a) : ∀ k : Nat, (a : Int) + 1 + k ≤ tR d → okA r (wyB d a k) ∧ RIz d (tR d) (fun x y => x < a ∨ (x = a ∧ y < a + 1 + k)) (rowsz r (wyB d a k)) ∧ rowsz r (wyB d a k) 1 ≤ 4 * a + k := by
  intro k
  have h5 := hd.1
  induction k with
  | zero =>
    intro hk
    refine ⟨trivial, h.iff fun x y x0 x1 x2 => ?_, by show r 1 ≤ _; omega⟩
    omega
  | succ k ih =>
    intro hk
    obtain ⟨g1, g2, g3⟩ := ih (by omega)
    obtain ⟨k1, k2, k3⟩ := rw_pair hd (a := a) (b := a + 1 + k) (r := rowsz r (wyB d a k)) g2 (by omega) (by omega) (by omega) rfl
    have e : wyB d a (k + 1) = wyB d a k ++ (if tw d a (a + 1 + k) = 0 then [] else [(1, (a : Int) + 1 + k, (a : Int), tw d a (a + 1 + k), 0, 0)]) := rfl
    rw [e, rowsz_app]
    refine ⟨okA_app _ _ _ g1 k1, k2.iff fun x y x0 x1 x2 => ?_, by omega⟩
    omega
theorem rw_A (hd : DtOK d) {r : Row} (h : RIz d (tR d) (fun _ _ => False) r) (h1 : r 1 = 0) : ∀ a : Nat, (a : Int) ≤ tR d → okA r (wyA d a) ∧ RIz d (tR d) (fun x _ => x < a) (rowsz r (wyA d a)) ∧ rowsz r (wyA d a) 1 ≤ 4 * a := by
  intro a
  have h5 := hd.1
  induction a with
  | zero =>
    intro _
    refine ⟨trivial, h.iff fun x y x0 x1 x2 => ?_, by show r 1 ≤ _; omega⟩
    exact ⟨fun z => z.elim, fun z => by omega⟩
  | succ a ih =>
    intro ha
    obtain ⟨g1, g2, g3⟩ := ih (by omega)
    obtain ⟨k1, k2, k3⟩ := rw_B hd (a := a) (by omega) g2 g3 ((tR d).toNat - 1 - a) (by omega)
    have e : wyA d (a + 1) = wyA d a ++ wyB d a ((tR d).toNat - 1 - a) := rfl
    rw [e, rowsz_app]
    refine ⟨okA_app _ _ _ g1 k1, k2.iff fun x y x0 x1 x2 => ?_, by omega⟩
    omega
/-- the row that the law's text makes -/
abbrev Rz (d : Dt) : Row := rowsz R0z (allz d)
theorem rw_all (hd : DtOK d) : okA R0z (allz d) ∧ RIz d (tR d) (fun _ _ => True) (Rz d) ∧ Rz d 4 = twi d ∧ Rz d 5 = tdu d ∧ Rz d 6 = tag d ∧ Rz d 1 = rowsz R0z (rfL d (tR d).toNat ++ wyA d (tR d).toNat) 1 := by
  have h5 := hd.1
  have eR : (((tR d).toNat : Nat) : Int) = tR d := by omega
  obtain ⟨a1, a2, a3⟩ := rw_rf hd (tR d).toNat (by omega)
  rw [eR] at a2
  obtain ⟨b1, b2, b3⟩ := rw_A hd a2 a3 (tR d).toNat (by omega)
  have e1 : rowsz R0z (rfL d (tR d).toNat ++ wyA d (tR d).toNat) = rowsz (rowsz R0z (rfL d (tR d).toNat)) (wyA d (tR d).toNat) := rowsz_app _ _ _
  have ok1 := okA_app _ _ _ a1 b1
  unfold Rz allz
  rw [rowsz_app _ (stL d), e1]
  rw [← e1] at b2 b3 ⊢
  have ok2 : okA R0z (rfL d (tR d).toNat ++ wyA d (tR d).toNat ++ stL d) := by
    refine okA_app _ _ _ ok1 ⟨okz_st ?_, okz_st ?_, okz_st ?_, trivial⟩
    · exact ⟨by decide, fun _ => hd.2.2.2.1.2, fun z => absurd z (by decide), fun z => absurd z (by decide), hd.2.2.2.1.1⟩
    · exact ⟨by decide, fun z => absurd z (by decide), fun _ => (by have := hd.2.2.2.2.1; exact ⟨by omega, by omega⟩), fun z => absurd z (by decide), by have := hd.2.2.2.2.1; show 0 ≤ tdu d; omega⟩
    · exact ⟨by decide, fun z => absurd z (by decide), fun z => absurd z (by decide), fun _ => hd.2.2.2.2.2.2, hd.2.2.2.2.2.1⟩
  generalize rowsz R0z (rfL d (tR d).toNat ++ wyA d (tR d).toNat) = r at b2 b3 ⊢
  have es : rowsz r (stL d) = setT (setT (setT r 8 (twi d)) 9 (tdu d)) 10 (tag d) := by
    have e4 : rowsz r (stL d) = rowz (rowz (rowz r (8, twi d, 0, 0, 0, 0)) (9, tdu d, 0, 0, 0, 0)) (10, tag d, 0, 0, 0, 0) := rfl
    rw [e4, rowz_st (by decide), rowz_st (by decide), rowz_st (by decide)]
  obtain ⟨g1, g2, g3, g4, g7⟩ := b2
  have D1 : DW (setT r 8 (twi d)) := setT_DW g1 (by decide) ⟨fun _ => hd.2.2.2.1.2, fun z => absurd z (by decide), fun z => absurd z (by decide), hd.2.2.2.1.1⟩
  have D2 : DW (setT (setT r 8 (twi d)) 9 (tdu d)) := setT_DW D1 (by decide) ⟨fun z => absurd z (by decide), fun _ => (by have := hd.2.2.2.2.1; omega), fun z => absurd z (by decide), by have := hd.2.2.2.2.1; omega⟩
  have D3 : DW (setT (setT (setT r 8 (twi d)) 9 (tdu d)) 10 (tag d)) := setT_DW D2 (by decide) ⟨fun z => absurd z (by decide), fun z => absurd z (by decide), fun _ => hd.2.2.2.2.2.2, hd.2.2.2.2.2.1⟩
  have o : ∀ k, (k < 4 ∨ 6 < k) → setT (setT (setT r 8 (twi d)) 9 (tdu d)) 10 (tag d) k = r k := fun k hk => by
    unfold setT
    rw [rs_ne (by omega), rs_ne (by omega), rs_ne (by omega)]
  have o4 : setT (setT (setT r 8 (twi d)) 9 (tdu d)) 10 (tag d) 4 = twi d := by
    unfold setT
    rw [rs_ne (by decide), rs_ne (by decide)]
    exact rs_self _ _ _
  have o5 : setT (setT (setT r 8 (twi d)) 9 (tdu d)) 10 (tag d) 5 = tdu d := by
    unfold setT
    rw [rs_ne (by decide)]
    exact rs_self _ _ _
  have o6 : setT (setT (setT r 8 (twi d)) 9 (tdu d)) 10 (tag d) 6 = tag d := rs_self _ _ _
  rw [es]
  generalize setT (setT (setT r 8 (twi d)) 9 (tdu d)) 10 (tag d) = q at D3 o o4 o5 o6 ⊢
  have sw : SameW r q := ⟨o 0 (by omega), o 1 (by omega), fun k k0 k1 => o k (by omega)⟩
  refine ⟨ok2, ⟨D3, by rw [o 0 (by omega)]; exact g2, fun x x0 x1 => ?_, fun x y x0 x1 x2 => ⟨fun _ => ?_, fun z => absurd trivial z⟩, by rw [o 7 (by omega)]; exact g7⟩, o4, o5, o6, o 1 (by omega)⟩
  · rw [o _ (by omega), o _ (by omega), o _ (by omega), o _ (by omega), o _ (by omega), o _ (by omega)]
    exact g3 x x0 x1
  · rw [sw.fE g1.2.1]
    exact (g4 x y x0 x1 x2).1 (by omega)
end Dz
