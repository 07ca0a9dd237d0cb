/-! ===== a script: its text, both sides ===== -/
theorem t70 : shR 7 0 = 5 := by decide +kernel
theorem t71 : shR 7 1 = 12 := by decide +kernel
theorem t72 : shR 7 2 = 8 := by decide +kernel
theorem t82 : shR 8 2 = 9 := by decide +kernel
theorem l9 : shL 9 = 150 := by decide +kernel
theorem put9 {F : Nat} {w : aI} (h : w 8 0 = 30 ∧ w 8 1 = 5) {i j v : Int} (hi : 0 ≤ i ∧ i < 30) (hj : 0 ≤ j ∧ j < 5) : f_X7_put F 8 i j v w = some (stc w 9 (rs (w 9) (5 * i + j) v)) := by
  have h1 := h.1
  have h2 := h.2
  unfold f_X7_put
  have h3 : (i * 5 + j : Int) = 5 * i + j := by omega
  simp (disch := omega) only [h1, h2, gd_t, if_neg, if_pos, ltI, ltM, t82, l9, h3, is_stc]
theorem get9 {F : Nat} {w : aI} (h : w 8 0 = 30 ∧ w 8 1 = 5) {i j : Int} (hi : 0 ≤ i ∧ i < 30) (hj : 0 ≤ j ∧ j < 5) : f_X7_get F 8 i j w = some (w 9 (5 * i + j)) := by
  have h1 := h.1
  have h2 := h.2
  unfold f_X7_get
  have h3 : (i * 5 + j : Int) = 5 * i + j := by omega
  simp (disch := omega) only [h1, h2, gd_t, if_neg, if_pos, ltI, ltM, t82, l9, h3, is_stc]
/-- what one statement may touch: row q of the class, deed q of the reference -/
def FuzS (q : Int) (u u' : aI) : Prop := (∀ a, ¬ a = 5 → ¬ a = 9 → u' a = u a) ∧ ∀ k, (k < 5 * q ∨ 5 * q + 5 ≤ k) → u' 9 k = u 9 k
def FvzS (q : Int) (v v' : aI) : Prop := (∀ a, ¬ a = 210 → ¬ a = 215 → ¬ a = 219 → v' a = v a) ∧ (∀ k, ¬ k = 8 → ¬ k = 16 → ¬ k = 17 → ¬ k = 18 → ¬ k = 19 → ¬ k = 20 → ¬ k = 21 → ¬ k = 23 → v' 210 k = v 210 k) ∧ ∀ k, (k < 12 * q ∨ 12 * q + 12 ≤ k) → v' 219 k = v 219 k
theorem FuzS.trans {q : Int} {u v w : aI} (h : FuzS q u v) (k : FuzS q v w) : FuzS q u w := ⟨fun a a1 a2 => (k.1 a a1 a2).trans (h.1 a a1 a2), fun j j1 => (k.2 j j1).trans (h.2 j j1)⟩
theorem FvzS.trans {q : Int} {u v w : aI} (h : FvzS q u v) (k : FvzS q v w) : FvzS q u w := ⟨fun a a1 a2 a3 => (k.1 a a1 a2 a3).trans (h.1 a a1 a2 a3), fun j a b c d e f g i => (k.2.1 j a b c d e f g i).trans (h.2.1 j a b c d e f g i), fun j j1 => (k.2.2 j j1).trans (h.2.2 j j1)⟩
theorem FuzS.rfz (q : Int) (u : aI) : FuzS q u u := ⟨fun _ _ _ => rfl, fun _ _ => rfl⟩
theorem FvzS.rfz (q : Int) (u : aI) : FvzS q u u := ⟨fun _ _ _ _ => rfl, fun _ _ _ _ _ _ _ _ _ => rfl, fun _ _ => rfl⟩
theorem Fk.fuS {q : Int} {u u' : aI} (h : Fk u u') : FuzS q u u' := ⟨fun a a1 _ => h a a1, fun k _ => by rw [h 9 (by decide)]⟩
theorem Fz.fvS {q : Int} {v v' : aI} (h : Fz v v') : FvzS q v v' := ⟨fun a a1 a2 _ => h.1 a a1 a2, fun k a b c d e f g _ => h.2 k a b c d e f g, fun k _ => by rw [h.1 219 (by decide) (by decide)]⟩
theorem FuzS.puq {q : Int} (u : aI) {k x : Int} (h : 5 * q ≤ k ∧ k < 5 * q + 5) : FuzS q u (stc u 9 (rs (u 9) k x)) := ⟨fun a _ a2 => stc_ne a2, fun j hj => by rw [stc_eq, rs_ne (by omega)]⟩
theorem FvzS.puq {q : Int} (v : aI) {k x : Int} (h : 12 * q ≤ k ∧ k < 12 * q + 12) : FvzS q v (iset v 219 k x) := ⟨fun a _ _ a3 => is_ne a3, fun k _ _ _ _ _ _ _ _ => by rw [is_ne (by decide)], fun j hj => by rw [is_eq, rs_ne (by omega)]⟩
theorem FvzS.f23 {q : Int} (v : aI) (x : Int) : FvzS q v (iset v 210 23 x) := ⟨fun a a1 _ _ => is_ne a1, fun k _ _ _ _ _ _ _ h => by rw [is_eq, rs_ne h], fun j hj => by rw [is_ne (by decide)]⟩
section Sk
variable {F : Nat} {u v : aI} {B : Int → Int} {N p : Int} {r : Row} {q : Int}
theorem CS.st9 (h : CS u B N p) (f : Int → Int) : CS (stc u 9 f) B N p := by
  unfold CS TX CT
  rw [stc_ne (show ¬ 1 = 9 by decide), stc_ne (show ¬ 2 = 9 by decide), stc_ne (show ¬ 5 = 9 by decide)]
  exact h
theorem CF.st9 {c a : Int} (h : CF u B N c a) (f : Int → Int) : CF (stc u 9 f) B N c a := by
  unfold CF TX
  rw [stc_ne (show ¬ 1 = 9 by decide), stc_ne (show ¬ 2 = 9 by decide), stc_ne (show ¬ 5 = 9 by decide)]
  exact h
theorem MS.i219 (h : MS v B N p) (k x : Int) : MS (iset v 219 k x) B N p := by
  unfold MS TM MT
  rw [is_ne (show ¬ 210 = 219 by decide), is_ne (show ¬ 218 = 219 by decide)]
  exact h
theorem MF.i219 {c a : Int} (h : MF v B N c a) (k x : Int) : MF (iset v 219 k x) B N c a := h.fy (fun _ _ => by rw [is_ne (by decide)]) (is_ne (by decide))
theorem MS.i23 (h : MS v B N p) (x : Int) : MS (iset v 210 23 x) B N p := by
  unfold MS TM MT
  rw [is_ne (show ¬ 218 = 210 by decide), is_eq, rs_ne (show ¬ (13 : Int) = 23 by decide), rs_ne (show ¬ (16 : Int) = 23 by decide), rs_ne (show ¬ (17 : Int) = 23 by decide), rs_ne (show ¬ (18 : Int) = 23 by decide), rs_ne (show ¬ (19 : Int) = 23 by decide), rs_ne (show ¬ (20 : Int) = 23 by decide)]
  exact h
theorem MF.i23 {c a : Int} (h : MF v B N c a) (x : Int) : MF (iset v 210 23 x) B N c a := by
  unfold MF TM
  rw [is_ne (show ¬ 218 = 210 by decide), is_eq, rs_ne (show ¬ (13 : Int) = 23 by decide), rs_ne (show ¬ (16 : Int) = 23 by decide), rs_ne (show ¬ (17 : Int) = 23 by decide), rs_ne (show ¬ (18 : Int) = 23 by decide), rs_ne (show ¬ (19 : Int) = 23 by decide), rs_ne (show ¬ (20 : Int) = 23 by decide), rs_ne (show ¬ (21 : Int) = 23 by decide)]
  exact h
/-- the class's side has what it needs -/
def Hcz (u : aI) (r : Row) (q : Int) : Prop := NmP u 12 r ∧ (u 8 0 = 30 ∧ u 8 1 = 5) ∧ u 7 3 = q
theorem Hcz.fu {u' : aI} (h : Hcz u r q) (f : FuzS q u u') : Hcz u' r q := by
  obtain ⟨⟨h1, h2, h3⟩, h4, h5⟩ := h
  refine ⟨⟨h1.of fun a a0 a1 => f.1 a (by omega) (by omega), ?_, ?_⟩, ?_, ?_⟩
  · rw [f.1 12 (by decide) (by decide)]; exact h2
  · rw [f.1 14 (by decide) (by decide)]; exact h3
  · rw [f.1 8 (by decide) (by decide)]; exact h4
  · rw [f.1 7 (by decide) (by decide)]; exact h5
theorem c_skRoof {col un : Int} (hF : 1000 ≤ F) (hc : CS u B N p) (h : Hcz u r q) (hq : 0 ≤ q ∧ q < 30) (b0 : 0 ≤ r 0 ∧ r 0 ≤ 10) (hr : Wr r) (hcol : 0 ≤ col ∧ col < 5) (hun : rg un) :
    (rhE B N p r un = 0 → ∃ u', f_X4_isRoofRead F 7 col un u = some (true, u') ∧ CS u' B N (tE B N p) ∧ u' 9 = rs (u 9) (5 * q + col) (rhX B N p r) ∧ FuzS q u u') ∧
    (¬ rhE B N p r un = 0 → ∃ u', f_X4_isRoofRead F 7 col un u = some (false, u') ∧ CF u' B N (rhE B N p r un) (tS B N p) ∧ FuzS q u u') := by
  obtain ⟨a1, a2⟩ := c_roofHere (F := F) hF P12 hc h.1 b0 hr hun
  unfold f_X4_isRoofRead
  rw [t70, t71, t72]
  refine ⟨fun z => ?_, fun z => ?_⟩
  · have hx := rhX_ok b0.1 z
    rw [a1 z, bj, gd_t (by omega), if_neg (show ¬ rhX B N p r = -1 by omega), h.2.2, put9 h.2.1 hq hcol, bs]
    obtain ⟨u', e1, e2, e3⟩ := c_next hF (hc.st9 (rs (u 9) (5 * q + col) (rhX B N p r)))
    rw [e1, bs]
    exact ⟨u', rfl, e2, by rw [e3 9 (by decide), stc_eq], (FuzS.puq u (by omega)).trans e3.fuS⟩
  · obtain ⟨u', e1, e2, e3⟩ := a2 z
    rw [e1, bj, gd_t (by decide), if_pos rfl]
    exact ⟨u', rfl, e2, e3.fuS⟩
theorem c_skNum {lo hi : Int} (hF : 1000 ≤ F) (hc : CS u B N p) (h : Hcz u r q) (hq : 0 ≤ q ∧ q < 30) (hlo : 0 ≤ lo ∧ lo ≤ 1000) (hhi : 0 ≤ hi ∧ hi ≤ 1000) :
    (nbE B N p lo hi = 0 → ∃ u', f_X4_isNumberRead F 7 lo hi u = some (true, u') ∧ CS u' B N (tE B N p) ∧ u' 9 = rs (u 9) (5 * q + 3) (tV B N p) ∧ FuzS q u u') ∧
    (¬ nbE B N p lo hi = 0 → ∃ u', f_X4_isNumberRead F 7 lo hi u = some (false, u') ∧ CF u' B N (nbE B N p lo hi) (tS B N p) ∧ FuzS q u u') := by
  obtain ⟨a1, a2⟩ := c_takeNum (F := F) (lo := lo) (hi := hi) hF hc (by omega) (by omega)
  unfold f_X4_isNumberRead
  rw [t70, t72]
  refine ⟨fun z => ?_, fun z => ?_⟩
  · obtain ⟨u', e1, e2, e3⟩ := a1 z
    have hv := nb_v z
    have h' := h.fu e3.fuS
    rw [e1, bj, h'.2.2, put9 h'.2.1 hq (by omega), bs, gd_t (by omega), if_neg (by omega)]
    exact ⟨_, rfl, e2.st9 _, by rw [stc_eq, e3 9 (by decide)], e3.fuS.trans (FuzS.puq u' (by omega))⟩
  · obtain ⟨u', e1, e2, e3⟩ := a2 z
    have h' := h.fu e3.fuS
    rw [e1, bj, h'.2.2, put9 h'.2.1 hq (by omega), bs, gd_t (by decide), if_pos rfl]
    exact ⟨_, rfl, e2.st9 _, e3.fuS.trans (FuzS.puq u' (by omega))⟩
theorem orI_comm (a b : Int) : orI a b = orI b a := by
  unfold orI
  rw [Int32.or_comm]
theorem pk_or {f : Int → Int} {i x : Int} (hi : 0 ≤ i ∧ i < 8) (hf : ∀ j, 0 ≤ j → j < i → 0 ≤ f j ∧ f j ≤ 7) (hx : 0 ≤ x ∧ x ≤ 7) (hfx : f i = x) : orI (pk (fun j => if j < i then f j else 0)) (shl x (3 * i)) = pk (fun j => if j < i + 1 then f j else 0) := by
  have go : ∀ (k : Nat) (D D2 : Int), k < 31 → 0 ≤ D ∧ D < 2 ^ k → x * 2 ^ k < 2147483648 → D2 = D + x * 2 ^ k → orI D (x * 2 ^ k) = D2 := by
    intro k D D2 k1 k2 k3 k4
    rw [orI_comm, orI_shl k k1 hx.1 k3 k2]
    omega
  have h0 := hf 0
  have h1 := hf 1
  have h2 := hf 2
  have h3 := hf 3
  have h4 := hf 4
  have h5 := hf 5
  have h6 := hf 6
  have hj : i = 0 ∨ i = 1 ∨ i = 2 ∨ i = 3 ∨ i = 4 ∨ i = 5 ∨ i = 6 ∨ i = 7 := by omega
  rcases hj with e | e | e | e | e | e | e | e <;> subst e
  · exact go 0 _ _ (by decide) ⟨by simp [pk], by simp [pk]⟩ (by omega) (by simp [pk] <;> omega)
  · exact go 3 _ _ (by decide) ⟨by simp [pk] <;> omega, by simp [pk] <;> omega⟩ (by omega) (by simp [pk] <;> omega)
  · exact go 6 _ _ (by decide) ⟨by simp [pk] <;> omega, by simp [pk] <;> omega⟩ (by omega) (by simp [pk] <;> omega)
  · exact go 9 _ _ (by decide) ⟨by simp [pk] <;> omega, by simp [pk] <;> omega⟩ (by omega) (by simp [pk] <;> omega)
  · exact go 12 _ _ (by decide) ⟨by simp [pk] <;> omega, by simp [pk] <;> omega⟩ (by omega) (by simp [pk] <;> omega)
  · exact go 15 _ _ (by decide) ⟨by simp [pk] <;> omega, by simp [pk] <;> omega⟩ (by omega) (by simp [pk] <;> omega)
  · exact go 18 _ _ (by decide) ⟨by simp [pk] <;> omega, by simp [pk] <;> omega⟩ (by omega) (by simp [pk] <;> omega)
  · exact go 21 _ _ (by decide) ⟨by simp [pk] <;> omega, by simp [pk] <;> omega⟩ (by omega) (by simp [pk] <;> omega)
/-- the notes of a deed -/
def Nzk (a b : Int → Int) (q : Int) : Prop := (1 ≤ b (12 * q + 3) ∧ b (12 * q + 3) ≤ 8) ∧ a (5 * q + 4) = b (12 * q + 3) ∧ (∀ j, 0 ≤ j → j < b (12 * q + 3) → 0 ≤ b (12 * q + 4 + j) ∧ b (12 * q + 4 + j) ≤ 7) ∧ a (5 * q + 3) = pk (fun j => if j < b (12 * q + 3) then b (12 * q + 4 + j) else 0)
def FuzN (q : Int) (u u' : aI) : Prop := (∀ a, ¬ a = 5 → ¬ a = 9 → u' a = u a) ∧ ∀ k, ¬ k = 5 * q + 3 → ¬ k = 5 * q + 4 → u' 9 k = u 9 k
def FvzN (q : Int) (v v' : aI) : Prop := (∀ a, ¬ a = 210 → ¬ a = 219 → v' a = v a) ∧ (∀ k, ¬ k = 16 → ¬ k = 17 → ¬ k = 18 → ¬ k = 19 → ¬ k = 20 → ¬ k = 21 → v' 210 k = v 210 k) ∧ ∀ k, (k < 12 * q + 3 ∨ 12 * q + 12 ≤ k) → v' 219 k = v 219 k
theorem FuzN.trans {q : Int} {u v w : aI} (h : FuzN q u v) (k : FuzN q v w) : FuzN q u w := ⟨fun a a1 a2 => (k.1 a a1 a2).trans (h.1 a a1 a2), fun j j1 j2 => (k.2 j j1 j2).trans (h.2 j j1 j2)⟩
theorem FvzN.trans {q : Int} {u v w : aI} (h : FvzN q u v) (k : FvzN q v w) : FvzN q u w := ⟨fun a a1 a2 => (k.1 a a1 a2).trans (h.1 a a1 a2), fun j a b c d e f => (k.2.1 j a b c d e f).trans (h.2.1 j a b c d e f), fun j j1 => (k.2.2 j j1).trans (h.2.2 j j1)⟩
theorem Fk.fuN {q : Int} {u u' : aI} (h : Fk u u') : FuzN q u u' := ⟨fun a a1 _ => h a a1, fun k _ _ => by rw [h 9 (by decide)]⟩
theorem Fy.fvN {q : Int} {v v' : aI} (h : Fy v v') : FvzN q v v' := ⟨fun a a1 _ => h.1 a a1, fun k a b c d e f => h.2 k a b c d e f, fun k _ => by rw [h.1 219 (by decide)]⟩
theorem FuzN.fuS {q : Int} {u u' : aI} (h : FuzN q u u') : FuzS q u u' := ⟨h.1, fun k hk => h.2 k (by omega) (by omega)⟩
theorem FvzN.fvS {q : Int} {v v' : aI} (h : FvzN q v v') : FvzS q v v' := ⟨fun a a1 _ a3 => h.1 a a1 a3, fun k _ a b c d e f _ => h.2.1 k a b c d e f, fun k hk => h.2.2 k (by omega)⟩
theorem FvzN.puq {q : Int} (v : aI) {k x : Int} (h : 12 * q + 3 ≤ k ∧ k < 12 * q + 12) : FvzN q v (iset v 219 k x) := ⟨fun a _ a3 => is_ne a3, fun k _ _ _ _ _ _ => by rw [is_ne (by decide)], fun j hj => by rw [is_eq, rs_ne (by omega)]⟩
theorem m_b22dead {c a i x z : Int} {k : Int → aI → Option aI} (hq : 0 ≤ q ∧ q < 30) (h : MF v B N c a) : f_X11_readsNotes_b22 F 210 (12 * q) k i x z 210 v = some (iset v 219 (12 * q + 3) i) := by
  have hc := h.2.2.2.1
  unfold f_X11_readsNotes_b22 f_X11_readsNotes_b47 f_X11_readsNotes_b66
  rw [m_needDead h, bs, h.2.1, gd_t (by omega), if_neg (by omega), m_nextDead h, bs, h.2.1, gd_t (by omega), if_neg (by omega), m22, n22, gd_t (by omega), ltm]
theorem sk_notes (hF : 1000 ≤ F) (hq : 0 ≤ q ∧ q < 30) : ∀ (n m : Nat) (i g : Int) (u v : aI) (p : Int), CS u B N p → MS v B N p → Hcz u r q → (0 ≤ i ∧ i ≤ 8) → 9 - i ≤ n → 9 - i ≤ m →
    (∀ j, 0 ≤ j → j < i → 0 ≤ v 219 (12 * q + 4 + j) ∧ v 219 (12 * q + 4 + j) ≤ 7) → g = pk (fun j => if j < i then v 219 (12 * q + 4 + j) else 0) →
    ∃ u' v', f_X11_readsNotes_b2 F 210 (12 * q) m i v = some v' ∧ FuzN q u u' ∧ FvzN q v v' ∧
      ((∃ p', f_X4_areNotesRead_b4 F 7 n i g u = some (true, u') ∧ p < p' ∧ CS u' B N p' ∧ MS v' B N p' ∧ Nzk (u' 9) (v' 219) q) ∨ (∃ c a, f_X4_areNotesRead_b4 F 7 n i g u = some (false, u') ∧ CF u' B N c a ∧ MF v' B N c a)) := by
  intro n
  induction n with
  | zero => intro m i g u v p hc hm h hi h1; omega
  | succ n ih =>
    intro m i g u v p hc hm h hi h1 h2 hb hg
    obtain ⟨m, rfl⟩ : ∃ j, m = j + 1 := ⟨m - 1, by omega⟩
    have ec : f_X4_areNotesRead_b4 F 7 (n + 1) i g u = f_X4_areNotesRead_b4_b F 7 (f_X4_areNotesRead_b4 F 7 n) i g u := rfl
    have em : f_X11_readsNotes_b2 F 210 (12 * q) (m + 1) i v = f_X11_readsNotes_b2_b F 210 (12 * q) (f_X11_readsNotes_b2 F 210 (12 * q) m) i v := rfl
    rw [ec, em]
    unfold f_X4_areNotesRead_b4_b f_X11_readsNotes_b2_b
    rw [t70]
    obtain ⟨cA, cB⟩ := c_numHere (F := F) (lo := 0) (hi := 7) hc (by decide) (by decide)
    obtain ⟨mA, mB⟩ := m_numHere (F := F) (lo := 0) (hi := 7) hm (by decide) (by decide)
    by_cases q1 : nbE B N p 0 7 = 0
    · have hv := nb_v q1
      have hk := nb_k q1
      rw [cA q1, bk, if_pos rfl, gd_t (by omega), mA q1, bj, gd_t (by omega)]
      by_cases c8 : i = 8
      · obtain ⟨u1, e1, e2, e3⟩ := c_fail (F := F) (c := 5) hc
        obtain ⟨v1, g1, g2, g3⟩ := m_needNo (F := F) (c := 5) (x := 0) hm (by omega) rfl
        have t := m_b22dead (F := F) (i := i) (x := tV B N p) (z := 1) (k := f_X11_readsNotes_b2 F 210 (12 * q) m) hq g2
        have t0 : f_X11_readsNotes_b22 F 210 (12 * q) (f_X11_readsNotes_b2 F 210 (12 * q) m) i (tV B N p) 0 210 v = some (iset v1 219 (12 * q + 3) i) := by
          unfold f_X11_readsNotes_b22 at t ⊢
          rw [m_needDead g2, bs] at t
          rw [g1, bs]
          exact t
        rw [if_pos c8, e1, bk, if_pos (by omega), t0]
        exact ⟨u1, _, rfl, e3.fuN, g3.fvN.trans (FvzN.puq v1 (by omega)), Or.inr ⟨5, _, rfl, e2, g2.i219 _ _⟩⟩
      · have h20 := hm.2.1.2.2.2.2.2
        have hb0 := hc.bd
        rw [if_neg c8, if_neg (by omega), gd_t (by omega), lti, hc.2.1.2.2.2]
        unfold f_X11_readsNotes_b22 f_X11_readsNotes_b47
        rw [m_needOk hm rfl, bs, h20, gd_t (by decide), if_pos rfl, m22, n22, gd_t (by omega), ltm]
        obtain ⟨u1, e1, e2, e3⟩ := c_next hF hc
        obtain ⟨v1, g1, g2, g3⟩ := m_next hF (hm.i219 (12 * q + 4 + i) (tV B N p))
        have x219 : v1 219 = rs (v 219) (12 * q + 4 + i) (tV B N p) := by rw [g3.1 219 (by decide), is_eq]
        have hpk := pk_or (f := fun j => v1 219 (12 * q + 4 + j)) (i := i) (x := tV B N p) (by omega) (fun j j0 j1 => by
          show 0 ≤ v1 219 (12 * q + 4 + j) ∧ v1 219 (12 * q + 4 + j) ≤ 7
          rw [x219, rs_ne (by omega)]; exact hb j j0 j1) hv (by
          show v1 219 (12 * q + 4 + i) = _
          rw [x219, rs_self])
        have hge : g = pk (fun j => if j < i then v1 219 (12 * q + 4 + j) else 0) := by
          rw [hg]
          refine pk_congr fun j j0 j1 => ?_
          show (if j < i then v 219 (12 * q + 4 + j) else 0) = if j < i then v1 219 (12 * q + 4 + j) else 0
          by_cases cj : j < i
          · rw [if_pos cj, if_pos cj, x219, rs_ne (by omega)]
          · rw [if_neg cj, if_neg cj]
        have hb1 : ∀ j, 0 ≤ j → j < i + 1 → 0 ≤ v1 219 (12 * q + 4 + j) ∧ v1 219 (12 * q + 4 + j) ≤ 7 := fun j j0 j1 => by
          by_cases cj : j = i
          · rw [x219, cj, rs_self]; exact hv
          · rw [x219, rs_ne (by omega)]; exact hb j j0 (by omega)
        have fv1 : FvzN q v v1 := (FvzN.puq v (by omega)).trans g3.fvN
        have h' := h.fu e3.fuS
        have h20' := g2.2.1.2.2.2.2.2
        have hb2 := e2.bd
        rw [← hge] at hpk
        rw [hpk, e1, bs, gd_t (by omega), if_neg (by omega), e2.2.1.2.2.1, gd_t (by omega), g1, bs, h20', gd_t (by decide), if_pos rfl, g2.2.1.2.2.1, gd_t (by omega)]
        by_cases c2 : tK B N (tE B N p) = 2
        · rw [if_pos c2, if_pos c2]
          obtain ⟨u2, v2, f1, f2, f3, f4⟩ := ih m (i + 1) _ u1 v1 (tE B N p) e2 g2 h' (by omega) (by omega) (by omega) hb1 rfl
          rcases f4 with ⟨p', f4, f5, f6, f7, f8⟩ | ⟨c, a, f4, f5, f6⟩
          · exact ⟨u2, v2, f1, e3.fuN.trans f2, fv1.trans f3, Or.inl ⟨p', f4, by omega, f6, f7, f8⟩⟩
          · exact ⟨u2, v2, f1, e3.fuN.trans f2, fv1.trans f3, Or.inr ⟨c, a, f4, f5, f6⟩⟩
        · rw [if_neg c2, if_neg c2]
          unfold f_X4_areNotesRead_b75 f_X11_readsNotes_b66
          obtain ⟨x, hx⟩ : ∃ x, x = stc u1 9 (rs (u1 9) (5 * q + 3) (pk (fun j => if j < i + 1 then v1 219 (12 * q + 4 + j) else 0))) := ⟨_, rfl⟩
          have hX : Hcz x r q := hx ▸ h'.fu (FuzS.puq u1 (by omega))
          rw [t72, h'.2.2, put9 h'.2.1 hq (by omega), bs, ← hx, hX.2.2, put9 hX.2.1 hq (by omega), bs, m22, n22, gd_t (by omega), ltm]
          have x9 : x 9 = rs (u1 9) (5 * q + 3) (pk (fun j => if j < i + 1 then v1 219 (12 * q + 4 + j) else 0)) := by rw [hx, stc_eq]
          have hce : CS x B N (tE B N p) := hx ▸ e2.st9 _
          have fx : FuzN q u1 x := ⟨fun a _ a2 => by rw [hx, stc_ne a2], fun k k1 _ => by rw [x9, rs_ne k1]⟩
          refine ⟨_, _, rfl, (e3.fuN.trans fx).trans ⟨fun a _ a2 => stc_ne a2, fun k _ k2 => by rw [stc_eq, rs_ne k2]⟩, fv1.trans (FvzN.puq v1 (by omega)), Or.inl ⟨tE B N p, rfl, by omega, hce.st9 _, g2.i219 _ _, ?_⟩⟩
          unfold Nzk
          rw [stc_eq, is_eq, rs_self, rs_self, rs_ne (by omega), x9, rs_self]
          refine ⟨by omega, rfl, fun j j0 j1 => ?_, pk_congr fun j j0 j1 => ?_⟩
          · rw [rs_ne (by omega)]; exact hb1 j j0 j1
          · show (if j < i + 1 then v1 219 (12 * q + 4 + j) else 0) = if j < i + 1 then rs (v1 219) (12 * q + 3) (i + 1) (12 * q + 4 + j) else 0
            rw [rs_ne (by omega)]
    · obtain ⟨u1, e1, e2, e3⟩ := cB q1
      obtain ⟨v1, g1, g2, g3⟩ := mB q1
      have hd := fun z => m_b22dead (F := F) (i := i) (x := 0) (z := z) (k := f_X11_readsNotes_b2 F 210 (12 * q) m) hq g2
      rw [e1, bk, if_neg (by decide), g1, bj, gd_t (by omega), hd, hd, ite_self]
      exact ⟨u1, _, rfl, e3.fuN, g3.fvN.trans (FvzN.puq v1 (by omega)), Or.inr ⟨_, _, rfl, e2, g2.i219 _ _⟩⟩
end Sk
