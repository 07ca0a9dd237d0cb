/-! ===== method by method: what both answer ===== -/
def cdl : List String → String → Int
  | [], _ => 0
  | a :: l, E => if E = a then 1 else 1 + cdl l E
/-- an answer of the class, an answer of the reference, and which exception of the list the reference says -/
def Ag (l : List String) (res : Int ⊕ String) (b t : Int) : Prop := match res with
  | .inl v => t = 0 ∧ v = b
  | .inr E => t = cdl l E ∧ ¬ t = 0 ∧ E ∈ l
def Top (l : List String) (fc : aI → Option ((Int ⊕ String) × aI)) (fm : aI → Option (Int × aI)) : Prop := ∀ w, Inv w → ∃ res w1 b w2, fc w = some (res, w1) ∧ fm w1 = some (b, w2) ∧ Inv w2 ∧ Ag l res b (w2 210 6)
/-- a query that throws nothing -/
def TopQ (fc : aI → Option Int) (fm : aI → Option (Int × aI)) : Prop := ∀ w, Inv w → ∃ v w2, fc w = some v ∧ fm w = some (v, w2) ∧ Inv w2
def TopW (fc fm : aI → Option (Int × aI)) : Prop := ∀ w, Inv w → ∃ v w1 w2, fc w = some (v, w1) ∧ fm w1 = some (v, w2) ∧ Inv w2
def TopBW (fc fm : aI → Option (Bool × aI)) : Prop := ∀ w, Inv w → ∃ v w1 w2, fc w = some (v, w1) ∧ fm w1 = some (v, w2) ∧ Inv w2
theorem m_may1 {F : Nat} {a : Bool} {w : aI} : f_X11_may F 210 (bI a) 1 1 w = some (a, iset w 210 6 (if a = true then 0 else 1)) := by
  have h := m_may (F := F) (a := a) (b := true) (c := true) (w := w)
  cases a <;> exact h
theorem m_may2 {F : Nat} {a b : Bool} {w : aI} : f_X11_may F 210 (bI a) (bI b) 1 w = some (a && b, iset w 210 6 (if a = true then (if b = true then 0 else 2) else 1)) := by
  have h := m_may (F := F) (a := a) (b := b) (c := true) (w := w)
  cases a <;> cases b <;> exact h
theorem m_may3 {F : Nat} {a b c : Bool} {w : aI} : f_X11_may F 210 (bI a) (bI b) (bI c) w = some (a && b && c, iset w 210 6 (if a = true then (if b = true then (if c = true then 0 else 3) else 2) else 1)) := by
  have h := m_may (F := F) (a := a) (b := b) (c := c) (w := w)
  cases a <;> cases b <;> cases c <;> exact h
theorem Inv.thr {w : aI} (h : Inv w) (t : Int) : Inv (iset w 210 6 t) := h.scratch ((Fw.refl w).thr t) (is_ne (by decide))
theorem thr_at (w : aI) (t : Int) : iset w 210 6 t 210 6 = t := by rw [is_eq, rs_self]
theorem thr_211 (w : aI) (t : Int) : iset w 210 6 t 211 = w 211 := is_ne (by decide)
theorem Inv.thr216 {w : aI} (h : Inv w) (t : Int) (q : Int → Int) : Inv (stc (iset w 210 6 t) 216 q) := h.scratch (((Fw.refl w).thr t).trans ((Fm.refl _).stc q (by omega)).fw) (by rw [stc_ne (by decide), is_ne (by decide)])
theorem thr216_at (w : aI) (t : Int) (q : Int → Int) : stc (iset w 210 6 t) 216 q 210 6 = t := by rw [stc_ne (by decide), is_eq, rs_self]
def NA (r : Row) (v : Int) : Int := if v = 0 then r 0 else if v = 1 then r 1 else if v = 2 then r 2 else if v ≤ 6 then cnt (fun i => decide (r (220 + 27 * i + 3) = v - 3)) (r 2).toNat else if v = 7 then r 3 else if v = 11 then cnt (fun x => busy r x (r 3)) (r 0).toNat else if v = 12 then sm (fun x => r (25 + 13 * x + 10)) (r 0).toNat else r (v - 4)
theorem c_all {F : Nat} {w : aI} {r : Row} {v : Int} (hF : 20000 ≤ F) (h : Rep w 12 r) (hW : WF r) (hv : 0 ≤ v ∧ v ≤ 12) : f_X2_numberOfAll F 12 v w = some (NA r v) := by
  obtain ⟨d0, d1, d2, d3⟩ := h.1.2
  unfold f_X2_numberOfAll
  rw [gd_t (by omega)]
  have hv' : v = 0 ∨ v = 1 ∨ v = 2 ∨ v = 3 ∨ v = 4 ∨ v = 5 ∨ v = 6 ∨ v = 7 ∨ v = 8 ∨ v = 9 ∨ v = 10 ∨ v = 11 ∨ v = 12 := by omega
  rcases hv' with e | e | e | e | e | e | e | e | e | e | e | e | e <;> subst e
  · simp (disch := omega) only [if_pos, if_neg, if_true, NA]; rw [d1]
  · simp (disch := omega) only [if_pos, if_neg, if_true, NA]; rw [d2]
  · simp (disch := omega) only [if_pos, if_neg, if_true, NA]; rw [d3]
  · simp (disch := omega) only [if_pos, if_neg, if_true, NA]; rw [c_tunesIn (by omega) P12 h hW (by decide), bs]
  · simp (disch := omega) only [if_pos, if_neg, if_true, NA]; rw [c_tunesIn (by omega) P12 h hW (by decide), bs]
  · simp (disch := omega) only [if_pos, if_neg, if_true, NA]; rw [c_tunesIn (by omega) P12 h hW (by decide), bs]
  · simp (disch := omega) only [if_pos, if_neg, if_true, NA]; rw [c_tunesIn (by omega) P12 h hW (by decide), bs]
  · simp (disch := omega) only [if_pos, if_neg, if_true, NA]; rw [d0]
  · simp (disch := omega) only [if_pos, if_neg, if_true, NA]; rw [c_set8 P12 h, bs]; rfl
  · simp (disch := omega) only [if_pos, if_neg, if_true, NA]; rw [c_set9 P12 h, bs]; rfl
  · simp (disch := omega) only [if_pos, if_neg, if_true, NA]; rw [c_set10 P12 h, bs]; rfl
  · simp (disch := omega) only [if_pos, if_neg, if_true, NA]; rw [c_busyWhistlers (by omega) P12 h hW, bs]
  · simp (disch := omega) only [if_pos, if_neg, if_true, NA]; rw [c_purses (by omega) P12 h hW, bs]
theorem top_count {F : Nat} (hF : 20000 ≤ F) {v : Int} (hv : rg v) : Top [eIA] (f_X10_count F 0 v) (f_X11_count F 210 v) := by
  intro w hI
  obtain ⟨hN, hW, ht⟩ := hI.2.2.2.2.1
  have hP := hI.2.2.2.2.2.2
  unfold f_X10_count f_X11_count
  rw [c_needNumber hv (by decide) (by decide)]
  by_cases c : 0 ≤ v ∧ v ≤ 13
  · rw [if_pos c, bn0, gd_t hv, k8, k5]
    have e9 : iset w 210 6 0 211 = w 211 := thr_211 w 0
    have e4 : iset w 210 6 0 210 4 = w 210 4 := by rw [is_eq, rs_ne (by omega)]
    refine ⟨.inl (if v = 13 then w 210 4 else NA (w 211) v), w, if v = 13 then w 210 4 else NA (w 211) v, iset w 210 6 0, ?_, ?_, hI.thr 0, thr_at w 0, rfl⟩
    · by_cases c13 : v = 13
      · rw [if_pos c13, if_pos c13]
        show some _ = _
        rw [hP.1]
      · rw [if_neg c13, if_neg c13, c_all hF hN hW (by omega), bs]
    · rw [gd_t hv, m_in (by omega) (by decide) (by decide), bs, decide_eq_true c, m_may1, bk, if_pos rfl, if_pos rfl]
      obtain ⟨b0, b1, b2, b3, -⟩ := hW.1
      have hv' : v = 0 ∨ v = 1 ∨ v = 2 ∨ v = 3 ∨ v = 4 ∨ v = 5 ∨ v = 6 ∨ v = 7 ∨ v = 8 ∨ v = 9 ∨ v = 10 ∨ v = 11 ∨ v = 12 ∨ v = 13 := by omega
      rcases hv' with e | e | e | e | e | e | e | e | e | e | e | e | e | e <;> subst e
      · simp (disch := omega) only [if_pos, if_neg, if_true, m0, n0, gd_t, NA, e9]
      · simp (disch := omega) only [if_pos, if_neg, if_true, m0, n0, gd_t, NA, e9]
      · simp (disch := omega) only [if_pos, if_neg, if_true, m0, n0, gd_t, NA, e9]
      · simp (disch := omega) only [if_pos, if_neg, if_true, NA]; rw [m_those (by omega) (by rw [e9]; exact hW) (by decide), bs, e9]
      · simp (disch := omega) only [if_pos, if_neg, if_true, NA]; rw [m_those (by omega) (by rw [e9]; exact hW) (by decide), bs, e9]
      · simp (disch := omega) only [if_pos, if_neg, if_true, NA]; rw [m_those (by omega) (by rw [e9]; exact hW) (by decide), bs, e9]
      · simp (disch := omega) only [if_pos, if_neg, if_true, NA]; rw [m_those (by omega) (by rw [e9]; exact hW) (by decide), bs, e9]
      · simp (disch := omega) only [if_pos, if_neg, if_true, m0, n0, gd_t, NA, e9]; rfl
      · simp (disch := omega) only [if_pos, if_neg, if_true, m0, n0, gd_t, NA, e9]
      · simp (disch := omega) only [if_pos, if_neg, if_true, m0, n0, gd_t, NA, e9]
      · simp (disch := omega) only [if_pos, if_neg, if_true, m0, n0, gd_t, NA, e9]
      · simp (disch := omega) only [if_pos, if_neg, if_true, NA]; rw [m_busyMany (by omega) (by rw [e9]; exact hW), bs, e9]
      · simp (disch := omega) only [if_pos, if_neg, if_true, NA]; rw [m_purses (by omega) (by rw [e9]; exact hW), bs, e9]
      · simp (disch := omega) only [if_pos, if_neg, if_true]; rw [e4]
  · rw [if_neg c, bn1]
    refine ⟨.inr eIA, w, 0, iset w 210 6 1, rfl, ?_, hI.thr 1, ?_⟩
    · rw [gd_t hv, m_in (by omega) (by decide) (by decide), bs, decide_eq_false c, m_may1, bk, if_neg (by decide), if_neg (by decide)]
    · rw [thr_at]; exact ⟨by decide, by decide, by decide⟩
theorem top_account {F : Nat} (hF : 20000 ≤ F) {v : Int} (hv : rg v) : Top [eIA] (f_X10_account F 0 v) (f_X11_account F 210 v) := by
  intro w hI
  obtain ⟨hN, hW, ht⟩ := hI.2.2.2.2.1
  unfold f_X10_account f_X11_account
  rw [c_needNumber hv (by decide) (by decide)]
  by_cases c : 0 ≤ v ∧ v ≤ 10
  · rw [if_pos c, bn0, k5, pf8 P12, getA P12 hN.1.1 (by omega), bs, hN.2.2.1 v c.1 (by omega)]
    refine ⟨_, w, w 211 (10 + v), iset w 210 6 0, rfl, ?_, hI.thr 0, thr_at w 0, rfl⟩
    rw [gd_t hv, m_in (by omega) (by decide) (by decide), bs, decide_eq_true c, m_may1, bk, if_pos rfl, if_pos rfl, m0, n0, gd_t (by omega), thr_211]
  · rw [if_neg c, bn1]
    refine ⟨.inr eIA, w, 0, iset w 210 6 1, rfl, ?_, hI.thr 1, ?_⟩
    · rw [gd_t hv, m_in (by omega) (by decide) (by decide), bs, decide_eq_false c, m_may1, bk, if_neg (by decide), if_neg (by decide)]
    · rw [thr_at]; exact ⟨by decide, by decide, by decide⟩
theorem top_errorCode {F : Nat} : TopQ (f_X10_errorCode F 0) (f_X11_errorCode F 210) := by
  intro w hI
  have hE := hI.2.2.2.1
  refine ⟨_, _, rfl, ?_, hI.thr 0⟩
  unfold f_X11_errorCode
  rw [ltm, is_eq, rs_ne (by omega), k2, hE.1]
theorem top_errorOffset {F : Nat} : TopQ (f_X10_errorOffset F 0) (f_X11_errorOffset F 210) := by
  intro w hI
  have hE := hI.2.2.2.1
  refine ⟨_, _, rfl, ?_, hI.thr 0⟩
  unfold f_X11_errorOffset
  rw [ltm, is_eq, rs_ne (by omega), k2, hE.2.1]
