/-! ===== the reference: tunes that come ===== -/
/-- what a step on the row leaves alone -/
def Fm (w w' : aI) : Prop := (∀ a, ¬ a = 210 → ¬ a = 211 → ¬ a = 215 → ¬ a = 216 → ¬ a = 217 → ¬ a = 220 → ¬ a = 221 → w' a = w a) ∧ ∀ k, ¬ k = 8 → ¬ k = 11 → w' 210 k = w 210 k
theorem Fm.refl (w : aI) : Fm w w := ⟨fun _ _ _ _ _ _ _ _ => rfl, fun _ _ _ => rfl⟩
theorem Fm.trans {w w' w'' : aI} (h : Fm w w') (k : Fm w' w'') : Fm w w'' := ⟨fun a h1 h2 h3 h4 h5 h6 h7 => (k.1 a h1 h2 h3 h4 h5 h6 h7).trans (h.1 a h1 h2 h3 h4 h5 h6 h7), fun j h1 h2 => (k.2 j h1 h2).trans (h.2 j h1 h2)⟩
theorem Fm.stc {w w' : aI} (h : Fm w w') {a : Nat} (f : Int → Int) (ha : a = 211 ∨ a = 215 ∨ a = 216 ∨ a = 217 ∨ a = 220 ∨ a = 221) : Fm w (stc w' a f) := by
  refine ⟨fun b h1 h2 h3 h4 h5 h6 h7 => ?_, fun k h1 h2 => ?_⟩
  · rw [stc_ne (by omega)]; exact h.1 b h1 h2 h3 h4 h5 h6 h7
  · rw [stc_ne (by omega)]; exact h.2 k h1 h2
theorem Fm.fld {w w' : aI} (h : Fm w w') {k v : Int} (hk : k = 8 ∨ k = 11) : Fm w (iset w' 210 k v) := by
  refine ⟨fun b h1 h2 h3 h4 h5 h6 h7 => ?_, fun j h1 h2 => ?_⟩
  · rw [is_ne h1]; exact h.1 b h1 h2 h3 h4 h5 h6 h7
  · rw [is_eq, rs_ne (by omega)]; exact h.2 j h1 h2
theorem newT_congr {r : Row} {s g n : Int} {f f' : Int → Int} {rp wa : Int} (h : ∀ j, 0 ≤ j → j < n → f j = f' j) : newT r s g n f rp wa = newT r s g n f' rp wa := by
  funext k
  unfold newT
  by_cases c : 220 + 27 * r 2 ≤ k ∧ k < 220 + 27 * r 2 + 27
  · rw [if_pos c, if_pos c]
    by_cases c1 : k < 220 + 27 * r 2 + 11
    · simp only [c1, if_true]
    · by_cases c2 : k < 220 + 27 * r 2 + 19
      · by_cases c3 : k - (220 + 27 * r 2 + 11) < n
        · simp (disch := omega) only [if_neg, if_pos]
          rw [h _ (by omega) c3]
        · simp (disch := omega) only [if_neg, if_pos]
      · by_cases c3 : k - (220 + 27 * r 2 + 19) < n
        · simp (disch := omega) only [if_neg, if_pos]
          rw [h _ (by omega) c3]
        · simp (disch := omega) only [if_neg]
  · rw [if_neg c, if_neg c]
theorem newT_eq {r : Row} {s g n rp wa : Int} {f : Int → Int} (h2 : 0 ≤ r 2 ∧ r 2 < 30) (hn : 0 ≤ n ∧ n ≤ 8) :
    rs (rs (rs (hearT (fun k => if 220 + 27 * r 2 + 11 ≤ k ∧ k < 220 + 27 * r 2 + 11 + n then f (k - (220 + 27 * r 2 + 11)) else rs (rs (rs (rs (rs (rs (rs (fun k => if 220 + 27 * r 2 ≤ k ∧ k < 220 + 27 * r 2 + 27 then 0 else r k) (220 + 27 * r 2 + 0) s) (220 + 27 * r 2 + 1) g) (220 + 27 * r 2 + 2) n) (220 + 27 * r 2 + 4) s) (220 + 27 * r 2 + 5) (-1)) (220 + 27 * r 2 + 6) rp) (220 + 27 * r 2 + 7) wa k) (r 2)) 2 (r 2 + 1)) 11 (r 11 + 1)) 12 (r 12 + rp) = newT r s g n f rp wa := by
  funext k
  have hk : (k < 220 + 27 * r 2 ∨ 220 + 27 * r 2 + 27 ≤ k) ∨ k = 220 + 27 * r 2 ∨ k = 220 + 27 * r 2 + 1 ∨ k = 220 + 27 * r 2 + 2 ∨ k = 220 + 27 * r 2 + 3 ∨ k = 220 + 27 * r 2 + 4 ∨ k = 220 + 27 * r 2 + 5 ∨ k = 220 + 27 * r 2 + 6 ∨ k = 220 + 27 * r 2 + 7 ∨ (220 + 27 * r 2 + 8 ≤ k ∧ k < 220 + 27 * r 2 + 11) ∨ (220 + 27 * r 2 + 11 ≤ k ∧ k < 220 + 27 * r 2 + 19 ∧ k < 220 + 27 * r 2 + 11 + n) ∨ (220 + 27 * r 2 + 11 ≤ k ∧ k < 220 + 27 * r 2 + 19 ∧ 220 + 27 * r 2 + 11 + n ≤ k) ∨ (220 + 27 * r 2 + 19 ≤ k ∧ k < 220 + 27 * r 2 + 27 ∧ k < 220 + 27 * r 2 + 19 + n) ∨ (220 + 27 * r 2 + 19 ≤ k ∧ k < 220 + 27 * r 2 + 27 ∧ 220 + 27 * r 2 + 19 + n ≤ k) := by omega
  unfold newT hearT
  simp only [rs_def]
  rcases hk with hk | hk | hk | hk | hk | hk | hk | hk | hk | hk | hk | hk | hk | hk
  · by_cases e1 : k = 2
    · simp (disch := omega) only [if_neg, if_pos]
    · by_cases e2 : k = 11
      · simp (disch := omega) only [if_neg, if_pos]
      · by_cases e3 : k = 12
        · simp (disch := omega) only [if_neg, if_pos]
        · simp (disch := omega) only [if_neg]
  · simp (disch := omega) only [if_neg, if_pos]
  · simp (disch := omega) only [if_neg, if_pos]
  · simp (disch := omega) only [if_neg, if_pos]
  · simp (disch := omega) only [if_neg, if_pos]
  · simp (disch := omega) only [if_neg, if_pos]
  · simp (disch := omega) only [if_neg, if_pos]
  · simp (disch := omega) only [if_neg, if_pos]
  · simp (disch := omega) only [if_neg, if_pos]
  · simp (disch := omega) only [if_neg, if_pos]
  · simp (disch := omega) only [if_neg, if_pos]
  · simp (disch := omega) only [if_neg, if_pos]
  · simp (disch := omega) only [if_neg, if_pos]
    exact congrArg f (by omega)
  · simp (disch := omega) only [if_neg, if_pos]
theorem m_newTune {F : Nat} {w : aI} {s g rp wa : Int} (hF : 100 ≤ F) (h2 : 0 ≤ w 211 2 ∧ w 211 2 < 30) (hn : 0 ≤ w 210 11 ∧ w 210 11 ≤ 8) (hrp : rp = 0 ∨ rp = 1) (hwa : wa = 0 ∨ wa = 1) :
    f_X11_newTune F 210 s g rp wa w = some (w 211 2, stc w 211 (newT (w 211) s g (w 210 11) (w 217) rp wa)) := by
  generalize hr : w 211 = r at h2 ⊢
  generalize hN : w 210 11 = N at hn ⊢
  have kb : ∀ (n : Nat) (v : Int), 0 ≤ v → v ≤ N → N - v < n → f_X11_newTune_b127 F 210 s g rp wa n (r 2) (220 + 27 * r 2) v (stc w 211 (fun k => if 220 + 27 * r 2 + 11 ≤ k ∧ k < 220 + 27 * r 2 + 11 + v then w 217 (k - (220 + 27 * r 2 + 11)) else rs (rs (rs (rs (rs (rs (rs (fun k => if 220 + 27 * r 2 ≤ k ∧ k < 220 + 27 * r 2 + 27 then 0 else r k) (220 + 27 * r 2 + 0) s) (220 + 27 * r 2 + 1) g) (220 + 27 * r 2 + 2) N) (220 + 27 * r 2 + 4) s) (220 + 27 * r 2 + 5) (-1)) (220 + 27 * r 2 + 6) rp) (220 + 27 * r 2 + 7) wa k)) = some (r 2, stc w 211 (newT r s g N (w 217) rp wa)) := by
    intro n
    induction n with
    | zero => intro v v0 v1 v2; omega
    | succ n ih =>
      intro v v0 v1 v2
      show f_X11_newTune_b127_b F 210 s g rp wa (f_X11_newTune_b127 F 210 s g rp wa n) _ _ _ _ = _
      unfold f_X11_newTune_b127_b
      have e210 : ∀ f, stc w 211 f 210 11 = N := fun f => by rw [stc_ne (by decide)]; exact hN
      have e217 : ∀ f, stc w 211 f 217 = w 217 := fun f => stc_ne (by decide)
      by_cases c : N ≤ v
      · have e : v = N := by omega
        subst e
        simp (disch := omega) only [e210, gd_t, if_pos]
        rw [m_hears F hF _ (by omega), bs, stc_eq, stc_stc]
        simp (disch := omega) only [m0, n0, gd_t, ltM, stc_eq, is_stc, stc_stc, m_counts, m_one, bs]
        rw [← newT_eq h2 hn]
        obtain ⟨H, eH⟩ : ∃ H : Row, H = hearT (fun k => if 220 + 27 * r 2 + 11 ≤ k ∧ k < 220 + 27 * r 2 + 11 + v then w 217 (k - (220 + 27 * r 2 + 11)) else rs (rs (rs (rs (rs (rs (rs (fun k => if 220 + 27 * r 2 ≤ k ∧ k < 220 + 27 * r 2 + 27 then 0 else r k) (220 + 27 * r 2 + 0) s) (220 + 27 * r 2 + 1) g) (220 + 27 * r 2 + 2) v) (220 + 27 * r 2 + 4) s) (220 + 27 * r 2 + 5) (-1)) (220 + 27 * r 2 + 6) rp) (220 + 27 * r 2 + 7) wa k) (r 2) := ⟨_, rfl⟩
        have a1 : ∀ k, k < 220 + 27 * r 2 → H k = r k := fun k hk => by
          rw [eH]
          unfold hearT
          simp (disch := omega) only [rs_def, if_neg]
        rw [← eH]
        rw [show (10 : Int) + 1 = 11 from rfl, show (10 : Int) + 2 = 12 from rfl, rs_ne (show ¬ (11 : Int) = 2 by omega), rs_ne (show ¬ (12 : Int) = 11 by omega), rs_ne (show ¬ (12 : Int) = 2 by omega), a1 2 (by omega), a1 11 (by omega), a1 12 (by omega)]
      · have h9 := ih (v + 1) (by omega) (by omega) (by omega)
        rw [← h9]
        simp (disch := omega) only [e210, e217, m0, n0, m10, n10, gd_t, if_neg, ltM, stc_eq, is_stc, stc_stc]
        congr 2
        funext k
        rw [rs_def]
        by_cases ck : k = 220 + 27 * r 2 + 11 + v
        · subst ck
          rw [if_pos rfl, if_pos (by omega)]
          exact congrArg (w 217) (by omega)
        · rw [if_neg ck]
          exact ite_iff (by omega)
  have ka : ∀ (n : Nat) (v : Int), 0 ≤ v → v ≤ 27 → 27 - v < n → f_X11_newTune_b18 F 210 s g rp wa n (r 2) (220 + 27 * r 2) v (stc w 211 (fun k => if 220 + 27 * r 2 ≤ k ∧ k < 220 + 27 * r 2 + v then 0 else r k)) = some (r 2, stc w 211 (newT r s g N (w 217) rp wa)) := by
    intro n
    induction n with
    | zero => intro v v0 v1 v2; omega
    | succ n ih =>
      intro v v0 v1 v2
      show f_X11_newTune_b18_b F 210 s g rp wa (f_X11_newTune_b18 F 210 s g rp wa n) _ _ _ _ = _
      unfold f_X11_newTune_b18_b
      have e210 : ∀ f, stc w 211 f 210 11 = N := fun f => by rw [stc_ne (by decide)]; exact hN
      by_cases c : 27 ≤ v
      · have e : v = 27 := by omega
        subst e
        simp (disch := omega) only [e210, m0, n0, gd_t, if_pos, ltM, stc_eq, is_stc, stc_stc, m_one, bs]
        have h9 := kb F 0 (by omega) (by omega) (by omega)
        rw [← h9]
        congr 2
        funext k
        rw [if_neg (by omega)]
      · have h9 := ih (v + 1) (by omega) (by omega) (by omega)
        rw [← h9]
        simp (disch := omega) only [m0, n0, gd_t, if_neg, ltM, stc_eq, is_stc, stc_stc]
        congr 2
        funext k
        rw [rs_def]
        by_cases ck : k = 220 + 27 * r 2 + v
        · subst ck
          rw [if_pos rfl, if_pos (by omega)]
        · rw [if_neg ck]
          exact ite_iff (by omega)
  unfold f_X11_newTune
  have h9 := ka F 0 (by omega) (by omega) (by omega)
  have e : stc w 211 (fun k => if 220 + 27 * r 2 ≤ k ∧ k < 220 + 27 * r 2 + 0 then 0 else r k) = w := by
    have : (fun k => if 220 + 27 * r 2 ≤ k ∧ k < 220 + 27 * r 2 + 0 then 0 else r k) = w 211 := by
      rw [hr]
      funext k
      exact if_neg (by omega)
    rw [this, stc_self]
  rw [e] at h9
  simp (disch := omega) only [m0, n0, hr, gd_t, ltI, m_t, bs]
  exact h9
