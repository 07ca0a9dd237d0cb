/-! ===== what the law wants besides ===== -/
theorem Inv.w19 {w : aI} (h : Inv w) (v : Int) : Inv (iset w 210 19 v) := by
  have ha : ∀ a, ¬ a = 210 → iset w 210 19 v a = w a := fun a h => is_ne h
  have hk : ∀ k, ¬ k = 19 → iset w 210 19 v 210 k = w 210 k := fun k h => by rw [is_eq, rs_ne h]
  generalize iset w 210 19 v = w2 at ha hk ⊢
  obtain ⟨hT, hI, hO, hE, hN, hS, hP⟩ := h
  refine ⟨⟨fun b hb => (hT.1 b hb).of fun a a0 a1 => ha a ?_, ?_⟩, ?_, ?_, ?_, ?_, ?_, ?_⟩
  · have : ∀ b ∈ [12, 30, 48, 66, 84, 102, 120, 138, 156, 174, 192], b + 18 ≤ 210 := by decide
    have := this b hb
    omega
  · rw [ha 8 (by omega)]; exact hT.2
  · unfold IvI
    rw [ha 1 (by omega), ha 2 (by omega), hk 13 (by omega), ha 218 (by omega)]; exact hI
  · unfold IvO
    rw [ha 3 (by omega), ha 4 (by omega), hk 27 (by omega), ha 222 (by omega)]; exact hO
  · unfold IvE
    rw [ha 5 (by omega), hk 14 (by omega), hk 15 (by omega)]; exact hE
  · unfold IvN
    rw [ha 211 (by omega)]
    exact PR.of hN fun a a0 a1 => ha a (by omega)
  · unfold IvS
    rw [ha 0 (by omega), hk 5 (by omega), ha 213 (by omega)]
    exact ⟨hS.1, hS.2.1, fun e => (hS.2.2 e).of fun a a0 a1 => ha a (by omega)⟩
  · unfold IvP
    rw [ha 10 (by omega), hk 4 (by omega), ha 214 (by omega)]
    refine ⟨hP.1, hP.2.1, hP.2.2.1, fun j j0 j1 => (hP.2.2.2 j j0 j1).of fun a a0 a1 => ha a ?_⟩
    have := pb_bd (m := (w 10 1 + j) % 8) (by omega)
    omega
theorem z_fnan {a b : Int32} (hb : ¬ b = 0) : FP.Core.fIsNaN (FP.fdiv (FP.i2f a) (FP.i2f b)) = false := by
  refine FP.Core.fdiv_out ?_ (FP.Core.i2f_fin b) (fun z => FP.Core.i2f_ne_zero hb ((FP.Core.zero_bits232 _).mp z))
  have hm := FP.Core.i2f_mag a
  cases h : FP.Core.fIsNaN (FP.Core.i2f a) with
  | false => rfl
  | true =>
    have := (FP.Core.isNaN_bits32 (FP.Core.i2f a)).mp h
    omega
theorem z_f2dn {v : UInt32} (h : FP.Core.fIsNaN v = false) : vf_n64 (FP.f2d v) := z_n64 (show FP.Core.dIsNaN (FP.f2d v) = false from (FP.f2d_nan v).trans h)
theorem top_rightN : ∀ w, Inv w → ∃ v w2, f_X10_rightPart 20000 0 w = some v ∧ f_X11_rightPart 210 w = some (v, w2) ∧ Inv w2 ∧ vf_n64 (FP.f2d v) := by
  intro w hI
  obtain ⟨hN, hW, h3⟩ := hI.2.2.2.2.1
  obtain ⟨-, -, b2, -⟩ := hW.1
  have ha := hW.2.2.2.2.2.1
  have hl := cnt_le (fun i => decide (w 211 (220 + 27 * i + 3) = 2)) (w 211 2).toNat
  have hrg : rg (w 211 15) := by omega
  obtain ⟨x, hx⟩ : ∃ x, x = iset w 210 6 0 := ⟨_, rfl⟩
  have x211 : x 211 = w 211 := by rw [hx, is_ne (by decide)]
  have a5 := hN.2.2.1 5 (by omega) (by omega)
  have a6 := hN.2.2.1 6 (by omega) (by omega)
  have g5 : f_X7_get 20000 (12 + 9) 0 5 w = some (w 211 15) := by rw [getA P12 hN.1.1 (by omega), a5]; rfl
  have g6 : f_X7_get 20000 (12 + 9) 0 6 w = some (w 211 16) := by rw [getA P12 hN.1.1 (by omega), a6]; rfl
  by_cases c : w 211 15 = 0
  · refine ⟨FP.fconst0, x, ?_, ?_, hx ▸ hI.thr 0, z_f2dn (by decide +kernel)⟩
    · unfold f_X10_rightPart
      rw [k5, pf8 P12, g5, bs, g6, bs, gd_t hrg, if_pos (by omega)]
    · unfold f_X11_rightPart
      rw [ltm, ← hx, m0, n0, x211, gd_t (by decide), gd_t hrg, if_pos c]
  · have hz : ¬ oI (w 211 15) = 0 := by rw [oI_eq0 hrg]; exact c
    refine ⟨qF (w 211 16) (w 211 15), x, ?_, ?_, hx ▸ hI.thr 0, z_f2dn (z_fnan hz)⟩
    · unfold f_X10_rightPart
      rw [k5, pf8 P12, g5, bs, g6, bs, gd_t hrg, if_neg (by omega), gd_t hz]
    · unfold f_X11_rightPart
      rw [ltm, ← hx, m0, n0, x211, gd_t (by decide), gd_t hrg, if_neg c, gd_t (by decide), gd_t hz]
