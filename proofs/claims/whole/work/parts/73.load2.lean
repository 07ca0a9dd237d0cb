/-! ===== loadPost, both sides ===== -/
section Ld2
variable {F : Nat} {B : Int → Int} {N : Int}
theorem ld_one {w v0 : aI} (hF : 20000 ≤ F) (hTX : TX w B N) (hT : TOK w 48) (hTM : TM v0 B N) (h19 : rg (v0 210 19)) :
    ∃ b u' v', f_X5_isRead F 6 w = some (b, u') ∧ FdzU w u' ∧ TOK u' 48 ∧ ((f_X11_clears F 210 v0).bind fun w3 => (f_X11_starts F 210 w3).bind fun w4 => f_X11_loadPost_b21 F 210 F w4) = f_X11_loadPost_b42 F 210 v' ∧ FvzM v0 v' ∧ rg (v' 211 0) ∧
      ((b = true ∧ v' 210 20 = 0 ∧ 2 ≤ v' 211 0 ∧ u' 5 5 = 0 ∧ u' 5 6 = -1 ∧ Rep u' 48 (v' 211) ∧ WF (v' 211) ∧ v' 211 3 = 0) ∨
       (b = false ∧ ∃ c a, u' 5 5 = c ∧ u' 5 6 = a ∧ (1 ≤ c ∧ c ≤ 6) ∧ (0 ≤ a ∧ a ≤ 800) ∧ ((v' 210 20 = c ∧ v' 210 21 = a) ∨ (c = 6 ∧ v' 210 20 = 0 ∧ v' 211 0 ≤ 1 ∧ v' 210 16 = a)))) := by
  have hN := hTX.2.1
  obtain ⟨u0, e1, D0, f0⟩ := c_clearD (F := F) (w := w) (r := v0 211) (by omega) hT
  have TX0 : TX u0 B N := by
    unfold TX
    rw [f0 1 (by omega), f0 2 (by omega)]
    exact hTX
  obtain ⟨u1, e2, C1, f1⟩ := c_open (F := F) (by omega) TX0
  have TM0 : TM (stc v0 211 (clrT (v0 211))) B N := by
    unfold TM
    rw [stc_ne (by decide), stc_ne (by decide)]
    exact hTM
  obtain ⟨v1, g1, M1, fy⟩ := m_starts (F := F) (by omega) TM0 (by rw [stc_ne (by decide)]; exact h19)
  have S1 : Stt u1 v1 B N 0 (clrT (v0 211)) := ⟨C1, M1, D0.fk f1, by rw [fy.1 211 (by decide), stc_eq], clrT_DW _⟩
  obtain ⟨u2, v2, fu, fv, hl, hor⟩ := ld_loop (F := F) (by omega) F F 0 u1 v1 0 _ S1 (by omega) (by omega) (by omega) (by omega)
  have hmod : ((f_X11_clears F 210 v0).bind fun w3 => (f_X11_starts F 210 w3).bind fun w4 => f_X11_loadPost_b21 F 210 F w4) = f_X11_loadPost_b42 F 210 v2 := by
    rw [m_clears (by omega), bs, g1, bs, hl]
  have fw2 : FdzU w u2 := (f0.fd.trans f1.fd).trans fu
  have fv2 : FvzM v0 v2 := ((FvzM.r211 v0 _).trans fy.fv).trans fv
  unfold f_X5_isRead
  rw [p60, p61, e1, bs, e2, bs]
  rcases hor with ⟨p', r', hx, hS, hk⟩ | ⟨c, a, hx, hT2, h1, h2, h3⟩
  · obtain ⟨q1, q2⟩ := ld_b48 (F := F) (by omega) hS
    have hx' : f_X5_isRead_b16 F 6 F 0 u1 = _ := hx
    have hb := hS.1.bd
    have hr0 := hS.2.2.2.2.1
    have h20 : v2 210 20 = 0 := hS.2.1.2.1.2.2.2.2.2
    have e211 := hS.2.2.2.1
    rw [hx']
    by_cases c2 : 2 ≤ r' 0
    · obtain ⟨u3, k1, k2, k3⟩ := q1 c2
      refine ⟨true, u3, v2, k1, fw2.trans k3.fd, k2.1.1, hmod, fv2, by rw [e211]; omega, Or.inl ⟨rfl, h20, by rw [e211]; exact c2, by rw [k3 5 (by omega)]; exact hS.1.2.2.2.1, by rw [k3 5 (by omega)]; exact hS.1.2.2.2.2, by rw [e211]; exact k2, by rw [e211]; exact hS.2.2.2.2.wf c2, by rw [e211]; exact hS.2.2.2.2.2.2.1.2⟩⟩
    · obtain ⟨u3, k1, k2, k3⟩ := q2 c2
      refine ⟨false, u3, v2, k1, fw2.trans k3.fd, (hS.2.2.1.fk k3).1, hmod, fv2, by rw [e211]; omega, Or.inr ⟨rfl, 6, tS B N p', k2.2.1, k2.2.2, by omega, by omega, Or.inr ⟨rfl, h20, by rw [e211]; omega, hS.2.1.2.1.1⟩⟩⟩
  · have hx' : f_X5_isRead_b16 F 6 F 0 u1 = _ := hx
    rw [hx']
    exact ⟨false, u2, v2, rfl, fw2, hT2, hmod, fv2, h3, Or.inr ⟨rfl, c, a, h1.2.1, h1.2.2, h2.2.2.2.1, h2.2.2.2.2.1, Or.inl ⟨h2.2.1, h2.2.2.1⟩⟩⟩
theorem m_b42dead {v : aI} {c a : Int} (hF : 20000 ≤ F) (h0 : rg (v 211 0)) (hc : 1 ≤ c ∧ c ≤ 6) (h1 : (v 210 20 = c ∧ v 210 21 = a) ∨ (c = 6 ∧ v 210 20 = 0 ∧ v 211 0 ≤ 1 ∧ v 210 16 = a)) :
    ∃ w, f_X11_loadPost_b42 F 210 v = some (-1, w) ∧ w 210 14 = c ∧ w 210 15 = a ∧ w 210 13 = 0 ∧ (∀ k, ¬ k = 13 → ¬ k = 14 → ¬ k = 15 → ¬ k = 20 → ¬ k = 21 → w 210 k = v 210 k) ∧ (∀ b, ¬ b = 210 → ¬ b = 211 → w b = v b) ∧ w 211 = fun k => if 0 ≤ k ∧ k < 1030 then v 212 k else v 211 k := by
  have tl : ∀ x : aI, x 210 20 = c → x 210 21 = a → (∀ k, ¬ k = 20 → ¬ k = 21 → x 210 k = v 210 k) → (∀ b, ¬ b = 210 → x b = v b) → ∃ w, ((f_X11_ending F 210 x).bind (fun w8 => gd (rg (w8 210 20)) (if (w8 210 20) ≤ 0 then (ltM (iset w8 210 4 0) (fun w10 => ltM (iset w10 210 5 0) (fun w11 => gd (inI 1 (shL (shR 210 0))) (some (w11 (shR 210 0) 1, w11))))) else (bJW (f_X11_gives F 210 (shR 210 1) (-1) w8) (fun r12 w13 => some (r12, w13)))))) = some (-1, w) ∧ w 210 14 = c ∧ w 210 15 = a ∧ w 210 13 = 0 ∧ (∀ k, ¬ k = 13 → ¬ k = 14 → ¬ k = 15 → ¬ k = 20 → ¬ k = 21 → w 210 k = v 210 k) ∧ (∀ b, ¬ b = 210 → ¬ b = 211 → w b = v b) ∧ w 211 = fun k => if 0 ≤ k ∧ k < 1030 then v 212 k else v 211 k := by
    intro x x20 x21 xf xo
    rw [m_ending (by omega), bs, x20, if_neg (by omega), x21, m1]
    obtain ⟨e, he⟩ : ∃ e, e = iset (iset (iset x 210 14 c) 210 15 a) 210 13 0 := ⟨_, rfl⟩
    rw [← he]
    have e20 : e 210 20 = c := by rw [he, is_eq, rs_ne (by omega), is_eq, rs_ne (by omega), is_eq, rs_ne (by omega)]; exact x20
    have e14 : e 210 14 = c := by rw [he, is_eq, rs_ne (by omega), is_eq, rs_ne (by omega), is_eq, rs_self]
    have e15 : e 210 15 = a := by rw [he, is_eq, rs_ne (by omega), is_eq, rs_self]
    have e13 : e 210 13 = 0 := by rw [he, is_eq, rs_self]
    have ef : ∀ k, ¬ k = 13 → ¬ k = 14 → ¬ k = 15 → e 210 k = x 210 k := fun k k1 k2 k3 => by rw [he, is_eq, rs_ne k1, is_eq, rs_ne k3, is_eq, rs_ne k2]
    have eo : ∀ b, ¬ b = 210 → e b = x b := fun b hb => by rw [he, is_ne hb, is_ne hb, is_ne hb]
    clear he
    rw [e20, gd_t (by omega), if_neg (by omega), m_gives (by omega) (by decide +kernel) (by decide), bj]
    refine ⟨_, rfl, by rw [stc_ne (by decide)]; exact e14, by rw [stc_ne (by decide)]; exact e15, by rw [stc_ne (by decide)]; exact e13, fun k k1 k2 k3 k4 k5 => by rw [stc_ne (by decide), ef k k1 k2 k3, xf k k4 k5], fun b b1 b2 => by rw [stc_ne b2, eo b b1, xo b b1], ?_⟩
    rw [stc_eq, eo 212 (by decide), eo 211 (by decide), xo 212 (by decide), xo 211 (by decide)]
  unfold f_X11_loadPost_b42
  rw [m0, n0, gd_t (by decide), gd_t h0]
  have dd : ∀ z, v 210 20 = c → v 210 21 = a → f_X11_need F 210 z 6 v = some v := fun z h2 h3 => by
    unfold f_X11_need
    rw [h2, gd_t (by omega), if_neg (by omega)]
  rcases h1 with ⟨h2, h3⟩ | ⟨h2, h3, h4, h5⟩
  · have t := tl v h2 h3 (fun _ _ _ => rfl) (fun _ _ => rfl)
    split
    · unfold f_X11_loadPost_b58
      rw [dd 0 h2 h3, bs]; exact t
    · unfold f_X11_loadPost_b58
      rw [dd 1 h2 h3, bs]; exact t
  · rw [if_pos h4]
    unfold f_X11_loadPost_b58 f_X11_need
    rw [h3, gd_t (by decide), if_pos rfl, gd_t (by decide), if_pos rfl, ltm, ltm, bs]
    have e16 : iset v 210 20 6 210 16 = a := by rw [is_eq, rs_ne (by omega)]; exact h5
    rw [e16]
    exact tl (iset (iset v 210 20 6) 210 21 a) (by rw [is_eq, rs_ne (by omega), is_eq, rs_self, h2]) (by rw [is_eq, rs_self]) (fun k k1 k2 => by rw [is_eq, rs_ne k2, is_eq, rs_ne k1]) (fun b hb => by rw [is_ne hb, is_ne hb])
theorem m_b42ok {v : aI} (h2 : 2 ≤ v 211 0) (h0 : rg (v 211 0)) (h20 : v 210 20 = 0) :
    ∃ w, f_X11_loadPost_b42 F 210 v = some (v 211 1, w) ∧ w 210 14 = 0 ∧ w 210 15 = -1 ∧ w 210 13 = 0 ∧ w 210 4 = 0 ∧ w 210 5 = 0 ∧ (∀ k, ¬ k = 13 → ¬ k = 14 → ¬ k = 15 → ¬ k = 4 → ¬ k = 5 → w 210 k = v 210 k) ∧ ∀ b, ¬ b = 210 → w b = v b := by
  unfold f_X11_loadPost_b42 f_X11_loadPost_b58 f_X11_need
  rw [m0, n0, gd_t (by decide), gd_t h0, if_neg (by omega), h20, gd_t (by decide), if_pos rfl, gd_t (by decide), if_neg (by decide), bs, m_ending (by rw [h20]; decide), bs, h20, if_pos rfl]
  obtain ⟨e, he⟩ : ∃ e, e = iset (iset (iset v 210 14 0) 210 15 (-1)) 210 13 0 := ⟨_, rfl⟩
  rw [← he]
  have e20 : e 210 20 = 0 := by rw [he, is_eq, rs_ne (by omega), is_eq, rs_ne (by omega), is_eq, rs_ne (by omega)]; exact h20
  have e14 : e 210 14 = 0 := by rw [he, is_eq, rs_ne (by omega), is_eq, rs_ne (by omega), is_eq, rs_self]
  have e15 : e 210 15 = -1 := by rw [he, is_eq, rs_ne (by omega), is_eq, rs_self]
  have e13 : e 210 13 = 0 := by rw [he, is_eq, rs_self]
  have ef : ∀ k, ¬ k = 13 → ¬ k = 14 → ¬ k = 15 → e 210 k = v 210 k := fun k k1 k2 k3 => by rw [he, is_eq, rs_ne k1, is_eq, rs_ne k3, is_eq, rs_ne k2]
  have eo : ∀ b, ¬ b = 210 → e b = v b := fun b hb => by rw [he, is_ne hb, is_ne hb, is_ne hb]
  clear he
  rw [e20, gd_t (by decide), if_pos (by decide), ltm, ltm, gd_t (by decide), is_ne (show ¬ 211 = 210 by decide), is_ne (show ¬ 211 = 210 by decide), eo 211 (by decide)]
  refine ⟨_, rfl, ?_, ?_, ?_, ?_, ?_, fun k k1 k2 k3 k4 k5 => ?_, fun b hb => ?_⟩
  · rw [is_eq, rs_ne (by omega), is_eq, rs_ne (by omega)]; exact e14
  · rw [is_eq, rs_ne (by omega), is_eq, rs_ne (by omega)]; exact e15
  · rw [is_eq, rs_ne (by omega), is_eq, rs_ne (by omega)]; exact e13
  · rw [is_eq, rs_ne (by omega), is_eq, rs_self]
  · rw [is_eq, rs_self]
  · rw [is_eq, rs_ne k5, is_eq, rs_ne k4, ef k k1 k2 k3]
  · rw [is_ne hb, is_ne hb, eo b hb]
end Ld2
theorem pb_in {b : Nat} (h : Pb b) : 12 ≤ b ∧ b + 18 ≤ 210 ∧ (b = 12 ∨ b = 48 ∨ ((b + 18 ≤ 12 ∨ 30 ≤ b) ∧ (b + 18 ≤ 48 ∨ 66 ≤ b))) := by
  have : ∀ b ∈ [12, 30, 48, 66, 84, 102, 120, 138, 156, 174, 192], 12 ≤ b ∧ b + 18 ≤ 210 ∧ (b = 12 ∨ b = 48 ∨ ((b + 18 ≤ 12 ∨ 30 ≤ b) ∧ (b + 18 ≤ 48 ∨ 66 ≤ b))) := by decide
  exact this b h
theorem top_loadPost {F : Nat} (hF : 20000 ≤ F) : ∀ w, Inv w → rg (w 210 19) → ∃ v w1 w2, f_X10_loadPost F 0 w = some (v, w1) ∧ f_X11_loadPost F 210 w1 = some (v, w2) ∧ Inv w2 := by
  intro w hI h19
  have hI0 := hI
  obtain ⟨hT, ⟨i1, i2, i3⟩, hO, hE, hN, hS, hP⟩ := hI
  have TX0 : TX w (w 2) (w 210 13) := ⟨i1, i2, fun k k0 k1 => ⟨(i3 k k0 k1).1, rfl⟩⟩
  have TM0 : TM w (w 2) (w 210 13) := ⟨rfl, i2, i3⟩
  obtain ⟨b, u', v', e1, fu, hT', -, -, -, hor⟩ := ld_one (F := F) hF TX0 (hT.1 48 P48) TM0 h19
  obtain ⟨x, hx⟩ : ∃ x, x = iset u' 1 1 0 := ⟨_, rfl⟩
  have xo : ∀ a, ¬ a = 1 → ¬ a = 5 → (a < 48 ∨ 66 ≤ a) → x a = w a := fun a a0 a1 a2 => by rw [hx, is_ne a0]; exact fu a a1 a2
  have xu : ∀ a, ¬ a = 1 → x a = u' a := fun a a0 => by rw [hx, is_ne a0]
  have x1 : x 1 1 = 0 := by rw [hx, is_eq, rs_self]
  have ec : f_X10_loadPost F 0 w = if b then ((f_X2_copyFrom F 12 48 x).bind (fun w4 => (f_X1_forget F 10 w4).bind (fun w5 => ltM (iset w5 0 9 0) (fun w6 => some (w6 12 2, w6))))) else (some ((-1), x)) := by
    unfold f_X10_loadPost f_X0_clear
    rw [k3, k0, k5, k7, k8, e1, bk, ltm, bs, ← hx]
  -- what the reference has before its setup
  have mod : ∀ w1 : aI, (∀ a, 210 ≤ a → w1 a = w a) → ∃ y v2, f_X11_loadPost F 210 w1 = f_X11_loadPost_b42 F 210 v2 ∧ rg (v2 211 0) ∧ (∀ a, ¬ a = 210 → ¬ a = 211 → ¬ a = 212 → ¬ a = 215 → v2 a = w1 a) ∧ (∀ k, 0 ≤ k → k < 1030 → v2 212 k = w 211 k) ∧ (∀ k, ¬ k = 6 → ¬ k = 8 → ¬ k = 16 → ¬ k = 17 → ¬ k = 18 → ¬ k = 19 → ¬ k = 20 → ¬ k = 21 → v2 210 k = w 210 k) ∧ y = (0 : Int) ∧
      ((b = true ∧ v2 210 20 = 0 ∧ 2 ≤ v2 211 0 ∧ u' 5 5 = 0 ∧ u' 5 6 = -1 ∧ Rep u' 48 (v2 211) ∧ WF (v2 211) ∧ v2 211 3 = 0) ∨
       (b = false ∧ ∃ c a, u' 5 5 = c ∧ u' 5 6 = a ∧ (1 ≤ c ∧ c ≤ 6) ∧ (0 ≤ a ∧ a ≤ 800) ∧ ((v2 210 20 = c ∧ v2 210 21 = a) ∨ (c = 6 ∧ v2 210 20 = 0 ∧ v2 211 0 ≤ 1 ∧ v2 210 16 = a)))) := by
    intro w1 h1
    obtain ⟨z, hz⟩ : ∃ z, z = stc (iset w1 210 6 0) 212 (fun k => if 0 ≤ k ∧ k < 1030 then iset w1 210 6 0 211 k else iset w1 210 6 0 212 k) := ⟨_, rfl⟩
    have z210 : ∀ k, ¬ k = 6 → z 210 k = w 210 k := fun k hk => by rw [hz, stc_ne (by decide), is_eq, rs_ne hk, h1 210 (by decide)]
    have zo : ∀ a, ¬ a = 210 → ¬ a = 212 → z a = w1 a := fun a a0 a1 => by rw [hz, stc_ne a1, is_ne a0]
    have z212 : ∀ k, 0 ≤ k → k < 1030 → z 212 k = w 211 k := fun k k0 k1 => by rw [hz, stc_eq, if_pos ⟨k0, k1⟩, is_ne (by decide), h1 211 (by decide)]
    have TMz : TM z (w 2) (w 210 13) := by
      refine ⟨z210 13 (by decide), i2, fun k k0 k1 => ?_⟩
      rw [zo 218 (by decide) (by decide), h1 218 (by decide)]
      exact i3 k k0 k1
    obtain ⟨b2, u2, v2, q1, q2, q3, q4, q5, q6, q7⟩ := ld_one (F := F) (v0 := z) hF TX0 (hT.1 48 P48) TMz (by rw [z210 19 (by decide)]; exact h19)
    rw [e1] at q1
    cases q1
    refine ⟨0, v2, ?_, q6, fun a a0 a1 a2 a3 => by rw [q5.1 a a0 a1 a3, zo a a0 a2], fun k k0 k1 => by rw [q5.1 212 (by decide) (by decide) (by decide)]; exact z212 k k0 k1, fun k k6 k8 k16 k17 k18 k19 k20 k21 => by rw [q5.2 k k8 k16 k17 k18 k19 k20 k21]; exact z210 k k6, rfl, q7⟩
    unfold f_X11_loadPost
    rw [ltm, m1, m_copies (by omega) (by decide +kernel) (by decide), bs, ← hz]
    exact q4
  rw [ec]
  cases b with
  | false =>
    obtain ⟨y, v2, m1', m2, m3, m4, m5, -, m6⟩ := mod x (fun a ha => xo a (by omega) (by omega) (by omega))
    obtain ⟨c, a, k1, k2, k3, k4, k5⟩ : ∃ c a, u' 5 5 = c ∧ u' 5 6 = a ∧ (1 ≤ c ∧ c ≤ 6) ∧ (0 ≤ a ∧ a ≤ 800) ∧ ((v2 210 20 = c ∧ v2 210 21 = a) ∨ (c = 6 ∧ v2 210 20 = 0 ∧ v2 211 0 ≤ 1 ∧ v2 210 16 = a)) := by
      rcases m6 with h | h
      · exact absurd h.1 (by decide)
      · exact h.2
    obtain ⟨w3, n1, n2, n3, n4, n5, n6, n7⟩ := m_b42dead (F := F) hF m2 k3 k5
    refine ⟨-1, x, w3, by rw [if_neg (by decide)], by rw [m1', n1], ?_⟩
    have lo : ∀ a, ¬ a = 210 → ¬ a = 211 → ¬ a = 212 → ¬ a = 215 → ¬ a = 1 → ¬ a = 5 → (a < 48 ∨ 66 ≤ a) → w3 a = w a := fun a a0 a1 a2 a3 a4 a5 a6 => by rw [n6 a a0 a1, m3 a a0 a1 a2 a3, xo a a4 a5 a6]
    have fl : ∀ k, k = 27 ∨ k = 5 ∨ k = 4 → w3 210 k = w 210 k := fun k hk => by rw [n5 k (by omega) (by omega) (by omega) (by omega) (by omega), m5 k (by omega) (by omega) (by omega) (by omega) (by omega) (by omega) (by omega) (by omega)]
    have h5 : w3 5 = u' 5 := by rw [n6 5 (by decide) (by decide), m3 5 (by decide) (by decide) (by decide) (by decide), xu 5 (by decide)]
    have h11 : w3 1 1 = 0 := by rw [n6 1 (by decide) (by decide), m3 1 (by decide) (by decide) (by decide) (by decide)]; exact x1
    have h48 : ∀ a, 48 ≤ a → a < 66 → w3 a = u' a := fun a a0 a1 => by rw [n6 a (by omega) (by omega), m3 a (by omega) (by omega) (by omega) (by omega), xu a (by omega)]
    have cp : Cp (w 211) (w3 211) := fun k k0 k1 => by
      rw [n7]
      show (if 0 ≤ k ∧ k < 1030 then v2 212 k else v2 211 k) = _
      rw [if_pos ⟨k0, k1⟩, m4 k k0 k1]
    refine ⟨⟨fun b hb => ?_, ?_⟩, ?_, ?_, ?_, ?_, ?_, ?_⟩
    · have hb9 := pb_in hb
      by_cases c48 : b = 48
      · subst c48
        exact hT'.of fun a a0 a1 => h48 a a0 (by omega)
      · have hd := hb.pd P48 c48
        unfold Pd at hd
        exact (hT.1 b hb).of fun a a0 a1 => lo a (by omega) (by omega) (by omega) (by omega) (by omega) (by omega) (by omega)
    · rw [lo 8 (by decide) (by decide) (by decide) (by decide) (by decide) (by decide) (by decide)]; exact hT.2
    · unfold IvI
      rw [h11, n4]
      exact ⟨rfl, by decide, fun k k0 k1 => by omega⟩
    · unfold IvO
      rw [lo 3 (by decide) (by decide) (by decide) (by decide) (by decide) (by decide) (by decide), lo 4 (by decide) (by decide) (by decide) (by decide) (by decide) (by decide) (by decide), fl 27 (by decide), lo 222 (by decide) (by decide) (by decide) (by decide) (by decide) (by decide) (by decide)]; exact hO
    · unfold IvE
      rw [h5, k1, k2, n2, n3]
      exact ⟨rfl, rfl, by omega, by omega⟩
    · exact (PR.cp hN cp).of fun a a0 a1 => lo a (by omega) (by omega) (by omega) (by omega) (by omega) (by omega) (by omega)
    · unfold IvS
      rw [lo 0 (by decide) (by decide) (by decide) (by decide) (by decide) (by decide) (by decide), fl 5 (by decide), lo 213 (by decide) (by decide) (by decide) (by decide) (by decide) (by decide) (by decide)]
      exact ⟨hS.1, hS.2.1, fun e => (hS.2.2 e).of fun a a0 a1 => lo a (by omega) (by omega) (by omega) (by omega) (by omega) (by omega) (by omega)⟩
    · unfold IvP
      rw [lo 10 (by decide) (by decide) (by decide) (by decide) (by decide) (by decide) (by decide), fl 4 (by decide), lo 214 (by decide) (by decide) (by decide) (by decide) (by decide) (by decide) (by decide)]
      refine ⟨hP.1, hP.2.1, hP.2.2.1, fun j j0 j1 => (hP.2.2.2 j j0 j1).of fun a a0 a1 => ?_⟩
      have h9 := hP.2.2.1
      have := pb_bd (m := (w 10 1 + j) % 8) (by omega)
      exact lo a (by omega) (by omega) (by omega) (by omega) (by omega) (by omega) (by omega)
  | true =>
    have hcp : ∀ r, Rep u' 48 r → WF r → ∃ w2, f_X2_copyFrom F 12 48 x = some w2 ∧ Rep w2 12 r ∧ Fc 12 x w2 := fun r hR hW =>
      c_copy P12 P48 (by decide) hW (hR.of fun a a0 a1 => xu a (by omega)) ((hT.1 12 P12).of fun a a0 a1 => xo a (by omega) (by omega) (by omega))
    obtain ⟨r1, hr1, hw1⟩ : ∃ r, Rep u' 48 r ∧ WF r := by
      rcases hor with h | h
      · exact ⟨_, h.2.2.2.2.2.1, h.2.2.2.2.2.2.1⟩
      · exact absurd h.1 (by decide)
    obtain ⟨w2, c1, -, c3⟩ := hcp r1 hr1 hw1
    have f10 : f_X1_forget F 10 w2 = some (iset w2 10 2 0) := rfl
    obtain ⟨w6, hw6⟩ : ∃ w6, w6 = iset (iset w2 10 2 0) 0 9 0 := ⟨_, rfl⟩
    have o6 : ∀ a, ¬ a = 0 → ¬ a = 10 → (a < 12 ∨ 30 ≤ a) → w6 a = x a := fun a a0 a1 a2 => by rw [hw6, is_ne a0, is_ne a1, c3 a (by omega)]
    have o612 : ∀ a, 12 ≤ a → a < 30 → w6 a = w2 a := fun a a0 a1 => by rw [hw6, is_ne (by omega), is_ne (by omega)]
    have o610 : ∀ k, ¬ k = 2 → w6 10 k = w 10 k := fun k hk => by rw [hw6, is_ne (by decide), is_eq, rs_ne hk, c3 10 (by omega), xo 10 (by decide) (by decide) (by decide)]
    have o6102 : w6 10 2 = 0 := by rw [hw6, is_ne (by decide), is_eq, rs_self]
    have o609 : w6 0 9 = 0 := by rw [hw6, is_eq, rs_self]
    obtain ⟨y, v2, m1', m2, m3, m4, m5, -, m6⟩ := mod w6 (fun a ha => by rw [o6 a (by omega) (by omega) (by omega), xo a (by omega) (by omega) (by omega)])
    obtain ⟨k0, k1, k2, k3, k4, k5, k6⟩ : v2 210 20 = 0 ∧ 2 ≤ v2 211 0 ∧ u' 5 5 = 0 ∧ u' 5 6 = -1 ∧ Rep u' 48 (v2 211) ∧ WF (v2 211) ∧ v2 211 3 = 0 := by
      rcases m6 with h | h
      · exact h.2
      · exact absurd h.1 (by decide)
    obtain ⟨w2', d1, d2, d3⟩ := hcp (v2 211) k4 k5
    rw [c1] at d1
    cases d1
    obtain ⟨w3, n1, n14, n15, n13, n4, n5, nf, no⟩ := m_b42ok (F := F) k1 m2 k0
    have rep6 : Rep w6 12 (v2 211) := d2.of fun a a0 a1 => o612 a a0 (by omega)
    refine ⟨v2 211 1, w6, w3, ?_, by rw [m1', n1], ?_⟩
    · rw [if_pos rfl, c1, bs, f10, bs, ltm, ← hw6, rep6.1.2.2.2.1]
    have lo : ∀ a, ¬ a = 210 → ¬ a = 211 → ¬ a = 212 → ¬ a = 215 → w3 a = w6 a := fun a a0 a1 a2 a3 => by rw [no a a0, m3 a a0 a1 a2 a3]
    have lw : ∀ a, ¬ a = 210 → ¬ a = 211 → ¬ a = 212 → ¬ a = 215 → ¬ a = 0 → ¬ a = 1 → ¬ a = 5 → ¬ a = 10 → (a < 12 ∨ 30 ≤ a) → (a < 48 ∨ 66 ≤ a) → w3 a = w a := fun a a0 a1 a2 a3 a4 a5 a6 a7 a8 a9 => by rw [lo a a0 a1 a2 a3, o6 a a4 a7 a8, xo a a5 a6 a9]
    have h48 : ∀ a, 48 ≤ a → a < 66 → w3 a = u' a := fun a a0 a1 => by rw [lo a (by omega) (by omega) (by omega) (by omega), o6 a (by omega) (by omega) (by omega), xu a (by omega)]
    refine ⟨⟨fun b hb => ?_, ?_⟩, ?_, ?_, ?_, ?_, ?_, ?_⟩
    · have hb9 := pb_in hb
      by_cases c48 : b = 48
      · subst c48
        exact hT'.of fun a a0 a1 => h48 a a0 (by omega)
      · by_cases c12 : b = 12
        · subst c12
          exact rep6.1.1.of fun a a0 a1 => lo a (by omega) (by omega) (by omega) (by omega)
        · exact (hT.1 b hb).of fun a a0 a1 => lw a (by omega) (by omega) (by omega) (by omega) (by omega) (by omega) (by omega) (by omega) (by omega) (by omega)
    · rw [lw 8 (by decide) (by decide) (by decide) (by decide) (by decide) (by decide) (by decide) (by decide) (by decide) (by decide)]; exact hT.2
    · unfold IvI
      rw [lo 1 (by decide) (by decide) (by decide) (by decide), o6 1 (by decide) (by decide) (by decide), x1, n13]
      exact ⟨rfl, by decide, fun k k0 k1 => by omega⟩
    · unfold IvO
      rw [lw 3 (by decide) (by decide) (by decide) (by decide) (by decide) (by decide) (by decide) (by decide) (by decide) (by decide), lw 4 (by decide) (by decide) (by decide) (by decide) (by decide) (by decide) (by decide) (by decide) (by decide) (by decide), nf 27 (by decide) (by decide) (by decide) (by decide) (by decide), m5 27 (by decide) (by decide) (by decide) (by decide) (by decide) (by decide) (by decide) (by decide), lw 222 (by decide) (by decide) (by decide) (by decide) (by decide) (by decide) (by decide) (by decide) (by decide) (by decide)]; exact hO
    · unfold IvE
      rw [lo 5 (by decide) (by decide) (by decide) (by decide), o6 5 (by decide) (by decide) (by decide), xu 5 (by decide), k2, k3, n14, n15]
      exact ⟨rfl, rfl, by decide, by decide⟩
    · unfold IvN
      rw [no 211 (by decide)]
      exact ⟨rep6.of fun a a0 a1 => lo a (by omega) (by omega) (by omega) (by omega), k5, by omega⟩
    · unfold IvS
      rw [lo 0 (by decide) (by decide) (by decide) (by decide), o609, n5]
      exact ⟨rfl, Or.inl rfl, fun e => absurd e (by decide)⟩
    · unfold IvP
      rw [lo 10 (by decide) (by decide) (by decide) (by decide), o6102, n4, o610 1 (by decide)]
      exact ⟨rfl, by decide, hP.2.2.1, fun j j0 j1 => by omega⟩
