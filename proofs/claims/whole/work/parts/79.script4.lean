/-! ===== playScript, both sides ===== -/
def FuP (u u' : aI) : Prop := ∀ a, ¬ a = 5 → ¬ a = 7 → ¬ a = 9 → u' a = u a
def FvP (v v' : aI) : Prop := (∀ a, ¬ a = 210 → ¬ a = 215 → ¬ a = 219 → v' a = v a) ∧ ∀ k, ¬ k = 8 → ¬ k = 16 → ¬ k = 17 → ¬ k = 18 → ¬ k = 19 → ¬ k = 20 → ¬ k = 21 → ¬ k = 23 → v' 210 k = v 210 k
theorem FuP.trans {u v w : aI} (h : FuP u v) (k : FuP v w) : FuP u w := fun a a1 a2 a3 => (k a a1 a2 a3).trans (h a a1 a2 a3)
theorem FvP.trans {u v w : aI} (h : FvP u v) (k : FvP v w) : FvP u w := ⟨fun a a1 a2 a3 => (k.1 a a1 a2 a3).trans (h.1 a a1 a2 a3), fun j a b c d e f g i => (k.2 j a b c d e f g i).trans (h.2 j a b c d e f g i)⟩
theorem FuzS.fuP {q : Int} {u u' : aI} (h : FuzS q u u') : FuP u u' := fun a a1 _ a3 => h.1 a a1 a3
theorem FvzS.fvP {q : Int} {v v' : aI} (h : FvzS q v v') : FvP v v' := ⟨h.1, h.2.1⟩
section Sc
variable {F : Nat} {B : Int → Int} {N : Int} {r : Row}
theorem sk_full {u : aI} {p q s : Int} (hc : CS u B N p) (h : Hcz u r q) (hq : q = 30) (hs : rg s) : ∃ u', f_X4_isStatementRead F 7 s u = some (false, u') := by
  obtain ⟨u1, e1, -, -⟩ := c_fail (F := F) (c := 1) hc
  obtain ⟨u2, e2, -, -⟩ := c_fail (F := F) (c := 5) hc
  unfold f_X4_isStatementRead
  rw [t70, gd_t hs, e1, bk, h.2.2, gd_t (by omega), if_neg (show ¬ q < 30 by omega), e2, bk]
  by_cases c : s = -1
  · rw [if_pos c]; exact ⟨u1, rfl⟩
  · rw [if_neg c]; exact ⟨u2, rfl⟩
/-- the deeds read so far -/
def Dsz (u v : aI) (r : Row) (q : Int) : Prop := Hcz u r q ∧ v 210 23 = q ∧ (0 ≤ q ∧ q ≤ 30) ∧ ∀ j, 0 ≤ j → j < q → Ddz r (u 9) (v 219) j
theorem sk_loop (hF : 1000 ≤ F) (b0 : 0 ≤ r 0 ∧ r 0 ≤ 10) (hr : Wr r) : ∀ (n m : Nat) (i : Int) (u v : aI) (p q : Int), CS u B N p → MS v B N p → Dsz u v r q → v 211 = r → 0 ≤ i → i ≤ p → N - p + 1 < n → N - p + 1 < m →
    ∃ u' v', FuP u u' ∧ FvP v v' ∧ f_X11_playScript_b14 F 210 m v = f_X11_playScript_b35 F 210 v' ∧ ((f_X4_isRead_b14 F 7 n i u = some (true, u') ∧ (∃ q', Dsz u' v' r q') ∧ u' 5 5 = 0 ∧ u' 5 6 = -1 ∧ v' 210 20 = 0) ∨ (∃ c a, f_X4_isRead_b14 F 7 n i u = some (false, u') ∧ CF u' B N c a ∧ MF v' B N c a)) := by
  have dead : ∀ (m : Nat) (v : aI) (c a : Int), MF v B N c a → f_X11_playScript_b14 F 210 (m + 1) v = f_X11_playScript_b35 F 210 v := by
    intro m v c a h
    have hc := h.2.2.2.1
    show f_X11_playScript_b14_b F 210 (f_X11_playScript_b14 F 210 m) v = _
    unfold f_X11_playScript_b14_b
    rw [h.2.1, gd_t (by omega), if_neg (by omega)]
  intro n
  induction n with
  | zero => intro m i u v p q h; have := h.2.2.1; omega
  | succ n ih =>
    intro m i u v p q hc hm hD h1 i0 i1 hn hmm
    have hb := hc.bd
    have hp := hc.2.2.1
    obtain ⟨m, rfl⟩ : ∃ j, m = j + 1 := ⟨m - 1, by omega⟩
    have ec : f_X4_isRead_b14 F 7 (n + 1) i u = f_X4_isRead_b14_b F 7 (f_X4_isRead_b14 F 7 n) i u := rfl
    have em : f_X11_playScript_b14 F 210 (m + 1) v = f_X11_playScript_b14_b F 210 (f_X11_playScript_b14 F 210 m) v := rfl
    rw [ec, em]
    unfold f_X4_isRead_b14_b f_X11_playScript_b14_b
    rw [gd_t (show rg i by omega), t70, hc.2.1.2.2.1, gd_t (show rg (tK B N p) by omega), hm.2.1.2.2.2.2.2, gd_t (show rg (0 : Int) by decide), if_pos (show (0 : Int) = 0 from rfl), hm.2.1.2.2.1, gd_t (show rg (tK B N p) by omega)]
    by_cases hk : tK B N p = 0
    · rw [if_pos hk, if_pos hk]
      refine ⟨u, v, fun _ _ _ _ => rfl, ⟨fun _ _ _ _ => rfl, fun _ _ _ _ _ _ _ _ _ => rfl⟩, rfl, Or.inl ⟨?_, ⟨q, hD⟩, hc.2.2.2.1, hc.2.2.2.2, hm.2.1.2.2.2.2.2⟩⟩
      split <;> rfl
    · obtain ⟨hH, h23, hq, hd⟩ := hD
      rw [if_neg (show ¬ 800 ≤ i by omega), if_neg hk, if_neg hk, c_wordHere hF hc, bs]
      obtain ⟨u1, v1, hy, fu, fv, ⟨p', hx, hpp, c1, m1', s23, dd⟩ | ⟨c, a, hx, k1, k2⟩⟩ := sk_any hF hc hm hH hq h1 b0 hr h23 hk
      · have hq30 : q < 30 := by
          rcases Int.lt_or_le q 30 with z | z
          · exact z
          · have hs := skW_v B N p
            obtain ⟨u', e⟩ := sk_full (F := F) (s := skW B N p) hc hH (by omega) (by omega)
            rw [e] at hx
            cases hx
        have H1 := hH.fu fu
        rw [hx, bk, if_pos rfl, H1.2.2, ltm, hy, bs]
        obtain ⟨x, hxx⟩ : ∃ x, x = iset u1 7 3 (q + 1) := ⟨_, rfl⟩
        rw [← hxx]
        have xo : ∀ a, ¬ a = 7 → x a = u1 a := fun a ha => by rw [hxx, is_ne ha]
        have x7 : x 7 3 = q + 1 := by rw [hxx, is_eq, rs_self]
        clear hxx
        have cx : CS x B N p' := by
          unfold CS TX CT
          rw [xo 1 (by decide), xo 2 (by decide), xo 5 (by decide)]
          exact c1
        have Hx : Hcz x r (q + 1) := by
          obtain ⟨⟨a1, a2, a3⟩, a4, a5⟩ := H1
          refine ⟨⟨a1.of fun a b1 b2 => xo a (by omega), ?_, ?_⟩, ?_, x7⟩
          · rw [xo 12 (by decide)]; exact a2
          · rw [xo 14 (by decide)]; exact a3
          · rw [xo 8 (by decide)]; exact a4
        have Dx : Dsz x v1 r (q + 1) := by
          refine ⟨Hx, s23, by omega, fun j j0 j1 => ?_⟩
          rw [xo 9 (by decide)]
          by_cases cj : j = q
          · rw [cj]; exact dd
          · exact (hd j j0 (by omega)).cog rfl (fun k k0 k1 => fu.2 k (by omega)) (fun k k0 k1 => fv.2.2 k (by omega))
        obtain ⟨u2, v2, f1, f2, f3, f4⟩ := ih m (i + 1) x v1 p' (q + 1) cx m1' Dx (by rw [fv.1 211 (by decide) (by decide) (by decide)]; exact h1) (by omega) (by omega) (by omega) (by omega)
        have fux : FuP u x := fu.fuP.trans fun a _ a2 _ => xo a a2
        exact ⟨u2, v2, fux.trans f1, fv.fvP.trans f2, f3, f4⟩
      · obtain ⟨m, rfl⟩ : ∃ j, m = j + 1 := ⟨m - 1, by omega⟩
        rw [hx, bk, if_neg (by decide), hy, bs, dead m v1 c a k2]
        exact ⟨u1, v1, fu.fuP, fv.fvP, rfl, Or.inr ⟨c, a, rfl, k1, k2⟩⟩
theorem sc_one {w v0 : aI} (hF : 20000 ≤ F) (hTX : TX w B N) (hN : NmP w 12 r) (hT8 : w 8 0 = 30 ∧ w 8 1 = 5) (b0 : 0 ≤ r 0 ∧ r 0 ≤ 10) (hr : Wr r) (hTM : TM v0 B N) (h211 : v0 211 = r) (h23 : v0 210 23 = 0) (h19 : rg (v0 210 19)) :
    ∃ b u' v', f_X4_isRead F 7 w = some (b, u') ∧ FuP w u' ∧ ((f_X11_starts F 210 v0).bind fun w3 => f_X11_playScript_b14 F 210 F w3) = f_X11_playScript_b35 F 210 v' ∧ FvP v0 v' ∧
      ((b = true ∧ (∃ q, Dsz u' v' r q) ∧ u' 5 5 = 0 ∧ u' 5 6 = -1 ∧ v' 210 20 = 0) ∨
       (b = false ∧ ∃ c a, u' 5 5 = c ∧ u' 5 6 = a ∧ (1 ≤ c ∧ c ≤ 6) ∧ (0 ≤ a ∧ a ≤ 800) ∧ v' 210 20 = c ∧ v' 210 21 = a)) := by
  have hN8 := hTX.2.1
  obtain ⟨x, hx⟩ : ∃ x, x = iset w 7 3 0 := ⟨_, rfl⟩
  have xo : ∀ a, ¬ a = 7 → x a = w a := fun a ha => by rw [hx, is_ne ha]
  have x7 : x 7 3 = 0 := by rw [hx, is_eq, rs_self]
  have TXx : TX x B N := by
    unfold TX
    rw [xo 1 (by decide), xo 2 (by decide)]
    exact hTX
  obtain ⟨u1, e2, C1, f1⟩ := c_open (F := F) (by omega) TXx
  obtain ⟨v1, g1, M1, fy⟩ := m_starts (F := F) (by omega) hTM h19
  have H1 : Hcz u1 r 0 := by
    obtain ⟨a1, a2, a3⟩ := hN
    refine ⟨⟨a1.of fun a b1 b2 => by rw [f1 a (by omega), xo a (by omega)], ?_, ?_⟩, ?_, ?_⟩
    · rw [f1 12 (by decide), xo 12 (by decide)]; exact a2
    · rw [f1 14 (by decide), xo 14 (by decide)]; exact a3
    · rw [f1 8 (by decide), xo 8 (by decide)]; exact hT8
    · rw [f1 7 (by decide)]; exact x7
  have D1 : Dsz u1 v1 r 0 := ⟨H1, by rw [fy.2 23 (by decide) (by decide) (by decide) (by decide) (by decide) (by decide)]; exact h23, by decide, fun j j0 j1 => by omega⟩
  obtain ⟨u2, v2, fu, fv, hl, hor⟩ := sk_loop (F := F) (by omega) b0 hr F F 0 u1 v1 0 0 C1 M1 D1 (by rw [fy.1 211 (by decide)]; exact h211) (by omega) (by omega) (by omega) (by omega)
  have fw : FuP w u2 := FuP.trans (v := u1) (fun a a1 a2 a3 => by rw [f1 a a1, xo a a2]) fu
  have fvv : FvP v0 v2 := FvP.trans (v := v1) ⟨fun a a1 _ _ => fy.1 a a1, fun k _ a b c d e f _ => fy.2 k a b c d e f⟩ fv
  unfold f_X4_isRead
  rw [ltm, t70, ← hx, e2, bs, g1, bs, hl]
  rcases hor with ⟨k1, k2, k3, k4, k5⟩ | ⟨c, a, k1, k2, k3⟩
  · exact ⟨true, u2, v2, k1, fw, rfl, fvv, Or.inl ⟨rfl, k2, k3, k4, k5⟩⟩
  · exact ⟨false, u2, v2, k1, fw, rfl, fvv, Or.inr ⟨rfl, c, a, k2.2.1, k2.2.2, k3.2.2.2.1, k3.2.2.2.2.1, k3.2.1, k3.2.2.1⟩⟩
end Sc
theorem Inv_sc {w h : aI} (hI : Inv w) (lo : ∀ a, a < 210 → ¬ a = 1 → ¬ a = 5 → ¬ a = 7 → ¬ a = 9 → h a = w a) (hi : ∀ a, 210 < a → ¬ a = 215 → ¬ a = 219 → h a = w a) (fl : ∀ k, k = 27 ∨ k = 5 ∨ k = 4 → h 210 k = w 210 k) (h11 : h 1 1 = 0) (h13 : h 210 13 = 0) (h14 : h 5 5 = h 210 14) (h15 : h 5 6 = h 210 15) (r14 : rg (h 210 14)) (r15 : rg (h 210 15)) : Inv h := by
  obtain ⟨hT, -, hO, -, hN, hS, hP⟩ := hI
  refine ⟨⟨fun b hb => ?_, ?_⟩, ?_, ?_, ⟨h14, h15, r14, r15⟩, ?_, ?_, ?_⟩
  · have hb9 := pb_in hb
    exact (hT.1 b hb).of fun a a0 a1 => lo a (by omega) (by omega) (by omega) (by omega) (by omega)
  · rw [lo 8 (by decide) (by decide) (by decide) (by decide) (by decide)]; exact hT.2
  · unfold IvI
    rw [h11, h13]
    exact ⟨rfl, by decide, fun k k0 k1 => by omega⟩
  · unfold IvO
    rw [lo 3 (by decide) (by decide) (by decide) (by decide) (by decide), lo 4 (by decide) (by decide) (by decide) (by decide) (by decide), fl 27 (by decide), hi 222 (by decide) (by decide) (by decide)]; exact hO
  · unfold IvN
    rw [hi 211 (by decide) (by decide) (by decide)]
    exact PR.of hN fun a a0 a1 => lo a (by omega) (by omega) (by omega) (by omega) (by omega)
  · unfold IvS
    rw [lo 0 (by decide) (by decide) (by decide) (by decide) (by decide), fl 5 (by decide), hi 213 (by decide) (by decide) (by decide)]
    exact ⟨hS.1, hS.2.1, fun e => (hS.2.2 e).of fun a a0 a1 => lo a (by omega) (by omega) (by omega) (by omega) (by omega)⟩
  · unfold IvP
    rw [lo 10 (by decide) (by decide) (by decide) (by decide) (by decide), fl 4 (by decide), hi 214 (by decide) (by decide) (by decide)]
    refine ⟨hP.1, hP.2.1, hP.2.2.1, fun j j0 j1 => (hP.2.2.2 j j0 j1).of fun a a0 a1 => ?_⟩
    have h9 := hP.2.2.1
    have := pb_bd (m := (w 10 1 + j) % 8) (by omega)
    exact lo a (by omega) (by omega) (by omega) (by omega) (by omega)
theorem top_playScript {F : Nat} (hF : 20000 ≤ F) : ∀ w, Inv w → rg (w 210 19) → ∃ v w1 w2, f_X10_playScript F 0 w = some (v, w1) ∧ f_X11_playScript F 210 w1 = some (v, w2) ∧ Inv w2 := by
  intro w hI h19
  have hI0 := hI
  obtain ⟨hT, ⟨i1, i2, i3⟩, hO, hE, ⟨hN, hW, ht⟩, hS, hP⟩ := hI
  obtain ⟨r, hrr⟩ : ∃ r, r = w 211 := ⟨_, rfl⟩
  rw [← hrr] at hN hW ht
  have b0 := hW.1.1
  have TX0 : TX w (w 2) (w 210 13) := ⟨i1, i2, fun k k0 k1 => ⟨(i3 k k0 k1).1, rfl⟩⟩
  have NM : NmP w 12 r := ⟨hN.1.1, hN.1.2.2.1, fun x x0 x1 => (hN.2.2.2.1.1 x x0 x1).2.2.2.2.2.1⟩
  -- what the reference reads, whatever the class has made of its own cells
  have mod : ∀ w1 : aI, (∀ a, 210 ≤ a → w1 a = w a) → ∃ b u' v', f_X4_isRead F 7 w = some (b, u') ∧ FuP w u' ∧ f_X11_playScript F 210 w1 = f_X11_playScript_b35 F 210 v' ∧ (∀ a, ¬ a = 210 → ¬ a = 215 → ¬ a = 219 → v' a = w1 a) ∧ (∀ k, k = 27 ∨ k = 5 ∨ k = 4 → v' 210 k = w 210 k) ∧
      ((b = true ∧ (∃ q, Dsz u' v' r q) ∧ u' 5 5 = 0 ∧ u' 5 6 = -1 ∧ v' 210 20 = 0) ∨ (b = false ∧ ∃ c a, u' 5 5 = c ∧ u' 5 6 = a ∧ (1 ≤ c ∧ c ≤ 6) ∧ (0 ≤ a ∧ a ≤ 800) ∧ v' 210 20 = c ∧ v' 210 21 = a)) := by
    intro w1 h1
    obtain ⟨z, hz⟩ : ∃ z, z = iset (iset w1 210 6 0) 210 23 0 := ⟨_, rfl⟩
    have z210 : ∀ k, ¬ k = 6 → ¬ k = 23 → z 210 k = w 210 k := fun k k1 k2 => by rw [hz, is_eq, rs_ne k2, is_eq, rs_ne k1, h1 210 (by decide)]
    have z23 : z 210 23 = 0 := by rw [hz, is_eq, rs_self]
    have zo : ∀ a, ¬ a = 210 → z a = w1 a := fun a a0 => by rw [hz, is_ne a0, is_ne a0]
    have TMz : TM z (w 2) (w 210 13) := by
      refine ⟨z210 13 (by decide) (by decide), i2, fun k k0 k1 => ?_⟩
      rw [zo 218 (by decide), h1 218 (by decide)]
      exact i3 k k0 k1
    obtain ⟨b, u', v', q1, q2, q3, q4, q5⟩ := sc_one (F := F) (v0 := z) hF TX0 NM hT.2 (by omega) hW.2.1 TMz (by rw [zo 211 (by decide), h1 211 (by decide)]; exact hrr.symm) z23 (by rw [z210 19 (by decide) (by decide)]; exact h19)
    refine ⟨b, u', v', q1, q2, ?_, fun a a0 a1 a2 => by rw [q4.1 a a0 a1 a2, zo a a0], fun k hk => by rw [q4.2 k (by omega) (by omega) (by omega) (by omega) (by omega) (by omega) (by omega) (by omega), z210 k (by omega) (by omega)], q5⟩
    unfold f_X11_playScript
    rw [ltm, ltm, ← hz]
    exact q3
  obtain ⟨b, u', vf, e1, fu, -, vf1, -, vf3⟩ := mod w (fun _ _ => rfl)
  obtain ⟨x, hx⟩ : ∃ x, x = iset u' 1 1 0 := ⟨_, rfl⟩
  have xo : ∀ a, ¬ a = 1 → ¬ a = 5 → ¬ a = 7 → ¬ a = 9 → x a = w a := fun a a0 a1 a2 a3 => by rw [hx, is_ne a0]; exact fu a a1 a2 a3
  have xu : ∀ a, ¬ a = 1 → x a = u' a := fun a a0 => by rw [hx, is_ne a0]
  have x1 : x 1 1 = 0 := by rw [hx, is_eq, rs_self]
  have ec : f_X10_playScript F 0 w = if b then ((f_X1_keep F 10 12 x).bind (fun w4 => f_X10_playScript_b34 F 0 F 0 w4)) else (some ((-1), x)) := by
    unfold f_X10_playScript f_X0_clear
    rw [k4, k0, k5, k8, e1, bk, ltm, bs, ← hx]
  rw [ec]
  cases b with
  | false =>
    obtain ⟨b2, u2, v', q1, -, m1', m3, m5, m6⟩ := mod x (fun a ha => xo a (by omega) (by omega) (by omega) (by omega))
    rw [e1] at q1
    cases q1
    obtain ⟨c, a, k1, k2, k3, k4', k5', k6'⟩ : ∃ c a, u' 5 5 = c ∧ u' 5 6 = a ∧ (1 ≤ c ∧ c ≤ 6) ∧ (0 ≤ a ∧ a ≤ 800) ∧ v' 210 20 = c ∧ v' 210 21 = a := by
      rcases m6 with h | h
      · exact absurd h.1 (by decide)
      · exact h.2
    obtain ⟨e, he⟩ : ∃ e, e = iset (iset (iset v' 210 14 (v' 210 20)) 210 15 (if v' 210 20 = 0 then -1 else v' 210 21)) 210 13 0 := ⟨_, rfl⟩
    have ef : ∀ k, ¬ k = 13 → ¬ k = 14 → ¬ k = 15 → e 210 k = v' 210 k := fun k z1 z2 z3 => by rw [he, is_eq, rs_ne z1, is_eq, rs_ne z3, is_eq, rs_ne z2]
    have e14 : e 210 14 = c := by rw [he, is_eq, rs_ne (by omega), is_eq, rs_ne (by omega), is_eq, rs_self, k5']
    have e15 : e 210 15 = a := by rw [he, is_eq, rs_ne (by omega), is_eq, rs_self, if_neg (by omega), k6']
    have e13 : e 210 13 = 0 := by rw [he, is_eq, rs_self]
    have eo : ∀ b, ¬ b = 210 → e b = v' b := fun b hb => by rw [he, is_ne hb, is_ne hb, is_ne hb]
    have hb35 : f_X11_playScript_b35 F 210 v' = some (-1, e) := by
      unfold f_X11_playScript_b35
      rw [m_ending (by omega), bs, ← he, ef 20 (by decide) (by decide) (by decide), k5', gd_t (by omega), if_neg (by omega)]
    clear he
    refine ⟨-1, x, e, by rw [if_neg (by decide)], by rw [m1', hb35], Inv_sc hI0 (fun a a0 a1 a2 a3 a4 => by rw [eo a (by omega), m3 a (by omega) (by omega) (by omega), xo a a1 a2 a3 a4]) (fun a a0 a1 a2 => by rw [eo a (by omega), m3 a (by omega) a1 a2, xo a (by omega) (by omega) (by omega) (by omega)]) (fun k hk => by rw [ef k (by omega) (by omega) (by omega)]; exact m5 k hk) (by rw [eo 1 (by decide), m3 1 (by decide) (by decide) (by decide)]; exact x1) e13 ?_ ?_ (by omega) (by omega)⟩
    · rw [eo 5 (by decide), m3 5 (by decide) (by decide) (by decide), xu 5 (by decide), k1, e14]
    · rw [eo 5 (by decide), m3 5 (by decide) (by decide) (by decide), xu 5 (by decide), k2, e15]
  | true =>
    obtain ⟨p1, p2, p3, p4⟩ := hP
    have x10 : x 10 = w 10 := xo 10 (by decide) (by decide) (by decide) (by decide)
    have hTx : IvT x := ⟨fun b hb => by
      have hb9 := pb_in hb
      exact (hT.1 b hb).of fun a a0 a1 => xo a (by omega) (by omega) (by omega) (by omega), by rw [xo 8 (by decide) (by decide) (by decide) (by decide)]; exact hT.2⟩
    have hNx : Rep x 12 r := hN.of fun a a0 a1 => xo a (by omega) (by omega) (by omega) (by omega)
    obtain ⟨y, f, K, c1, c2, c3, c4, c5, c6⟩ := c_keep (F := F) hTx hNx hW (by rw [x10]; omega) (by rw [x10]; exact p3)
    rw [x10] at c4
    have hfK : (0 ≤ f ∧ f < 8) ∧ 1 ≤ K ∧ K ≤ 8 := by omega
    have hbd := pb_bd (m := (f + (K - 1)) % 8) (by omega)
    have yx : ∀ a, ¬ a = 10 → (a < 66 ∨ 210 ≤ a) → y a = x a := fun a a0 a1 => c6 a a0 (by omega)
    have hNy : Rep y 12 r := hNx.of fun a a0 a1 => yx a (by omega) (by omega)
    have y8 : y 8 0 = 30 ∧ y 8 1 = 5 := by rw [yx 8 (by decide) (by decide)]; exact hTx.2
    -- the deeds done: the class's way, from whatever cells the reference has
    have play : ∀ z v' : aI, z 211 = r → z 210 23 = v' 210 23 → z 219 = v' 219 → (∃ q, Dsz u' v' r q) → ∃ k w1 w2, f_X10_playScript_b34 F 0 F 0 y = some (k, w1) ∧ f_X11_playScript_b54 F 210 F 0 z = some (k, w2) ∧ Fc 12 y w1 ∧ Fm z w2 ∧ Rep w1 12 (w2 211) ∧ WF (w2 211) ∧ w2 211 3 ≤ 9999 := by
      intro z v' z1 z2 z3 ⟨q, d1, d2, d3, d4⟩
      have hq := pl_loop (F := F) hF d3 F F 0 y z r (by omega) (by omega) (by omega) (by omega) hNy hW ht z1 y8 (by rw [yx 7 (by decide) (by decide), xu 7 (by decide)]; exact d1.2.2) (by rw [z2]; exact d2) (fun i i0 i1 => by
        rw [yx 9 (by decide) (by decide), xu 9 (by decide), z3]
        exact d4 i i0 i1)
      exact hq
    have dsf : ∃ q, Dsz u' vf r q := by
      rcases vf3 with h | h
      · exact h.2.1
      · exact absurd h.1 (by decide)
    obtain ⟨k, w1, -, g1, -, g3, -⟩ := play vf vf (by rw [vf1 211 (by decide) (by decide) (by decide)]; exact hrr.symm) rfl rfl dsf
    have w1hi : ∀ a, 210 ≤ a → w1 a = w a := fun a ha => by rw [g3 a (by omega), yx a (by omega) (by omega), xo a (by omega) (by omega) (by omega) (by omega)]
    obtain ⟨b2, u2, v', q1, -, m1', m3, m5, m6⟩ := mod w1 w1hi
    rw [e1] at q1
    cases q1
    obtain ⟨ds, k1, k2, k20⟩ : (∃ q, Dsz u' v' r q) ∧ u' 5 5 = 0 ∧ u' 5 6 = -1 ∧ v' 210 20 = 0 := by
      rcases m6 with h | h
      · exact h.2
      · exact absurd h.1 (by decide)
    obtain ⟨e, he⟩ : ∃ e, e = iset (iset (iset v' 210 14 (v' 210 20)) 210 15 (if v' 210 20 = 0 then -1 else v' 210 21)) 210 13 0 := ⟨_, rfl⟩
    have ef : ∀ k, ¬ k = 13 → ¬ k = 14 → ¬ k = 15 → e 210 k = v' 210 k := fun k z1 z2 z3 => by rw [he, is_eq, rs_ne z1, is_eq, rs_ne z3, is_eq, rs_ne z2]
    have e14 : e 210 14 = 0 := by rw [he, is_eq, rs_ne (by omega), is_eq, rs_ne (by omega), is_eq, rs_self, k20]
    have e15 : e 210 15 = -1 := by rw [he, is_eq, rs_ne (by omega), is_eq, rs_self, if_pos k20]
    have e13 : e 210 13 = 0 := by rw [he, is_eq, rs_self]
    have eo : ∀ b, ¬ b = 210 → e b = v' b := fun b hb => by rw [he, is_ne hb, is_ne hb, is_ne hb]
    have hb35 : f_X11_playScript_b35 F 210 v' = (f_X11_remembers F 210 e).bind (fun w7 => f_X11_playScript_b54 F 210 F 0 w7) := by
      unfold f_X11_playScript_b35
      rw [m_ending (by rw [k20]; decide), bs, ← he, ef 20 (by decide) (by decide) (by decide), k20, gd_t (by decide), if_pos (by decide)]
    clear he
    have e4 : e 210 4 = w 210 4 := by rw [ef 4 (by decide) (by decide) (by decide)]; exact m5 4 (by decide)
    have ehi : ∀ a, 210 < a → ¬ a = 215 → ¬ a = 219 → e a = w a := fun a a0 a1 a2 => by rw [eo a (by omega), m3 a (by omega) a1 a2, w1hi a (by omega)]
    have elo : ∀ a, a < 210 → e a = w1 a := fun a a0 => by rw [eo a (by omega), m3 a (by omega) (by omega) (by omega)]
    obtain ⟨K', s, P, r1, r2, r3, r4⟩ := m_remembers (F := F) (w := e) (by omega) (by rw [e4]; exact p2)
    obtain ⟨wm, hwm⟩ : ∃ wm, wm = iset (stc e 214 P) 210 4 K' := ⟨_, rfl⟩
    rw [← hwm] at r1
    have mo : ∀ a, ¬ a = 210 → ¬ a = 214 → wm a = e a := fun a a0 a1 => by rw [hwm, is_ne a0, stc_ne a1]
    have mf : ∀ k, ¬ k = 4 → wm 210 k = e 210 k := fun k k0 => by rw [hwm, is_eq, rs_ne k0, stc_ne (by decide)]
    have mf4 : wm 210 4 = K' := by rw [hwm, is_eq, rs_self]
    have m214 : wm 214 = P := by rw [hwm, is_ne (by decide), stc_eq]
    clear hwm
    obtain ⟨k', w1', w2, o1, o2, o3, o4, o5, o6, o7⟩ := play wm v' (by rw [mo 211 (by decide) (by decide), ehi 211 (by decide) (by decide) (by decide)]; exact hrr.symm) (by rw [mf 23 (by decide), ef 23 (by decide) (by decide) (by decide)]) (by rw [mo 219 (by decide) (by decide), eo 219 (by decide)]) ds
    rw [g1] at o1
    cases o1
    refine ⟨k, w1, w2, by rw [if_pos rfl, c1, bs, g1], by rw [m1', hb35, r1, bs, o2], ?_⟩
    -- the state before anything was kept
    have hh0 : Inv (fun a => if a < 210 then x a else e a) := by
      have L : ∀ a, a < 210 → (fun a => if a < 210 then x a else e a) a = x a := fun a ha => if_pos ha
      have H : ∀ a, ¬ a < 210 → (fun a => if a < 210 then x a else e a) a = e a := fun a ha => if_neg ha
      generalize (fun a => if a < 210 then x a else e a) = h0 at L H
      have H210 := H 210 (by decide)
      refine Inv_sc hI0 (fun a a0 a1 a2 a3 a4 => by rw [L a a0, xo a a1 a2 a3 a4]) (fun a a0 a1 a2 => by rw [H a (by omega)]; exact ehi a a0 a1 a2) (fun k hk => by rw [H210, ef k (by omega) (by omega) (by omega)]; exact m5 k hk) (by rw [L 1 (by decide)]; exact x1) (by rw [H210]; exact e13) ?_ ?_ (by rw [H210, e14]; decide) (by rw [H210, e15]; decide)
      · rw [L 5 (by decide), xu 5 (by decide), H210, k1, e14]
      · rw [L 5 (by decide), xu 5 (by decide), H210, k2, e15]
    have hr211 : e 211 = r := by rw [ehi 211 (by decide) (by decide) (by decide)]; exact hrr.symm
    have eK : K' = K := by
      clear m6 vf3 mod play ds dsf hh0
      omega
    have hk : Inv (fun a => if a < 210 then y a else wm a) := by
      have L : ∀ a, a < 210 → (fun a => if a < 210 then y a else wm a) a = y a := fun a ha => if_pos ha
      have H : ∀ a, ¬ a < 210 → (fun a => if a < 210 then y a else wm a) a = wm a := fun a ha => if_neg ha
      have L0 : ∀ a, a < 210 → (fun a => if a < 210 then x a else e a) a = x a := fun a ha => if_pos ha
      have H0 : ∀ a, ¬ a < 210 → (fun a => if a < 210 then x a else e a) a = e a := fun a ha => if_neg ha
      have L1 : ∀ a, a < 210 → (fun a => if a < 210 then y a else e a) a = y a := fun a ha => if_pos ha
      have H1 : ∀ a, ¬ a < 210 → (fun a => if a < 210 then y a else e a) a = e a := fun a ha => if_neg ha
      generalize (fun a => if a < 210 then y a else wm a) = hk at L H
      generalize (fun a => if a < 210 then x a else e a) = h0 at L0 H0 hh0
      generalize (fun a => if a < 210 then y a else e a) = h1 at L1 H1
      have H0210 := H0 210 (by decide)
      refine hh0.keeps (w1 := h1) (w2 := hk) (f := f) (K := K) (s := s) (P := P) (by rw [L1 10 (by decide)]; exact c2) (by rw [L1 10 (by decide)]; exact c3) (by rw [L0 10 (by decide), x10]; exact c4) ?_ (fun a a0 a1 => ?_) (fun a a0 a1 => ?_) (fun k k0 k1 => ?_) ?_ ?_ ?_ ?_ ?_
      · rw [H0 211 (by decide), hr211]
        exact c5.of fun a a0 a1 => L1 a (by omega)
      · by_cases ca : a < 210
        · rw [L1 a ca, L0 a ca]; exact c6 a a0 a1
        · rw [H1 a ca, H0 a ca]
      · by_cases ca : a < 210
        · rw [L a ca, L1 a ca]
        · rw [H a ca, H1 a ca]; exact mo a a0 a1
      · rw [H 210 (by decide), H0210]; exact mf k k0
      · rw [H 210 (by decide), mf4, eK]
      · rw [H 214 (by decide)]; exact m214
      · rw [H0210]; omega
      · intro j k j0 j1 k0 k1'
        rw [H0 214 (by decide)]
        exact r3 j k j0 (by omega) k0 k1'
      · intro k k0 k1'
        rw [H0 211 (by decide), ← eK]
        exact r4 k k0 k1'
    refine hk.now (s := wm) (fun a a0 => ?_) o4.fw ⟨o5.of fun a a0 a1 => ?_, o6, o7⟩
    · show wm a = if a < 210 then y a else wm a
      by_cases ca : a < 210
      · rw [if_pos ca, mo a (by omega) (by omega), elo a ca, g3 a a0]
      · rw [if_neg ca]
    · rw [o4.1 a (by omega) (by omega) (by omega) (by omega) (by omega) (by omega) (by omega), mo a (by omega) (by omega), elo a (by omega)]
