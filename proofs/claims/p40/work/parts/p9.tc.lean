/-! ===== the law's text is loaded ===== -/
abbrev Sz : Type := Int × Int × Int × Int × Int × Int
def sbz (q : Sz) : List Int := if q.1 = 0 then bRf q.2.1 q.2.2.1 q.2.2.2.1 q.2.2.2.2.1 q.2.2.2.2.2 else if q.1 = 1 then bWy q.2.1 q.2.2.1 q.2.2.2.1 else bSt q.1 q.2.1
def rowz (r : Row) (q : Sz) : Row := if q.1 = 0 then rRf r q.2.1 q.2.2.1 q.2.2.2.1 q.2.2.2.2.1 q.2.2.2.2.2 else if q.1 = 1 then wayA r q.2.1 q.2.2.1 q.2.2.2.1 else setT r q.1 q.2.1
def okz (r : Row) (q : Sz) : Prop := if q.1 = 0 then oRf r q.2.1 q.2.2.1 q.2.2.2.1 q.2.2.2.2.1 q.2.2.2.2.2 else if q.1 = 1 then oWy r q.2.1 q.2.2.1 q.2.2.2.1 else oSt q.1 q.2.1
def okA : Row → List Sz → Prop
  | _, [] => True
  | r, q :: ss => okz r q ∧ okA (rowz r q) ss
def txz : List Sz → List Int
  | [] => []
  | q :: ss => sbz q ++ txz ss
def rowsz : Row → List Sz → Row
  | r, [] => r
  | r, q :: ss => rowsz (rowz r q) ss
theorem NmZ_rf {r : Row} {x br ea fe pu : Int} (h : NmZ r) (h0 : 0 ≤ r 0) (hx : x = r 0) : NmZ (rRf r x br ea fe pu) := by
  obtain ⟨a0, a7, aL, aN, -, -, -, -, -, -, ao⟩ := roofA_at (r := r) (l := 1) (f := fun _ => 97 + x) (br := br) (ea := ea) (fe := fe) (pu := pu) h0 (by decide)
  intro y y0 y1
  unfold rRf at y1 ⊢
  rw [a0] at y1
  by_cases e : y = r 0
  · subst e
    have h1 := aN 0 (by decide) (by decide)
    rw [Int.add_zero] at h1
    exact ⟨aL, by rw [h1, hx]⟩
  · rw [ao _ (by omega) (by omega) (by omega), ao _ (by omega) (by omega) (by omega)]
    exact h y y0 (by omega)
theorem NmZ_wy {r : Row} {b a far : Int} (h : NmZ r) (b0 : r 0 ≤ 10) (h1 : 0 ≤ r 1) : NmZ (wayA r b a far) := by
  obtain ⟨-, -, -, -, ao⟩ := wayA_at (r := r) (a := b) (b := a) (far := far) h1
  intro y y0 y1
  rw [ao 0 (by omega) (by decide)] at y1
  rw [ao _ (by omega) (by omega), ao _ (by omega) (by omega)]
  exact h y y0 y1
theorem NmZ_st {r : Row} {v k : Int} (h : NmZ r) (hv : 8 ≤ v ∧ v ≤ 10) : NmZ (setT r v k) := by
  intro y y0 y1
  unfold setT at y1 ⊢
  rw [rs_ne (by omega)] at y1
  rw [rs_ne (by omega), rs_ne (by omega)]
  exact h y y0 y1
section Ld9
variable {F : Nat} {u : aI} {B : Int → Int} {N p : Int} {r : Row}
theorem z_one {q : Sz} (hF : 1000 ≤ F) (hc : CS u B N p) (hD : DR u 48 r) (hW : DW r) (hZ : NmZ r) (hA : At B N p (sbz q)) (ok : okz r q) :
    ¬ tK B N p = 0 ∧ ∃ u', f_X5_isStatementRead F 6 u = some (true, u') ∧ CS u' B N (p + (sbz q).length) ∧ DR u' 48 (rowz r q) ∧ DW (rowz r q) ∧ NmZ (rowz r q) ∧ FdzU u u' := by
  unfold sbz at hA ⊢
  unfold okz at ok
  unfold rowz
  by_cases c : q.1 = 0
  · rw [if_pos c] at hA ok ⊢
    rw [if_pos c]
    obtain ⟨k0, u', k1, k2, k3, k4, k5⟩ := z_roof hF hc hD hW hZ hA ok
    exact ⟨k0, u', k1, k2, k3, k4, NmZ_rf hZ hW.1.1 ok.1, k5⟩
  · rw [if_neg c] at hA ok ⊢
    rw [if_neg c]
    by_cases c2 : q.1 = 1
    · rw [if_pos c2] at hA ok ⊢
      rw [if_pos c2]
      obtain ⟨k0, u', k1, k2, k3, k4, k5⟩ := z_way hF hc hD hW hZ hA ok
      exact ⟨k0, u', k1, k2, k3, k4, NmZ_wy hZ hW.1.2 hW.2.1.1, k5⟩
    · rw [if_neg c2] at hA ok ⊢
      rw [if_neg c2]
      obtain ⟨k0, u', k1, k2, k3, k4, k5⟩ := z_set hF hc hD hW hA ok
      exact ⟨k0, u', k1, k2, k3, k4, NmZ_st hZ ok.1, k5⟩
theorem fi_step {n : Nat} {i : Int} {u' : aI} (hi : 0 ≤ i ∧ i < 800) (hc : CS u B N p) (hk : ¬ tK B N p = 0) (h : f_X5_isStatementRead F 6 u = some (true, u')) : f_X5_isRead_b16 F 6 (n + 1) i u = f_X5_isRead_b16 F 6 n (i + 1) u' := by
  have hb := hc.bd
  have ec : f_X5_isRead_b16 F 6 (n + 1) i u = f_X5_isRead_b16_b F 6 (f_X5_isRead_b16 F 6 n) i u := rfl
  rw [ec]
  unfold f_X5_isRead_b16_b
  rw [gd_t (by omega), if_neg (by omega), p60, hc.2.1.2.2.1, gd_t (by omega), if_neg hk, h, bk, if_pos rfl]
theorem fi_stop {n : Nat} {i : Int} (hi : 0 ≤ i ∧ i < 800) (hc : CS u B N p) (hk : tK B N p = 0) : f_X5_isRead_b16 F 6 (n + 1) i u = f_X5_isRead_b48 F 6 u := by
  have hb := hc.bd
  have ec : f_X5_isRead_b16 F 6 (n + 1) i u = f_X5_isRead_b16_b F 6 (f_X5_isRead_b16 F 6 n) i u := rfl
  rw [ec]
  unfold f_X5_isRead_b16_b
  rw [gd_t (by omega), if_neg (by omega), p60, hc.2.1.2.2.1, gd_t (by omega), if_pos hk]
theorem z_all (hF : 1000 ≤ F) : ∀ (ss : List Sz) (r : Row) (p i : Int) (n : Nat) (u : aI), ss.length < n → 0 ≤ i → i + ss.length < 800 → CS u B N p → DR u 48 r → DW r → NmZ r → okA r ss → At B N p (txz ss) → p + (txz ss).length = N → ∃ u', f_X5_isRead_b16 F 6 n i u = f_X5_isRead_b48 F 6 u' ∧ CS u' B N N ∧ DR u' 48 (rowsz r ss) ∧ DW (rowsz r ss) ∧ FdzU u u' := by
  intro ss
  induction ss with
  | nil =>
    intro r p i n u h1 h2 h3 hc hD hW hZ ok hA hp
    have hp : p = N := by
      have : ((txz []).length : Int) = 0 := rfl
      omega
    have h3 : i < 800 := by
      have : ((([] : List Sz)).length : Int) = 0 := rfl
      omega
    obtain ⟨m, rfl⟩ : ∃ m, n = m + 1 := ⟨n - 1, by have : ([] : List Sz).length = 0 := rfl; omega⟩
    refine ⟨u, fi_stop ⟨h2, h3⟩ hc (tok_0 hp), by rw [← hp] at hc ⊢; exact hc, hD, hW, fun _ _ _ => rfl⟩
  | cons q ss ih =>
    intro r p i n u h1 h2 h3 hc hD hW hZ ok hA hp
    have el : (q :: ss).length = ss.length + 1 := rfl
    rw [el] at h1 h3
    obtain ⟨m, rfl⟩ : ∃ m, n = m + 1 := ⟨n - 1, by omega⟩
    obtain ⟨A1, A2⟩ := At.app (L := sbz q) (M := txz ss) hA
    have et : ((txz (q :: ss)).length : Int) = (sbz q).length + (txz ss).length := by
      show ((sbz q ++ txz ss).length : Int) = _
      rw [List.length_append]; omega
    obtain ⟨k0, u1, k1, k2, k3, k4, k5, k6⟩ := z_one hF hc hD hW hZ A1 ok.1
    obtain ⟨u', g1, g2, g3, g4, g5⟩ := ih (rowz r q) (p + (sbz q).length) (i + 1) m u1 (by omega) (by omega) (by omega) k2 k3 k4 k5 ok.2 A2 (by omega)
    exact ⟨u', by rw [fi_step ⟨h2, by omega⟩ hc k0 k1]; exact g1, g2, g3, g4, k6.trans g5⟩
theorem z_b48 (hF : 1000 ≤ F) (hD : DR u 48 r) (hW : DW r) (h2 : 2 ≤ r 0) : ∃ u', f_X5_isRead_b48 F 6 u = some (true, u') ∧ Rep u' 48 r ∧ Fc 48 u u' := by
  have hr0 := hW.1
  unfold f_X5_isRead_b48
  rw [p60, p61, hD.2.1.2.1, gd_t (by omega), pf9 P48]
  have hWF := hW.wf h2
  have hb := hWF.1
  obtain ⟨hK, ⟨d0, d1, d2, d3⟩, dS, dA, dX, dW⟩ := hD
  obtain ⟨u2, g1, g2, g3⟩ := c_lay (F := F) (b := 48) hF P48 hK d1 d2 dW hb.1 hb.2.1 hWF.2.2.1
  rw [if_pos h2, g1, bs]
  refine ⟨u2, rfl, ⟨⟨hK.lay g3, ?_⟩, ?_, ?_, ?_, ?_, fun i i0 i1 => ?_, g2⟩, fun a ha => g3 a (by omega) (by omega) (by omega)⟩
  · rw [g3 48 (by omega) (by omega) (by omega), hW.2.2.1.1, hW.2.2.1.2]
    exact ⟨d0, d1, d2, d3⟩
  · unfold RepS
    rw [g3 (48 + 8) (by omega) (by omega) (by omega)]
    exact dS
  · intro k k0 k1
    rw [g3 (48 + 10) (by omega) (by omega) (by omega), dA k k0 k1, hW.2.2.2.2.2.2.2.2.1 (10 + k) (by omega) (by omega)]
  · unfold RepX RX
    rw [g3 (48 + 2) (by omega) (by omega) (by omega)]
    exact dX
  · unfold RepW
    rw [g3 (48 + 4) (by omega) (by omega) (by omega)]
    exact dW
  · rw [hW.2.2.1.1] at i1; omega
abbrev R0z : Row := clrT (fun _ => 0)
theorem k_read {w : aI} {ss : List Sz} (hF : 20000 ≤ F) (hTX : TX w B N) (hT : TOK w 48) (hA : At B N 0 (txz ss)) (hN : N = (txz ss).length) (ok : okA R0z ss) (hl : ss.length < 700) (h2 : 2 ≤ rowsz R0z ss 0) : ∃ u', f_X5_isRead F 6 w = some (true, u') ∧ Rep u' 48 (rowsz R0z ss) ∧ WF (rowsz R0z ss) ∧ FdzU w u' := by
  obtain ⟨u0, a1, D0, f0⟩ := c_clearD (F := F) (w := w) (r := fun _ => 0) (by omega) hT
  have TX0 : TX u0 B N := by
    unfold TX
    rw [f0 1 (by omega), f0 2 (by omega)]
    exact hTX
  obtain ⟨v0, a2, C0, f1⟩ := c_open (F := F) (by omega) TX0
  have E0 : DR v0 48 R0z := D0.fk f1
  have Z0 : NmZ R0z := fun y y0 y1 => by
    have : R0z 0 = 0 := rfl
    omega
  obtain ⟨u1, g1, g2, g3, g4, g5⟩ := z_all (F := F) (by omega) ss R0z 0 0 F v0 (by omega) (by decide) (by omega) C0 E0 (clrT_DW _) Z0 ok hA (by omega)
  obtain ⟨u9, k1, k2, k3⟩ := z_b48 (F := F) (by omega) g3 g4 h2
  refine ⟨u9, ?_, k2, g4.wf h2, ((f0.fd.trans f1.fd).trans g5).trans k3.fd⟩
  unfold f_X5_isRead
  rw [p60, p61, a1, bs, a2, bs]
  exact g1.trans k1
theorem k_load {w : aI} {ss : List Sz} (hF : 20000 ≤ F) (hTX : TX w B N) (hT : IvT w) (hf : 0 ≤ w 10 1 ∧ w 10 1 < 8) (hA : At B N 0 (txz ss)) (hN : N = (txz ss).length) (ok : okA R0z ss) (hl : ss.length < 700) (h2 : 2 ≤ rowsz R0z ss 0) (h3 : rowsz R0z ss 3 ≤ 9999) : ∃ z, f_X10_loadPost F 0 w = some (rowsz R0z ss 1, z) ∧ CK z (rowsz R0z ss) ∧ ∀ a, 210 ≤ a → z a = w a := by
  obtain ⟨u', e1, e2, e3, fu⟩ := k_read hF hTX (hT.1 48 P48) hA hN ok hl h2
  obtain ⟨x, hx⟩ : ∃ x, x = iset u' 1 1 0 := ⟨_, rfl⟩
  have xo : ∀ a, ¬ a = 1 → ¬ a = 5 → (a < 48 ∨ 66 ≤ a) → x a = w a := fun a a0 a1 a2 => by rw [hx, is_ne a0]; exact fu a a1 a2
  have xr : Rep x 48 (rowsz R0z ss) := e2.of fun a a0 a1 => by rw [hx, is_ne (by omega)]
  obtain ⟨y, y1, y2, y3⟩ := c_copy (F := F) (b := 12) (c := 48) P12 P48 (by decide) e3 xr ((hT.1 12 P12).of fun a a0 a1 => xo a (by omega) (by omega) (by omega))
  have ec : f_X10_loadPost F 0 w = some (iset (iset y 10 2 0) 0 9 0 12 2, iset (iset y 10 2 0) 0 9 0) := by
    unfold f_X10_loadPost f_X0_clear f_X1_forget
    rw [k3, k0, k5, k7, k8, e1, bk, ltm, bs, ← hx, if_pos rfl, y1, bs, ltm, bs, ltm]
  have z12 : ∀ a, ¬ a = 10 → ¬ a = 0 → iset (iset y 10 2 0) 0 9 0 a = y a := fun a a0 a1 => by rw [is_ne a1, is_ne a0]
  refine ⟨_, by rw [ec, z12 12 (by decide) (by decide), y2.1.2.2.2.1], ⟨⟨fun b hb => ?_, ?_⟩, ⟨y2.of fun a a0 a1 => z12 a (by omega) (by omega), e3, h3⟩, ?_, ?_⟩, fun a ha => ?_⟩
  · have ht := pb_ten hb
    refine TOK.of (w := y) ?_ (fun a a0 a1 => z12 a (by omega) (by omega))
    by_cases c : b = 12
    · subst c; exact y2.1.1
    · have hp := hb.pd P12 c
      unfold Pd at hp
      refine TOK.of (w := x) ?_ (fun a a0 a1 => y3 a (by omega))
      by_cases c2 : b = 48
      · subst c2; exact xr.1.1
      · have hp2 := hb.pd P48 c2
        unfold Pd at hp2
        exact (hT.1 b hb).of fun a a0 a1 => xo a (by omega) (by omega) (by omega)
  · rw [z12 8 (by decide) (by decide), y3 8 (by omega), xo 8 (by decide) (by decide) (by omega)]
    exact hT.2
  · rw [is_ne (by decide), is_eq, rs_self]; decide
  · rw [is_ne (by decide), is_eq, rs_ne (by decide), y3 10 (by omega), xo 10 (by decide) (by decide) (by omega)]
    exact hf
  · rw [z12 a (by omega) (by omega), y3 a (by omega), xo a (by omega) (by omega) (by omega)]
end Ld9
