/-! ===== printRoofs, printTune ===== -/
def busT (r : Row) (x : Int) : List Int := if busy r x (r 3) = true then [33] else []
def wtT (r : Row) (x : Int) : List Int := if cnt (fun i => waits r i x) (r 2).toNat ≤ 0 then [] else 47 :: numT (cnt (fun i => waits r i x) (r 2).toNat)
def sepT (x : Int) : List Int := if x ≤ 0 then [] else [32]
def roofT (r : Row) (x : Int) : List Int := sepT x ++ (nameT r x ++ ([58] ++ (numT (r (25 + 13 * x + 10)) ++ (busT r x ++ wtT r x))))
def roofsT (r : Row) : Nat → List Int
  | 0 => []
  | n + 1 => roofsT r n ++ roofT r n
theorem Asc.app {l m : List Int} (h : Asc l) (k : Asc m) : Asc (l ++ m) := fun c hc => (List.mem_append.mp hc).elim (h c) (k c)
theorem roofT_ok {r : Row} {x : Int} (hX : Wx r x) : Asc (roofT r x) ∧ (roofT r x).length ≤ 24 := by
  have h1 := nameT_len hX
  have h2 := numT_len (r (25 + 13 * x + 10))
  have h3 := numT_len (cnt (fun i => waits r i x) (r 2).toNat)
  refine ⟨Asc.app ?_ (Asc.app (nameT_asc hX) (Asc.app ?_ (Asc.app (digT_asc _ _) (Asc.app ?_ ?_)))), ?_⟩
  · intro c hc
    unfold sepT at hc
    split at hc
    · cases hc
    · rw [List.mem_singleton] at hc; omega
  · intro c hc
    rw [List.mem_singleton] at hc; omega
  · intro c hc
    unfold busT at hc
    split at hc
    · rw [List.mem_singleton] at hc; omega
    · cases hc
  · intro c hc
    unfold wtT at hc
    split at hc
    · cases hc
    · rw [List.mem_cons] at hc
      rcases hc with e | e
      · omega
      · exact digT_asc _ _ c e
  · have a1 : (sepT x).length ≤ 1 := by unfold sepT; split <;> simp
    have a2 : (busT r x).length ≤ 1 := by unfold busT; split <;> simp
    have a3 : (wtT r x).length ≤ 8 := by
      unfold wtT
      split
      · simp
      · rw [List.length_cons]; omega
    unfold roofT
    simp only [List.length_append, List.length_singleton]
    omega
theorem roofsT_ok {r : Row} (hW : WF r) : ∀ n : Nat, (n : Int) ≤ r 0 → Asc (roofsT r n) ∧ (roofsT r n).length ≤ 24 * n := by
  intro n
  induction n with
  | zero => intro _; exact ⟨fun c hc => (by cases hc), Nat.le_refl _⟩
  | succ n ih =>
    intro hn
    have a := ih (by omega)
    have b := roofT_ok (hW.2.1 n (by omega) (by omega))
    refine ⟨a.1.app b.1, ?_⟩
    rw [roofsT, List.length_append]
    omega
section Prn
variable {F : Nat} {w : aI} {r : Row}
theorem c_roofT {k9 : Int → aI → Option (Int × aI)} {x : Int} (hF : 100 ≤ F) (hN : Rep w 12 r) (hW : WF r) (h3 : r 3 ≤ 9999) (hx : 0 ≤ x ∧ x < r 0) (hw : 0 ≤ w 3 1 ∧ w 3 1 ≤ 300) :
    (if x ≤ 0 then (f_X10_printRoofs_b33 F 0 k9 x w) else ((f_X0_add F 3 32 w).bind (fun w14 => f_X10_printRoofs_b33 F 0 k9 x w14))) = k9 (x + 1) (outO w (roofT r x)) := by
  obtain ⟨b0, b1, b2, b3, -⟩ := hW.1
  have hX := hW.2.1 x hx.1 hx.2
  have l1 := nameT_len hX
  have l2 := numT_len (r (25 + 13 * x + 10))
  have hp := hX.2.2.2.2.2.1
  have hN1 : ∀ l, Rep (outO w l) 12 r := fun l => hN.of fun a a0 a1 => outO_o _ (by omega) (by omega) w
  have hcnt := cnt_le (fun i => waits r i x) (r 2).toNat
  have main : ∀ w1 : aI, Rep w1 12 r → 0 ≤ w1 3 1 → w1 3 1 ≤ 310 → f_X10_printRoofs_b33 F 0 k9 x w1 = k9 (x + 1) (outO w1 (nameT r x ++ ([58] ++ (numT (r (25 + 13 * x + 10)) ++ (busT r x ++ wtT r x))))) := by
    intro w1 hR w0 w9
    have hR1 : ∀ l, Rep (outO w1 l) 12 r := fun l => hR.of fun a a0 a1 => outO_o _ (by omega) (by omega) w1
    have wt : ∀ l : List Int, l.length ≤ 20 → f_X10_printRoofs_b93 F 0 k9 x (outO w1 l) = k9 (x + 1) (outO w1 (l ++ wtT r x)) := by
      intro l hl
      have hn : outO w1 l 3 1 = w1 3 1 + l.length := outO_n l w1
      unfold f_X10_printRoofs_b93 wtT
      rw [k5, k1, c_tunesAt hF P12 (hR1 l) hW (by omega), bs, gd_t (by omega)]
      by_cases c : cnt (fun i => waits r i x) (r 2).toNat ≤ 0
      · rw [if_pos c, if_pos c, List.append_nil]
      · rw [if_neg c, if_neg c, c_out (by omega), bs, c_num hF (by omega) (by omega) (by rw [outO_n]; simp only [List.length_singleton]; omega), bs, outO_app, show (47 :: numT (cnt (fun i => waits r i x) (r 2).toNat)) = [47] ++ numT (cnt (fun i => waits r i x) (r 2).toNat) from rfl, outO_app]
    unfold f_X10_printRoofs_b33
    rw [c_name hF hR b0.2 hx hX (by omega), bs, k1, c_out (by rw [outO_n]; omega), bs, k5, pf4 P12, ← outO_app, c_roof P12 (hR1 _) b0.2 hx (by omega), bs, show 25 + 13 * x + 7 + 3 = 25 + 13 * x + 10 by omega, c_num hF hp.1 (by omega) (by rw [outO_n]; simp only [List.length_append, List.length_singleton]; omega), bs, ← outO_app, (hR1 _).1.2.1, c_busy P12 (hR1 _) b0.2 hx (by omega) (by have := hX.2.2.2.2.2.2; omega), bs]
    unfold busT
    by_cases c : busy r x (r 3) = true
    · rw [if_pos c, if_pos c, c_out (by rw [outO_n]; simp only [List.length_append, List.length_singleton]; omega), bs, ← outO_app, wt _ (by simp only [List.length_append, List.length_singleton]; omega)]
      congr 2
      simp only [List.append_assoc]
    · rw [if_neg c, if_neg c, wt _ (by simp only [List.length_append, List.length_singleton]; omega)]
      congr 2
      simp only [List.append_assoc, List.nil_append]
  unfold roofT sepT
  by_cases c : x ≤ 0
  · rw [if_pos c, if_pos c, List.nil_append]
    exact main w hN hw.1 (by omega)
  · rw [if_neg c, if_neg c, c_out (by omega), bs, outO_app]
    exact main _ (hN1 _) (by rw [outO_n]; simp only [List.length_singleton]; omega) (by rw [outO_n]; simp only [List.length_singleton]; omega)
theorem c_roofs (hF : 100 ≤ F) (hN : Rep w 12 r) (hW : WF r) (h3 : r 3 ≤ 9999) : f_X10_printRoofs F 0 w = some (((roofsT r (r 0).toNat).length : Int), outO (iset w 3 1 0) (roofsT r (r 0).toNat)) := by
  obtain ⟨b0, b1, b2, b3, -⟩ := hW.1
  have hN1 : ∀ l, Rep (outO (iset w 3 1 0) l) 12 r := fun l => hN.of fun a a0 a1 => by rw [outO_o _ (by omega) (by omega), is_ne (by omega)]
  have hz : iset w 3 1 0 3 1 = 0 := by rw [is_eq, rs_self]
  have key : ∀ (n i : Nat), (i : Int) ≤ r 0 → r 0 - i < n → f_X10_printRoofs_b9 F 0 n i (outO (iset w 3 1 0) (roofsT r i)) = some (((roofsT r (r 0).toNat).length : Int), outO (iset w 3 1 0) (roofsT r (r 0).toNat)) := by
    intro n
    induction n with
    | zero => intro i i1 i2; omega
    | succ n ih =>
      intro i i1 i2
      show f_X10_printRoofs_b9_b F 0 (f_X10_printRoofs_b9 F 0 n) _ _ = _
      unfold f_X10_printRoofs_b9_b
      have hl := (roofsT_ok hW i i1).2
      have hn : outO (iset w 3 1 0) (roofsT r i) 3 1 = (roofsT r i).length := by rw [outO_n, hz]; omega
      rw [k5, (hN1 _).1.2.2.1, gd_t (by omega)]
      by_cases c : r 0 ≤ i
      · have e : i = (r 0).toNat := by omega
        rw [if_pos c]
        unfold f_X0_size
        rw [k1, bs, hn, e]
      · rw [if_neg c, k1, c_roofT hF (hN1 _) hW h3 (by omega) (by omega), ← outO_app]
        exact ih (i + 1) (by omega) (by omega)
  unfold f_X10_printRoofs f_X0_clear
  rw [k1, ltm, bs]
  exact key F 0 (by omega) (by omega)
theorem m_roofT {x : Int} (hF : 100 ≤ F) (h1 : w 211 = r) (hW : WF r) (h3 : r 3 ≤ 9999) (hx : 0 ≤ x ∧ x < r 0) (hw : 0 ≤ w 210 27 ∧ w 210 27 ≤ 250) : f_X11_saysRoof F 210 x w = some (outP w (roofT r x)) := by
  obtain ⟨b0, b1, b2, b3, -⟩ := hW.1
  have hX := hW.2.1 x hx.1 hx.2
  have l1 := nameT_len hX
  have l2 := numT_len (r (25 + 13 * x + 10))
  have hp := hX.2.2.2.2.2.1
  have hcnt := cnt_le (fun i => waits r i x) (r 2).toNat
  have main : ∀ w1 : aI, w1 211 = r → 0 ≤ w1 210 27 → w1 210 27 ≤ 260 → f_X11_saysRoof_b10 F 210 x w1 = some (outP w1 (nameT r x ++ ([58] ++ (numT (r (25 + 13 * x + 10)) ++ (busT r x ++ wtT r x))))) := by
    intro w1 hR w0 w9
    have hR1 : ∀ l, outP w1 l 211 = r := fun l => by rw [outP_o _ (by decide) (by decide)]; exact hR
    have wt : ∀ l : List Int, l.length ≤ 20 → f_X11_saysRoof_b57 F 210 x (outP w1 l) = some (outP w1 (l ++ wtT r x)) := by
      intro l hl
      have hn : outP w1 l 210 27 = w1 210 27 + l.length := outP_n l w1
      have hcn : ∀ l, f_X11_waitingMany F 210 x (outP w1 l) = some (cnt (fun i => waits r i x) (r 2).toNat) := fun l => by
        have := m_waitingMany (F := F) (w := outP w1 l) (x := x) hF (by rw [hR1]; exact hW) (by omega)
        rw [hR1] at this
        exact this
      unfold f_X11_saysRoof_b57 wtT
      rw [hcn, bs, gd_t (by omega)]
      by_cases c : cnt (fun i => waits r i x) (r 2).toNat ≤ 0
      · rw [if_pos c, if_pos c, List.append_nil]
      · rw [if_neg c, if_neg c, m_out (by omega), bs, ← outP_app, hcn, bs, m_num hF (by omega) (by omega) (by rw [outP_n]; simp only [List.length_append, List.length_singleton]; omega), bs, ← outP_app]
        congr 2
        simp only [List.append_assoc]
        rfl
    unfold f_X11_saysRoof_b10
    rw [m_name hF hR b0.2 hx hX (by omega), bs, m_out (by rw [outP_n]; omega), bs, ← outP_app, m_r, bs, m0, n0, gd_t (by omega), hR1, m_num hF hp.1 (by omega) (by rw [outP_n]; simp only [List.length_append, List.length_singleton]; omega), bs, ← outP_app, gd_t (by omega), hR1, m_busy (by omega) (by omega) (by rw [hR1]; have := hX.2.2.2.2.2.2; omega), bs, hR1]
    unfold busT
    by_cases c : busy r x (r 3) = true
    · rw [if_pos c, if_pos c, m_out (by rw [outP_n]; simp only [List.length_append, List.length_singleton]; omega), bs, ← outP_app, wt _ (by simp only [List.length_append, List.length_singleton]; omega)]
      congr 2
      simp only [List.append_assoc]
    · rw [if_neg c, if_neg c, wt _ (by simp only [List.length_append, List.length_singleton]; omega)]
      congr 2
      simp only [List.append_assoc, List.nil_append]
  unfold f_X11_saysRoof roofT sepT
  rw [gd_t (by omega)]
  by_cases c : x ≤ 0
  · rw [if_pos c, if_pos c, List.nil_append]
    exact main w h1 hw.1 (by omega)
  · rw [if_neg c, if_neg c, m_out (by omega), bs, outP_app]
    exact main _ (by rw [outP_o _ (by decide) (by decide)]; exact h1) (by rw [outP_n]; simp only [List.length_singleton]; omega) (by rw [outP_n]; simp only [List.length_singleton]; omega)
theorem m_roofs (hF : 100 ≤ F) (h1 : w 211 = r) (hW : WF r) (h3 : r 3 ≤ 9999) : f_X11_printRoofs F 210 w = some (((roofsT r (r 0).toNat).length : Int), outP (iset (iset w 210 6 0) 210 27 0) (roofsT r (r 0).toNat)) := by
  obtain ⟨b0, b1, b2, b3, -⟩ := hW.1
  have hN1 : ∀ l, outP (iset (iset w 210 6 0) 210 27 0) l 211 = r := fun l => by rw [outP_o _ (by decide) (by decide), is_ne (by decide), is_ne (by decide)]; exact h1
  have hz : iset (iset w 210 6 0) 210 27 0 210 27 = 0 := by rw [is_eq, rs_self]
  have key : ∀ (n i : Nat), (i : Int) ≤ r 0 → r 0 - i < n → f_X11_printRoofs_b12 F 210 n i (outP (iset (iset w 210 6 0) 210 27 0) (roofsT r i)) = some (((roofsT r (r 0).toNat).length : Int), outP (iset (iset w 210 6 0) 210 27 0) (roofsT r (r 0).toNat)) := by
    intro n
    induction n with
    | zero => intro i i1 i2; omega
    | succ n ih =>
      intro i i1 i2
      show f_X11_printRoofs_b12_b F 210 (f_X11_printRoofs_b12 F 210 n) _ _ = _
      unfold f_X11_printRoofs_b12_b
      have hl := (roofsT_ok hW i i1).2
      have hn : outP (iset (iset w 210 6 0) 210 27 0) (roofsT r i) 210 27 = (roofsT r i).length := by rw [outP_n, hz]; omega
      rw [m0, n0, gd_t (by omega), hN1, gd_t (by omega)]
      by_cases c : r 0 ≤ i
      · have e : i = (r 0).toNat := by omega
        rw [if_pos c, hn, e]
      · rw [if_neg c, m_roofT hF (hN1 _) hW h3 (by omega) (by omega), bs, ← outP_app]
        exact ih (i + 1) (by omega) (by omega)
  unfold f_X11_printRoofs
  rw [ltm, ltm]
  exact key F 0 (by omega) (by omega)
/-! a tune's text -/
def noteT (r : Row) (i : Int) (k : Int) : List Int := (48 + r (220 + 27 * i + 19 + k)) :: (if r (220 + 27 * i + 19 + k) = r (220 + 27 * i + 11 + k) then [] else [39])
def notesT (r : Row) (i : Int) : Nat → List Int
  | 0 => []
  | n + 1 => notesT r i n ++ noteT r i n
def tuneT (r : Row) (i : Int) : List Int := notesT r i (r (220 + 27 * i + 2)).toNat ++ ([62] ++ nameT r (r (220 + 27 * i + 1)))
theorem notesT_ok {r : Row} {i : Int} (h : ∀ k, 220 + 27 * i + 11 ≤ k → k < 220 + 27 * i + 27 → 0 ≤ r k ∧ r k ≤ 7) : ∀ n : Nat, n ≤ 8 → Asc (notesT r i n) ∧ (notesT r i n).length ≤ 2 * n := by
  intro n
  induction n with
  | zero => intro _; exact ⟨fun c hc => (by cases hc), Nat.le_refl _⟩
  | succ n ih =>
    intro hn
    have a := ih (by omega)
    have b := h (220 + 27 * i + 19 + n) (by omega) (by omega)
    refine ⟨a.1.app fun c hc => ?_, ?_⟩
    · unfold noteT at hc
      rw [List.mem_cons] at hc
      rcases hc with e | e
      · omega
      · split at e
        · cases e
        · rw [List.mem_singleton] at e; omega
    · have : (noteT r i n).length ≤ 2 := by
        unfold noteT
        rw [List.length_cons]
        split <;> simp
      rw [notesT, List.length_append]
      omega
theorem digT_0 {n : Int} (h : 0 ≤ n ∧ n ≤ 7) : numT n = [48 + n] := by
  unfold numT
  have e : n / 10 = 0 := by omega
  rw [e, show dN 6 0 = 0 from rfl, digT]
  congr 1
  omega
theorem c_tuneT {p1 i : Int} (hF : 100 ≤ F) (hN : Rep w 12 r) (hW : WF r) (hi : 0 ≤ i ∧ i < r 2) (hw : w 3 1 = 0) : f_X10_printTune_b57 F 0 i F (r (220 + 27 * i + 2)) (pk (fun j => r (220 + 27 * i + 11 + j))) (pk (fun j => r (220 + 27 * i + 19 + j))) 0 w = some (.inl ((tuneT r i).length : Int), outO w (tuneT r i)) := by
  obtain ⟨b0, b1, b2, b3, -⟩ := hW.1
  obtain ⟨y0, y1, y2, y3, y4, y5, y6, y7, y8, y9, y10, y11, y12, y13, y14, y15⟩ := hW.2.2.2.1 i hi.1 hi.2
  obtain ⟨hN1, hN2⟩ := tuneN7 y12
  have hX := hW.2.1 (r (220 + 27 * i + 1)) y1.1 y1.2
  have l1 := nameT_len hX
  have hR1 : ∀ l, Rep (outO w l) 12 r := fun l => hN.of fun a a0 a1 => outO_o _ (by omega) (by omega) w
  have key : ∀ (n k : Nat), (k : Int) ≤ r (220 + 27 * i + 2) → r (220 + 27 * i + 2) - k < n → f_X10_printTune_b57 F 0 i n (r (220 + 27 * i + 2)) (pk (fun j => r (220 + 27 * i + 11 + j))) (pk (fun j => r (220 + 27 * i + 19 + j))) k (outO w (notesT r i k)) = some (.inl ((tuneT r i).length : Int), outO w (tuneT r i)) := by
    intro n
    induction n with
    | zero => intro k k1 k2; omega
    | succ n ih =>
      intro k kk1 kk2
      show f_X10_printTune_b57_b F 0 i (f_X10_printTune_b57 F 0 i n) _ _ _ _ _ = _
      unfold f_X10_printTune_b57_b
      have hl := (notesT_ok y12 k (by omega)).2
      have hn : outO w (notesT r i k) 3 1 = (notesT r i k).length := by rw [outO_n, hw]; omega
      rw [gd_t (by omega)]
      by_cases c : r (220 + 27 * i + 2) ≤ k
      · have e : k = (r (220 + 27 * i + 2)).toNat := by omega
        rw [if_pos c, k1, c_out (by omega), bs, k5, pf6 P12, ← outO_app, c_tune P12 (hR1 _) b2 hi (by omega), bs, c_name hF (hR1 _) b0.2 y1 hX (by rw [outO_n]; simp only [List.length_append, List.length_singleton]; omega), bs, ← outO_app]
        unfold f_X0_size
        rw [bs, outO_n, hw]
        unfold tuneT
        rw [← e, List.append_assoc, Int.zero_add]
      · have vh := y12 (220 + 27 * i + 19 + k) (by omega) (by omega)
        have vs := y12 (220 + 27 * i + 11 + k) (by omega) (by omega)
        rw [if_neg c, c_noteOf hN2 (by omega) (by omega), bs, k1, c_num hF vh.1 (by omega) (by omega), bs, c_noteOf hN2 (by omega) (by omega), bs, c_noteOf hN1 (by omega) (by omega), bs, digT_0 vh, gd_t (by omega), ← outO_app]
        have hst : ∀ l, l = noteT r i k → f_X10_printTune_b57 F 0 i n (r (220 + 27 * i + 2)) (pk (fun j => r (220 + 27 * i + 11 + j))) (pk (fun j => r (220 + 27 * i + 19 + j))) ((k : Int) + 1) (outO w (notesT r i k ++ l)) = some (.inl ((tuneT r i).length : Int), outO w (tuneT r i)) := fun l hl => by rw [hl]; exact ih (k + 1) (by omega) (by omega)
        by_cases c2 : r (220 + 27 * i + 19 + k) = r (220 + 27 * i + 11 + k)
        · rw [if_pos c2]
          exact hst _ (by unfold noteT; rw [if_pos c2])
        · rw [if_neg c2, c_out (by rw [outO_n]; simp only [List.length_append, List.length_singleton]; omega), bs, ← outO_app, List.append_assoc]
          exact hst _ (by unfold noteT; rw [if_neg c2]; rfl)
  exact key F 0 (by omega) (by omega)
theorem m_tuneT {i : Int} (hF : 100 ≤ F) (h1 : w 211 = r) (hW : WF r) (hi : 0 ≤ i ∧ i < r 2) (hw : w 210 27 = 0) : f_X11_printTune_b28 F 210 i F (220 + 27 * i) 0 w = some (((tuneT r i).length : Int), outP w (tuneT r i)) := by
  obtain ⟨b0, b1, b2, b3, -⟩ := hW.1
  obtain ⟨y0, y1, y2, y3, y4, y5, y6, y7, y8, y9, y10, y11, y12, y13, y14, y15⟩ := hW.2.2.2.1 i hi.1 hi.2
  have hX := hW.2.1 (r (220 + 27 * i + 1)) y1.1 y1.2
  have l1 := nameT_len hX
  have hR1 : ∀ l, outP w l 211 = r := fun l => by rw [outP_o _ (by decide) (by decide)]; exact h1
  have key : ∀ (n k : Nat), (k : Int) ≤ r (220 + 27 * i + 2) → r (220 + 27 * i + 2) - k < n → f_X11_printTune_b28 F 210 i n (220 + 27 * i) k (outP w (notesT r i k)) = some (((tuneT r i).length : Int), outP w (tuneT r i)) := by
    intro n
    induction n with
    | zero => intro k k1 k2; omega
    | succ n ih =>
      intro k kk1 kk2
      show f_X11_printTune_b28_b F 210 i (f_X11_printTune_b28 F 210 i n) _ _ _ = _
      unfold f_X11_printTune_b28_b
      have hl := (notesT_ok y12 k (by omega)).2
      have hn : outP w (notesT r i k) 210 27 = (notesT r i k).length := by rw [outP_n, hw]; omega
      rw [m0, n0, gd_t (by omega), hR1, gd_t (by omega)]
      by_cases c : r (220 + 27 * i + 2) ≤ k
      · have e : k = (r (220 + 27 * i + 2)).toNat := by omega
        rw [if_pos c, m_out (by omega), bs, gd_t (by omega), ← outP_app, hR1, m_name hF (hR1 _) b0.2 y1 hX (by rw [outP_n]; simp only [List.length_append, List.length_singleton]; omega), bs, ← outP_app, outP_n, hw]
        unfold tuneT
        rw [← e, List.append_assoc, Int.zero_add]
      · have vh := y12 (220 + 27 * i + 19 + k) (by omega) (by omega)
        have vs := y12 (220 + 27 * i + 11 + k) (by omega) (by omega)
        rw [if_neg c, gd_t (by omega), m_out (by omega), bs, gd_t (by omega), gd_t (by omega), ← outP_app, hR1, gd_t (by omega)]
        have hst : ∀ l, l = noteT r i k → f_X11_printTune_b28 F 210 i n (220 + 27 * i) ((k : Int) + 1) (outP w (notesT r i k ++ l)) = some (((tuneT r i).length : Int), outP w (tuneT r i)) := fun l hl => by rw [hl]; exact ih (k + 1) (by omega) (by omega)
        by_cases c2 : r (220 + 27 * i + 19 + k) = r (220 + 27 * i + 11 + k)
        · rw [if_pos c2]
          exact hst _ (by unfold noteT; rw [if_pos c2])
        · rw [if_neg c2, m_out (by rw [outP_n]; simp only [List.length_append, List.length_singleton]; omega), bs, ← outP_app, List.append_assoc]
          exact hst _ (by unfold noteT; rw [if_neg c2]; rfl)
  exact key F 0 (by omega) (by omega)
end Prn
/-- behind both writings -/
theorem Inv.prn {w x w3 : aI} {l : List Int} (hI : Inv w) (hl : Asc l) (h9 : l.length ≤ 300) (h3 : w3 = outP x l) (hx : ∀ a, ¬ a = 210 → x a = outO (iset w 3 1 0) l a) (hx2 : ∀ k, ¬ k = 6 → ¬ k = 27 → x 210 k = w 210 k) (hx7 : x 210 27 = 0) : Inv w3 := by
  have J0 : JO (iset w 3 1 0) x := ⟨by rw [is_eq, rs_self, hx7], by omega, fun k k0 k1 => by omega⟩
  have J1 := J0.out hl
  refine hI.out (fun a a0 a1 a2 a3 => ?_) (fun k k0 k1 => ?_) ?_
  · rw [h3, outP_o _ a2 a3, hx a a2, outO_o _ a0 a1, is_ne a0]
  · rw [h3, outP_f _ k1, hx2 k k0 k1]
  · have e3 : w3 3 = outO (iset w 3 1 0) l 3 := by rw [h3, outP_o _ (by decide) (by decide), hx 3 (by decide)]
    have e4 : w3 4 = outO (iset w 3 1 0) l 4 := by rw [h3, outP_o _ (by decide) (by decide), hx 4 (by decide)]
    unfold IvO
    rw [e3, e4]
    rw [h3]
    have hn := outP_n l x
    refine ⟨J1.1, by omega, fun k k0 k1 => J1.2.2 k k0 k1⟩
theorem top_printRoofs {F : Nat} (hF : 20000 ≤ F) : TopW (f_X10_printRoofs F 0) (f_X11_printRoofs F 210) := by
  intro w hI
  obtain ⟨hN, hW, h3⟩ := hI.2.2.2.2.1
  obtain ⟨b0, b1, b2, b3, -⟩ := hW.1
  have hl := roofsT_ok hW (w 211 0).toNat (by omega)
  have e1 := c_roofs (F := F) (by omega) hN hW h3
  have x211 : outO (iset w 3 1 0) (roofsT (w 211) (w 211 0).toNat) 211 = w 211 := by rw [outO_o _ (by decide) (by decide), is_ne (by decide)]
  have e2 := m_roofs (F := F) (by omega) x211 hW h3
  refine ⟨_, _, _, e1, e2, ?_⟩
  refine hI.prn hl.1 (by omega) rfl (fun a a0 => by rw [is_ne a0, is_ne a0]) (fun k k0 k1 => ?_) ?_
  · rw [is_eq, rs_ne k1, is_eq, rs_ne k0, outO_o _ (by decide) (by decide), is_ne (by decide)]
  · rw [is_eq, rs_self]
theorem top_printTune {F : Nat} (hF : 20000 ≤ F) {i : Int} (hi : rg i) : Top [eIO] (f_X10_printTune F 0 i) (f_X11_printTune F 210 i) := by
  intro w hI
  obtain ⟨hN, hW, h3⟩ := hI.2.2.2.2.1
  obtain ⟨b0, b1, b2, b3, -⟩ := hW.1
  unfold f_X10_printTune f_X11_printTune
  rw [c_needTune hN hi b2, bN rfl, k5, k1]
  by_cases c : 0 ≤ i ∧ i < w 211 2
  · obtain ⟨y0, y1, y2, y3, y4, y5, y6, y7, y8, y9, y10, y11, y12, y13, y14, y15⟩ := hW.2.2.2.1 i c.1 c.2
    have hX := hW.2.1 (w 211 (220 + 27 * i + 1)) y1.1 y1.2
    have n1 := notesT_ok y12 (w 211 (220 + 27 * i + 2)).toNat (by omega)
    have n2 := nameT_len hX
    have hl : Asc (tuneT (w 211) i) ∧ (tuneT (w 211) i).length ≤ 23 := by
      refine ⟨n1.1.app (Asc.app (fun d hd => by rw [List.mem_singleton] at hd; omega) (nameT_asc hX)), ?_⟩
      unfold tuneT
      simp only [List.length_append, List.length_singleton]
      omega
    have hN1 : Rep (iset w 3 1 0) 12 (w 211) := hN.of fun a a0 a1 => is_ne (by omega)
    have e1 := c_tuneT (F := F) (w := iset w 3 1 0) (p1 := i) (by omega) hN1 hW c (by rw [is_eq, rs_self])
    rw [if_pos c]
    unfold f_X0_clear
    rw [ltm, bs, pf6 P12, c_tune P12 hN1 b2 c (by omega), bs, c_tune9 P12 hN1 b2 c, bs, c_tune10 P12 hN1 b2 c, bs, e1]
    have x211 : outO (iset w 3 1 0) (tuneT (w 211) i) 211 = w 211 := by rw [outO_o _ (by decide) (by decide), is_ne (by decide)]
    obtain ⟨x, hx⟩ : ∃ x, x = iset (iset (outO (iset w 3 1 0) (tuneT (w 211) i)) 210 6 0) 210 27 0 := ⟨_, rfl⟩
    have e2 := m_tuneT (F := F) (w := x) (i := i) (by omega) (by rw [hx, is_ne (by decide), is_ne (by decide)]; exact x211) hW c (by rw [hx, is_eq, rs_self])
    refine ⟨_, _, ((tuneT (w 211) i).length : Int), outP x (tuneT (w 211) i), rfl, ?_, ?_, ?_, rfl⟩
    · rw [m_isTune hi (by rw [x211]; exact b2), bs, x211, decide_eq_true c, show f_X11_may F 210 (bI true) 1 1 (outO (iset w 3 1 0) (tuneT (w 211) i)) = some (true, iset (outO (iset w 3 1 0) (tuneT (w 211) i)) 210 6 0) from may1t, bk, if_pos rfl, ltm, m_t, bs, ← hx, e2]
    · refine hI.prn hl.1 (by omega) rfl (fun a a0 => by rw [hx, is_ne a0, is_ne a0]) (fun k k0 k1 => ?_) ?_
      · rw [hx, is_eq, rs_ne k1, is_eq, rs_ne k0, outO_o _ (by decide) (by decide), is_ne (by decide)]
      · rw [hx, is_eq, rs_self]
    · rw [outP_f _ (by decide), hx, is_eq, rs_ne (by decide), is_eq, rs_self]
  · rw [if_neg c]
    refine ⟨.inr eIO, w, 0, iset w 210 6 1, rfl, ?_, hI.thr 1, ?_⟩
    · rw [m_isTune hi b2, bs, decide_eq_false c, show f_X11_may F 210 (bI false) 1 1 w = some (false, iset w 210 6 1) from may3a (b := true) (c := true), bk]; rfl
    · rw [thr_at]; exact ⟨by decide, by decide, by decide⟩
