theorem lti {T : Type} (v : Int) (k : Int → Option T) : ltI v k = k v := rfl
theorem ltm {T : Type} (v : aI) (k : aI → Option T) : ltM v k = k v := rfl
/-! ===== a post of the class that stands for a row ===== -/
def nm (len : Int) (f : Int → Int) : Int := (if 0 < len then f 0 - 96 else 0) + 32 * (if 1 < len then f 1 - 96 else 0) + 1024 * (if 2 < len then f 2 - 96 else 0) + 32768 * (if 3 < len then f 3 - 96 else 0) + 1048576 * (if 4 < len then f 4 - 96 else 0) + 33554432 * (if 5 < len then f 5 - 96 else 0)
def nmR (r : Row) (x : Int) : Int := nm (r (25 + 13 * x)) (fun k => r (25 + 13 * x + 1 + k))
def RepH (w : aI) (b : Nat) (r : Row) : Prop := TOK w b ∧ w b 0 = r 3 ∧ w b 1 = r 0 ∧ w b 2 = r 1 ∧ w b 3 = r 2
def RepS (w : aI) (b : Nat) (r : Row) : Prop := w (b + 8) 0 = r 4 ∧ w (b + 8) 1 = r 5 ∧ w (b + 8) 2 = r 6
def RepA (w : aI) (b : Nat) (r : Row) : Prop := ∀ k, 0 ≤ k → k < 11 → w (b + 10) k = r (10 + k)
def RX (w : aI) (b : Nat) (r : Row) (x : Int) : Prop := w (b + 2) (8 * x) = r (25 + 13 * x + 7) ∧ w (b + 2) (8 * x + 1) = r (25 + 13 * x + 8) ∧ w (b + 2) (8 * x + 2) = r (25 + 13 * x + 9) ∧ w (b + 2) (8 * x + 3) = r (25 + 13 * x + 10) ∧ w (b + 2) (8 * x + 4) = r (25 + 13 * x + 11) ∧ w (b + 2) (8 * x + 5) = nmR r x ∧ w (b + 2) (8 * x + 7) = r (25 + 13 * x + 12) ∧ (0 ≤ w (b + 2) (8 * x + 6) ∧ w (b + 2) (8 * x + 6) ≤ 999)
def RepX (w : aI) (b : Nat) (r : Row) : Prop := (∀ x, 0 ≤ x → x < r 0 → RX w b r x) ∧ sm (fun x => w (b + 2) (8 * x + 6)) (r 0).toNat = r 7
def RepW (w : aI) (b : Nat) (r : Row) : Prop := ∀ i, 0 ≤ i → i < r 1 → w (b + 4) (3 * i) = r (160 + 3 * i) ∧ w (b + 4) (3 * i + 1) = r (160 + 3 * i + 1) ∧ w (b + 4) (3 * i + 2) = r (160 + 3 * i + 2)
def RT (w : aI) (b : Nat) (r : Row) (i : Int) : Prop := (∀ k, 0 ≤ k → k < 9 → w (b + 6) (13 * i + k) = r (220 + 27 * i + k)) ∧ w (b + 6) (13 * i + 9) = pk (fun j => r (220 + 27 * i + 11 + j)) ∧ w (b + 6) (13 * i + 10) = pk (fun j => r (220 + 27 * i + 19 + j)) ∧ w (b + 6) (13 * i + 11) = r (220 + 27 * i + 9) ∧ w (b + 6) (13 * i + 12) = r (220 + 27 * i + 10)
def RepT (w : aI) (b : Nat) (r : Row) : Prop := ∀ i, 0 ≤ i → i < r 2 → RT w b r i
def RepR (w : aI) (b : Nat) (r : Row) : Prop := ∀ x y, 0 ≤ x → x < r 0 → 0 ≤ y → y < 10 → w (b + 13) (10 * x + y) = farB r x y ∧ (y < r 0 → w (b + 15) (10 * x + y) = (if dist r (-1) y x = -1 then 9999 else dist r (-1) y x) ∧ w (b + 17) (10 * x + y) = nxt r x y)
def Rep (w : aI) (b : Nat) (r : Row) : Prop := RepH w b r ∧ RepS w b r ∧ RepA w b r ∧ RepX w b r ∧ RepW w b r ∧ RepT w b r ∧ RepR w b r
theorem Rep.of {w w2 : aI} {b : Nat} {r : Row} (h : Rep w b r) (he : ∀ a, b ≤ a → a < b + 18 → w2 a = w a) : Rep w2 b r := by
  obtain ⟨h1, h2, h3, h4, h5, h6, h7⟩ := h
  have e0 := he b (by omega) (by omega)
  have e2 := he (b + 2) (by omega) (by omega)
  have e4 := he (b + 4) (by omega) (by omega)
  have e6 := he (b + 6) (by omega) (by omega)
  have e8 := he (b + 8) (by omega) (by omega)
  have e10 := he (b + 10) (by omega) (by omega)
  have e13 := he (b + 13) (by omega) (by omega)
  have e15 := he (b + 15) (by omega) (by omega)
  have e17 := he (b + 17) (by omega) (by omega)
  refine ⟨⟨h1.1.of he, ?_⟩, ?_, ?_, ?_, ?_, ?_, ?_⟩
  · rw [e0]; exact h1.2
  · unfold RepS; rw [e8]; exact h2
  · unfold RepA; rw [e10]; exact h3
  · unfold RepX RX; rw [e2]; exact h4
  · unfold RepW; rw [e4]; exact h5
  · unfold RepT RT; rw [e6]; exact h6
  · unfold RepR; rw [e13, e15, e17]; exact h7
/-! ===== what the class reads ===== -/
section Reads
variable {F : Nat} {b : Nat} {w : aI} {r : Row}
theorem c_enter (hP : Pb b) (hK : TOK w b) {k v : Int} (hk : 0 ≤ k ∧ k < 11) : f_X2_enter F b k v w = some (stc w (b + 10) (rs (w (b + 10)) k (w (b + 10) k + v))) := by
  unfold f_X2_enter
  rw [pf8 hP, growA hP hK hk, bs]
theorem c_set8 (hP : Pb b) (h : Rep w b r) : f_X2_setting F b 8 w = some (r 4) := by
  unfold f_X2_setting
  rw [pf7 hP, getS hP h.1.1 (by omega), bs, ← h.2.1.1]
  rfl
theorem c_set9 (hP : Pb b) (h : Rep w b r) : f_X2_setting F b 9 w = some (r 5) := by
  unfold f_X2_setting
  rw [pf7 hP, getS hP h.1.1 (by omega), bs, ← h.2.1.2.1]
  rfl
theorem c_set10 (hP : Pb b) (h : Rep w b r) : f_X2_setting F b 10 w = some (r 6) := by
  unfold f_X2_setting
  rw [pf7 hP, getS hP h.1.1 (by omega), bs, ← h.2.1.2.2]
  rfl
/-- a column of a tune -/
theorem c_tune (hP : Pb b) (h : Rep w b r) {i k : Int} (h2 : 0 ≤ r 2 ∧ r 2 ≤ 30) (hi : 0 ≤ i ∧ i < r 2) (hk : 0 ≤ k ∧ k < 9) : f_X7_get F (b + 5) i k w = some (r (220 + 27 * i + k)) := by
  rw [getT hP h.1.1 (by omega) (by omega), (h.2.2.2.2.2.1 i hi.1 hi.2).1 k hk.1 hk.2]
theorem c_tune9 (hP : Pb b) (h : Rep w b r) {i : Int} (h2 : 0 ≤ r 2 ∧ r 2 ≤ 30) (hi : 0 ≤ i ∧ i < r 2) : f_X7_get F (b + 5) i 9 w = some (pk (fun j => r (220 + 27 * i + 11 + j))) := by
  rw [getT hP h.1.1 (by omega) (by omega), (h.2.2.2.2.2.1 i hi.1 hi.2).2.1]
theorem c_tune10 (hP : Pb b) (h : Rep w b r) {i : Int} (h2 : 0 ≤ r 2 ∧ r 2 ≤ 30) (hi : 0 ≤ i ∧ i < r 2) : f_X7_get F (b + 5) i 10 w = some (pk (fun j => r (220 + 27 * i + 19 + j))) := by
  rw [getT hP h.1.1 (by omega) (by omega), (h.2.2.2.2.2.1 i hi.1 hi.2).2.2.1]
theorem c_tune11 (hP : Pb b) (h : Rep w b r) {i : Int} (h2 : 0 ≤ r 2 ∧ r 2 ≤ 30) (hi : 0 ≤ i ∧ i < r 2) : f_X7_get F (b + 5) i 11 w = some (r (220 + 27 * i + 9)) := by
  rw [getT hP h.1.1 (by omega) (by omega), (h.2.2.2.2.2.1 i hi.1 hi.2).2.2.2.1]
theorem c_tune12 (hP : Pb b) (h : Rep w b r) {i : Int} (h2 : 0 ≤ r 2 ∧ r 2 ≤ 30) (hi : 0 ≤ i ∧ i < r 2) : f_X7_get F (b + 5) i 12 w = some (r (220 + 27 * i + 10)) := by
  rw [getT hP h.1.1 (by omega) (by omega), (h.2.2.2.2.2.1 i hi.1 hi.2).2.2.2.2]
theorem c_roof (hP : Pb b) (h : Rep w b r) {x k : Int} (h0 : r 0 ≤ 10) (hx : 0 ≤ x ∧ x < r 0) (hk : 0 ≤ k ∧ k < 5) : f_X7_get F (b + 1) x k w = some (r (25 + 13 * x + 7 + k)) := by
  rw [getX hP h.1.1 (by omega) (by omega)]
  obtain ⟨a0, a1, a2, a3, a4, -⟩ := h.2.2.2.1.1 x hx.1 hx.2
  have hk' : k = 0 ∨ k = 1 ∨ k = 2 ∨ k = 3 ∨ k = 4 := by omega
  rcases hk' with e | e | e | e | e <;> subst e
  · rw [Int.add_zero, Int.add_zero, a0]
  · rw [a1, show 25 + 13 * x + 7 + 1 = 25 + 13 * x + 8 by omega]
  · rw [a2, show 25 + 13 * x + 7 + 2 = 25 + 13 * x + 9 by omega]
  · rw [a3, show 25 + 13 * x + 7 + 3 = 25 + 13 * x + 10 by omega]
  · rw [a4, show 25 + 13 * x + 7 + 4 = 25 + 13 * x + 11 by omega]
theorem c_busy (hP : Pb b) (h : Rep w b r) {x t : Int} (h0 : r 0 ≤ 10) (hx : 0 ≤ x ∧ x < r 0) (ht : rg t) (hr : rg (r (25 + 13 * x + 11))) : f_X2_isBusy F b x t w = some (busy r x t) := by
  unfold f_X2_isBusy busy
  rw [pf4 hP, c_roof hP h h0 hx (by omega), bs, show 25 + 13 * x + 7 + 4 = 25 + 13 * x + 11 by omega, gd_t ⟨hr, ht⟩]
  by_cases c : r (25 + 13 * x + 11) ≤ t
  · rw [if_pos c, decide_eq_false (by omega)]
  · rw [if_neg c, decide_eq_true (by omega)]
theorem c_waits (hP : Pb b) (h : Rep w b r) {i x : Int} (h2 : 0 ≤ r 2 ∧ r 2 ≤ 30) (hi : 0 ≤ i ∧ i < r 2) (hx : rg x) (h3 : rg (r (220 + 27 * i + 3))) (h4 : rg (r (220 + 27 * i + 4))) : f_X2_isWaitingAt F b i x w = some (waits r i x) := by
  unfold f_X2_isWaitingAt waits
  rw [pf6 hP, c_tune hP h h2 hi (by omega), bs, gd_t h3]
  by_cases c : r (220 + 27 * i + 3) = 0
  · rw [if_pos c, c_tune hP h h2 hi (by omega), bs, gd_t ⟨h4, hx⟩]
    by_cases c2 : r (220 + 27 * i + 4) = x
    · rw [if_pos c2, decide_eq_true ⟨c, c2⟩]
    · rw [if_neg c2, decide_eq_false (fun h => c2 h.2)]
  · rw [if_neg c, decide_eq_false (fun h => c h.1)]
theorem c_barsOf {n : Int} (h : 0 ≤ n ∧ n ≤ 8) : f_X2_barsOf F n w = some ((n + 3) / 4) := by
  simp (disch := omega) only [f_X2_barsOf, gd_t, td]
theorem c_bars (hP : Pb b) (h : Rep w b r) {i : Int} (h2 : 0 ≤ r 2 ∧ r 2 ≤ 30) (hi : 0 ≤ i ∧ i < r 2) (hn : 1 ≤ r (220 + 27 * i + 2) ∧ r (220 + 27 * i + 2) ≤ 8) : f_X2_barsOfTune F b i w = some (bar r i) := by
  unfold f_X2_barsOfTune bar
  rw [pf6 hP, c_tune hP h h2 hi (by omega), bs, c_barsOf (by omega), bs]
theorem c_nextOf (hP : Pb b) (h : Rep w b r) {i : Int} (h0 : r 0 ≤ 10) (h2 : 0 ≤ r 2 ∧ r 2 ≤ 30) (hi : 0 ≤ i ∧ i < r 2) (h4 : 0 ≤ r (220 + 27 * i + 4) ∧ r (220 + 27 * i + 4) < r 0) (h1 : 0 ≤ r (220 + 27 * i + 1) ∧ r (220 + 27 * i + 1) < r 0) : f_X2_nextOf F b i w = some (nxt r (r (220 + 27 * i + 4)) (r (220 + 27 * i + 1))) := by
  unfold f_X2_nextOf
  rw [pf6 hP, c_tune hP h h2 hi (by omega), bs, c_tune hP h h2 hi (by omega), bs, pf9 hP, pr2 hP, getN hP h.1.1 (by omega) (by omega), bs]
  rw [((h.2.2.2.2.2.2 _ _ h4.1 h4.2 h1.1 (by omega)).2 h1.2).2]
theorem c_lack (hP : Pb b) (h : Rep w b r) {i : Int} (h0 : r 0 ≤ 10) (h2 : 0 ≤ r 2 ∧ r 2 ≤ 30) (hi : 0 ≤ i ∧ i < r 2) (h4 : 0 ≤ r (220 + 27 * i + 4) ∧ r (220 + 27 * i + 4) < r 0) (hs : 0 ≤ r (220 + 27 * i) ∧ r (220 + 27 * i) < r 0) (hn : 1 ≤ r (220 + 27 * i + 2) ∧ r (220 + 27 * i + 2) ≤ 8) : f_X2_lackOf F b i w = some (feeA r i (r (220 + 27 * i + 4)) - pur r i) := by
  unfold f_X2_lackOf feeA pur bar
  have e0 : f_X7_get F (b + 5) i 0 w = some (r (220 + 27 * i)) := by
    have := c_tune (F := F) hP h (k := 0) h2 hi (by omega)
    rw [Int.add_zero] at this
    exact this
  rw [pf6 hP, pf4 hP, c_tune hP h h2 hi (by omega), bs, c_roof hP h h0 h4 (by omega), bs, c_tune hP h h2 hi (by omega), bs, c_barsOf (by omega), bs]
  rw [lti, e0, bs, c_roof hP h h0 hs (by omega), bs, show 25 + 13 * r (220 + 27 * i + 4) + 7 + 2 = 25 + 13 * r (220 + 27 * i + 4) + 9 by omega, show 25 + 13 * r (220 + 27 * i) + 7 + 3 = 25 + 13 * r (220 + 27 * i) + 10 by omega]
theorem c_wrong (hP : Pb b) (h : Rep w b r) {far x n wind : Int} (h0 : r 0 ≤ 10) (hx : 0 ≤ x ∧ x < r 0) (hw : 0 ≤ wind ∧ wind ≤ 9) (hf : 0 ≤ far ∧ far ≤ 9) (hn : rg n) (he : 0 ≤ r (25 + 13 * x + 8) ∧ r (25 + 13 * x + 8) ≤ 9) : f_X2_wrongOf F b far x n wind w = some (wrg r wind far x n) := by
  have hm : 0 ≤ wind * far ∧ wind * far ≤ 81 := by
    have h1 := Int.mul_nonneg hw.1 hf.1
    have h2 : wind * far ≤ 9 * 9 := Int.mul_le_mul hw.2 hf.2 hf.1 (by decide)
    omega
  unfold f_X2_wrongOf wrg
  rw [pf4 hP, c_roof hP h h0 hx (by omega), bs, show 25 + 13 * x + 7 + 1 = 25 + 13 * x + 8 by omega]
  generalize wind * far = p at hm ⊢
  simp (disch := omega) only [gd_t, ltI, td, Int.min_comm]
theorem c_first (hP : Pb b) (h : Rep w b r) (hW : WF r) (hF : 100 ≤ F) {x : Int} (hx : 0 ≤ x ∧ x < r 0) : f_X2_firstToGoFrom F b x w = some (firstG r x) := by
  obtain ⟨b0, b1, b2, b3, b4, b5, b6⟩ := hW.1
  have key : ∀ (n i : Nat), (i : Int) ≤ r 2 → r 2 - i < n → f_X2_firstToGoFrom_b4 F b x w n (itr (fstep r x) (-1) i) i = some (firstG r x) := by
    intro n
    induction n with
    | zero => intro i i1 i2; omega
    | succ n ih =>
      intro i i1 i2
      show f_X2_firstToGoFrom_b4_b F b x w (f_X2_firstToGoFrom_b4 F b x w n) _ _ = _
      unfold f_X2_firstToGoFrom_b4_b
      rw [h.1.2.2.2.2, gd_t (by omega)]
      by_cases c : r 2 ≤ i
      · rw [if_pos c]
        have e : i = (r 2).toNat := by omega
        rw [firstG_eq, ← e]
      · rw [if_neg c]
        have hi : 0 ≤ (i : Int) ∧ (i : Int) < r 2 := by omega
        obtain ⟨y0, y1, y2, y3, y4, y5, y6, y7, y8, y9, y10, y11, y12, y13, y14, y15⟩ := hW.2.2.2.1 i hi.1 hi.2
        have nx : f_X2_firstToGoFrom_b4 F b x w n (fstep r x i (itr (fstep r x) (-1) i)) ((i : Int) + 1) = some (firstG r x) := ih (i + 1) (by omega) (by omega)
        have rb := fstep_rg r x i
        generalize itr (fstep r x) (-1) i = best at nx rb ⊢
        rw [c_waits hP h b2 hi (by omega) (by omega) (by omega), bs]
        by_cases c1 : waits r i x = true
        · have c1' := of_decide_eq_true c1
          rw [if_pos c1, c_nextOf hP h b0.2 b2 hi y5 y1, bs, c1'.2]
          have nr : rg (nxt r x (r (220 + 27 * (i : Int) + 1))) := by
            unfold nxt
            split
            · decide
            · rcases ff_spec (fun y => decide (¬ farB r x y = -1 ∧ ¬ dist r (-1) (r (220 + 27 * (i : Int) + 1)) y = -1 ∧ farB r x y + dist r (-1) (r (220 + 27 * (i : Int) + 1)) y = dist r (-1) (r (220 + 27 * (i : Int) + 1)) x)) 10 with ⟨e, -⟩ | ⟨e, e2, -⟩ <;> omega
          rw [gd_t nr]
          by_cases c2 : nxt r x (r (220 + 27 * (i : Int) + 1)) = -1
          · rw [if_pos c2]
            unfold fstep at nx
            rw [if_neg (fun z => z.2.2.2 c2)] at nx
            exact nx
          · rw [if_neg c2, c_lack hP h b0.2 b2 hi y5 y0 y3, bs, c1'.2]
            have pb := pur_bd (i := i) hW.1 hW.2.1 hW.2.2.2.1 hi
            have fb := fee_bd (i := i) (x := x) hW.1 hW.2.1 hW.2.2.2.1 hi hx
            rw [gd_t (by omega)]
            by_cases c3 : 0 < feeA r i x - pur r i
            · rw [if_pos c3]
              unfold fstep at nx
              rw [if_neg (by omega)] at nx
              exact nx
            · rw [if_neg c3, gd_t (by omega)]
              by_cases c4 : best = -1
              · rw [if_pos c4]
                unfold fstep at nx
                rw [if_pos ⟨c1, Or.inl c4, by omega, c2⟩] at nx
                exact nx
              · rw [if_neg c4]
                have hbst : 0 ≤ best ∧ best < r 2 := by omega
                have yb := (hW.2.2.2.1 best hbst.1 hbst.2).2.2.2.1
                have fb2 := fee_bd (i := best) (x := x) hW.1 hW.2.1 hW.2.2.2.1 hbst hx
                rw [c_bars hP h b2 hi y3, bs, c_bars hP h b2 hbst yb, bs, gd_t (by omega)]
                by_cases c5 : bar r i ≤ bar r best
                · rw [if_pos c5]
                  unfold fstep at nx
                  rw [if_neg (by omega)] at nx
                  exact nx
                · rw [if_neg c5]
                  unfold fstep at nx
                  rw [if_pos ⟨c1, Or.inr (by omega), by omega, c2⟩] at nx
                  exact nx
        · rw [if_neg c1]
          unfold fstep at nx
          rw [if_neg (fun z => c1 z.1)] at nx
          exact nx
  exact key F 0 (by omega) (by omega)
end Reads
