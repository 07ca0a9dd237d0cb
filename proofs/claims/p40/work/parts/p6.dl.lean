/-! ===== how far the counts of a row grow ===== -/
def Dk (k : Int) : Prop := k = 12 ∨ k = 14 ∨ k = 17 ∨ k = 19 ∨ ∃ x : Int, 0 ≤ x ∧ x < 10 ∧ k = 25 + 13 * x + 12
def Dl (r q : Row) (c : Int) : Prop := (∀ k, Dk k → r k - c ≤ q k ∧ q k ≤ r k + c) ∧ q 7 = r 7 ∧ q 20 = r 20
theorem Dl.rf (r : Row) {c : Int} (h : 0 ≤ c) : Dl r r c := ⟨fun k _ => by omega, rfl, rfl⟩
theorem Dl.tr {r q s : Row} {a b c : Int} (h : Dl r q a) (k : Dl q s b) (e : a + b ≤ c) : Dl r s c := ⟨fun j hj => by have := h.1 j hj; have := k.1 j hj; omega, k.2.1.trans h.2.1, k.2.2.trans h.2.2⟩
theorem Dk.lo {k : Int} (h : Dk k) : ¬ k = 7 ∧ ¬ k = 20 ∧ k < 160 ∧ ¬ k = 2 ∧ ¬ k = 3 ∧ ¬ k = 10 ∧ ¬ k = 11 ∧ ¬ k = 13 ∧ ¬ k = 15 ∧ ¬ k = 16 ∧ ¬ k = 18 ∧ ¬ k = 1 ∧ ¬ k = 4 := by
  rcases h with h | h | h | h | ⟨x, x0, x1, h⟩ <;> omega
theorem wrg_bdz {r : Row} {a b x n : Int} (hn : 1 ≤ n ∧ n ≤ 8) : 0 ≤ wrg r a b x n ∧ wrg r a b x n ≤ 8 := by
  unfold wrg
  generalize a * b - 3 * r (25 + 13 * x + 8) = p
  omega
theorem Dl_land {r : Row} {i : Int} (hi : 0 ≤ i) (hn : 1 ≤ r (220 + 27 * i + 2) ∧ r (220 + 27 * i + 2) ≤ 8) : Dl r (landT r i) 8 := by
  have e : ∀ k, k < 160 → landT r i k = if k = 14 then r 14 + wrg r (r 4) (r (220 + 27 * i + 10)) (r (220 + 27 * i + 4)) (r (220 + 27 * i + 2)) else r k := fun k hk => by
    unfold landT blurT
    rw [rs_ne (by omega), rs_ne (by omega), if_neg (by omega)]
  have hb := wrg_bdz (r := r) (a := r 4) (b := r (220 + 27 * i + 10)) (x := r (220 + 27 * i + 4)) hn
  refine ⟨fun k hk => ?_, by rw [e 7 (by decide), if_neg (by decide)], by rw [e 20 (by decide), if_neg (by decide)]⟩
  rw [e k hk.lo.2.2.1]
  split
  · rename_i c; subst c; omega
  · omega
theorem Dl_done {r : Row} {i : Int} (hi : 0 ≤ i) : Dl r (doneT r i) 0 := by
  have e : ∀ k, k < 160 → ¬ k = 15 → ¬ k = 16 → doneT r i k = r k := fun k hk h1 h2 => doneT_k (by omega) h1 h2
  exact ⟨fun k hk => by rw [e k hk.lo.2.2.1 hk.lo.2.2.2.2.2.2.2.2.1 hk.lo.2.2.2.2.2.2.2.2.2.1]; omega, e 7 (by decide) (by decide) (by decide), e 20 (by decide) (by decide) (by decide)⟩
theorem Dl_new {r : Row} {s g n rp wa : Int} {f : Int → Int} (h2 : 0 ≤ r 2) (hr : 0 ≤ rp ∧ rp ≤ 1) : Dl r (newT r s g n f rp wa) rp := by
  have e : ∀ k, k < 160 → ¬ k = 2 → ¬ k = 11 → newT r s g n f rp wa k = if k = 12 then r 12 + rp else r k := fun k hk h1 h3 => by
    unfold newT
    rw [if_neg (by omega), if_neg h1, if_neg h3]
  refine ⟨fun k hk => ?_, by rw [e 7 (by decide) (by decide) (by decide), if_neg (by decide)], by rw [e 20 (by decide) (by decide) (by decide), if_neg (by decide)]⟩
  rw [e k hk.lo.2.2.1 hk.lo.2.2.2.1 hk.lo.2.2.2.2.2.2.1]
  split
  · rename_i c; subst c; omega
  · omega
theorem Dl_back {r : Row} {i : Int} (hi : 0 ≤ i) : Dl r (backT r i) 1 := by
  have e : ∀ k, k < 160 → backT r i k = if k = 17 then r 17 + 1 else r k := fun k hk => by
    unfold backT hearT
    rw [rs_def]
    split
    · rfl
    · rw [rs_ne (by omega), if_neg (by omega), rs_ne (by omega)]
  refine ⟨fun k hk => ?_, by rw [e 7 (by decide), if_neg (by decide)], by rw [e 20 (by decide), if_neg (by decide)]⟩
  rw [e k hk.lo.2.2.1]
  split
  · rename_i c; subst c; omega
  · omega
theorem Dl_comes {r : Row} {i : Int} (hW : WF r) (hi : 0 ≤ i ∧ i < r 2) : Dl r (comesT r i) 10 := by
  have b2 := hW.1.2.2.1
  have y3 := (hW.2.2.2.1 i hi.1 hi.2).2.2.2.1
  have h1 := Dl_land (r := r) hi.1 y3
  have e2 : landT r i 2 = r 2 := by
    unfold landT blurT
    rw [rs_ne (by omega), rs_ne (by omega), if_neg (by omega), if_neg (by omega)]
  unfold comesT
  split
  · unfold goalT
    split
    · exact h1.tr (Dl_back hi.1) (by decide)
    · refine (h1.tr (Dl_done (r := landT r i) hi.1) (c := 9) (by decide)).tr (b := 1) ?_ (by decide)
      unfold replyT
      split
      · exact Dl.rf _ (by decide)
      · exact Dl_new (by rw [doneT_k (by omega) (by decide) (by decide), e2]; exact b2.1) (by decide)
  · exact h1.tr (Dl.rf _ (by decide)) (b := 0) (by decide)
theorem Dl_wh {r : Row} {i x : Int} (hW : WF r) (hc : CanW r i x) : Dl r (whT r i x) 18 := by
  have hfe := (fee_bd (x := x) hW.1 hW.2.1 hW.2.2.2.1 hc.1 hc.2.1).1
  have y0 := (hW.2.2.2.1 i hc.1.1 hc.1.2).1
  have b0 := hW.1.1
  obtain ⟨c1, c2, -⟩ := hc
  have e : ∀ k, k < 160 → ¬ k = 25 + 13 * r (220 + 27 * i) + 10 → ¬ k = 25 + 13 * x + 10 → ¬ k = 25 + 13 * x + 11 → ¬ k = 13 → whT r i x k = if k = 19 then r 19 + feeA r i x else if k = 25 + 13 * x + 12 then r (25 + 13 * x + 12) + 1 else r k := fun k h1 h2 h3 h4 h5 => by
    unfold whT
    rw [rs_def]
    split
    · rfl
    · rw [rs_ne h5, rs_ne (by omega), rs_ne (by omega), rs_ne (by omega), rs_ne (by omega), rs_ne (by omega), rs_def]
      split
      · rfl
      · rw [rs_ne h4, rs_ne h3, rs_ne h2]
  refine ⟨fun k hk => ?_, by rw [e 7 (by decide) (by omega) (by omega) (by omega) (by decide), if_neg (by decide), if_neg (by omega)], by rw [e 20 (by decide) (by omega) (by omega) (by omega) (by decide), if_neg (by decide), if_neg (by omega)]⟩
  have hl := hk.lo
  rw [e k hl.2.2.1 (by rcases hk with h | h | h | h | ⟨y, z0, z1, h⟩ <;> omega) (by rcases hk with h | h | h | h | ⟨y, z0, z1, h⟩ <;> omega) (by rcases hk with h | h | h | h | ⟨y, z0, z1, h⟩ <;> omega) hl.2.2.2.2.2.2.2.1]
  split
  · rename_i c; subst c; omega
  · split
    · rename_i c; subst c; omega
    · omega
theorem Dl_lose (q : Row) {i : Int} (hi : 0 ≤ i) : Dl q (loseS i q) 0 := by
  unfold loseS
  split
  · have e : ∀ k, k < 160 → ¬ k = 18 → rs (rs q (220 + 27 * i + 3) 3) 18 (q 18 + 1) k = q k := fun k h1 h2 => by rw [rs_ne h2, rs_ne (by omega)]
    exact ⟨fun k hk => by rw [e k hk.lo.2.2.1 hk.lo.2.2.2.2.2.2.2.2.2.2.1]; omega, e 7 (by decide) (by decide), e 20 (by decide) (by decide)⟩
  · exact Dl.rf _ (by decide)
theorem Dl_tick {r : Row} (hW : WF r) (h3 : r 3 < 20000) : Dl r (tickT r) 480 := by
  obtain ⟨h1, h2⟩ := WF_time hW h3
  unfold tickT
  have h0 : Dl r (rs (rs r 3 (r 3 + 1)) 10 (r 10 + 1)) 0 := by
    have e : ∀ k, ¬ k = 3 → ¬ k = 10 → rs (rs r 3 (r 3 + 1)) 10 (r 10 + 1) k = r k := fun k p1 p2 => by rw [rs_ne p2, rs_ne p1]
    exact ⟨fun k hk => by rw [e k hk.lo.2.2.2.2.1 hk.lo.2.2.2.2.2.1]; omega, e 7 (by decide) (by decide), e 20 (by decide) (by decide)⟩
  generalize rs (rs r 3 (r 3 + 1)) 10 (r 10 + 1) = q at h0 h1 h2 ⊢
  have c2 := h1.1.2.2.1
  have c0 := h1.1.1
  have ha : ∀ n : Nat, (n : Int) ≤ q 2 → Dl q (itr arrS q n) (10 * n) := by
    intro n
    induction n with
    | zero => intro _; exact Dl.rf _ (by decide)
    | succ n ih =>
      intro hn
      obtain ⟨k1, k2⟩ := arr_inv h1 n (by omega)
      have h8 := ih (by omega)
      have e : itr arrS q (n + 1) = arrS n (itr arrS q n) := rfl
      rw [e]
      generalize itr arrS q n = s at k1 k2 h8
      refine h8.tr (b := 10) ?_ (by omega)
      unfold arrS
      split
      · exact Dl_comes k1 ⟨by omega, by have := k2.2.1; omega⟩
      · exact Dl.rf _ (by decide)
  have h8 := ha (q 2).toNat (by omega)
  rw [← arrT_eq] at h8
  obtain ⟨k1, k2⟩ := arr_inv h1 (q 2).toNat (by omega)
  rw [← arrT_eq] at k1 k2
  have k3 := k2.sl h1.1.1.2 h2
  refine (h0.tr h8 (c := 300) (by omega)).tr (b := 180) ?_ (by decide)
  generalize arrT q = s at k1 k2 k3 h8 ⊢
  have d0 := k1.1.1
  have hb : Dl s (whAllT s) 180 ∧ WF (whAllT s) := by
    rw [whAllT_eq]
    split
    · have hw : ∀ n : Nat, (n : Int) ≤ s 0 → Dl s (itr whS s n) (18 * n) := by
        intro n
        induction n with
        | zero => intro _; exact Dl.rf _ (by decide)
        | succ n ih =>
          intro hn
          obtain ⟨g1, g2, g3, -⟩ := wh_inv k1 k3 n (by omega)
          have h9 := ih (by omega)
          have e : itr whS s (n + 1) = whS n (itr whS s n) := rfl
          rw [e]
          have g30 := g3.1
          generalize itr whS s n = t at g1 g2 g3 g30 h9
          refine h9.tr (b := 18) ?_ (by omega)
          unfold whS
          split
          · exact Dl.rf _ (by decide)
          · rename_i c
            exact Dl_wh g1 (first_can g1 ⟨by omega, by omega⟩ (fun z => c (Or.inr z)))
      exact ⟨(hw (s 0).toNat (by omega)).tr (Dl.rf _ (by decide)) (b := 0) (by omega), (wh_inv k1 k3 (s 0).toNat (by omega)).1⟩
    · exact ⟨Dl.rf _ (by decide), k1⟩
  obtain ⟨hb1, hb2⟩ := hb
  refine hb1.tr (b := 0) ?_ (by decide)
  generalize whAllT s = t at hb2 ⊢
  rw [loseT_eq]
  have d2 := hb2.1.2.2.1
  have hz : ∀ n : Nat, Dl t (itr loseS t n) 0 := by
    intro n
    induction n with
    | zero => exact Dl.rf _ (by decide)
    | succ n ih =>
      have e : itr loseS t (n + 1) = loseS n (itr loseS t n) := rfl
      rw [e]
      exact ih.tr (Dl_lose _ (by omega)) (by decide)
  exact hz _
/-- what is known of the counts -/
def Bd (r : Row) (m : Int) : Prop := (∀ k, Dk k → -480 * r 3 ≤ r k ∧ r k ≤ 480 * r 3) ∧ r 3 ≤ 8 * m ∧ r 7 + r 20 ≤ 155 + 16 * m
theorem Bd.up {r : Row} {m : Int} (h : Bd r m) : Bd r (m + 1) := ⟨h.1, by have := h.2; omega⟩
theorem Bd_go {r : Row} {m : Int} (hW : WF r) (h : Bd r m) (hm : m ≤ 100) : ∀ n : Nat, n ≤ 8 → Bd (goT r n) (m + 1) ∧ WF (goT r n) ∧ goT r n 3 = r 3 + n := by
  have hb := hW.1.2.2.2.1
  have h3 := h.2.1
  have key : ∀ n : Nat, n ≤ 8 → Dl r (goT r n) (480 * n) := by
    intro n
    induction n with
    | zero => intro _; exact Dl.rf _ (by decide)
    | succ n ih =>
      intro hn
      obtain ⟨g1, g2, -⟩ := goT_WF hW n (by omega)
      have e : goT r (n + 1) = tickT (goT r n) := rfl
      rw [e]
      exact (ih (by omega)).tr (Dl_tick g1 (by omega)) (by omega)
  intro n hn
  obtain ⟨g1, g2, -⟩ := goT_WF hW n (by omega)
  obtain ⟨d1, d2, d3⟩ := key n hn
  refine ⟨⟨fun k hk => ?_, by rw [g2]; omega, by rw [d2, d3]; have := h.2.2; omega⟩, g1, g2⟩
  have := d1 k hk
  have := h.1 k hk
  rw [g2]
  omega
theorem sm_one {f : Int → Int} : ∀ {n : Nat}, (∀ i : Int, 0 ≤ i → i < n → 0 ≤ f i) → ∀ k : Int, 0 ≤ k → k < n → f k ≤ sm f n := by
  intro n
  induction n with
  | zero => intro _ k k0 k1; omega
  | succ n ih =>
    intro h k k0 k1
    have e : sm f (n + 1) = sm f n + f n := rfl
    have hn := h n (by omega) (by omega)
    have h9 : ∀ i : Int, 0 ≤ i → i < n → 0 ≤ f i := fun i i0 i1 => h i i0 (by omega)
    rw [e]
    by_cases c : k = n
    · subst c
      have := sm_nn h9
      omega
    · have := ih h9 k k0 (by omega)
      omega
theorem purse_le {r : Row} {m x : Int} (hW : WF r) (h : Bd r m) (hx : 0 ≤ x ∧ x < r 0) : 0 ≤ r (25 + 13 * x + 10) ∧ r (25 + 13 * x + 10) ≤ 155 + 16 * m := by
  have h7 := hW.2.2.2.2.2.2.2.2.2.2
  have h1 := (hW.2.1 x hx.1 hx.2).2.2.2.2.2.1
  have := sm_one (f := fun x => r (25 + 13 * x + 10)) (n := (r 0).toNat) (fun i i0 i1 => (hW.2.1 i i0 (by omega)).2.2.2.2.2.1.1) x hx.1 (by omega)
  have h9 := h.2.2
  have e : r (25 + 13 * x + 10) ≤ sm (fun x => r (25 + 13 * x + 10)) (r 0).toNat := this
  omega
theorem hops_le {r : Row} {i : Int} (hW : WF r) (hi : 0 ≤ i ∧ i < r 2) : 0 ≤ r (220 + 27 * i + 9) ∧ r (220 + 27 * i + 9) ≤ r 13 ∧ r 13 ≤ 10 * r 3 := by
  obtain ⟨a1, a2, a3, a4, a5, a6, a7⟩ := hW.2.2.2.2
  have h1 := (hW.2.2.2.1 i hi.1 hi.2).2.2.2.2.2.2.2.2.2.2.1.1
  have := sm_one (f := fun i => r (220 + 27 * i + 9)) (n := (r 2).toNat) (fun i i0 i1 => (hW.2.2.2.1 i i0 (by omega)).2.2.2.2.2.2.2.2.2.2.1.1) i hi.1 (by omega)
  have e : r (220 + 27 * i + 9) ≤ sm (fun i => r (220 + 27 * i + 9)) (r 2).toNat := this
  omega
theorem r13_bd {r : Row} (hW : WF r) : 0 ≤ r 13 ∧ r 13 ≤ 10 * r 3 := by
  obtain ⟨a1, a2, a3, a4, a5, a6, a7⟩ := hW.2.2.2.2
  have := sm_nn (f := fun i => r (220 + 27 * i + 9)) (n := (r 2).toNat) (fun i i0 i1 => (hW.2.2.2.1 i i0 (by omega)).2.2.2.2.2.2.2.2.2.2.1.1)
  omega
theorem cnt_nb {p : Int → Bool} : ∀ n : Nat, 0 ≤ cnt p n ∧ cnt p n ≤ n := by
  intro n
  induction n with
  | zero => exact ⟨Int.le_refl _, Int.le_refl _⟩
  | succ n ih =>
    have e : cnt p (n + 1) = cnt p n + bI (p n) := rfl
    rw [e]
    cases p n <;> simp only [bI] <;> simp <;> omega
theorem r15_bd {r : Row} (hW : WF r) : (0 ≤ r 15 ∧ r 15 ≤ 30) ∧ (0 ≤ r 16 ∧ r 16 ≤ 30) ∧ 0 ≤ r 18 ∧ r 18 ≤ 30 := by
  obtain ⟨a1, a2, a3, a4, a5, a6, a7⟩ := hW.2.2.2.2
  have b2 := hW.1.2.2.1
  have h1 := cnt_nb (p := fun i => decide (r (220 + 27 * i + 3) = 2)) (r 2).toNat
  have h2 := cnt_nb (p := fun i => decide (r (220 + 27 * i + 3) = 3)) (r 2).toNat
  omega
