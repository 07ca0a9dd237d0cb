/-! ===== the calmest ===== -/
theorem psum_nn {f : Int → Int → Int} (hf : ∀ x y, 0 ≤ f x y) {r : Row} {g : Int} : ∀ (n : Nat) (x : Int), 0 ≤ psum f r g n x := by
  intro n
  induction n with
  | zero => intro x; exact Int.le_refl _
  | succ n ih =>
    intro x
    unfold psum
    split
    · exact Int.le_refl _
    · have h1 := ih (nxt r x g)
      have h2 := hf x (nxt r x g)
      omega
theorem psum_z {f f2 : Int → Int → Int} (hf : ∀ x y, 0 ≤ f x y) (hf2 : ∀ x y, 0 ≤ f2 x y) (h : ∀ x y, f x y = 0 ↔ f2 x y = 0) {r : Row} {g : Int} : ∀ (n : Nat) (x : Int), psum f r g n x = 0 ↔ psum f2 r g n x = 0 := by
  intro n
  induction n with
  | zero => intro x; exact Iff.rfl
  | succ n ih =>
    intro x
    unfold psum
    split
    · exact Iff.rfl
    · have h1 := ih (nxt r x g)
      have h2 := h x (nxt r x g)
      have a1 := psum_nn hf (r := r) (g := g) n (nxt r x g)
      have a2 := psum_nn hf2 (r := r) (g := g) n (nxt r x g)
      have a3 := hf x (nxt r x g)
      have a4 := hf2 x (nxt r x g)
      omega
theorem wrF_z {r : Row} {u x y : Int} : wrF r 8 u x y = 0 ↔ wrF r 1 u x y = 0 := by
  unfold wrF wrg
  omega
theorem psum_w0 {r : Row} {g : Int} (hW : WF r) (hg : 0 ≤ g ∧ g < r 0) : ∀ (n : Nat) (x : Int), 0 ≤ x ∧ x < r 0 → ¬ dist r (-1) g x = -1 → psum (wrF r 8 0) r g n x = 0 := by
  intro n
  induction n with
  | zero => intro x _ _; rfl
  | succ n ih =>
    intro x hx h
    unfold psum
    split
    · rfl
    · rename_i c
      obtain ⟨s1, s2, s3⟩ := rank_step hW hx hg c h
      have he := (hW.2.1 _ s1.1 s1.2).2.2.2.1
      rw [ih _ s1 s2]
      unfold wrF wrg
      rw [Int.zero_mul]
      omega
noncomputable def calm (r : Row) (x g : Int) : Nat → Int
  | 0 => 0
  | v + 1 => if psum (wrF r 8 ((v + 1 : Nat) : Int)) r g 10 x = 0 then ((v + 1 : Nat) : Int) else calm r x g v
theorem c_calm {F : Nat} {w : aI} {r : Row} {x g : Int} (hF : 100 ≤ F) (hN : Rep w 12 r) (hW : WF r) (hx : 0 ≤ x ∧ x < r 0) (hg : 0 ≤ g ∧ g < r 0) (hd : ¬ dist r (-1) g x = -1) : ∀ (v n : Nat), v ≤ 9 → v < n → f_X10_calmest_b13 F 0 x g w n v = some (.inl (calm r x g v), w) := by
  intro v
  have hp : ∀ u : Int, 0 ≤ psum (wrF r 8 u) r g 10 x ∧ psum (wrF r 8 u) r g 10 x ≤ 1000 * (10 : Nat) := fun u => psum_bd (fun x y _ _ => by have := wrF_bd (r := r) (l := 8) (v := u) (x := x) (y := y) (by omega); omega) hW hg 10 x hx hd
  induction v with
  | zero =>
    intro n h9 hn
    obtain ⟨n, rfl⟩ : ∃ j, n = j + 1 := ⟨n - 1, by omega⟩
    have st : ∀ (v : Int), v = 0 → f_X10_calmest_b13 F 0 x g w (n + 1) v = some (.inl 0, w) := by
      intro v hv
      show f_X10_calmest_b13_b F 0 x g w (f_X10_calmest_b13 F 0 x g w n) _ = _
      unfold f_X10_calmest_b13_b
      rw [gd_t (by omega), if_neg (by omega), k5, c_wrOn hF hN hW hx hg (by omega) (by omega), bs]
      unfold wronR
      rw [if_neg hd, hv, psum_w0 hW hg 10 x hx hd, gd_t (by decide), if_pos rfl]
    exact st 0 rfl
  | succ v ih =>
    intro n h9 hn
    obtain ⟨n, rfl⟩ : ∃ j, n = j + 1 := ⟨n - 1, by omega⟩
    have st : ∀ (u : Int), u = ((v + 1 : Nat) : Int) → f_X10_calmest_b13 F 0 x g w (n + 1) u = some (.inl (calm r x g (v + 1)), w) := by
      intro u hu
      show f_X10_calmest_b13_b F 0 x g w (f_X10_calmest_b13 F 0 x g w n) _ = _
      unfold f_X10_calmest_b13_b calm
      have h1 := hp u
      rw [gd_t (by omega), if_neg (by omega), k5, c_wrOn hF hN hW hx hg (by omega) (by omega), bs, ← hu]
      unfold wronR
      rw [if_neg hd, gd_t (by unfold rg; omega)]
      by_cases c : psum (wrF r 8 u) r g 10 x = 0
      · rw [if_pos c, if_pos c]
      · rw [if_neg c, if_neg c, show u + -1 = (v : Int) by omega]
        exact ih n (by omega) (by omega)
    exact st _ rfl
theorem c_calm0 {F : Nat} {w : aI} {r : Row} {x g : Int} (hF : 100 ≤ F) (hN : Rep w 12 r) (hW : WF r) (hx : 0 ≤ x ∧ x < r 0) (hg : 0 ≤ g ∧ g < r 0) (hd : dist r (-1) g x = -1) : ∀ (m n : Nat) (v : Int), v = (m : Int) - 1 → m ≤ 10 → m < n → f_X10_calmest_b13 F 0 x g w n v = some (.inl (-1), w) := by
  intro m
  induction m with
  | zero =>
    intro n v hv _ hn
    obtain ⟨n, rfl⟩ : ∃ j, n = j + 1 := ⟨n - 1, by omega⟩
    show f_X10_calmest_b13_b F 0 x g w (f_X10_calmest_b13 F 0 x g w n) _ = _
    unfold f_X10_calmest_b13_b
    rw [gd_t (by omega), if_pos (by omega)]
  | succ m ih =>
    intro n v hv hm hn
    obtain ⟨n, rfl⟩ : ∃ j, n = j + 1 := ⟨n - 1, by omega⟩
    show f_X10_calmest_b13_b F 0 x g w (f_X10_calmest_b13 F 0 x g w n) _ = _
    unfold f_X10_calmest_b13_b
    rw [gd_t (by omega), if_neg (by omega), k5, c_wrOn hF hN hW hx hg (by omega) (by omega), bs]
    unfold wronR
    rw [if_pos hd, gd_t (by decide), if_neg (by decide)]
    exact ih n (v + -1) (by omega) (by omega) (by omega)
theorem m_calm {F : Nat} {w : aI} {r : Row} {x g : Int} (hF : 20000 ≤ F) (hW : WF r) (hx : 0 ≤ x ∧ x < r 0) (hg : 0 ≤ g ∧ g < r 0) (hd : ¬ dist r (-1) g x = -1) : ∀ (v n : Nat) (w1 : aI), v ≤ 9 → v < n → w1 211 = r → Fm w w1 → ∃ w2, f_X11_calmest_b32 F 210 x g n v w1 = some (calm r x g v, w2) ∧ w2 211 = r ∧ Fm w w2 := by
  have hp : ∀ u : Int, 0 ≤ psum (wrF r 1 u) r g 10 x ∧ psum (wrF r 1 u) r g 10 x ≤ 1000 * (10 : Nat) := fun u => psum_bd (fun x y _ _ => by have := wrF_bd (r := r) (l := 1) (v := u) (x := x) (y := y) (by omega); omega) hW hg 10 x hx hd
  have hz : ∀ u : Int, psum (wrF r 8 u) r g 10 x = 0 ↔ psum (wrF r 1 u) r g 10 x = 0 := fun u => psum_z (fun x y => (wrF_bd (by omega)).1) (fun x y => (wrF_bd (by omega)).1) (fun x y => wrF_z) 10 x
  intro v
  induction v with
  | zero =>
    intro n w1 h9 hn h1 f1
    obtain ⟨n, rfl⟩ : ∃ j, n = j + 1 := ⟨n - 1, by omega⟩
    have st : ∀ (v : Int), v = 0 → ∃ w2, f_X11_calmest_b32 F 210 x g (n + 1) v w1 = some (0, w2) ∧ w2 211 = r ∧ Fm w w2 := by
      intro v hv
      show ∃ w2, f_X11_calmest_b32_b F 210 x g (f_X11_calmest_b32 F 210 x g n) _ _ = _ ∧ _
      unfold f_X11_calmest_b32_b
      obtain ⟨w2, e1, e2, e3⟩ := m_wrOf (F := F) (w := w1) (l := 1) (u := v) hF hW hx hg (by omega) (by omega) hd h1
      rw [e1, bj]
      unfold wronR
      rw [if_neg hd, hv, (hz 0).mp (psum_w0 hW hg 10 x hx hd), gd_t (by decide), if_pos (by decide)]
      exact ⟨w2, rfl, e2, f1.trans e3⟩
    exact st 0 rfl
  | succ v ih =>
    intro n w1 h9 hn h1 f1
    obtain ⟨n, rfl⟩ : ∃ j, n = j + 1 := ⟨n - 1, by omega⟩
    have st : ∀ (u : Int), u = ((v + 1 : Nat) : Int) → ∃ w2, f_X11_calmest_b32 F 210 x g (n + 1) u w1 = some (calm r x g (v + 1), w2) ∧ w2 211 = r ∧ Fm w w2 := by
      intro u hu
      show ∃ w2, f_X11_calmest_b32_b F 210 x g (f_X11_calmest_b32 F 210 x g n) _ _ = _ ∧ _
      unfold f_X11_calmest_b32_b calm
      obtain ⟨w2, e1, e2, e3⟩ := m_wrOf (F := F) (w := w1) (l := 1) (u := u) hF hW hx hg (by omega) (by omega) hd h1
      have hb := hp u
      have hzz := hz u
      rw [e1, bj, ← hu]
      unfold wronR
      rw [if_neg hd, gd_t (by unfold rg; omega)]
      by_cases c : psum (wrF r 8 u) r g 10 x = 0
      · rw [if_pos c, if_pos (by rw [hzz.mp c]; decide)]
        exact ⟨w2, rfl, e2, f1.trans e3⟩
      · have c2 : ¬ psum (wrF r 1 u) r g 10 x = 0 := fun h => c (hzz.mpr h)
        rw [if_neg c, if_neg (by omega), show u + -1 = (v : Int) by omega]
        exact ih n w2 (by omega) (by omega) e2 (f1.trans e3)
    exact st _ rfl
theorem top_calmest {F : Nat} (hF : 20000 ≤ F) {x y : Int} (hx : rg x) (hy : rg y) : TopR [eIO] (f_X10_calmest F 0 x y) (f_X11_calmest F 210 x y) := by
  intro w hI
  obtain ⟨hN, hW, h3⟩ := hI.2.2.2.2.1
  obtain ⟨b0, b1, b2, b3, b4, b5, b6⟩ := hW.1
  unfold f_X10_calmest f_X11_calmest
  rw [two_roofs hN hx hy (by omega), m_areRoofs hx hy (by omega), bs]
  by_cases c : (0 ≤ x ∧ x < w 211 0) ∧ 0 ≤ y ∧ y < w 211 0
  · have e9 := thr_211 w 0
    obtain ⟨q, f1, -⟩ := m_sumTo (F := F) (w := iset w 210 6 0) (g := y) (x := x) (by omega) (by rw [e9]; exact b0) (by rw [e9]; exact b1) (by rw [e9]; exact hW.2.2.1) (by rw [e9]; exact c.1) (by rw [e9]; exact c.2)
    rw [e9] at f1
    have hdb := dist_bd b0 b1 hW.2.2.1 (W := -1) (by omega) c.2 c.1
    rw [if_pos c, decide_eq_true c, show f_X11_may F 210 (bI true) 1 1 w = some (true, iset w 210 6 0) from may1t, bk, if_pos rfl, f1, bj, gd_t (by omega)]
    by_cases cd : dist (w 211) (-1) y x = -1
    · rw [if_pos cd]
      exact ⟨.inl (-1), -1, _, c_calm0 (by omega) hN hW c.1 c.2 cd 10 F 9 (by decide) (by omega) (by omega), rfl, hI.thr216 0 q, thr216_at w 0 q, rfl⟩
    · rw [if_neg cd]
      have x211 : stc (iset w 210 6 0) 216 q 211 = w 211 := by rw [stc_ne (by decide), e9]
      obtain ⟨w2, g1, g2, g3⟩ := m_calm (F := F) (w := stc (iset w 210 6 0) 216 q) hF hW c.1 c.2 cd 9 F (stc (iset w 210 6 0) 216 q) (by omega) (by omega) x211 (Fm.refl _)
      refine ⟨.inl (calm (w 211) x y 9), calm (w 211) x y 9, w2, c_calm (by omega) hN hW c.1 c.2 cd 9 F (by omega) (by omega), g1, (hI.thr216 0 q).scratch g3.fw (by rw [g2, x211]), ?_, rfl⟩
      rw [g3.2 6 (by omega) (by omega)]; exact thr216_at w 0 q
  · rw [if_neg c, decide_eq_false c, show f_X11_may F 210 (bI false) 1 1 w = some (false, iset w 210 6 1) from may3a (b := true) (c := true), bk]
    refine ⟨.inr eIO, 0, iset w 210 6 1, rfl, rfl, hI.thr 1, ?_⟩
    rw [thr_at]; exact ⟨by decide, by decide, by decide⟩
