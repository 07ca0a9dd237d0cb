/-! ===== the law's numbers at the start; its text's bytes ===== -/
def LwI (w : aI) (d : Dt) : Prop := (w 300 20 = tR d ∧ w 300 21 = 0 ∧ w 300 22 = 0 ∧ w 300 23 = twi d ∧ w 300 24 = tdu d ∧ w 300 25 = tag d ∧ ∀ k, 26 ≤ k → k ≤ 33 → w 300 k = 0) ∧ (∀ x, 0 ≤ x → x < tR d → w 301 x = tb d x ∧ w 302 x = te d x ∧ w 303 x = tf d x ∧ w 304 x = tp d x ∧ w 305 x = 0 ∧ w 306 x = 0) ∧ (∀ x y, 0 ≤ x → x < tR d → 0 ≤ y → y < tR d → w (308 + x.toNat) y = twS d x y) ∧ (∀ t, 0 ≤ t → t < 30 → w 325 t = 0 ∧ w 326 t = 0 ∧ w 329 t = 0 ∧ w 330 t = 0) ∧ w 999 0 = 241
section Ez
variable {d : Dt}
theorem farB_self (r : Row) (x : Int) : farB r x x = -1 := by
  have : wayB r x x = -1 := ff_none fun i i0 i1 => decide_eq_false (fun z => z.1 rfl)
  unfold farB
  rw [if_pos this]
theorem Rz_far (hd : DtOK d) {x y : Int} (hx : 0 ≤ x ∧ x < tR d) (hy : 0 ≤ y ∧ y < tR d) : twS d x y = (if farB (Rz d) x y = -1 then 0 else farB (Rz d) x y) := by
  obtain ⟨-, ⟨g1, g2, g3, g4, g7⟩, -⟩ := rw_all hd
  have hww := g1.2.2.2.2.2.2.2.1
  have r1 := g1.2.1
  have key : ∀ x y, 0 ≤ x → x < y → y < tR d → tw d x y = (if farB (Rz d) x y = -1 then 0 else farB (Rz d) x y) := fun x y h0 h1 h2 => by
    have h := (g4 x y h0 h1 h2).1 trivial
    have hb := hd.2.2.1 x y h0 h1 h2
    rw [h]
    by_cases c : tw d x y = 0
    · rw [if_pos c, if_pos rfl]; exact c
    · rw [if_neg c, if_neg (by omega)]
  unfold twS
  by_cases c1 : x < y
  · rw [if_pos c1]; exact key x y hx.1 c1 hy.2
  · rw [if_neg c1]
    by_cases c2 : y < x
    · rw [if_pos c2, farB_sym hww r1.1 x y]; exact key y x hy.1 c2 hx.2
    · have e : x = y := by omega
      subst e
      rw [if_neg c2, farB_self, if_pos rfl]
theorem Rz_0 (hd : DtOK d) : Rz d 0 = tR d ∧ Rz d 2 = 0 ∧ Rz d 3 = 0 ∧ (∀ k, 10 ≤ k → k < 25 → Rz d k = 0) ∧ WF (Rz d) := by
  obtain ⟨-, ⟨g1, g2, g3, g4, g7⟩, -⟩ := rw_all hd
  have h5 := hd.1
  exact ⟨g2, g1.2.2.1.1, g1.2.2.1.2, g1.2.2.2.2.2.2.2.2.1, g1.wf (by rw [g2]; omega)⟩
theorem Rz_Bd (hd : DtOK d) : Bd (Rz d) 0 := by
  obtain ⟨-, ⟨g1, g2, g3, g4, g7⟩, -⟩ := rw_all hd
  obtain ⟨r0, r2, r3, rz, -⟩ := Rz_0 hd
  have h5 := hd.1
  have h20 := rz 20 (by decide) (by decide)
  refine ⟨fun k hk => ?_, by omega, by omega⟩
  have e : Rz d k = 0 := by
    rcases hk with h | h | h | h | ⟨x, x0, x1, h⟩
    · rw [h]; exact rz 12 (by decide) (by decide)
    · rw [h]; exact rz 14 (by decide) (by decide)
    · rw [h]; exact rz 17 (by decide) (by decide)
    · rw [h]; exact rz 19 (by decide) (by decide)
    · rw [h]
      by_cases c : x < tR d
      · exact (g3 x x0 c).2.2.2.2.2
      · exact g1.2.2.2.2.2.2.2.2.2.2 _ (by omega) (by omega)
  rw [e]
  omega
theorem l_start {F : Nat} {w : aI} (hF : 100 ≤ F) (hd : DtOK d) (h : LwI w d) : ∃ z, f_L_reckon F 300 w = some z ∧ LwR z (Rz d) ∧ ∀ a, (a < 314 ∨ 319 ≤ a) → z a = w a := by
  obtain ⟨⟨i20, i21, i22, i23, i24, i25, iz⟩, iX, iW, iT, i9⟩ := h
  obtain ⟨r0, r2, r3, rz, hW⟩ := Rz_0 hd
  obtain ⟨-, ⟨g1, g2, g3, g4, g7⟩, r4, r5, r6, -⟩ := rw_all hd
  have h5 := hd.1
  have hWy : LwW w (Rz d) := fun x y x0 x1 y0 y1 => by
    rw [iW x y x0 (by omega) y0 (by omega)]
    exact Rz_far hd ⟨x0, by omega⟩ ⟨y0, by omega⟩
  obtain ⟨z, z1, z2, z3⟩ := l_reckon (F := F) (w := w) hF (r := Rz d) (by omega) hW.1.2.1 hW.2.2.1 (by rw [i9]; decide) (by rw [i20, r0]) hWy
  refine ⟨z, z1, ⟨by omega, ⟨?_, ?_, ?_, ?_, ?_, ?_, ?_, ?_, ?_, ?_, ?_, ?_, ?_, ?_, fun t t0 t1 => ?_⟩, fun x x0 x1 => ?_, hWy.sw (by omega) hW.1.2.1 (SameW.refl _) (fun a p1 p2 => z3 a (by omega)), z2, fun t t0 t1 => ?_, fun t t0 t1 => ?_, by rw [z3 999 (by omega), i9, r2]; rfl, fun k k0 k1 => ?_⟩, z3⟩
  · rw [z3 300 (by omega), i20, r0]
  · rw [z3 300 (by omega), i21, r2]
  · rw [z3 300 (by omega), i22, r3]
  · rw [z3 300 (by omega), i23, r4]
  · rw [z3 300 (by omega), i24, r5]
  · rw [z3 300 (by omega), i25, r6]
  · rw [z3 300 (by omega), iz 26 (by decide) (by decide), rz 12 (by decide) (by decide)]
  · rw [z3 300 (by omega), iz 27 (by decide) (by decide), rz 14 (by decide) (by decide)]
  · rw [z3 300 (by omega), iz 28 (by decide) (by decide), rz 15 (by decide) (by decide)]
  · rw [z3 300 (by omega), iz 29 (by decide) (by decide), rz 16 (by decide) (by decide)]
  · rw [z3 300 (by omega), iz 30 (by decide) (by decide), rz 17 (by decide) (by decide)]
  · rw [z3 300 (by omega), iz 31 (by decide) (by decide), rz 18 (by decide) (by decide)]
  · rw [z3 300 (by omega), iz 32 (by decide) (by decide), rz 19 (by decide) (by decide)]
  · rw [z3 300 (by omega), iz 33 (by decide) (by decide), rz 13 (by decide) (by decide)]
  · have := iT t (by omega) t1
    rw [z3 325 (by omega), z3 326 (by omega)]
    exact ⟨this.1, this.2.1⟩
  · obtain ⟨a1, a2, a3, a4, a5, a6⟩ := iX x x0 (by omega)
    obtain ⟨c1, c2, c3, c4, c5, c6⟩ := g3 x x0 (by omega)
    rw [z3 301 (by omega), z3 302 (by omega), z3 303 (by omega), z3 304 (by omega), z3 305 (by omega), z3 306 (by omega), a1, a2, a3, a4, a5, a6, c1, c2, c3, c4, c5, c6]
    exact ⟨rfl, rfl, rfl, rfl, rfl, rfl⟩
  · rw [r2] at t1; omega
  · rw [r2] at t1; omega
  · have := iT k k0 k1
    rw [z3 329 (by omega), z3 330 (by omega), r2, if_neg (by omega), if_neg (by omega)]
    exact ⟨this.2.2.1, this.2.2.2⟩
/-! the text: how long it is, its bytes -/
theorem bz_len (q : Sz) : (sbz q).length ≤ 16 := by
  have h1 := dgz_len q.2.1
  have h2 := dgz_len q.2.2.2.2.2
  unfold sbz
  split
  · unfold bRf
    rw [List.length_append, List.length_append]
    show 13 + ((dgz q.2.2.2.2.2).length + 1) ≤ 16
    omega
  · split
    · show (10 : Nat) ≤ 16
      decide
    · unfold bSt
      rw [List.length_append, List.length_append, List.length_append]
      have : (wdz q.1).length ≤ 5 := by
        unfold wdz
        split
        · exact (by decide : (4 : Nat) ≤ 5)
        · split
          · exact (by decide : (4 : Nat) ≤ 5)
          · exact (by decide : (5 : Nat) ≤ 5)
      show (wdz q.1).length + (1 + ((dgz q.2.1).length + 1)) ≤ 16
      omega
theorem tz_len : ∀ ss : List Sz, (txz ss).length ≤ 16 * ss.length := by
  intro ss
  induction ss with
  | nil => exact Nat.le_refl _
  | cons q ss ih =>
    have := bz_len q
    show (sbz q ++ txz ss).length ≤ 16 * (ss.length + 1)
    rw [List.length_append]
    omega
theorem rfL_len (d : Dt) : ∀ n, (rfL d n).length = n := by
  intro n
  induction n with
  | zero => rfl
  | succ n ih =>
    show (rfL d n ++ _).length = n + 1
    rw [List.length_append, ih]
    rfl
theorem wyB_len (d : Dt) (a : Nat) : ∀ k, (wyB d a k).length ≤ k := by
  intro k
  induction k with
  | zero => exact Nat.le_refl _
  | succ k ih =>
    show (wyB d a k ++ _).length ≤ k + 1
    rw [List.length_append]
    split
    · show _ + 0 ≤ _; omega
    · show _ + 1 ≤ _; omega
theorem wyA_len (hd : DtOK d) : ∀ a, (wyA d a).length ≤ 4 * a := by
  have h5 := hd.1
  intro a
  induction a with
  | zero => exact Nat.le_refl _
  | succ a ih =>
    have := wyB_len d a ((tR d).toNat - 1 - a)
    show (wyA d a ++ _).length ≤ 4 * (a + 1)
    rw [List.length_append]
    omega
theorem allz_len (hd : DtOK d) : (allz d).length ≤ 28 := by
  have h5 := hd.1
  have h1 := rfL_len d (tR d).toNat
  have h2 := wyA_len hd (tR d).toNat
  unfold allz
  rw [List.length_append, List.length_append, h1]
  show _ + _ + 3 ≤ 28
  omega
/-- a statement whose numbers can be written -/
def rgz (q : Sz) : Prop := (q.1 = 0 ∧ (0 ≤ q.2.1 ∧ q.2.1 ≤ 9) ∧ (0 ≤ q.2.2.1 ∧ q.2.2.1 ≤ 9) ∧ (0 ≤ q.2.2.2.1 ∧ q.2.2.2.1 ≤ 9) ∧ (0 ≤ q.2.2.2.2.1 ∧ q.2.2.2.2.1 ≤ 9) ∧ 0 ≤ q.2.2.2.2.2 ∧ q.2.2.2.2.2 ≤ 99) ∨ (q.1 = 1 ∧ (0 ≤ q.2.1 ∧ q.2.1 ≤ 9) ∧ (0 ≤ q.2.2.1 ∧ q.2.2.1 ≤ 9) ∧ (0 ≤ q.2.2.2.1 ∧ q.2.2.2.1 ≤ 9)) ∨ (8 ≤ q.1 ∧ 0 ≤ q.2.1 ∧ q.2.1 ≤ 99)
theorem dgz_bd {n : Int} (h : 0 ≤ n ∧ n ≤ 99) : ∀ c ∈ dgz n, 32 ≤ c ∧ c ≤ 122 := by
  intro c hc
  unfold dgz at hc
  split at hc
  · simp only [List.mem_cons, List.not_mem_nil, or_false] at hc
    omega
  · simp only [List.mem_cons, List.not_mem_nil, or_false] at hc
    omega
theorem wdz_bd (v : Int) : ∀ c ∈ wdz v, 32 ≤ c ∧ c ≤ 122 := by
  unfold wdz
  split
  · decide
  · split
    · decide
    · decide
theorem sbz_bd {q : Sz} (h : rgz q) : ∀ c ∈ sbz q, 32 ≤ c ∧ c ≤ 122 := by
  intro c hc
  unfold sbz at hc
  rcases h with ⟨e, h1, h2, h3, h4, h5⟩ | ⟨e, h1, h2, h3⟩ | ⟨e, h1⟩
  · rw [if_pos e] at hc
    unfold bRf at hc
    rcases List.mem_append.mp hc with hc | hc
    · simp only [List.mem_cons, List.not_mem_nil, or_false] at hc
      omega
    · rcases List.mem_append.mp hc with hc | hc
      · exact dgz_bd h5 c hc
      · simp only [List.mem_cons, List.not_mem_nil, or_false] at hc
        omega
  · rw [if_neg (by omega), if_pos e] at hc
    unfold bWy at hc
    simp only [List.mem_cons, List.not_mem_nil, or_false] at hc
    omega
  · rw [if_neg (by omega), if_neg (by omega)] at hc
    unfold bSt at hc
    rcases List.mem_append.mp hc with hc | hc
    · exact wdz_bd _ c hc
    · rcases List.mem_append.mp hc with hc | hc
      · simp only [List.mem_cons, List.not_mem_nil, or_false] at hc
        omega
      · rcases List.mem_append.mp hc with hc | hc
        · exact dgz_bd h1 c hc
        · simp only [List.mem_cons, List.not_mem_nil, or_false] at hc
          omega
theorem txz_bd : ∀ ss : List Sz, (∀ q ∈ ss, rgz q) → ∀ c ∈ txz ss, 32 ≤ c ∧ c ≤ 122 := by
  intro ss
  induction ss with
  | nil => intro _ c hc; exact absurd hc List.not_mem_nil
  | cons q ss ih =>
    intro h c hc
    have hc : c ∈ sbz q ++ txz ss := hc
    rcases List.mem_append.mp hc with hc | hc
    · exact sbz_bd (h q List.mem_cons_self) c hc
    · exact ih (fun p hp => h p (List.mem_cons_of_mem _ hp)) c hc
theorem rfL_rg (hd : DtOK d) : ∀ n : Nat, (n : Int) ≤ tR d → ∀ q ∈ rfL d n, rgz q := by
  have h5 := hd.1
  intro n
  induction n with
  | zero => intro _ q hq; exact absurd hq List.not_mem_nil
  | succ n ih =>
    intro hn q hq
    have hq : q ∈ rfL d n ++ [(0, (n : Int), tb d n, te d n, tf d n, tp d n)] := hq
    rcases List.mem_append.mp hq with hq | hq
    · exact ih (by omega) q hq
    · have e := List.mem_singleton.mp hq
      subst e
      obtain ⟨k1, k2, k3, k4⟩ := hd.2.1 n (by omega) (by omega)
      exact Or.inl ⟨rfl, (by omega : 0 ≤ (n : Int) ∧ (n : Int) ≤ 9), (by omega : 0 ≤ tb d n ∧ tb d n ≤ 9), k2, (by omega : 0 ≤ tf d n ∧ tf d n ≤ 9), (by omega : 0 ≤ tp d n ∧ tp d n ≤ 99)⟩
theorem wyB_rg (hd : DtOK d) {a : Nat} : ∀ k : Nat, (a : Int) + 1 + k ≤ tR d → ∀ q ∈ wyB d a k, rgz q := by
  have h5 := hd.1
  intro k
  induction k with
  | zero => intro _ q hq; exact absurd hq List.not_mem_nil
  | succ k ih =>
    intro hk q hq
    have hq : q ∈ wyB d a k ++ (if tw d a (a + 1 + k) = 0 then [] else [(1, (a : Int) + 1 + k, (a : Int), tw d a (a + 1 + k), 0, 0)]) := hq
    rcases List.mem_append.mp hq with hq | hq
    · exact ih (by omega) q hq
    · by_cases c : tw d a (a + 1 + k) = 0
      · rw [if_pos c] at hq; exact absurd hq List.not_mem_nil
      · rw [if_neg c] at hq
        have e := List.mem_singleton.mp hq
        subst e
        have hb := hd.2.2.1 a (a + 1 + k) (by omega) (by omega) (by omega)
        exact Or.inr (Or.inl ⟨rfl, (by omega : 0 ≤ (a : Int) + 1 + k ∧ (a : Int) + 1 + k ≤ 9), (by omega : 0 ≤ (a : Int) ∧ (a : Int) ≤ 9), hb⟩)
theorem wyA_rg (hd : DtOK d) : ∀ a : Nat, (a : Int) ≤ tR d → ∀ q ∈ wyA d a, rgz q := by
  have h5 := hd.1
  intro a
  induction a with
  | zero => intro _ q hq; exact absurd hq List.not_mem_nil
  | succ a ih =>
    intro ha q hq
    have hq : q ∈ wyA d a ++ wyB d a ((tR d).toNat - 1 - a) := hq
    rcases List.mem_append.mp hq with hq | hq
    · exact ih (by omega) q hq
    · exact wyB_rg hd _ (by omega) q hq
theorem allz_rg (hd : DtOK d) : ∀ q ∈ allz d, rgz q := by
  have h5 := hd.1
  intro q hq
  unfold allz at hq
  rcases List.mem_append.mp hq with hq | hq
  · rcases List.mem_append.mp hq with hq | hq
    · exact rfL_rg hd _ (by omega) q hq
    · exact wyA_rg hd _ (by omega) q hq
  · unfold stL at hq
    simp only [List.mem_cons, List.not_mem_nil, or_false] at hq
    have h6 := hd.2.2.2.1
    have h7 := hd.2.2.2.2.1
    have h8 := hd.2.2.2.2.2
    rcases hq with e | e | e
    · subst e; exact Or.inr (Or.inr ⟨(by decide : (8 : Int) ≤ 8), (by omega : 0 ≤ twi d ∧ twi d ≤ 99)⟩)
    · subst e; exact Or.inr (Or.inr ⟨(by decide : (8 : Int) ≤ 9), (by omega : 0 ≤ tdu d ∧ tdu d ≤ 99)⟩)
    · subst e; exact Or.inr (Or.inr ⟨(by decide : (8 : Int) ≤ 10), (by omega : 0 ≤ tag d ∧ tag d ≤ 99)⟩)
/-- the text is loaded, and the law is like it -/
theorem k_loadz {F : Nat} {w : aI} (hF : 20000 ≤ F) (hd : DtOK d) (hT : IvT w) (hf : 0 ≤ w 10 1 ∧ w 10 1 < 8) (hL : LwR w (Rz d)) (h1 : w 1 1 = (txz (allz d)).length) (h2 : ∀ k : Nat, k < (txz (allz d)).length → w 2 k = (txz (allz d)).getD k 0) : ∃ z, f_X10_loadPost F 0 w = some (Rz d 1, z) ∧ StA z (Rz d) 0 := by
  obtain ⟨ok, ⟨g1, g2, -⟩, -⟩ := rw_all hd
  obtain ⟨r0, r2, r3, rz, hW⟩ := Rz_0 hd
  have h5 := hd.1
  have hl := allz_len hd
  have ht := tz_len (allz d)
  have hbd := txz_bd (allz d) (allz_rg hd)
  have hm : ∀ k : Nat, k < (txz (allz d)).length → 32 ≤ (txz (allz d)).getD k 0 ∧ (txz (allz d)).getD k 0 ≤ 122 := fun k hk => by
    refine hbd _ ?_
    rw [List.getD_eq_getElem?_getD, List.getElem?_eq_getElem hk]
    exact List.getElem_mem hk
  have hX : TX w (fun k => (txz (allz d)).getD k.toNat 0) (txz (allz d)).length := by
    refine ⟨h1, by omega, fun k k0 k1 => ?_⟩
    have h9 := hm k.toNat (by omega)
    have h8 := h2 k.toNat (by omega)
    rw [Int.toNat_of_nonneg k0] at h8
    exact ⟨(by omega : 0 ≤ (txz (allz d)).getD k.toNat 0 ∧ (txz (allz d)).getD k.toNat 0 ≤ 255), h8⟩
  obtain ⟨z, z1, z2, z3⟩ := k_load (F := F) (ss := allz d) hF hX hT hf ⟨Int.le_refl _, by omega, fun j hj => by
    show (txz (allz d)).getD (0 + (j : Int)).toNat 0 = _
    rw [Int.zero_add, Int.toNat_natCast]⟩ rfl ok (by omega) (show 2 ≤ Rz d 0 by rw [r0]; omega) (show Rz d 3 ≤ 9999 by rw [r3]; decide)
  exact ⟨z, z1, hL.ov hW z3, z2, Rz_Bd hd⟩
end Ez
