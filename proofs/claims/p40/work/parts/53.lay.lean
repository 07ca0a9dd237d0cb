/-! ===== the roads: least sums from roof to roof over every roof ===== -/
section Tri
variable {r : Row} (hb : 2 ≤ r 0 ∧ r 0 ≤ 10) (h1 : 0 ≤ r 1 ∧ r 1 ≤ 20) (hw : Ww r) {W : Int} (hW : -1 ≤ W ∧ W < 20)
theorem dist_0 (hb : 2 ≤ r 0 ∧ r 0 ≤ 10) (h1 : 0 ≤ r 1 ∧ r 1 ≤ 20) (hw : Ww r) {W : Int} (hW : -1 ≤ W ∧ W < 20) {g : Int} (hg : 0 ≤ g ∧ g < r 0) : dist r W g g = 0 := (isd hb h1 hw hW hg).1
theorem En2.rg (hw : Ww r) {i x y : Int} (i0 : 0 ≤ i) (i1 : i < r 1) (e : En2 r i x y) : (0 ≤ x ∧ x < r 0) ∧ (0 ≤ y ∧ y < r 0) ∧ ¬ x = y ∧ 1 ≤ r (160 + 3 * i + 2) ∧ r (160 + 3 * i + 2) ≤ 9 := by
  have a := hw.1 i i0 i1
  rcases e with ⟨e1, e2⟩ | ⟨e1, e2⟩ <;> omega
theorem dist_tri (hb : 2 ≤ r 0 ∧ r 0 ≤ 10) (h1 : 0 ≤ r 1 ∧ r 1 ≤ 20) (hw : Ww r) {W : Int} (hW : -1 ≤ W ∧ W < 20) {g k : Int} (hg : 0 ≤ g ∧ g < r 0) (hk : 0 ≤ k ∧ k < r 0) (hkg : ¬ dist r W g k = -1) : ∀ (n : Nat) (x : Int), 0 ≤ x → x < r 0 → ¬ dist r W k x = -1 → dist r W k x ≤ n → ¬ dist r W g x = -1 ∧ dist r W g x ≤ dist r W k x + dist r W g k := by
  intro n
  induction n with
  | zero =>
    intro x x0 x1 hx hn
    by_cases c : x = k
    · subst c; rw [dist_0 hb h1 hw hW hk]; exact ⟨hkg, by omega⟩
    · obtain ⟨i, y, i0, i1, i2, e, e1, e2⟩ := (isd hb h1 hw hW hk).2.2.2 x x0 x1 c hx
      have a := e.rg hw i0 i1
      have := dist_bd hb h1 hw hW hk a.2.1
      omega
  | succ n ih =>
    intro x x0 x1 hx hn
    by_cases c : x = k
    · subst c; rw [dist_0 hb h1 hw hW hk]; exact ⟨hkg, by omega⟩
    · obtain ⟨i, y, i0, i1, i2, e, e1, e2⟩ := (isd hb h1 hw hW hk).2.2.2 x x0 x1 c hx
      have a := e.rg hw i0 i1
      obtain ⟨f1, f2⟩ := ih y a.2.1.1 a.2.1.2 e1 (by omega)
      obtain ⟨g1, g2⟩ := (isd hb h1 hw hW hg).2.2.1 i i0 i1 i2 x y e f1
      exact ⟨g1, by omega⟩
theorem dist_tr (hb : 2 ≤ r 0 ∧ r 0 ≤ 10) (h1 : 0 ≤ r 1 ∧ r 1 ≤ 20) (hw : Ww r) {W : Int} (hW : -1 ≤ W ∧ W < 20) {g k x : Int} (hg : 0 ≤ g ∧ g < r 0) (hk : 0 ≤ k ∧ k < r 0) (hx : 0 ≤ x ∧ x < r 0) (hkg : ¬ dist r W g k = -1) (hxk : ¬ dist r W k x = -1) : ¬ dist r W g x = -1 ∧ dist r W g x ≤ dist r W k x + dist r W g k := by
  have := dist_bd hb h1 hw hW hk hx
  exact dist_tri hb h1 hw hW hg hk hkg (dist r W k x).toNat x hx.1 hx.2 hxk (by omega)
theorem dist_edge (hb : 2 ≤ r 0 ∧ r 0 ≤ 10) (h1 : 0 ≤ r 1 ∧ r 1 ≤ 20) (hw : Ww r) {W : Int} (hW : -1 ≤ W ∧ W < 20) {i x y : Int} (i0 : 0 ≤ i) (i1 : i < r 1) (i2 : ¬ i = W) (e : En2 r i x y) : ¬ dist r W y x = -1 ∧ dist r W y x ≤ r (160 + 3 * i + 2) := by
  have a := e.rg hw i0 i1
  have d0 := dist_0 hb h1 hw hW a.2.1
  have := (isd hb h1 hw hW a.2.1).2.2.1 i i0 i1 i2 x y e (by omega)
  omega
theorem dist_sym' (hb : 2 ≤ r 0 ∧ r 0 ≤ 10) (h1 : 0 ≤ r 1 ∧ r 1 ≤ 20) (hw : Ww r) {W : Int} (hW : -1 ≤ W ∧ W < 20) {g : Int} (hg : 0 ≤ g ∧ g < r 0) : ∀ (n : Nat) (x : Int), 0 ≤ x → x < r 0 → ¬ dist r W g x = -1 → dist r W g x ≤ n → ¬ dist r W x g = -1 ∧ dist r W x g ≤ dist r W g x := by
  intro n
  induction n with
  | zero =>
    intro x x0 x1 hx hn
    by_cases c : x = g
    · subst c; exact ⟨hx, Int.le_refl _⟩
    · obtain ⟨i, y, i0, i1, i2, e, e1, e2⟩ := (isd hb h1 hw hW hg).2.2.2 x x0 x1 c hx
      have a := e.rg hw i0 i1
      have := dist_bd hb h1 hw hW hg a.2.1
      omega
  | succ n ih =>
    intro x x0 x1 hx hn
    by_cases c : x = g
    · subst c; exact ⟨hx, Int.le_refl _⟩
    · obtain ⟨i, y, i0, i1, i2, e, e1, e2⟩ := (isd hb h1 hw hW hg).2.2.2 x x0 x1 c hx
      have a := e.rg hw i0 i1
      obtain ⟨f1, f2⟩ := ih y a.2.1.1 a.2.1.2 e1 (by omega)
      obtain ⟨g1, g2⟩ := dist_edge hb h1 hw hW i0 i1 i2 e.sym
      obtain ⟨k1, k2⟩ := dist_tr hb h1 hw hW (g := x) (k := y) (x := g) ⟨x0, x1⟩ a.2.1 hg g1 f1
      exact ⟨k1, by omega⟩
theorem dist_sym (hb : 2 ≤ r 0 ∧ r 0 ≤ 10) (h1 : 0 ≤ r 1 ∧ r 1 ≤ 20) (hw : Ww r) {W : Int} (hW : -1 ≤ W ∧ W < 20) {g x : Int} (hg : 0 ≤ g ∧ g < r 0) (hx : 0 ≤ x ∧ x < r 0) : dist r W g x = dist r W x g := by
  have a := dist_bd hb h1 hw hW hg hx
  have b := dist_bd hb h1 hw hW hx hg
  by_cases c : dist r W g x = -1
  · by_cases d : dist r W x g = -1
    · omega
    · exact absurd c (dist_sym' hb h1 hw hW hx (dist r W x g).toNat g hg.1 hg.2 d (by omega)).1
  · have e := dist_sym' hb h1 hw hW hg (dist r W g x).toNat x hx.1 hx.2 c (by omega)
    have f := dist_sym' hb h1 hw hW hx (dist r W x g).toNat g hg.1 hg.2 e.1 (by omega)
    omega
end Tri
/-- a table of sums, one step over a roof -/
def fwT (S : Int → Int → Int) (k : Int) : Int → Int → Int := fun x y => min (S x y) (S x k + S k y)
theorem fwT_at (S : Int → Int → Int) (k x y : Int) : fwT S k x y = min (S x y) (S x k + S k y) := rfl
def FwOK (r : Row) (S : Int → Int → Int) : Prop :=
  (∀ x y, (0 ≤ x ∧ x < r 0) → (0 ≤ y ∧ y < r 0) → 0 ≤ S x y ∧ S x y ≤ 9999) ∧ (∀ x, (0 ≤ x ∧ x < r 0) → S x x = 0) ∧
  (∀ x y, (0 ≤ x ∧ x < r 0) → (0 ≤ y ∧ y < r 0) → S x y = 9999 ∨ (¬ dist r (-1) y x = -1 ∧ dist r (-1) y x ≤ S x y)) ∧
  (∀ i x y, 0 ≤ i → i < r 1 → En2 r i x y → S x y ≤ r (160 + 3 * i + 2))
def FwT (r : Row) (S : Int → Int → Int) (m : Int) : Prop := ∀ j, 0 ≤ j → j < m → ∀ x y, (0 ≤ x ∧ x < r 0) → (0 ≤ y ∧ y < r 0) → S x y ≤ S x j + S j y
theorem fw_ok {r : Row} (hb : 2 ≤ r 0 ∧ r 0 ≤ 10) (h1 : 0 ≤ r 1 ∧ r 1 ≤ 20) (hw : Ww r) {S : Int → Int → Int} (h : FwOK r S) {k : Int} (hk : 0 ≤ k ∧ k < r 0) : FwOK r (fwT S k) := by
  obtain ⟨a1, a2, a3, a4⟩ := h
  refine ⟨fun x y hx hy => ?_, fun x hx => ?_, fun x y hx hy => ?_, fun i x y i0 i1 e => ?_⟩
  · rw [fwT_at]
    have := a1 x y hx hy
    have := a1 x k hx hk
    have := a1 k y hk hy
    omega
  · rw [fwT_at]
    have := a2 x hx
    have := a1 x k hx hk
    have := a1 k x hk hx
    omega
  · rw [fwT_at]
    have := a1 x y hx hy
    have p1 := a1 x k hx hk
    have p2 := a1 k y hk hy
    by_cases c : S x y ≤ S x k + S k y
    · have e : min (S x y) (S x k + S k y) = S x y := by omega
      rw [e]; exact a3 x y hx hy
    · have e : min (S x y) (S x k + S k y) = S x k + S k y := by omega
      rw [e]
      right
      have b1 := a3 x k hx hk
      have b2 := a3 k y hk hy
      have c1 : ¬ dist r (-1) k x = -1 ∧ dist r (-1) k x ≤ S x k := b1.resolve_left (by omega)
      have c2 : ¬ dist r (-1) y k = -1 ∧ dist r (-1) y k ≤ S k y := b2.resolve_left (by omega)
      have t := dist_tr hb h1 hw (W := -1) (by omega) (g := y) (k := k) (x := x) hy hk hx c2.1 c1.1
      exact ⟨t.1, by omega⟩
  · rw [fwT_at]
    have := a4 i x y i0 i1 e
    omega
theorem fw_t {r : Row} {S : Int → Int → Int} (h : FwOK r S) {k : Int} (hk : 0 ≤ k ∧ k < r 0) (ht : FwT r S k) : FwT r (fwT S k) (k + 1) := by
  obtain ⟨a1, a2, a3, a4⟩ := h
  intro j j0 j1 x y hx hy
  have hkk := a2 k hk
  have p1 := a1 x k hx hk
  have p2 := a1 k y hk hy
  rw [fwT_at, fwT_at, fwT_at]
  by_cases c : j = k
  · subst c
    omega
  · have hj : 0 ≤ j ∧ j < r 0 := by omega
    have t1 := ht j j0 (by omega) x y hx hy
    have t2 := ht j j0 (by omega) k y hk hy
    have t3 := ht j j0 (by omega) x k hx hk
    have t4 := ht j j0 (by omega) k k hk hk
    omega
theorem fw_fin {r : Row} (hb : 2 ≤ r 0 ∧ r 0 ≤ 10) (h1 : 0 ≤ r 1 ∧ r 1 ≤ 20) (hw : Ww r) {S : Int → Int → Int} (h : FwOK r S) (ht : FwT r S (r 0)) {x y : Int} (hx : 0 ≤ x ∧ x < r 0) (hy : 0 ≤ y ∧ y < r 0) : S x y = if dist r (-1) y x = -1 then 9999 else dist r (-1) y x := by
  obtain ⟨a1, a2, a3, a4⟩ := h
  have up : ∀ (n : Nat) (x : Int), (0 ≤ x ∧ x < r 0) → ¬ dist r (-1) y x = -1 → dist r (-1) y x ≤ n → S x y ≤ dist r (-1) y x := by
    intro n
    induction n with
    | zero =>
      intro x hx hd hn
      by_cases c : x = y
      · subst c
        have := a2 x hx
        have := dist_bd hb h1 hw (W := -1) (by omega) hy hx
        omega
      · obtain ⟨i, z, i0, i1, i2, e, e1, e2⟩ := (isd hb h1 hw (W := -1) (by omega) hy).2.2.2 x hx.1 hx.2 c hd
        have a := e.rg hw i0 i1
        have := dist_bd hb h1 hw (W := -1) (by omega) hy a.2.1
        omega
    | succ n ih =>
      intro x hx hd hn
      by_cases c : x = y
      · subst c
        have := a2 x hx
        have := dist_bd hb h1 hw (W := -1) (by omega) hy hx
        omega
      · obtain ⟨i, z, i0, i1, i2, e, e1, e2⟩ := (isd hb h1 hw (W := -1) (by omega) hy).2.2.2 x hx.1 hx.2 c hd
        have a := e.rg hw i0 i1
        have f1 := ih z a.2.1 e1 (by omega)
        have f2 := a4 i x z i0 i1 e
        have f3 := ht z a.2.1.1 a.2.1.2 x y hx hy
        omega
  have lo := a3 x y hx hy
  have bd := dist_bd hb h1 hw (W := -1) (by omega) hy hx
  by_cases c : dist r (-1) y x = -1
  · rw [if_pos c]
    exact lo.resolve_right (fun z => z.1 c)
  · rw [if_neg c]
    have := up (dist r (-1) y x).toNat x hx c (by omega)
    have l2 := lo.resolve_left (by omega)
    omega
/-! the ways one by one -/
def wayN (r : Row) (n : Nat) (a b : Int) : Int := ff (fun i => decide (¬ a = b ∧ (r (160 + 3 * i) = a ∨ r (160 + 3 * i + 1) = a) ∧ (r (160 + 3 * i) = b ∨ r (160 + 3 * i + 1) = b))) n
def farN (r : Row) (n : Nat) (a b : Int) : Int := if wayN r n a b = -1 then -1 else r (160 + 3 * wayN r n a b + 2)
theorem farN_all (r : Row) (a b : Int) : farN r (r 1).toNat a b = farB r a b := rfl
theorem farN_0 (r : Row) (a b : Int) : farN r 0 a b = -1 := rfl
theorem En2_iff {r : Row} (hw : Ww r) {i a b : Int} (i0 : 0 ≤ i) (i1 : i < r 1) : (¬ a = b ∧ (r (160 + 3 * i) = a ∨ r (160 + 3 * i + 1) = a) ∧ (r (160 + 3 * i) = b ∨ r (160 + 3 * i + 1) = b)) ↔ En2 r i a b := by
  have a := hw.1 i i0 i1
  unfold En2
  omega
theorem farN_yes {r : Row} (hw : Ww r) {n : Nat} {a b : Int} (i1 : (n : Int) < r 1) (e : En2 r n a b) : farN r (n + 1) a b = r (160 + 3 * n + 2) := by
  have h0 : wayN r n a b = -1 := by
    unfold wayN
    refine ff_none fun i j0 j1 => ?_
    rw [decide_eq_false_iff_not, En2_iff hw j0 (by omega)]
    intro e2
    have := hw.2 i n a b j0 (by omega) (by omega) i1 e2 e
    omega
  have h1 : wayN r (n + 1) a b = n := by
    have h2 := (En2_iff (a := a) (b := b) hw (by omega) i1).mpr e
    unfold wayN at h0 ⊢
    rw [ff, h0, if_neg (by decide), if_pos (decide_eq_true h2)]
  unfold farN
  rw [h1, if_neg (by omega)]
theorem farN_no {r : Row} (hw : Ww r) {n : Nat} {a b : Int} (i1 : (n : Int) < r 1) (e : ¬ En2 r n a b) : farN r (n + 1) a b = farN r n a b := by
  have h1 : wayN r (n + 1) a b = wayN r n a b := by
    have h2 := fun z => e ((En2_iff (a := a) (b := b) hw (by omega) i1).mp z)
    unfold wayN
    rw [ff]
    split
    · rfl
    · rename_i c
      rw [if_neg (by rw [decide_eq_true_iff]; exact h2)]
      omega
  unfold farN
  rw [h1]
theorem farN_en {r : Row} (hw : Ww r) {n : Nat} {a b : Int} (i1 : (n : Int) ≤ r 1) (h : ¬ farN r n a b = -1) : ∃ i : Int, 0 ≤ i ∧ i < n ∧ En2 r i a b ∧ farN r n a b = r (160 + 3 * i + 2) := by
  have h0 : ¬ wayN r n a b = -1 := fun z => h (by unfold farN; rw [if_pos z])
  rcases ff_spec (fun i => decide (¬ a = b ∧ (r (160 + 3 * i) = a ∨ r (160 + 3 * i + 1) = a) ∧ (r (160 + 3 * i) = b ∨ r (160 + 3 * i + 1) = b))) n with ⟨e1, -⟩ | ⟨e1, e2, e3, -⟩
  · exact absurd e1 h0
  · refine ⟨wayN r n a b, e1, e2, (En2_iff hw e1 (Int.lt_of_lt_of_le e2 i1)).mp (of_decide_eq_true e3), ?_⟩
    unfold farN
    rw [if_neg h0]
