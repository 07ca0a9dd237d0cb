/-! ===== rows of numbers, loops, and what an evaluation of the printed functions needs ===== -/
theorem gd_t {T : Type} {c : Prop} [Decidable c] {X : Option T} (h : c) : gd c X = X := if_pos h
theorem bs {A B : Type} (a : A) (f : A → Option B) : (some a).bind f = f a := rfl
theorem bj {T : Type} (a : Int) (w : aI) (K : Int → aI → Option T) : bJW (some (a, w)) K = K a w := rfl
theorem bk {T : Type} (a : Bool) (w : aI) (K : Bool → aI → Option T) : bKW (some (a, w)) K = K a w := rfl
theorem bn0 (w : aI) (X : Option ((Int ⊕ String) × aI)) : bnM (some none) w X = X := rfl
theorem bn1 (E : String) (w : aI) (X : Option ((Int ⊕ String) × aI)) : bnM (some (some E)) w X = some (.inr E, w) := rfl
abbrev Row : Type := Int → Int
def rs (r : Row) (k v : Int) : Row := fun j => if j = k then v else r j
theorem rs_eq {r : Row} {k v j : Int} (h : j = k) : rs r k v j = v := if_pos h
theorem rs_ne {r : Row} {k v j : Int} (h : ¬ j = k) : rs r k v j = r j := if_neg h
theorem rs_self (r : Row) (k v : Int) : rs r k v k = v := if_pos rfl
theorem rs_def (r : Row) (k v j : Int) : rs r k v j = if j = k then v else r j := rfl
theorem is_eq (w : aI) (a : Nat) (k v : Int) : iset w a k v a = rs (w a) k v := by
  funext j; simp only [iset, rs, true_and]
theorem is_ne {w : aI} {a b : Nat} {k v : Int} (h : ¬ b = a) : iset w a k v b = w b := by
  funext j; simp only [iset, h, false_and, if_false]
theorem ic_eq (w : aI) (a0 a : Nat) (n : Int) : icpy w a0 a n a = fun j => if 0 ≤ j ∧ j < n then w a0 j else w a j := by
  funext j; simp only [icpy, true_and]
theorem ic_ne {w : aI} {a0 a b : Nat} {n : Int} (h : ¬ b = a) : icpy w a0 a n b = w b := by
  funext j; simp only [icpy, h, false_and, if_false]
def itr {S : Type} (f : Int → S → S) (s : S) : Nat → S
  | 0 => s
  | n + 1 => f (n : Int) (itr f s n)
def cnt (p : Int → Bool) : Nat → Int
  | 0 => 0
  | n + 1 => cnt p n + bI (p n)
def sm (f : Int → Int) : Nat → Int
  | 0 => 0
  | n + 1 => sm f n + f n
/-- the first place of n at which p is so; -1 -/
def ff (p : Int → Bool) : Nat → Int
  | 0 => -1
  | n + 1 => if ff p n ≠ -1 then ff p n else if p n then n else -1
theorem cnt_le (p : Int → Bool) : ∀ n, 0 ≤ cnt p n ∧ cnt p n ≤ n := by
  intro n; induction n with
  | zero => exact ⟨Int.le_refl _, Int.le_refl _⟩
  | succ n ih => rw [cnt]; have : 0 ≤ bI (p n) ∧ bI (p n) ≤ 1 := by cases p n <;> decide
                 omega
theorem cnt_congr {p q : Int → Bool} : ∀ {n : Nat}, (∀ i : Int, 0 ≤ i → i < n → p i = q i) → cnt p n = cnt q n := by
  intro n; induction n with
  | zero => intro _; rfl
  | succ n ih => intro h; rw [cnt, cnt, ih (fun i h0 h1 => h i h0 (by omega)), h n (by omega) (by omega)]
theorem sm_congr {p q : Int → Int} : ∀ {n : Nat}, (∀ i : Int, 0 ≤ i → i < n → p i = q i) → sm p n = sm q n := by
  intro n; induction n with
  | zero => intro _; rfl
  | succ n ih => intro h; rw [sm, sm, ih (fun i h0 h1 => h i h0 (by omega)), h n (by omega) (by omega)]
theorem ff_none {p : Int → Bool} : ∀ {n : Nat}, (∀ i : Int, 0 ≤ i → i < n → p i = false) → ff p n = -1 := by
  intro n; induction n with
  | zero => intro _; rfl
  | succ n ih => intro h; rw [ff, ih (fun i h0 h1 => h i h0 (by omega)), h n (by omega) (by omega)]; rfl
theorem ff_at {p : Int → Bool} {k : Int} (h0 : 0 ≤ k) (hp : p k = true) (hn : ∀ i : Int, 0 ≤ i → i < k → p i = false) : ∀ {n : Nat}, k < n → ff p n = k := by
  intro n; induction n with
  | zero => intro h; omega
  | succ n ih =>
    intro h
    rw [ff]
    by_cases q : k < n
    · rw [ih q, if_pos (by omega)]
    · have e : k = n := by omega
      subst e
      rw [ff_none hn, if_neg (by omega), if_pos hp]
theorem ff_spec (p : Int → Bool) : ∀ n : Nat, (ff p n = -1 ∧ ∀ i : Int, 0 ≤ i → i < n → p i = false) ∨ (0 ≤ ff p n ∧ ff p n < n ∧ p (ff p n) = true ∧ ∀ i : Int, 0 ≤ i → i < ff p n → p i = false) := by
  intro n; induction n with
  | zero => exact Or.inl ⟨rfl, fun i h0 h1 => by omega⟩
  | succ n ih =>
    rcases ih with ⟨e, h⟩ | ⟨h1, h2, h3, h4⟩
    · by_cases q : p (n : Int) = true
      · right
        have e2 : ff p (n + 1) = n := ff_at (by omega) q h (by omega)
        rw [e2]
        exact ⟨by omega, by omega, q, h⟩
      · left
        have q2 : p (n : Int) = false := by simpa using q
        have h9 : ∀ i : Int, 0 ≤ i → i < ((n + 1 : Nat) : Int) → p i = false := fun i i0 i1 => by
          by_cases e3 : i = n
          · subst e3; exact q2
          · exact h i i0 (by omega)
        exact ⟨ff_none h9, h9⟩
    · right
      have e2 : ff p (n + 1) = ff p n := by rw [ff, if_pos (by omega)]
      rw [e2]
      exact ⟨h1, by omega, h3, h4⟩
theorem ff_congr {p q : Int → Bool} : ∀ {n : Nat}, (∀ i : Int, 0 ≤ i → i < n → p i = q i) → ff p n = ff q n := by
  intro n; induction n with
  | zero => intro _; rfl
  | succ n ih => intro h; rw [ff, ff, ih (fun i h0 h1 => h i h0 (by omega)), h n (by omega) (by omega)]
theorem td {a : Int} (b : Int) (h : 0 ≤ a) : Int.tdiv a b = a / b := Int.tdiv_eq_ediv_of_nonneg h
theorem tm {a : Int} (b : Int) (h : 0 ≤ a) : Int.tmod a b = a % b := Int.tmod_eq_emod_of_nonneg h
/-! where things lie: the model's cells -/
theorem m0 : shR 210 0 = 211 := by decide +kernel
theorem m1 : shR 210 1 = 212 := by decide +kernel
theorem m2 : shR 210 2 = 213 := by decide +kernel
theorem m3 : shR 210 3 = 214 := by decide +kernel
theorem m7 : shR 210 7 = 215 := by decide +kernel
theorem m9 : shR 210 9 = 216 := by decide +kernel
theorem m10 : shR 210 10 = 217 := by decide +kernel
theorem m12 : shR 210 12 = 218 := by decide +kernel
theorem m22 : shR 210 22 = 219 := by decide +kernel
theorem m24 : shR 210 24 = 220 := by decide +kernel
theorem m25 : shR 210 25 = 221 := by decide +kernel
theorem m26 : shR 210 26 = 222 := by decide +kernel
theorem n0 : shL 211 = 1030 := by decide +kernel
theorem n1 : shL 212 = 1030 := by decide +kernel
theorem n2 : shL 213 = 1030 := by decide +kernel
theorem n3 : shL 214 = 8240 := by decide +kernel
theorem n7 : shL 215 = 6 := by decide +kernel
theorem n9 : shL 216 = 10 := by decide +kernel
theorem n10 : shL 217 = 8 := by decide +kernel
theorem n12 : shL 218 = 800 := by decide +kernel
theorem n22 : shL 219 = 360 := by decide +kernel
theorem n24 : shL 220 = 10 := by decide +kernel
theorem n25 : shL 221 = 10 := by decide +kernel
theorem n26 : shL 222 = 300 := by decide +kernel
