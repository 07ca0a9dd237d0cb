/-! ===== what the law draws, and its text as bytes ===== -/
def dzT (C : Nat → Int) : Dt := (3 + bv (C 0) 0 4 % 3, (fun x => 1 + bv (C (1 + x.toNat)) 0 3), (fun x => bv (C (1 + x.toNat)) 3 4 % 10), (fun x => bv (C (1 + x.toNat)) 7 2), (fun x => bv (C (1 + x.toNat)) 9 5), (fun a b => if bv (C (6 + 5 * a.toNat + b.toNat)) 0 2 = 0 then 0 else 1 + bv (C (6 + 5 * a.toNat + b.toNat)) 2 4 % 9), bv (C 0) 4 4 % 10, 20 + bv (C 0) 8 5, bv (C 0) 13 2)
theorem dzT_ok (C : Nat → Int) : DtOK (dzT C) := by
  have a4 := bv_4 (C 0) 0
  have b4 := bv_4 (C 0) 4
  have c5 := bv_5 (C 0) 8
  have d2 := bv_2 (C 0) 13
  refine ⟨(by omega : 3 ≤ 3 + bv (C 0) 0 4 % 3 ∧ 3 + bv (C 0) 0 4 % 3 ≤ 5), fun x x0 x1 => ?_, fun a b a0 a1 a2 => ?_, (by omega : 0 ≤ bv (C 0) 4 4 % 10 ∧ bv (C 0) 4 4 % 10 ≤ 9), (by omega : 20 ≤ 20 + bv (C 0) 8 5 ∧ 20 + bv (C 0) 8 5 ≤ 51), (by omega : 0 ≤ bv (C 0) 13 2 ∧ bv (C 0) 13 2 ≤ 3)⟩
  · have e3 := bv_3 (C (1 + x.toNat)) 0
    have e4 := bv_4 (C (1 + x.toNat)) 3
    have e2 := bv_2 (C (1 + x.toNat)) 7
    have e5 := bv_5 (C (1 + x.toNat)) 9
    exact ⟨(by omega : 1 ≤ 1 + bv (C (1 + x.toNat)) 0 3 ∧ 1 + bv (C (1 + x.toNat)) 0 3 ≤ 8), (by omega : 0 ≤ bv (C (1 + x.toNat)) 3 4 % 10 ∧ bv (C (1 + x.toNat)) 3 4 % 10 ≤ 9), e2, e5⟩
  · have e4 := bv_4 (C (6 + 5 * a.toNat + b.toNat)) 2
    show 0 ≤ (if bv (C (6 + 5 * a.toNat + b.toNat)) 0 2 = 0 then 0 else 1 + bv (C (6 + 5 * a.toNat + b.toNat)) 2 4 % 9) ∧ (if bv (C (6 + 5 * a.toNat + b.toNat)) 0 2 = 0 then 0 else 1 + bv (C (6 + 5 * a.toNat + b.toNat)) 2 4 % 9) ≤ 9
    split
    · decide
    · omega
/-- how many ways -/
theorem rows_rf (d : Dt) : ∀ n : Nat, n ≤ 10 → (rowsz R0z (rfL d n) 0 = n ∧ rowsz R0z (rfL d n) 1 = 0) := by
  intro n
  induction n with
  | zero => intro _; exact ⟨rfl, rfl⟩
  | succ n ih =>
    intro hn
    obtain ⟨h0, h1⟩ := ih (by omega)
    have e : rfL d (n + 1) = rfL d n ++ [(0, (n : Int), tb d n, te d n, tf d n, tp d n)] := rfl
    rw [e, rowsz_app, rowsz_1]
    generalize rowsz R0z (rfL d n) = r at h0 h1
    have e2 : rowz r (0, (n : Int), tb d n, te d n, tf d n, tp d n) = rRf r (n : Int) (tb d n) (te d n) (tf d n) (tp d n) := if_pos rfl
    rw [e2]
    obtain ⟨a0, -, -, -, -, -, -, -, -, -, ao⟩ := roofA_at (r := r) (l := 1) (f := fun _ => 97 + (n : Int)) (br := tb d n) (ea := te d n) (fe := tf d n) (pu := tp d n) (by omega) (by decide)
    unfold rRf
    refine ⟨by rw [a0, h0]; omega, ?_⟩
    rw [ao 1 (by omega) (by decide) (by decide), h1]
theorem rows_wy : ∀ (ss : List Sz) (r : Row), 0 ≤ r 1 → (∀ q ∈ ss, q.1 = 1) → rowsz r ss 1 = r 1 + ss.length := by
  intro ss
  induction ss with
  | nil => intro r _ _; show r 1 = r 1 + ((0 : Nat) : Int); omega
  | cons q ss ih =>
    intro r h0 hq
    have h1 : q.1 = 1 := hq q List.mem_cons_self
    have e : rowz r q = wayA r q.2.1 q.2.2.1 q.2.2.2.1 := by unfold rowz; rw [h1, if_neg (by decide), if_pos rfl]
    have e1 := (wayA_at (r := r) (a := q.2.1) (b := q.2.2.1) (far := q.2.2.2.1) h0).1
    show rowsz (rowz r q) ss 1 = _
    rw [e, ih _ (by rw [e1]; omega) (fun x hx => hq x (List.mem_cons_of_mem _ hx)), e1, List.length_cons]
    omega
theorem wyB_1 (d : Dt) (a : Nat) : ∀ k, ∀ q ∈ wyB d a k, q.1 = 1 := by
  intro k
  induction k with
  | zero => intro q hq; simp [wyB] at hq
  | succ k ih =>
    intro q hq
    rcases List.mem_append.mp hq with h | h
    · exact ih q h
    · by_cases c : tw d a (a + 1 + k) = 0
      · rw [if_pos c] at h
        simp at h
      · rw [if_neg c] at h
        rw [List.mem_singleton.mp h]
theorem wyA_1 (d : Dt) : ∀ a, ∀ q ∈ wyA d a, q.1 = 1 := by
  intro a
  induction a with
  | zero => intro q hq; simp [wyA] at hq
  | succ a ih =>
    intro q hq
    rcases List.mem_append.mp hq with h | h
    · exact ih q h
    · exact wyB_1 d a _ q h
theorem Rz_1 {d : Dt} (hd : DtOK d) : Rz d 1 = (wyA d (tR d).toNat).length := by
  have h5 := hd.1
  have h1 := (rw_all hd).2.2.2.2.2
  have h2 := (rows_rf d (tR d).toNat (by omega)).2
  rw [h1, rowsz_app, rows_wy _ _ (by rw [h2]; decide) (wyA_1 d _), h2, Int.zero_add]
/-! ===== how long the text is ===== -/
def gwz (a : Nat) : Nat := [0, 4, 7, 9, 10, 10].getD a 10
theorem tz_wy : ∀ ss : List Sz, (∀ q ∈ ss, q.1 = 1) → (txz ss).length = 10 * ss.length := by
  intro ss
  induction ss with
  | nil => intro _; rfl
  | cons q ss ih =>
    intro hq
    have h1 : q.1 = 1 := hq q List.mem_cons_self
    have e : (sbz q).length = 10 := by unfold sbz; rw [h1, if_neg (by decide), if_pos rfl]; rfl
    show (sbz q ++ txz ss).length = _
    rw [List.length_append, e, ih (fun x hx => hq x (List.mem_cons_of_mem _ hx)), List.length_cons]
    omega
theorem wyA_gw {d : Dt} (hd : DtOK d) : ∀ a, a ≤ 5 → (wyA d a).length ≤ gwz a := by
  intro a
  have h5 := hd.1
  induction a with
  | zero => intro _; exact Nat.le_refl _
  | succ a ih =>
    intro ha
    have h1 := ih (by omega)
    have h2 := wyB_len d a ((tR d).toNat - 1 - a)
    show (wyA d a ++ wyB d a ((tR d).toNat - 1 - a)).length ≤ _
    rw [List.length_append]
    have h3 : gwz a + (4 - a) ≤ gwz (a + 1) := by
      rcases (show a = 0 ∨ a = 1 ∨ a = 2 ∨ a = 3 ∨ a = 4 by omega) with rfl | rfl | rfl | rfl | rfl <;> decide
    omega
/-- the text before the way from a to b is looked at -/
theorem pre_len {d : Dt} (hd : DtOK d) {a k : Nat} (ha : a ≤ 4 ∧ k + a ≤ 4) : (txz (rfL d (tR d).toNat ++ wyA d a ++ wyB d a k)).length ≤ 180 := by
  have h5 := hd.1
  have h1 := tz_len (rfL d (tR d).toNat)
  rw [rfL_len] at h1
  have h2 := wyA_gw hd a (by omega)
  have h3 := wyB_len d a k
  have h4 : gwz a + (4 - a) ≤ 10 := by
    rcases (show a = 0 ∨ a = 1 ∨ a = 2 ∨ a = 3 ∨ a = 4 by omega) with rfl | rfl | rfl | rfl | rfl <;> decide
  rw [txz_app, txz_app, List.length_append, List.length_append, tz_wy _ (wyA_1 d a), tz_wy _ (wyB_1 d a k)]
  omega
theorem pre_len5 {d : Dt} (hd : DtOK d) : (txz (rfL d (tR d).toNat ++ wyA d (tR d).toNat)).length ≤ 180 := by
  have h5 := hd.1
  have h1 := tz_len (rfL d (tR d).toNat)
  rw [rfL_len] at h1
  have h2 := wyA_gw hd (tR d).toNat (by omega)
  have h4 : gwz (tR d).toNat ≤ 10 := by
    rcases (show (tR d).toNat = 3 ∨ (tR d).toNat = 4 ∨ (tR d).toNat = 5 by omega) with h | h | h <;> rw [h] <;> decide
  rw [txz_app, List.length_append, tz_wy _ (wyA_1 d _)]
  omega
/-! ===== its bytes ===== -/
def oLz (l : List Int) : List Int32 := l.map oI
theorem oLz_app (a b : List Int) : oLz (a ++ b) = oLz a ++ oLz b := List.map_append
theorem oLz_len (a : List Int) : (oLz a).length = a.length := List.length_map _
theorem oLz_dg {v : Int} (h : 0 ≤ v ∧ v ≤ 99) : oLz (dgz v) = dgI v.toNat := by
  obtain ⟨n, rfl⟩ : ∃ n : Nat, v = n := ⟨v.toNat, by omega⟩
  rw [Int.toNat_natCast]
  unfold oLz dgz dgI
  by_cases c : n < 10
  · rw [if_pos (by omega), if_pos c]
    show [oI (48 + (n : Int))] = _
    rw [show 48 + (n : Int) = ((48 + n : Nat) : Int) by push_cast; rfl, oI_n]
  · rw [if_neg (by omega), if_neg c]
    show [oI (48 + (n : Int) / 10), oI (48 + (n : Int) % 10)] = _
    rw [show 48 + (n : Int) / 10 = ((48 + n / 10 : Nat) : Int) by push_cast; rfl, show 48 + (n : Int) % 10 = ((48 + n % 10 : Nat) : Int) by push_cast; rfl, oI_n, oI_n]
theorem dgI_1 {n : Nat} (h : n < 10) : dgI n = [nI (48 + n)] := if_pos h
theorem xB_law : xB 34 = [nI 114, nI 111, nI 111, nI 102, nI 32] ∧ xB 35 = [nI 119, nI 97, nI 121, nI 32] ∧ xB 36 = [nI 119, nI 105, nI 110, nI 100, nI 32] ∧ xB 37 = [nI 59, nI 100, nI 117, nI 115, nI 107, nI 32] ∧ xB 38 = [nI 59, nI 97, nI 103, nI 97, nI 105, nI 110, nI 32] := by decide +kernel
theorem oI_o (k n : Nat) : oI ((k : Int) + (n : Int)) = nI (k + n) := by rw [show (k : Int) + (n : Int) = ((k + n : Nat) : Int) by push_cast; rfl, oI_n]
theorem oLz_rf {x br ea fe pu : Nat} (h : br < 10 ∧ ea < 10 ∧ fe < 10 ∧ pu < 100) : oLz (bRf x br ea fe pu) = xB 34 ++ [nI (97 + x)] ++ [nI 32] ++ dgI br ++ [nI 32] ++ dgI ea ++ [nI 32] ++ dgI fe ++ [nI 32] ++ dgI pu ++ [nI 59] := by
  have e := oLz_dg (v := (pu : Int)) (by omega)
  rw [Int.toNat_natCast] at e
  unfold bRf
  rw [oLz_app, oLz_app, e, xB_law.1, dgI_1 h.1, dgI_1 h.2.1, dgI_1 h.2.2.1, ← oI_o 97 x, ← oI_o 48 br, ← oI_o 48 ea, ← oI_o 48 fe]
  simp only [List.append_assoc, List.cons_append, List.nil_append]
  rfl
theorem oLz_wy {b a far : Nat} (h : far < 10) : oLz (bWy b a far) = xB 35 ++ [nI (97 + b)] ++ [nI 32] ++ [nI (97 + a)] ++ [nI 32] ++ dgI far ++ [nI 59] := by
  unfold bWy
  rw [xB_law.2.1, dgI_1 h, ← oI_o 97 b, ← oI_o 97 a, ← oI_o 48 far]
  simp only [List.append_assoc, List.cons_append, List.nil_append]
  rfl
theorem oLz_st {d : Dt} (hd : DtOK d) : oLz (txz (stL d)) = xB 36 ++ dgI (twi d).toNat ++ xB 37 ++ dgI (tdu d).toNat ++ xB 38 ++ dgI (tag d).toNat ++ [nI 59] := by
  obtain ⟨-, -, -, h1, h2, h3⟩ := hd
  have e1 := oLz_dg (v := twi d) (by omega)
  have e2 := oLz_dg (v := tdu d) (by omega)
  have e3 := oLz_dg (v := tag d) (by omega)
  have e : txz (stL d) = bSt 8 (twi d) ++ (bSt 9 (tdu d) ++ (bSt 10 (tag d) ++ [])) := rfl
  have b8 : bSt 8 (twi d) = [119, 105, 110, 100] ++ ([32] ++ (dgz (twi d) ++ [59])) := rfl
  have b9 : bSt 9 (tdu d) = [100, 117, 115, 107] ++ ([32] ++ (dgz (tdu d) ++ [59])) := rfl
  have b10 : bSt 10 (tag d) = [97, 103, 97, 105, 110] ++ ([32] ++ (dgz (tag d) ++ [59])) := rfl
  rw [e, b8, b9, b10, ← e1, ← e2, ← e3, xB_law.2.2.1, xB_law.2.2.2.1, xB_law.2.2.2.2]
  unfold oLz
  simp only [List.map_append, List.map_cons, List.map_nil, List.append_assoc, List.cons_append, List.nil_append]
  rfl
theorem oLz_at {t : List Int} {k : Nat} (h : k < t.length) : (oLz t).getD k 0 = oI (t.getD k 0) := by
  unfold oLz
  rw [List.getD_eq_getElem?_getD, List.getD_eq_getElem?_getD, List.getElem?_map, List.getElem?_eq_getElem h]
  rfl
theorem oLz_byz {t : List Int} (hl : t.length ≤ 300) (h : ∀ c ∈ t, 32 ≤ c ∧ c ≤ 122) : Byz (oLz t) ∧ ∀ k : Nat, k < t.length → ((chz (oLz t) k : Nat) : Int) = t.getD k 0 := by
  have hm : ∀ k : Nat, k < t.length → 32 ≤ t.getD k 0 ∧ t.getD k 0 ≤ 122 := fun k hk => by
    refine h _ ?_
    rw [List.getD_eq_getElem?_getD, List.getElem?_eq_getElem hk]
    exact List.getElem_mem hk
  have e1 : ∀ k : Nat, k < t.length → (oLz t).getD k 0 = nI (t.getD k 0).toNat := fun k hk => by
    have := hm k hk
    rw [oLz_at hk, ← oI_n, Int.toNat_of_nonneg (by omega)]
  refine ⟨⟨by rw [oLz_len]; exact hl, fun j hj => ?_⟩, fun k hk => ?_⟩
  · rw [oLz_len] at hj
    have := hm j hj
    exact ⟨(t.getD j 0).toNat, by omega, e1 j hj⟩
  · have := hm k hk
    unfold chz
    rw [if_pos (by rw [oLz_len]; exact hk), e1 k hk, nI_clamp (by omega)]
    omega
theorem allz_len9 {d : Dt} (hd : DtOK d) : (txz (allz d)).length ≤ 210 := by
  have h1 := pre_len5 hd
  obtain ⟨-, -, -, h2, h3, h4⟩ := hd
  have hz : ∀ v : Int, (dgz v).length ≤ 2 := fun v => by unfold dgz; split <;> exact Nat.le_of_ble_eq_true rfl
  have e : txz (stL d) = bSt 8 (twi d) ++ (bSt 9 (tdu d) ++ (bSt 10 (tag d) ++ [])) := rfl
  have b8 : bSt 8 (twi d) = [119, 105, 110, 100] ++ ([32] ++ (dgz (twi d) ++ [59])) := rfl
  have b9 : bSt 9 (tdu d) = [100, 117, 115, 107] ++ ([32] ++ (dgz (tdu d) ++ [59])) := rfl
  have b10 : bSt 10 (tag d) = [97, 103, 97, 105, 110] ++ ([32] ++ (dgz (tag d) ++ [59])) := rfl
  have z1 := hz (twi d)
  have z2 := hz (tdu d)
  have z3 := hz (tag d)
  unfold allz
  rw [txz_app, List.length_append, e, b8, b9, b10]
  simp only [List.length_append, List.length_cons, List.length_nil]
  omega
