/-! ===== the class's first state ===== -/
theorem c_addText {F : Nat} (hF : 1000 ≤ F) {w : aI} (h : w 1 1 = 0) : ∃ w', f_X0_addText F 1 12 w = some w' ∧ TX w' B0z N0z ∧ ∀ a, ¬ a = 1 → ¬ a = 2 → w' a = w a := by
  have hl : ((xB 12).length : Int) = 140 := N0z_len
  have key : ∀ (n v : Nat) (u : aI), v ≤ 140 → 140 - v < n → u 1 1 = (v : Int) → (∀ k : Int, 0 ≤ k → k < (v : Int) → u 2 k = B0z k) → (∀ a, ¬ a = 1 → ¬ a = 2 → u a = w a) → ∃ w', f_X0_addText_b2 F 1 12 n (v : Int) u = some w' ∧ w' 1 1 = 140 ∧ (∀ k : Int, 0 ≤ k → k < 140 → w' 2 k = B0z k) ∧ ∀ a, ¬ a = 1 → ¬ a = 2 → w' a = w a := by
    intro n
    induction n with
    | zero => intro v u v1 v2; omega
    | succ n ih =>
      intro v u v1 v2 hu hb ho
      have ec : f_X0_addText_b2 F 1 12 (n + 1) (v : Int) u = f_X0_addText_b2_b F 1 12 (f_X0_addText_b2 F 1 12 n) (v : Int) u := rfl
      rw [ec]
      unfold f_X0_addText_b2_b
      rw [s_len (by decide), bs, hl, gd_t (by omega)]
      by_cases c : (140 : Int) ≤ (v : Int)
      · rw [if_pos c]
        exact ⟨u, rfl, by omega, fun k k0 k1 => hb k k0 (by omega), ho⟩
      · rw [if_neg c, s_chr (s := 12) (i := v) (by decide) (by omega), bs, c_add (by omega), bs, show ((v : Int) + 1) = ((v + 1 : Nat) : Int) by omega]
        refine ih (v + 1) (addB u _) (by omega) (by omega) (by rw [addB_n, hu]; omega) (fun k k0 k1 => ?_) (fun a h1 h2 => by rw [addB_o h1 h2]; exact ho a h1 h2)
        have e1 : addB u ((xB 12).getD v 0).toInt 2 = rs (u 2) (v : Int) ((xB 12).getD v 0).toInt := by
          unfold addB
          rw [is_ne (by decide), is_eq, hu]
        rw [e1]
        by_cases ck : k = (v : Int)
        · rw [ck, rs_self]
          show _ = ((xB 12).getD ((v : Int)).toNat 0).toInt
          rw [Int.toNat_natCast]
        · rw [rs_ne ck]
          exact hb k k0 (by omega)
  obtain ⟨w', k1, k2, k3, k4⟩ := key F 0 w (by omega) (by omega) h (fun k k0 k1 => by omega) (fun a _ _ => rfl)
  refine ⟨w', k1, ⟨k2, by decide, fun k k0 k9 => ⟨?_, k3 k k0 k9⟩⟩, k4⟩
  have hb : ∀ j, j < 140 → 0 ≤ B0z (j : Nat) ∧ B0z (j : Nat) ≤ 255 := by decide +kernel
  have h9 : k < 140 := k9
  have h8 := hb k.toNat (by omega)
  rw [Int.toNat_of_nonneg k0] at h8
  exact h8
def CI (w : aI) : Prop := Rep w 12 R8z ∧ (∀ b, Pb b → TOK w b) ∧ (w 8 0 = 30 ∧ w 8 1 = 5) ∧ w 1 1 = 0 ∧ w 3 1 = 0 ∧ (w 5 5 = 0 ∧ w 5 6 = -1) ∧ w 0 9 = 0 ∧ w 10 1 = 0 ∧ w 10 2 = 0 ∧ WF R8z
theorem w0z_tok : ∀ b, Pb b → TOK w0z b := by
  unfold Pb TOK
  decide +kernel
/-- the four calls of the class's constructor -/
theorem cw_calls {F : Nat} (hF : 20000 ≤ F) : ∃ w1 w2 w3 w4, f_X0_addText F 1 12 w1z = some w1 ∧ f_X5_isRead F 6 w1 = some (true, w2) ∧ f_X2_copyFrom F 12 48 w2 = some w3 ∧ f_X0_clear F 1 w3 = some w4 ∧ CI w4 ∧ ∀ a, 210 ≤ a → w4 a = w1z a := by
  obtain ⟨w1, a1, a2, a3⟩ := c_addText (F := F) (w := w1z) (by omega) (by decide +kernel)
  have hb3 : ∀ b ∈ [12, 30, 48, 66, 84, 102, 120, 138, 156, 174, 192], 12 ≤ b ∧ b + 18 ≤ 210 ∧ (b = 12 ∨ b + 18 ≤ 12 ∨ 30 ≤ b) ∧ (b = 48 ∨ b + 18 ≤ 48 ∨ 66 ≤ b) := by decide +kernel
  have t1 : ∀ b, Pb b → TOK w1 b := fun b hb => (w0z_tok b hb).of fun a h1 h2 => by
    have h9 := hb3 b hb
    rw [a3 a (by omega) (by omega)]
    funext k
    exact if_neg (fun z => by omega)
  obtain ⟨w2, b1, b2, b3, b4, b5, b6⟩ := fi_read hF a2 (t1 48 P48)
  have t2 : ∀ b, Pb b → TOK w2 b := fun b hb => by
    by_cases c : b = 48
    · rw [c]; exact b2.1.1
    · exact (t1 b hb).of fun a h1 h2 => b4 a (by have := hb3 b hb; omega) (by have := hb3 b hb; omega)
  obtain ⟨w3, c1, c2, c3⟩ := c_copy (F := F) P12 P48 (by decide) b3 b2 (t2 12 P12)
  have t3 : ∀ b, Pb b → TOK w3 b := fun b hb => by
    by_cases c : b = 12
    · rw [c]; exact c2.1.1
    · exact (t2 b hb).of fun a h1 h2 => c3 a (by have := hb3 b hb; omega)
  refine ⟨w1, w2, w3, iset w3 1 1 0, a1, b1, c1, rfl, ⟨c2.of fun a h1 h2 => is_ne (by omega), fun b hb => (t3 b hb).of fun a h1 h2 => is_ne (by have := hb3 b hb; omega), ?_, ?_, ?_, ?_, ?_, ?_, ?_, b3⟩, fun a ha => by rw [is_ne (by omega), c3 a (by omega), b4 a (by omega) (by omega), a3 a (by omega) (by omega)]⟩
  · rw [is_ne (by decide), c3 8 (by omega), b4 8 (by omega) (by omega), a3 8 (by omega) (by omega)]
    decide +kernel
  · rw [is_eq, rs_self]
  · rw [is_ne (by decide), c3 3 (by omega), b4 3 (by omega) (by omega), a3 3 (by omega) (by omega)]
    decide +kernel
  · rw [is_ne (by decide), c3 5 (by omega)]
    exact ⟨b5, b6⟩
  · rw [is_ne (by decide), c3 0 (by omega), b4 0 (by omega) (by omega), a3 0 (by omega) (by omega)]
    decide +kernel
  · rw [is_ne (by decide), c3 10 (by omega), b4 10 (by omega) (by omega), a3 10 (by omega) (by omega)]
    decide +kernel
  · rw [is_ne (by decide), c3 10 (by omega), b4 10 (by omega) (by omega), a3 10 (by omega) (by omega)]
    decide +kernel
/-! ===== the class's constructor ===== -/
theorem XE_cg {ad ad0 adV : Nat → Nat} {A : Nat → Prop} {U : State} {H : Heap} (h : ∀ i, 2000 ≤ i → ad i = ad0 i) (hX : XE ad0 adV A U H) : XE ad adV A U H := by
  obtain ⟨h1, h2, h3⟩ := hX
  refine ⟨fun i hi => ?_, fun q hq => ?_, h3⟩
  · have e1 : ad (sx i) = ad0 (sx i) := h _ (by show 2000 ≤ 2000 + i; omega)
    have e2 : ad (sv i) = ad0 (sv i) := h _ (by show 2000 ≤ 3000 + i; omega)
    rw [e1, e2]
    exact h1 i hi
  · have e1 : ad (sx q.2.2.2) = ad0 (sx q.2.2.2) := h _ (by show 2000 ≤ 2000 + q.2.2.2; omega)
    rw [e1]
    exact h2 q hq
section GR
variable {p : Program} {l : Launch} {e : Env} {R : Room} {s : State} {m : MethodId} {args : Array Value} {below : List Frame} {meth : Method} {c : Code} {H H0 : Heap} {locs : List Loc} {cells slots : Nat} {Q : State → Prop}
variable {D : va_G} {ad adV : Nat → Nat} {aT : Nat → ClassId} {A : Nat → Prop} {w : aW} {X : va_W} {tys : List (ClassId × FieldType)} {own : String} {cc : ByteArray} {nL pc : Nat} {ls : Array Slot} {rest : List Value}
theorem L_getR (hx : LxC p l s m args meth c own cc nL D aT tys ad adV A) {N : Nat} (hL : Lx D ad aT N A s.heap w X H locs) {ci Nc ix b : Nat} {C fn fd : String} {Tt : u_T} (k : Nat) {a : Nat} (fc : fcl ci C Tt Nc) (ha : shK a = 10 + ci) (he : xst N a) (hb : shR a k = b) (hr : (rfB ci)[k]? = some true) (hT : (Tt k).1 = C ∧ (Tt k).2.1 = fn ∧ (Tt k).2.2.1 = fd) (g : Cond.fieldLink own ix C fn fd ∈ Gw) (d : decode cc pc = .ok (.getfield ix, 3))
    (kk : W p l e R s m args below meth c H locs cells slots Q (F0 m (pc + 3) ls (.ref (ad b) :: rest))) : W p l e R s m args below meth c H locs cells slots Q (F0 m pc ls (.ref (ad a) :: rest)) := by
  obtain ⟨q1, q2, q3, q4, q5, q6, q7, q8, q9, q10⟩ := hx
  obtain ⟨t1, t2, t3⟩ := hT
  subst hb
  have hk : k < Nc := by rw [← fc.2.2.2]; exact (List.getElem?_eq_some_iff.mp hr).1
  exact va_get (D := D) (ci := vi ci) (v := .ref (ad (shR a k))) (C := C) (T := Tt) (N := Nc) (ref := C) q1 q2 q5 fc.2.1 q4 q8.1 hL.1.1 (ps a) (by rw [cx_l hL.1.2.2.1 he, cve_obj ha]) fc.1 k hk (by rw [t2, t3]; exact q5 _ g) (fun _ h9 => by rw [t1] at h9; exact h9) (fvv_ref hr) d kk
theorem L_ldcS (hx : LxC p l s m args meth c own cc nL D aT tys ad adV A) {ix : Nat} {tx : String} (i : Nat) (h : (own, ix, tx, i) ∈ xStr) (d : decode cc pc = .ok (.ldc ix, 2)) (kk : W p l e R s m args below meth c H locs cells slots Q (F0 m (pc + 2) ls (.ref (ad (sx i)) :: rest))) : W p l e R s m args below meth c H locs cells slots Q (F0 m pc ls rest) :=
  va_ldcS hx.1 hx.2.1 hx.2.2.2.1 (hx.2.2.2.2.2.2.2.2.1.2.1 _ h) d kk
end GR
def iWs : va_E := .inr (10, iW0)
def CwP (D : va_G) (aT : Nat → ClassId) (ad0 adV : Nat → Nat) (h0 sz : Nat) : Array Value → State → Prop := va_Pc [.ref h0] (fun U => U.heap.size = sz ∧ va_P D vwCl [(h0, iWs)] U.heap ∧ KA D aT U ∧ va_AO "WhistlePosts$Post" U ∧ XE ad0 adV (va_A [(h0, iWs)] sz) U U.heap)
def CwQ (D : va_G) (aT : Nat → ClassId) (ad0 : Nat → Nat) (h0 sz : Nat) : Array Value → State → Outcome → State → Prop := va_Qv (fun u : (Nat → Nat) × aI => u.1 0 = h0 ∧ (∀ i, 223 ≤ i → u.1 i = ad0 i) ∧ CI u.2 ∧ ∀ a, 210 ≤ a → u.2 a = w1z a) (fun u t => va_P D vwCl (conc u.1 aT 210 (cm u.2)) t.heap ∧ va_D (va_A [(h0, iWs)] sz) (conc u.1 aT 210 (cm u.2))) (va_A [(h0, iWs)] sz)
set_option maxHeartbeats 4000000 in
set_option maxRecDepth 100000 in
theorem ct_W (l : Launch) (htr : l.stackTraces = false) (D : va_G) (aT : Nat → ClassId) (ad0 adV : Nat → Nat) (h0 sz : Nat) : Met l yX10_init (.code yX10_init cX10_init 1 none :: Gw) (ctR 10 300 30000) (CwP D aT ad0 adV h0 sz) (CwQ D aT ad0 h0 sz) 300 30000 (va_A [(h0, iWs)] sz) := by
  refine Met.ofW (cc := cX10_init) (maxL := 1) (ret := none) (by decide +kernel) rfl ?_
  intro p e s m args below meth c s₁ B hml hv
  obtain ⟨rfl, hsz, hP, hK, hAO, hX⟩ := hv
  subst hsz
  have hts := atoms_spec (ws := .code yX10_init cX10_init 1 none :: Gw) B.pre
  have hin : meth.name = "<init>" := (name_of_methodNamed B.named B.method).1
  have hl := lv_entry [.ref h0] (n := 1) (Nat.le_of_ble_eq_true rfl)
  rw [lg_entry_eq]
  generalize (lg_sl ([.ref h0]) ++ List.replicate (1 - (lg_sl ([.ref h0])).length) Slot.unset).toArray = ls at hl ⊢
  have hl : lv_has ls 1 [(0, .ref h0)] := hl
  have hA : ∀ q, s.heap.size ≤ q → va_A [(h0, iWs)] s.heap.size q := fun q h => Or.inr h
  have hx : KxC p s m [Value.ref h0].toArray meth c "WhistlePosts" cX10_init 1 D aT (va_A [(h0, iWs)] s.heap.size) := ⟨B.exec, B.bytes, hml, findClass_of_methodNamed B.named, fun w hw => hts w (List.mem_cons_of_mem _ hw), B.notSynchronized, hin, B.returns, hK.1, hA, hAO⟩
  have hS : Sx D (va_A [(h0, iWs)] s.heap.size) s.heap [(h0, .inr (10, iW0))] s.heap [] := by
    refine ⟨hP, ⟨fun i j p q hi hj _ => ?_, fun k q hk => Or.inl ⟨k, q.2, hk⟩⟩, va_S.rf⟩
    have h1 := (List.getElem?_eq_some_iff.mp hi).1
    have h2 := (List.getElem?_eq_some_iff.mp hj).1
    have h3 : i < 1 := h1
    have h4 : j < 1 := h2
    omega
  refine cw_make hx ⟨by decide, by decide, by decide, by decide⟩ hS hl (fun H locs qi ai qo ao c1 c2 c3 qp pa cs tk su sc st sa hS => ?_)
  obtain ⟨ad, ha0, had, hL⟩ := cw_conc ad0 hS
  have hy : LxC p l s m [Value.ref h0].toArray meth c "WhistlePosts" cX10_init 1 D aT [] ad adV (va_A [(h0, iWs)] s.heap.size) := ⟨B.exec, B.bytes, hml, findClass_of_methodNamed B.named, fun w hw => hts w (List.mem_cons_of_mem _ hw), B.notSynchronized, htr, ⟨by rw [List.append_nil]; exact hK.1, hK.2⟩, XE_cg (fun i hi => had i (by omega)) hX, hA⟩
  obtain ⟨w1, w2, w3, w4, f1, f2, f3, f4, hCI⟩ := cw_calls (F := 20000) (Nat.le_refl _)
  have hl : lv_has ls 1 [(0, .ref (ad 0))] := by rw [ha0]; exact hl
  refine lv_aload_n hx.1 hx.2.1 dX10_init_134 rfl (lv_at hl 0 rfl) ?_
  refine L_getR hy hL (a := 0) (b := 1) 0 fc8 (by decide +kernel) (Or.inl (by decide)) (by decide +kernel) rfl ⟨rfl, rfl, rfl⟩ g496 dX10_init_135 ?_
  refine L_ldcS hy (tx := "roof tower 4 2 1 30;roof barn 2 0 2 20;roof mill 3 5 0 9;roof inn 8 1 3 40;way tower barn 4;way barn mill 6;way tower mill 9;way mill inn 3;") 12 (by decide +kernel) dX10_init_138 ?_
  refine L_callV hy (b := 1) [.ref (sx 12)] [] (ev_X0_addText 20000 1 (by decide +kernel) 12 w1z) vm_X0_addText fc0 (by decide +kernel) (Or.inl (by decide)) g260 dX10_init_140 rfl rfl (Nat.le_of_ble_eq_true rfl) ⟨by decide, by decide⟩ ⟨by decide, by decide⟩ hl.1 hL f1 (fun v hv H locs hL => ?_) (fun E hE => absurd hE (by intro h; cases h))
  cases hv
  refine lv_aload_n hx.1 hx.2.1 dX10_init_143 rfl (lv_at hl 0 rfl) ?_
  refine L_getR hy hL (a := 0) (b := 6) 3 fc8 (by decide +kernel) (Or.inl (by decide)) (by decide +kernel) rfl ⟨rfl, rfl, rfl⟩ g499 dX10_init_144 ?_
  refine L_callV hy (b := 6) [] [] (ev_X5_isRead 20000 6 (by decide +kernel) w1) vm_X5_isRead fc5 (by decide +kernel) (Or.inl (by decide)) g316 dX10_init_147 rfl rfl (Nat.le_of_ble_eq_true rfl) ⟨by decide, by decide⟩ ⟨by decide, by decide⟩ hl.1 hL f2 (fun v hv H locs hL => ?_) (fun E hE => absurd hE (by intro h; cases h))
  cases hv
  refine lv_if_eq (tgt := 164) hx.1 hx.2.1 dX10_init_150 (by decide) (fun z => absurd z (show ¬ oI (bI true) = 0 by decide)) (fun _ => ?_)
  refine lv_aload_n hx.1 hx.2.1 dX10_init_153 rfl (lv_at hl 0 rfl) ?_
  refine L_getR hy hL (a := 0) (b := 12) 5 fc8 (by decide +kernel) (Or.inl (by decide)) (by decide +kernel) rfl ⟨rfl, rfl, rfl⟩ g501 dX10_init_154 ?_
  refine lv_aload_n hx.1 hx.2.1 dX10_init_157 rfl (lv_at hl 0 rfl) ?_
  refine L_getR hy hL (a := 0) (b := 48) 7 fc8 (by decide +kernel) (Or.inl (by decide)) (by decide +kernel) rfl ⟨rfl, rfl, rfl⟩ g503 dX10_init_158 ?_
  refine L_callV hy (b := 12) [.ref 48] [] (ev_X2_copyFrom 20000 12 (by decide +kernel) 48 (by decide +kernel) w2) vm_X2_copyFrom fc2 (by decide +kernel) (Or.inl (by decide)) g473 dX10_init_161 rfl rfl (Nat.le_of_ble_eq_true rfl) ⟨by decide, by decide⟩ ⟨by decide, by decide⟩ hl.1 hL f3 (fun v hv H locs hL => ?_) (fun E hE => absurd hE (by intro h; cases h))
  cases hv
  refine lv_aload_n hx.1 hx.2.1 dX10_init_164 rfl (lv_at hl 0 rfl) ?_
  refine L_getR hy hL (a := 0) (b := 1) 0 fc8 (by decide +kernel) (Or.inl (by decide)) (by decide +kernel) rfl ⟨rfl, rfl, rfl⟩ g496 dX10_init_165 ?_
  refine L_callV hy (b := 1) [] [] (ev_X0_clear 20000 1 (by decide +kernel) w3) vm_X0_clear fc0 (by decide +kernel) (Or.inl (by decide)) g492 dX10_init_168 rfl rfl (Nat.le_of_ble_eq_true rfl) ⟨by decide, by decide⟩ ⟨by decide, by decide⟩ hl.1 hL f4 (fun v hv H locs hL => ?_) (fun E hE => absurd hE (by intro h; cases h))
  cases hv
  obtain ⟨⟨hP9, hw9, -, -⟩, hD9, hS9⟩ := hL
  rw [List.append_nil] at hP9 hD9
  exact W.vret hx.1 hx.2.1 hx.2.2.2.2.2.2.2.1 (fun t ht hW => ⟨⟨(ad, w4), rfl, ⟨ha0, had, hCI⟩, by rw [ht]; exact hP9, hD9⟩, hS9.F ht⟩) hS9.2.2 dX10_init_171 (hlocks := B.notSynchronized)
