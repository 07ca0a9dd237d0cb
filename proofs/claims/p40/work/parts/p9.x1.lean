/-! ===== the contract of the law's constructor; what it has made is the law's part of the world ===== -/
def iLs : va_E := .inr (11, iL0)
def LwKP (D : va_G) (aT : Nat → ClassId) (h0 sz : Nat) : Array Value → State → Prop := va_Pc [.ref h0] (fun U => U.heap.size = sz ∧ va_P D vwCl [(h0, iLs)] U.heap ∧ KA D aT U ∧ va_AO "WhistlePosts$Post" U ∧ va_AOA .int U)
def LwKQ (D : va_G) (aT : Nat → ClassId) (h0 sz : Nat) : Array Value → State → Outcome → State → Prop := va_Qv (fun u : (Nat → Nat) × (Nat → Nat) × (Nat → Nat) => u.1 0 = h0) (fun u t => va_P D vwCl (wLw aT u.1 u.2.1 u.2.2) t.heap ∧ va_D (va_A [(h0, iLs)] sz) (wLw aT u.1 u.2.1 u.2.2)) (va_A [(h0, iLs)] sz)
set_option maxHeartbeats 4000000 in
set_option maxRecDepth 100000 in
theorem ct_Lw (l : Launch) (D : va_G) (aT : Nat → ClassId) (h0 sz : Nat) : Met l yL_init (.code yL_init cL_init 1 none :: Gw) (ctR 1 30 450) (LwKP D aT h0 sz) (LwKQ D aT h0 sz) 30 450 (va_A [(h0, iLs)] sz) := by
  refine Met.ofW (cc := cL_init) (maxL := 1) (ret := none) (by decide +kernel) rfl ?_
  intro p e s m args below meth c s₁ B hml hv
  obtain ⟨rfl, hsz, hP, hK, hAO, hAA⟩ := hv
  subst hsz
  have hts := atoms_spec (ws := .code yL_init cL_init 1 none :: Gw) B.pre
  have hin : meth.name = "<init>" := (name_of_methodNamed B.named B.method).1
  have hl := lv_entry [.ref h0] (n := 1) (Nat.le_of_ble_eq_true rfl)
  rw [lg_entry_eq]
  generalize (lg_sl ([.ref h0]) ++ List.replicate (1 - (lg_sl ([.ref h0])).length) Slot.unset).toArray = ls at hl ⊢
  have hl : lv_has ls 1 [(0, .ref h0)] := hl
  have hA : ∀ q, s.heap.size ≤ q → va_A [(h0, iLs)] s.heap.size q := fun q h => Or.inr h
  have hx : KxC p s m [Value.ref h0].toArray meth c RL cL_init 1 D aT (va_A [(h0, iLs)] s.heap.size) := ⟨B.exec, B.bytes, hml, findClass_of_methodNamed B.named, fun w hw => hts w (List.mem_cons_of_mem _ hw), B.notSynchronized, hin, B.returns, hK.1, hA, hAO⟩
  have hS : Sx D (va_A [(h0, iLs)] s.heap.size) s.heap [(h0, .inr (11, iL0))] s.heap [] := by
    refine ⟨hP, ⟨fun i j p q hi hj _ => ?_, fun k q hk => Or.inl ⟨k, q.2, hk⟩⟩, va_S.rf⟩
    have h1 := (List.getElem?_eq_some_iff.mp hi).1
    have h2 := (List.getElem?_eq_some_iff.mp hj).1
    have h3 : i < 1 := h1
    have h4 : j < 1 := h2
    omega
  refine lw_make hx hAA ⟨by decide, by decide, by decide, by decide⟩ hS hl (fun H locs q r6 r7 q0 hS => ?_)
  obtain ⟨hP9, hD9, hS9⟩ := hS
  exact W.vret hx.1 hx.2.1 hx.2.2.2.2.2.2.2.1 (fun t ht hW => ⟨⟨(q, r6, r7), rfl, q0, by rw [ht]; exact hP9, hD9⟩, hS9.F ht⟩) hS9.2.2 dL_init_164 (hlocks := B.notSynchronized)
/-! ===== class's cells and the law's: one world ===== -/
def adW (ad : Nat → Nat) (q r6 r7 : Nat → Nat) : Nat → Nat := fun a => if 300 ≤ a ∧ a < 331 then (if a < 308 then q (a - 300) else if a < 313 then r6 (a - 308) else if a = 313 then q 8 else if a < 319 then r7 (a - 314) else q (a - 310)) else ad a
def wzL (w : aI) : aI := fun a k => if a = 999 ∧ k = 0 then 241 else if 300 ≤ a ∧ a < 331 then 0 else w a k
theorem wzL_z {w : aI} {a : Nat} (h : 300 ≤ a ∧ a < 331) (k : Int) : wzL w a k = 0 := by
  unfold wzL
  rw [if_neg (fun z => by omega), if_pos h]
theorem wzL_o {w : aI} {a : Nat} (h : a < 300) : wzL w a = w a := by
  funext k
  unfold wzL
  rw [if_neg (fun z => by omega), if_neg (fun z => by omega)]
theorem cm_zL {w : aI} {a : Nat} (h : 300 ≤ a ∧ a < 331) : cm (wzL w) a = fun _ => 0 := by
  funext k
  show oI (wzL w a k) = 0
  rw [wzL_z h]
  rfl
theorem adW_o {ad q r6 r7 : Nat → Nat} {a : Nat} (h : ¬ (300 ≤ a ∧ a < 331)) : adW ad q r6 r7 a = ad a := if_neg h
theorem shR_clz : ∀ a, a < 210 → ∀ z ∈ (shT.getD a (9, 0, [])).2.2, z < 300 := by decide +kernel
theorem shK_clz : ∀ a, a < 210 → shK a = 0 ∨ shK a = 3 ∨ 10 ≤ shK a := by decide +kernel
theorem shR_cl {a : Nat} (h : a < 210) (k : Nat) : shR a k < 300 := by
  unfold shR
  rw [List.getD_eq_getElem?_getD]
  cases e : (shT.getD a (9, 0, [])).2.2[k]? with
  | none => show 0 < 300; decide
  | some z => exact shR_clz a h z (List.mem_of_getElem? e)
theorem cve_cl {ad q r6 r7 : Nat → Nat} {aT : Nat → ClassId} {w : aI} {a : Nat} (h : a < 210) : cve (adW ad q r6 r7) aT (cm (wzL w)) a = cve ad aT (cm w) a := by
  have e1 : cm (wzL w) a = cm w a := by
    funext k
    show oI (wzL w a k) = oI (w a k)
    rw [wzL_o (by omega)]
  have e2 : ∀ k, adW ad q r6 r7 (shR a k) = ad (shR a k) := fun k => adW_o (by have := shR_cl h k; omega)
  rcases shK_clz a h with c0 | c3 | c1
  · rw [cve_arr c0 (Or.inl rfl), cve_arr c0 (Or.inl rfl), e1]
  · rw [cve_ref c3, cve_ref c3]
    simp only [e2]
  · have c2 : shK a = 10 + (shK a - 10) := by omega
    rw [cve_obj c2, cve_obj c2, e1]
    unfold fvv
    simp only [e2]
def wLf (aT : Nat → ClassId) (q r6 r7 : Nat → Nat) : va_W := [(q 0, .inr (11, iL q)), (q 1, .inl (aT 0, 5, .inl fun _ => 0)), (q 2, .inl (aT 0, 5, .inl fun _ => 0)), (q 3, .inl (aT 0, 5, .inl fun _ => 0)), (q 4, .inl (aT 0, 5, .inl fun _ => 0)), (q 5, .inl (aT 0, 5, .inl fun _ => 0)), (q 6, .inl (aT 0, 5, .inl fun _ => 0)), (q 7, .inl (aT 2, 5, .inr (.inr (.inr (.inr fun i => if i < 5 then some (r6 i) else none))))), (r6 0, .inl (aT 0, 5, .inl fun _ => 0)), (r6 1, .inl (aT 0, 5, .inl fun _ => 0)), (r6 2, .inl (aT 0, 5, .inl fun _ => 0)), (r6 3, .inl (aT 0, 5, .inl fun _ => 0)), (r6 4, .inl (aT 0, 5, .inl fun _ => 0)), (q 8, .inl (aT 2, 5, .inr (.inr (.inr (.inr fun i => if i < 5 then some (r7 i) else none))))), (r7 0, .inl (aT 0, 5, .inl fun _ => 0)), (r7 1, .inl (aT 0, 5, .inl fun _ => 0)), (r7 2, .inl (aT 0, 5, .inl fun _ => 0)), (r7 3, .inl (aT 0, 5, .inl fun _ => 0)), (r7 4, .inl (aT 0, 5, .inl fun _ => 0)), (q 9, .inl (aT 0, 30, .inl fun _ => 0)), (q 10, .inl (aT 0, 30, .inl fun _ => 0)), (q 11, .inl (aT 0, 30, .inl fun _ => 0)), (q 12, .inl (aT 0, 30, .inl fun _ => 0)), (q 13, .inl (aT 0, 30, .inl fun _ => 0)), (q 14, .inl (aT 0, 30, .inl fun _ => 0)), (q 15, .inl (aT 0, 30, .inl fun _ => 0)), (q 16, .inl (aT 0, 30, .inl fun _ => 0)), (q 17, .inl (aT 0, 30, .inl fun _ => 0)), (q 18, .inl (aT 0, 30, .inl fun _ => 0)), (q 19, .inl (aT 2, 30, .inr (.inr (.inr (.inr fun _ => none))))), (q 20, .inl (aT 2, 30, .inr (.inr (.inr (.inr fun _ => none)))))]
theorem wLw_fl (aT : Nat → ClassId) (q r6 r7 : Nat → Nat) : wLw aT q r6 r7 = wLf aT q r6 r7 := by
  unfold wLw wLf
  have e5 : List.range 5 = [0, 1, 2, 3, 4] := by decide
  simp only [e5, List.map_cons, List.map_nil, List.nil_append, List.append_assoc, List.cons_append]

theorem fvv10 (A : Nat → Nat) (W : Nat → Int32) (S : Nat → Nat) : fvv A W S (rfB 10) = [.ref (A (S 0)), .ref (A (S 1)), .ref (A (S 2)), .ref (A (S 3)), .ref (A (S 4)), .ref (A (S 5)), .ref (A (S 6)), .ref (A (S 7)), .ref (A (S 8)), .ref (A (S 9)), .ref (A (S 10)), .ref (A (S 11)), .ref (A (S 12)), .ref (A (S 13)), .ref (A (S 14)), .ref (A (S 15)), .ref (A (S 16)), .ref (A (S 17)), .ref (A (S 18)), .ref (A (S 19)), .int (W 20), .int (W 21), .int (W 22), .int (W 23), .int (W 24), .int (W 25), .int (W 26), .int (W 27), .int (W 28), .int (W 29), .int (W 30), .int (W 31), .int (W 32), .int (W 33)] := by
  refine List.ext_getElem? fun k => ?_
  by_cases h : k < 34
  · match k, h with
    | 0, _ => exact fvv_ref rfl
    | 1, _ => exact fvv_ref rfl
    | 2, _ => exact fvv_ref rfl
    | 3, _ => exact fvv_ref rfl
    | 4, _ => exact fvv_ref rfl
    | 5, _ => exact fvv_ref rfl
    | 6, _ => exact fvv_ref rfl
    | 7, _ => exact fvv_ref rfl
    | 8, _ => exact fvv_ref rfl
    | 9, _ => exact fvv_ref rfl
    | 10, _ => exact fvv_ref rfl
    | 11, _ => exact fvv_ref rfl
    | 12, _ => exact fvv_ref rfl
    | 13, _ => exact fvv_ref rfl
    | 14, _ => exact fvv_ref rfl
    | 15, _ => exact fvv_ref rfl
    | 16, _ => exact fvv_ref rfl
    | 17, _ => exact fvv_ref rfl
    | 18, _ => exact fvv_ref rfl
    | 19, _ => exact fvv_ref rfl
    | 20, _ => exact fvv_int rfl
    | 21, _ => exact fvv_int rfl
    | 22, _ => exact fvv_int rfl
    | 23, _ => exact fvv_int rfl
    | 24, _ => exact fvv_int rfl
    | 25, _ => exact fvv_int rfl
    | 26, _ => exact fvv_int rfl
    | 27, _ => exact fvv_int rfl
    | 28, _ => exact fvv_int rfl
    | 29, _ => exact fvv_int rfl
    | 30, _ => exact fvv_int rfl
    | 31, _ => exact fvv_int rfl
    | 32, _ => exact fvv_int rfl
    | 33, _ => exact fvv_int rfl
    | k + 34, h => exact absurd h (by omega)
  · rw [List.getElem?_eq_none (by rw [fvv_len]; show 34 ≤ k; omega), List.getElem?_eq_none (by show 34 ≤ k; omega)]
section CWL
variable {ad q r6 r7 : Nat → Nat} {aT : Nat → ClassId} {w : aI} {D : va_G} {H : Heap}
theorem lwc_0 (h : va_P D vwCl (wLf aT q r6 r7) H) : va_at D vwCl (adW ad q r6 r7 300, cve (adW ad q r6 r7) aT (cm (wzL w)) 300) H := by
  have e1 : fvv (adW ad q r6 r7) (cm (wzL w) 300) (shR 300) (rfB 10) = iL q := by
    rw [cm_zL ⟨by decide, by decide⟩, fvv10]
    have s0 : shR 300 0 = 301 := by decide +kernel
    have s1 : shR 300 1 = 302 := by decide +kernel
    have s2 : shR 300 2 = 303 := by decide +kernel
    have s3 : shR 300 3 = 304 := by decide +kernel
    have s4 : shR 300 4 = 305 := by decide +kernel
    have s5 : shR 300 5 = 306 := by decide +kernel
    have s6 : shR 300 6 = 307 := by decide +kernel
    have s7 : shR 300 7 = 313 := by decide +kernel
    have s8 : shR 300 8 = 319 := by decide +kernel
    have s9 : shR 300 9 = 320 := by decide +kernel
    have s10 : shR 300 10 = 321 := by decide +kernel
    have s11 : shR 300 11 = 322 := by decide +kernel
    have s12 : shR 300 12 = 323 := by decide +kernel
    have s13 : shR 300 13 = 324 := by decide +kernel
    have s14 : shR 300 14 = 325 := by decide +kernel
    have s15 : shR 300 15 = 326 := by decide +kernel
    have s16 : shR 300 16 = 327 := by decide +kernel
    have s17 : shR 300 17 = 328 := by decide +kernel
    have s18 : shR 300 18 = 329 := by decide +kernel
    have s19 : shR 300 19 = 330 := by decide +kernel
    rw [s0, s1, s2, s3, s4, s5, s6, s7, s8, s9, s10, s11, s12, s13, s14, s15, s16, s17, s18, s19]
    rfl
  rw [cve_obj (ci := 10) (by decide +kernel), e1]
  exact h 0 (q 0, .inr (11, iL q)) rfl
theorem lwc_1 (h : va_P D vwCl (wLf aT q r6 r7) H) : va_at D vwCl (adW ad q r6 r7 301, cve (adW ad q r6 r7) aT (cm (wzL w)) 301) H := by
  rw [cve_arr (k := shK 301) rfl (by decide +kernel), show shL 301 = 5 by decide +kernel, cm_zL ⟨by decide, by decide⟩]
  exact h 1 (q 1, .inl (aT 0, 5, .inl fun _ => 0)) rfl
theorem lwc_2 (h : va_P D vwCl (wLf aT q r6 r7) H) : va_at D vwCl (adW ad q r6 r7 302, cve (adW ad q r6 r7) aT (cm (wzL w)) 302) H := by
  rw [cve_arr (k := shK 302) rfl (by decide +kernel), show shL 302 = 5 by decide +kernel, cm_zL ⟨by decide, by decide⟩]
  exact h 2 (q 2, .inl (aT 0, 5, .inl fun _ => 0)) rfl
theorem lwc_3 (h : va_P D vwCl (wLf aT q r6 r7) H) : va_at D vwCl (adW ad q r6 r7 303, cve (adW ad q r6 r7) aT (cm (wzL w)) 303) H := by
  rw [cve_arr (k := shK 303) rfl (by decide +kernel), show shL 303 = 5 by decide +kernel, cm_zL ⟨by decide, by decide⟩]
  exact h 3 (q 3, .inl (aT 0, 5, .inl fun _ => 0)) rfl
theorem lwc_4 (h : va_P D vwCl (wLf aT q r6 r7) H) : va_at D vwCl (adW ad q r6 r7 304, cve (adW ad q r6 r7) aT (cm (wzL w)) 304) H := by
  rw [cve_arr (k := shK 304) rfl (by decide +kernel), show shL 304 = 5 by decide +kernel, cm_zL ⟨by decide, by decide⟩]
  exact h 4 (q 4, .inl (aT 0, 5, .inl fun _ => 0)) rfl
theorem lwc_5 (h : va_P D vwCl (wLf aT q r6 r7) H) : va_at D vwCl (adW ad q r6 r7 305, cve (adW ad q r6 r7) aT (cm (wzL w)) 305) H := by
  rw [cve_arr (k := shK 305) rfl (by decide +kernel), show shL 305 = 5 by decide +kernel, cm_zL ⟨by decide, by decide⟩]
  exact h 5 (q 5, .inl (aT 0, 5, .inl fun _ => 0)) rfl
theorem lwc_6 (h : va_P D vwCl (wLf aT q r6 r7) H) : va_at D vwCl (adW ad q r6 r7 306, cve (adW ad q r6 r7) aT (cm (wzL w)) 306) H := by
  rw [cve_arr (k := shK 306) rfl (by decide +kernel), show shL 306 = 5 by decide +kernel, cm_zL ⟨by decide, by decide⟩]
  exact h 6 (q 6, .inl (aT 0, 5, .inl fun _ => 0)) rfl
theorem lwc_7 (h : va_P D vwCl (wLf aT q r6 r7) H) : va_at D vwCl (adW ad q r6 r7 307, cve (adW ad q r6 r7) aT (cm (wzL w)) 307) H := by
  have h9 : H[q 7]? = some (vp_cell (aT 2) (5, .inr (.inr (.inr (.inr fun i => if i < 5 then some (r6 i) else none))))) := h 7 (q 7, .inl (aT 2, 5, .inr (.inr (.inr (.inr fun i => if i < 5 then some (r6 i) else none))))) rfl
  rw [cve_ref4 (by decide +kernel), show shL 307 = 5 by decide +kernel]
  show H[q 7]? = some (vp_cell (aT 2) (5, .inr (.inr (.inr (.inr fun j => some (adW ad q r6 r7 (shR 307 j)))))))
  rw [h9, vp_cell_q, vp_cell_q]
  refine congrArg some (arrV_cg fun j hj => ?_)
  have e : (if j < 5 then some (r6 j) else none) = some (adW ad q r6 r7 (shR 307 j)) := by
    rcases (show j = 0 ∨ j = 1 ∨ j = 2 ∨ j = 3 ∨ j = 4 by omega) with rfl | rfl | rfl | rfl | rfl
    · rw [show shR 307 0 = 308 by decide +kernel]; rfl
    · rw [show shR 307 1 = 309 by decide +kernel]; rfl
    · rw [show shR 307 2 = 310 by decide +kernel]; rfl
    · rw [show shR 307 3 = 311 by decide +kernel]; rfl
    · rw [show shR 307 4 = 312 by decide +kernel]; rfl
  exact congrArg va_rf e
theorem lwc_8 (h : va_P D vwCl (wLf aT q r6 r7) H) : va_at D vwCl (adW ad q r6 r7 308, cve (adW ad q r6 r7) aT (cm (wzL w)) 308) H := by
  rw [cve_arr (k := shK 308) rfl (by decide +kernel), show shL 308 = 5 by decide +kernel, cm_zL ⟨by decide, by decide⟩]
  exact h 8 (r6 0, .inl (aT 0, 5, .inl fun _ => 0)) rfl
theorem lwc_9 (h : va_P D vwCl (wLf aT q r6 r7) H) : va_at D vwCl (adW ad q r6 r7 309, cve (adW ad q r6 r7) aT (cm (wzL w)) 309) H := by
  rw [cve_arr (k := shK 309) rfl (by decide +kernel), show shL 309 = 5 by decide +kernel, cm_zL ⟨by decide, by decide⟩]
  exact h 9 (r6 1, .inl (aT 0, 5, .inl fun _ => 0)) rfl
theorem lwc_10 (h : va_P D vwCl (wLf aT q r6 r7) H) : va_at D vwCl (adW ad q r6 r7 310, cve (adW ad q r6 r7) aT (cm (wzL w)) 310) H := by
  rw [cve_arr (k := shK 310) rfl (by decide +kernel), show shL 310 = 5 by decide +kernel, cm_zL ⟨by decide, by decide⟩]
  exact h 10 (r6 2, .inl (aT 0, 5, .inl fun _ => 0)) rfl
theorem lwc_11 (h : va_P D vwCl (wLf aT q r6 r7) H) : va_at D vwCl (adW ad q r6 r7 311, cve (adW ad q r6 r7) aT (cm (wzL w)) 311) H := by
  rw [cve_arr (k := shK 311) rfl (by decide +kernel), show shL 311 = 5 by decide +kernel, cm_zL ⟨by decide, by decide⟩]
  exact h 11 (r6 3, .inl (aT 0, 5, .inl fun _ => 0)) rfl
theorem lwc_12 (h : va_P D vwCl (wLf aT q r6 r7) H) : va_at D vwCl (adW ad q r6 r7 312, cve (adW ad q r6 r7) aT (cm (wzL w)) 312) H := by
  rw [cve_arr (k := shK 312) rfl (by decide +kernel), show shL 312 = 5 by decide +kernel, cm_zL ⟨by decide, by decide⟩]
  exact h 12 (r6 4, .inl (aT 0, 5, .inl fun _ => 0)) rfl
theorem lwc_13 (h : va_P D vwCl (wLf aT q r6 r7) H) : va_at D vwCl (adW ad q r6 r7 313, cve (adW ad q r6 r7) aT (cm (wzL w)) 313) H := by
  have h9 : H[q 8]? = some (vp_cell (aT 2) (5, .inr (.inr (.inr (.inr fun i => if i < 5 then some (r7 i) else none))))) := h 13 (q 8, .inl (aT 2, 5, .inr (.inr (.inr (.inr fun i => if i < 5 then some (r7 i) else none))))) rfl
  rw [cve_ref4 (by decide +kernel), show shL 313 = 5 by decide +kernel]
  show H[q 8]? = some (vp_cell (aT 2) (5, .inr (.inr (.inr (.inr fun j => some (adW ad q r6 r7 (shR 313 j)))))))
  rw [h9, vp_cell_q, vp_cell_q]
  refine congrArg some (arrV_cg fun j hj => ?_)
  have e : (if j < 5 then some (r7 j) else none) = some (adW ad q r6 r7 (shR 313 j)) := by
    rcases (show j = 0 ∨ j = 1 ∨ j = 2 ∨ j = 3 ∨ j = 4 by omega) with rfl | rfl | rfl | rfl | rfl
    · rw [show shR 313 0 = 314 by decide +kernel]; rfl
    · rw [show shR 313 1 = 315 by decide +kernel]; rfl
    · rw [show shR 313 2 = 316 by decide +kernel]; rfl
    · rw [show shR 313 3 = 317 by decide +kernel]; rfl
    · rw [show shR 313 4 = 318 by decide +kernel]; rfl
  exact congrArg va_rf e
theorem lwc_14 (h : va_P D vwCl (wLf aT q r6 r7) H) : va_at D vwCl (adW ad q r6 r7 314, cve (adW ad q r6 r7) aT (cm (wzL w)) 314) H := by
  rw [cve_arr (k := shK 314) rfl (by decide +kernel), show shL 314 = 5 by decide +kernel, cm_zL ⟨by decide, by decide⟩]
  exact h 14 (r7 0, .inl (aT 0, 5, .inl fun _ => 0)) rfl
theorem lwc_15 (h : va_P D vwCl (wLf aT q r6 r7) H) : va_at D vwCl (adW ad q r6 r7 315, cve (adW ad q r6 r7) aT (cm (wzL w)) 315) H := by
  rw [cve_arr (k := shK 315) rfl (by decide +kernel), show shL 315 = 5 by decide +kernel, cm_zL ⟨by decide, by decide⟩]
  exact h 15 (r7 1, .inl (aT 0, 5, .inl fun _ => 0)) rfl
theorem lwc_16 (h : va_P D vwCl (wLf aT q r6 r7) H) : va_at D vwCl (adW ad q r6 r7 316, cve (adW ad q r6 r7) aT (cm (wzL w)) 316) H := by
  rw [cve_arr (k := shK 316) rfl (by decide +kernel), show shL 316 = 5 by decide +kernel, cm_zL ⟨by decide, by decide⟩]
  exact h 16 (r7 2, .inl (aT 0, 5, .inl fun _ => 0)) rfl
theorem lwc_17 (h : va_P D vwCl (wLf aT q r6 r7) H) : va_at D vwCl (adW ad q r6 r7 317, cve (adW ad q r6 r7) aT (cm (wzL w)) 317) H := by
  rw [cve_arr (k := shK 317) rfl (by decide +kernel), show shL 317 = 5 by decide +kernel, cm_zL ⟨by decide, by decide⟩]
  exact h 17 (r7 3, .inl (aT 0, 5, .inl fun _ => 0)) rfl
theorem lwc_18 (h : va_P D vwCl (wLf aT q r6 r7) H) : va_at D vwCl (adW ad q r6 r7 318, cve (adW ad q r6 r7) aT (cm (wzL w)) 318) H := by
  rw [cve_arr (k := shK 318) rfl (by decide +kernel), show shL 318 = 5 by decide +kernel, cm_zL ⟨by decide, by decide⟩]
  exact h 18 (r7 4, .inl (aT 0, 5, .inl fun _ => 0)) rfl
theorem lwc_19 (h : va_P D vwCl (wLf aT q r6 r7) H) : va_at D vwCl (adW ad q r6 r7 319, cve (adW ad q r6 r7) aT (cm (wzL w)) 319) H := by
  rw [cve_arr (k := shK 319) rfl (by decide +kernel), show shL 319 = 30 by decide +kernel, cm_zL ⟨by decide, by decide⟩]
  exact h 19 (q 9, .inl (aT 0, 30, .inl fun _ => 0)) rfl
theorem lwc_20 (h : va_P D vwCl (wLf aT q r6 r7) H) : va_at D vwCl (adW ad q r6 r7 320, cve (adW ad q r6 r7) aT (cm (wzL w)) 320) H := by
  rw [cve_arr (k := shK 320) rfl (by decide +kernel), show shL 320 = 30 by decide +kernel, cm_zL ⟨by decide, by decide⟩]
  exact h 20 (q 10, .inl (aT 0, 30, .inl fun _ => 0)) rfl
theorem lwc_21 (h : va_P D vwCl (wLf aT q r6 r7) H) : va_at D vwCl (adW ad q r6 r7 321, cve (adW ad q r6 r7) aT (cm (wzL w)) 321) H := by
  rw [cve_arr (k := shK 321) rfl (by decide +kernel), show shL 321 = 30 by decide +kernel, cm_zL ⟨by decide, by decide⟩]
  exact h 21 (q 11, .inl (aT 0, 30, .inl fun _ => 0)) rfl
theorem lwc_22 (h : va_P D vwCl (wLf aT q r6 r7) H) : va_at D vwCl (adW ad q r6 r7 322, cve (adW ad q r6 r7) aT (cm (wzL w)) 322) H := by
  rw [cve_arr (k := shK 322) rfl (by decide +kernel), show shL 322 = 30 by decide +kernel, cm_zL ⟨by decide, by decide⟩]
  exact h 22 (q 12, .inl (aT 0, 30, .inl fun _ => 0)) rfl
theorem lwc_23 (h : va_P D vwCl (wLf aT q r6 r7) H) : va_at D vwCl (adW ad q r6 r7 323, cve (adW ad q r6 r7) aT (cm (wzL w)) 323) H := by
  rw [cve_arr (k := shK 323) rfl (by decide +kernel), show shL 323 = 30 by decide +kernel, cm_zL ⟨by decide, by decide⟩]
  exact h 23 (q 13, .inl (aT 0, 30, .inl fun _ => 0)) rfl
theorem lwc_24 (h : va_P D vwCl (wLf aT q r6 r7) H) : va_at D vwCl (adW ad q r6 r7 324, cve (adW ad q r6 r7) aT (cm (wzL w)) 324) H := by
  rw [cve_arr (k := shK 324) rfl (by decide +kernel), show shL 324 = 30 by decide +kernel, cm_zL ⟨by decide, by decide⟩]
  exact h 24 (q 14, .inl (aT 0, 30, .inl fun _ => 0)) rfl
theorem lwc_25 (h : va_P D vwCl (wLf aT q r6 r7) H) : va_at D vwCl (adW ad q r6 r7 325, cve (adW ad q r6 r7) aT (cm (wzL w)) 325) H := by
  rw [cve_arr (k := shK 325) rfl (by decide +kernel), show shL 325 = 30 by decide +kernel, cm_zL ⟨by decide, by decide⟩]
  exact h 25 (q 15, .inl (aT 0, 30, .inl fun _ => 0)) rfl
theorem lwc_26 (h : va_P D vwCl (wLf aT q r6 r7) H) : va_at D vwCl (adW ad q r6 r7 326, cve (adW ad q r6 r7) aT (cm (wzL w)) 326) H := by
  rw [cve_arr (k := shK 326) rfl (by decide +kernel), show shL 326 = 30 by decide +kernel, cm_zL ⟨by decide, by decide⟩]
  exact h 26 (q 16, .inl (aT 0, 30, .inl fun _ => 0)) rfl
theorem lwc_27 (h : va_P D vwCl (wLf aT q r6 r7) H) : va_at D vwCl (adW ad q r6 r7 327, cve (adW ad q r6 r7) aT (cm (wzL w)) 327) H := by
  rw [cve_arr (k := shK 327) rfl (by decide +kernel), show shL 327 = 30 by decide +kernel, cm_zL ⟨by decide, by decide⟩]
  exact h 27 (q 17, .inl (aT 0, 30, .inl fun _ => 0)) rfl
theorem lwc_28 (h : va_P D vwCl (wLf aT q r6 r7) H) : va_at D vwCl (adW ad q r6 r7 328, cve (adW ad q r6 r7) aT (cm (wzL w)) 328) H := by
  rw [cve_arr (k := shK 328) rfl (by decide +kernel), show shL 328 = 30 by decide +kernel, cm_zL ⟨by decide, by decide⟩]
  exact h 28 (q 18, .inl (aT 0, 30, .inl fun _ => 0)) rfl
theorem lwc_29 (h : va_P D vwCl (wLf aT q r6 r7) H) : va_at D vwCl (adW ad q r6 r7 329, cve (adW ad q r6 r7) aT (cm (wzL w)) 329) H := by
  have h9 : H[q 19]? = some (vp_cell (aT 2) (30, .inr (.inr (.inr (.inr fun _ => none))))) := h 29 (q 19, .inl (aT 2, 30, .inr (.inr (.inr (.inr fun _ => none))))) rfl
  rw [cve_ref5 (by decide +kernel), show shL 329 = 30 by decide +kernel, cm_zL ⟨by decide, by decide⟩]
  show H[q 19]? = some (vp_cell (aT 2) (30, .inr (.inr (.inr (.inr (r5 (adW ad q r6 r7) fun _ => 0))))))
  rw [h9, vp_cell_q, vp_cell_q]
  refine congrArg some (arrV_cg fun j hj => ?_)
  have e : (none : Option Nat) = r5 (adW ad q r6 r7) (fun _ => 0) j := (if_pos (Or.inl rfl)).symm
  exact congrArg va_rf e
theorem lwc_30 (h : va_P D vwCl (wLf aT q r6 r7) H) : va_at D vwCl (adW ad q r6 r7 330, cve (adW ad q r6 r7) aT (cm (wzL w)) 330) H := by
  have h9 : H[q 20]? = some (vp_cell (aT 2) (30, .inr (.inr (.inr (.inr fun _ => none))))) := h 30 (q 20, .inl (aT 2, 30, .inr (.inr (.inr (.inr fun _ => none))))) rfl
  rw [cve_ref5 (by decide +kernel), show shL 330 = 30 by decide +kernel, cm_zL ⟨by decide, by decide⟩]
  show H[q 20]? = some (vp_cell (aT 2) (30, .inr (.inr (.inr (.inr (r5 (adW ad q r6 r7) fun _ => 0))))))
  rw [h9, vp_cell_q, vp_cell_q]
  refine congrArg some (arrV_cg fun j hj => ?_)
  have e : (none : Option Nat) = r5 (adW ad q r6 r7) (fun _ => 0) j := (if_pos (Or.inl rfl)).symm
  exact congrArg va_rf e
theorem lwc_all (h : va_P D vwCl (wLf aT q r6 r7) H) : ∀ j, j < 31 → va_at D vwCl (adW ad q r6 r7 (300 + j), cve (adW ad q r6 r7) aT (cm (wzL w)) (300 + j)) H := by
  intro j hj
  match j, hj with
  | 0, _ => exact lwc_0 h
  | 1, _ => exact lwc_1 h
  | 2, _ => exact lwc_2 h
  | 3, _ => exact lwc_3 h
  | 4, _ => exact lwc_4 h
  | 5, _ => exact lwc_5 h
  | 6, _ => exact lwc_6 h
  | 7, _ => exact lwc_7 h
  | 8, _ => exact lwc_8 h
  | 9, _ => exact lwc_9 h
  | 10, _ => exact lwc_10 h
  | 11, _ => exact lwc_11 h
  | 12, _ => exact lwc_12 h
  | 13, _ => exact lwc_13 h
  | 14, _ => exact lwc_14 h
  | 15, _ => exact lwc_15 h
  | 16, _ => exact lwc_16 h
  | 17, _ => exact lwc_17 h
  | 18, _ => exact lwc_18 h
  | 19, _ => exact lwc_19 h
  | 20, _ => exact lwc_20 h
  | 21, _ => exact lwc_21 h
  | 22, _ => exact lwc_22 h
  | 23, _ => exact lwc_23 h
  | 24, _ => exact lwc_24 h
  | 25, _ => exact lwc_25 h
  | 26, _ => exact lwc_26 h
  | 27, _ => exact lwc_27 h
  | 28, _ => exact lwc_28 h
  | 29, _ => exact lwc_29 h
  | 30, _ => exact lwc_30 h
  | j + 31, hj => exact absurd hj (by omega)
theorem lw_fst : (List.range 31).map (fun j => adW ad q r6 r7 (300 + j)) = (wLf aT q r6 r7).map (fun q => q.1) := rfl
set_option maxRecDepth 100000 in
theorem lw_conc {A : Nat → Prop} {H0 : Heap} {locs : List Loc} (hS : Sx D A H0 (conc ad aT 210 (cm w) ++ wLw aT q r6 r7) H locs) : Lx D (adW ad q r6 r7) aT 241 A H0 (cm (wzL w)) [] H locs := by
  rw [wLw_fl] at hS
  obtain ⟨hP, hD, hSS⟩ := hS
  have hPl : va_P D vwCl (wLf aT q r6 r7) H := fun k x hk => hP (210 + k) x (by rw [List.getElem?_append_right (by rw [conc_len]; omega), conc_len, Nat.add_sub_cancel_left]; exact hk)
  have e0 : ∀ k, k < 210 → adW ad q r6 r7 (cn k) = ad (cn k) := fun k h => adW_o (by unfold cn; rw [if_pos h]; omega)
  refine ⟨⟨fun k x hk => ?_, rfl, by decide, by decide⟩, va_D_fst hD ?_, hSS⟩
  · rw [List.append_nil] at hk
    obtain ⟨k1, rfl⟩ := conc_of hk
    by_cases c : k < 210
    · have e1 : cn k = k := if_pos c
      have h1 := hP k (ad (cn k), cve ad aT (cm w) (cn k)) (by
        rw [List.getElem?_append_left (by rw [conc_len]; exact c), conc, List.getElem?_map, List.getElem?_range c]
        rfl)
      rw [e0 k c, e1, cve_cl c]
      rw [e1] at h1
      exact h1
    · have e1 : cn k = 300 + (k - 210) := by unfold cn; rw [if_neg c]; omega
      rw [e1]
      exact lwc_all hPl (k - 210) (by omega)
  · have e1 : List.range 241 = List.range 210 ++ (List.range 31).map (fun j => 210 + j) := by decide +kernel
    rw [List.append_nil, List.map_append, conc, conc, List.map_map, List.map_map, e1, List.map_append, List.map_map, ← lw_fst (ad := ad) (aT := aT)]
    congr 1
end CWL
