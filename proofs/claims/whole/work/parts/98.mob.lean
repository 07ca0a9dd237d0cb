/-! ===== the reference's constructor: its roofs and ways ===== -/
section MoB
variable {p : Program} {l : Launch} {e : Env} {R : Room} {s : State} {m : MethodId} {args : Array Value} {below : List Frame} {meth : Method} {c : Code} {Q : State → Prop} {cells slots : Nat}
variable {D : va_G} {ad adV : Nat → Nat} {aT : Nat → ClassId} {A : Nat → Prop} {X : va_W}
set_option maxHeartbeats 4000000 in
set_option maxRecDepth 100000 in
theorem mo_inner (hx : LxC p l s m args meth c "WhistlePostsModel" cX11_init 5 D aT [] ad adV A) (hR : 10 ≤ R.frames ∧ 390 ≤ R.locals) (hj : cells ≤ R.cells ∧ slots ≤ R.slots) {q : Nat} (fr len : Nat) (hfl : fr + len < 20) (hlen : len ≤ 6) (hch : ∀ k, k < len → ¬ (xB 33).getD (fr + k) 0 = 32) (hsp : (xB 33).getD (fr + len) 0 = 32) :
    ∀ (n k : Nat), k + n = len → ∀ (v : aI) (H : Heap) (locs : List Loc) (ls : Array Slot), Lx D ad aT A s.heap (cm v) X H locs → v 210 8 = (k : Int) → (∀ j : Nat, j < k → v 215 (j : Int) = ((xB 33).getD (fr + j) 0).toInt) → lv_has ls 5 [(3, .int (oI (fr : Int))), (2, .ref q), (1, .ref (ad (sx 33))), (0, .ref (ad 210))] →
    (∀ (v' : aI) (H' : Heap) (locs' : List Loc), Lx D ad aT A s.heap (cm v') X H' locs' → v' 210 8 = (len : Int) → (∀ j : Nat, j < len → v' 215 (j : Int) = ((xB 33).getD (fr + j) 0).toInt) → (∀ a, ¬ a = 210 → ¬ a = 215 → v' a = v a) → (∀ i, ¬ i = 8 → v' 210 i = v 210 i) → W p l e R s m args below meth c H' locs' cells slots Q (F0 m 265 ls [])) →
    W p l e R s m args below meth c H locs cells slots Q (F0 m 218 ls []) := by
  have hx9 : (xB 33).length = 20 := by decide +kernel
  intro n
  induction n with
  | zero =>
    intro k hk v H locs ls hL h8 hlt hl kk
    obtain rfl : k = len := by omega
    refine lv_aload_n hx.1 hx.2.1 dX11_init_218 rfl (lv_at hl 2 rfl) ?_
    refine lv_iload_n hx.1 hx.2.1 dX11_init_219 rfl (lv_at hl 0 rfl) ?_
    refine lv_aload_n hx.1 hx.2.1 dX11_init_220 rfl (lv_at hl 3 rfl) ?_
    refine L_getI hx hL 8 8 rfl fc9 (by decide +kernel) rfl ⟨rfl, rfl, rfl⟩ g1340 dX11_init_221 ?_
    refine lv_iadd hx.1 hx.2.1 dX11_init_224 ?_
    refine L_strchr hx hL (i := 33) (k := fr + k) (by decide) (by rw [h8, oI_add]; rfl) (by omega) g1317 dX11_init_225 (Nat.le_of_ble_eq_true rfl) ⟨by omega, by omega⟩ hj hl.1 (fun H locs hL => ?_)
    refine lv_bipush (v := 32) hx.1 hx.2.1 dX11_init_228 (by decide) ?_
    refine lv_icmp_eq (tgt := 265) hx.1 hx.2.1 dX11_init_230 (by decide) (fun _ => ?_) (fun z => absurd (by rw [oI_of]; exact hsp) z)
    exact kk v H locs hL h8 hlt (fun _ _ _ => rfl) (fun _ _ => rfl)
  | succ n ih =>
    intro k hk v H locs ls hL h8 hlt hl kk
    refine lv_aload_n hx.1 hx.2.1 dX11_init_218 rfl (lv_at hl 2 rfl) ?_
    refine lv_iload_n hx.1 hx.2.1 dX11_init_219 rfl (lv_at hl 0 rfl) ?_
    refine lv_aload_n hx.1 hx.2.1 dX11_init_220 rfl (lv_at hl 3 rfl) ?_
    refine L_getI hx hL 8 8 rfl fc9 (by decide +kernel) rfl ⟨rfl, rfl, rfl⟩ g1340 dX11_init_221 ?_
    refine lv_iadd hx.1 hx.2.1 dX11_init_224 ?_
    refine L_strchr hx hL (i := 33) (k := fr + k) (by decide) (by rw [h8, oI_add]; rfl) (by omega) g1317 dX11_init_225 (Nat.le_of_ble_eq_true rfl) ⟨by omega, by omega⟩ hj hl.1 (fun H locs hL => ?_)
    refine lv_bipush (v := 32) hx.1 hx.2.1 dX11_init_228 (by decide) ?_
    refine lv_icmp_eq (tgt := 265) hx.1 hx.2.1 dX11_init_230 (by decide) (fun z => absurd (by rw [oI_of] at z; exact z) (hch k (by omega))) (fun _ => ?_)
    refine lv_aload_n hx.1 hx.2.1 dX11_init_233 rfl (lv_at hl 3 rfl) ?_
    refine L_getR hx hL (b := 215) 7 fc9 (by decide +kernel) (by decide +kernel) rfl ⟨rfl, rfl, rfl⟩ g1339 dX11_init_234 ?_
    refine lv_aload_n hx.1 hx.2.1 dX11_init_237 rfl (lv_at hl 3 rfl) ?_
    refine L_getI hx hL 8 8 rfl fc9 (by decide +kernel) rfl ⟨rfl, rfl, rfl⟩ g1340 dX11_init_238 ?_
    refine lv_aload_n hx.1 hx.2.1 dX11_init_241 rfl (lv_at hl 2 rfl) ?_
    refine lv_iload_n hx.1 hx.2.1 dX11_init_242 rfl (lv_at hl 0 rfl) ?_
    refine lv_aload_n hx.1 hx.2.1 dX11_init_243 rfl (lv_at hl 3 rfl) ?_
    refine L_getI hx hL 8 8 rfl fc9 (by decide +kernel) rfl ⟨rfl, rfl, rfl⟩ g1340 dX11_init_244 ?_
    refine lv_iadd hx.1 hx.2.1 dX11_init_247 ?_
    refine L_strchr hx hL (i := 33) (k := fr + k) (by decide) (by rw [h8, oI_add]; rfl) (by omega) g1317 dX11_init_248 (Nat.le_of_ble_eq_true rfl) ⟨by omega, by omega⟩ hj hl.1 (fun H locs hL => ?_)
    refine L_iast hx hL (a := 215) (by decide +kernel) ⟨by omega, by rw [show shL 215 = 6 by decide +kernel]; omega⟩ dX11_init_251 (fun H locs hL => ?_)
    obtain ⟨v1, e1⟩ : ∃ v1, v1 = iset v 215 (v 210 8) ((xB 33).getD (fr + k) 0).toInt := ⟨_, rfl⟩
    rw [← e1] at hL
    have h81 : v1 210 8 = (k : Int) := by rw [e1, is_ne (by decide)]; exact h8
    refine lv_aload_n hx.1 hx.2.1 dX11_init_252 rfl (lv_at hl 3 rfl) ?_
    refine lv_dup hx.1 hx.2.1 dX11_init_253 rfl ?_
    refine L_getI hx hL 8 8 rfl fc9 (by decide +kernel) rfl ⟨rfl, rfl, rfl⟩ g1340 dX11_init_254 ?_
    refine lv_iconst (v := oI 1) hx.1 hx.2.1 dX11_init_257 (by decide) ?_
    refine lv_iadd hx.1 hx.2.1 dX11_init_258 ?_
    rw [oI_add]
    refine L_put hx hL 8 8 rfl .int tyX11 fc9 tyX11_ok (by decide +kernel) rfl ⟨rfl, rfl, rfl, rfl, by decide +kernel⟩ rfl rfl g1340 dX11_init_259 (fun H locs hL => ?_)
    refine lv_goto (tgt := 218) hx.1 hx.2.1 dX11_init_262 (by decide) ?_
    refine ih (k + 1) (by omega) (iset v1 210 8 (v1 210 8 + 1)) H locs ls hL (by rw [is_eq, rs_self, h81]; omega) (fun j hj => ?_) hl (fun v' H' locs' g1 g2 g3 g4 g5 => kk v' H' locs' g1 g2 g3 (fun a a1 a2 => ?_) (fun i hi => ?_))
    · rw [is_ne (by decide), e1, is_eq, h8]
      by_cases cj : j = k
      · rw [cj, rs_self]
      · rw [rs_ne (by omega)]
        exact hlt j (by omega)
    · rw [g4 a a1 a2, is_ne a1, e1, is_ne a2]
    · rw [g5 i hi, is_eq, rs_ne hi, e1, is_ne (by decide)]
set_option maxHeartbeats 4000000 in
set_option maxRecDepth 100000 in
/-- one roof -/
theorem mo_word (hx : LxC p l s m args meth c "WhistlePostsModel" cX11_init 5 D aT [] ad adV A) (hR : 10 ≤ R.frames ∧ 390 ≤ R.locals) (hj : cells ≤ R.cells ∧ slots ≤ R.slots) {q : Nat} {f16 : Nat → Int32} (fr len : Nat) (hfl : fr + len < 20) (hlen : 1 ≤ len ∧ len ≤ 6) (hch : ∀ k, k < len → ¬ (xB 33).getD (fr + k) 0 = 32) (hsp : (xB 33).getD (fr + len) 0 = 32) (h20 : ¬ (20 : Int32) ≤ oI (fr : Int))
    {r : Row} (hr : 0 ≤ r 0 ∧ r 0 < 10) {ib : Int32} (hib : oI 4 * oI (r 0) = ib) {br ea fe pu : Int} (u0 : ¬ (ib < 0 ∨ 16 ≤ ib.toNatClampNeg) ∧ f16 ib.toNatClampNeg = oI br) (u1 : ¬ (ib + 1 < 0 ∨ 16 ≤ (ib + 1).toNatClampNeg) ∧ f16 (ib + 1).toNatClampNeg = oI ea) (u2 : ¬ (ib + 2 < 0 ∨ 16 ≤ (ib + 2).toNatClampNeg) ∧ f16 (ib + 2).toNatClampNeg = oI fe) (u3 : ¬ (ib + 3 < 0 ∨ 16 ≤ (ib + 3).toNatClampNeg) ∧ f16 (ib + 3).toNatClampNeg = oI pu)
    {f : Int → Int} (hf : ∀ j : Nat, j < len → ((xB 33).getD (fr + j) 0).toInt = f (j : Int)) {v : aI} {H : Heap} {locs : List Loc} {ls : Array Slot} (hL : Lx D ad aT A s.heap (cm v) [(q, .inl (aT 0, 16, .inl f16))] H locs) (h211 : v 211 = r) (hl : lv_has ls 5 [(3, .int (oI (fr : Int))), (2, .ref q), (1, .ref (ad (sx 33))), (0, .ref (ad 210))])
    (kk : ∀ (v' : aI) (H' : Heap) (locs' : List Loc) (ls' : Array Slot), Lx D ad aT A s.heap (cm v') [(q, .inl (aT 0, 16, .inl f16))] H' locs' → v' 211 = roofA r (len : Int) f br ea fe pu → (∀ a, ¬ a = 210 → ¬ a = 211 → ¬ a = 215 → v' a = v a) → (∀ i, ¬ i = 8 → v' 210 i = v 210 i) → lv_has ls' 5 [(3, .int (oI ((fr + len + 1 : Nat) : Int))), (2, .ref q), (1, .ref (ad (sx 33))), (0, .ref (ad 210))] → W p l e R s m args below meth c H' locs' cells slots Q (F0 m 205 ls' [])) :
    W p l e R s m args below meth c H locs cells slots Q (F0 m 205 ls []) := by
  refine lv_iload_n hx.1 hx.2.1 dX11_init_205 rfl (lv_at hl 0 rfl) ?_
  refine lv_aload_n hx.1 hx.2.1 dX11_init_206 rfl (lv_at hl 2 rfl) ?_
  refine L_strlen hx hL (i := 33) (by decide) g1316 dX11_init_207 (Nat.le_of_ble_eq_true rfl) ⟨by omega, by omega⟩ hj hl.1 (n := 20) (by decide +kernel) (fun H locs hL => ?_)
  refine lv_icmp_ge (tgt := 313) hx.1 hx.2.1 dX11_init_210 (by decide) (fun z => absurd z h20) (fun _ => ?_)
  refine lv_aload_n hx.1 hx.2.1 dX11_init_213 rfl (lv_at hl 3 rfl) ?_
  refine lv_iconst (v := oI 0) hx.1 hx.2.1 dX11_init_214 (by decide) ?_
  refine L_put hx hL 8 8 rfl .int tyX11 fc9 tyX11_ok (by decide +kernel) rfl ⟨rfl, rfl, rfl, rfl, by decide +kernel⟩ rfl rfl g1340 dX11_init_215 (fun H locs hL => ?_)
  refine mo_inner hx hR hj fr len hfl hlen.2 hch hsp len 0 (by omega) (iset v 210 8 0) H locs ls hL (by rw [is_eq, rs_self]; rfl) (fun j hj9 => absurd hj9 (Nat.not_lt_zero j)) hl (fun v2 H locs hL h8 hw ho hi => ?_)
  have k211 : v2 211 = r := by rw [ho 211 (by decide) (by decide), is_ne (by decide)]; exact h211
  refine lv_iconst (v := oI 4) hx.1 hx.2.1 dX11_init_265 (by decide) ?_
  refine lv_aload_n hx.1 hx.2.1 dX11_init_266 rfl (lv_at hl 3 rfl) ?_
  refine L_getR hx hL (b := 211) 0 fc9 (by decide +kernel) (by decide +kernel) rfl ⟨rfl, rfl, rfl⟩ g1332 dX11_init_267 ?_
  refine lv_iconst (v := oI 0) hx.1 hx.2.1 dX11_init_270 (by decide) ?_
  refine L_iald hx hL (a := 211) (by decide +kernel) ⟨by decide, by rw [show shL 211 = 1030 by decide +kernel]; decide⟩ dX11_init_271 ?_
  refine lv_imul hx.1 hx.2.1 dX11_init_272 ?_
  rw [k211, hib]
  refine lv_istore (lv' := [(4, .int ib), (3, .int (oI (fr : Int))), (2, .ref q), (1, .ref (ad (sx 33))), (0, .ref (ad 210))]) hx.1 hx.2.1 dX11_init_273 hl (by decide) rfl (fun ls hl => ?_)
  refine lv_aload_n hx.1 hx.2.1 dX11_init_275 rfl (lv_at hl 4 rfl) ?_
  refine lv_aload_n hx.1 hx.2.1 dX11_init_276 rfl (lv_at hl 2 rfl) ?_
  refine lv_iload hx.1 hx.2.1 dX11_init_277 (lv_at hl 0 rfl) ?_
  refine L_ialdX hx hL u0.1 dX11_init_279 ?_
  refine lv_aload_n hx.1 hx.2.1 dX11_init_280 rfl (lv_at hl 2 rfl) ?_
  refine lv_iload hx.1 hx.2.1 dX11_init_281 (lv_at hl 0 rfl) ?_
  refine lv_iconst (v := 1) hx.1 hx.2.1 dX11_init_283 (by decide) ?_
  refine lv_iadd hx.1 hx.2.1 dX11_init_284 ?_
  refine L_ialdX hx hL u1.1 dX11_init_285 ?_
  refine lv_aload_n hx.1 hx.2.1 dX11_init_286 rfl (lv_at hl 2 rfl) ?_
  refine lv_iload hx.1 hx.2.1 dX11_init_287 (lv_at hl 0 rfl) ?_
  refine lv_iconst (v := 2) hx.1 hx.2.1 dX11_init_289 (by decide) ?_
  refine lv_iadd hx.1 hx.2.1 dX11_init_290 ?_
  refine L_ialdX hx hL u2.1 dX11_init_291 ?_
  refine lv_aload_n hx.1 hx.2.1 dX11_init_292 rfl (lv_at hl 2 rfl) ?_
  refine lv_iload hx.1 hx.2.1 dX11_init_293 (lv_at hl 0 rfl) ?_
  refine lv_iconst (v := 3) hx.1 hx.2.1 dX11_init_295 (by decide) ?_
  refine lv_iadd hx.1 hx.2.1 dX11_init_296 ?_
  refine L_ialdX hx hL u3.1 dX11_init_297 ?_
  have hn := m_newRoof (F := 20000) (v := v2) (r := r) (l := (len : Int)) (f := f) (br := br) (ea := ea) (fe := fe) (pu := pu) (by omega) k211 hr (by omega) h8 (fun k k0 k1 => by
    obtain ⟨j, rfl⟩ : ∃ j : Nat, k = (j : Int) := ⟨k.toNat, by omega⟩
    rw [hw j (by omega), hf j (by omega)])
  refine L_callV hx (b := 210) [.int (oI br), .int (oI ea), .int (oI fe), .int (oI pu)] [] (ev_X11_newRoof 20000 210 (by decide +kernel) br ea fe pu v2) vm_X11_newRoof fc9 (by decide +kernel) g1318 dX11_init_298 (by rw [u0.2, u1.2, u2.2, u3.2]; rfl) rfl (Nat.le_of_ble_eq_true rfl) ⟨by omega, by omega⟩ hj hl.1 hL hn (fun w9 hv H locs hL => ?_) (fun E hE => absurd hE (by intro h; cases h))
  cases hv
  have hL : Lx D ad aT A s.heap (cm (stc v2 211 (roofA r (len : Int) f br ea fe pu))) [(q, .inl (aT 0, 16, .inl f16))] H locs := hL
  refine lv_iload_n hx.1 hx.2.1 dX11_init_301 rfl (lv_at hl 1 rfl) ?_
  refine lv_aload_n hx.1 hx.2.1 dX11_init_302 rfl (lv_at hl 4 rfl) ?_
  refine L_getI hx hL 8 8 rfl fc9 (by decide +kernel) rfl ⟨rfl, rfl, rfl⟩ g1340 dX11_init_303 ?_
  refine lv_iconst (v := oI 1) hx.1 hx.2.1 dX11_init_306 (by decide) ?_
  refine lv_iadd hx.1 hx.2.1 dX11_init_307 ?_
  refine lv_iadd hx.1 hx.2.1 dX11_init_308 ?_
  have e9 : oI (fr : Int) + (oI (stc v2 211 (roofA r (len : Int) f br ea fe pu) 210 8) + oI 1) = oI ((fr + len + 1 : Nat) : Int) := by
    rw [stc_ne (by decide), h8, oI_add, oI_add]
    exact congrArg oI (by omega)
  rw [e9]
  refine lv_istore_n (lv' := [(3, .int (oI ((fr + len + 1 : Nat) : Int))), (4, .int ib), (2, .ref q), (1, .ref (ad (sx 33))), (0, .ref (ad 210))]) hx.1 hx.2.1 dX11_init_309 rfl hl (by decide) rfl (fun ls hl => ?_)
  refine lv_goto (tgt := 205) hx.1 hx.2.1 dX11_init_310 (by decide) ?_
  refine kk _ H locs ls hL (by rw [stc_eq]) (fun a a1 a2 a3 => ?_) (fun i i1 => ?_) (lv_sub hl [0, 2, 3, 4] rfl)
  · rw [stc_ne a2, ho a a1 a3, is_ne a1]
  · rw [stc_ne (by decide), hi i i1, is_eq, rs_ne i1]
end MoB
