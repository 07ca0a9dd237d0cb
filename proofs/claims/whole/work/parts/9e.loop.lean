/-! THE CLAIM OUT OF ONE WALK OF THE LAW'S BODY. Your part is whole_start (and what it stands on); all else here is the same for every law, but numbers. -/
def R_law : String := "WhistlePostsLaw"
def lw_P (b : Addr) (xs : List Int32) (args : Array Value) (s : State) : Prop := args = #[.ref b] ∧ s.IntsAt b xs ∧ xs.length ≤ 3072 ∧ (Jvm.Cond.and given_1 narrow_1).before args s = true
/-- what a walk over the start with the record d0 says of its end, said of the start itself -/
theorem lw_closed {s t : State} {o : Outcome} {d0 : Drawn} {L : List Loc} {k n : Nat} (hd0 : s.drawn.sameBut d0 lw_cs) (hv : ∃ v, o = .returned v) (hW : (s.setDrawn d0).WarmedH t.vm) (hs : (s.setDrawn d0).sameButNew ({ t with vm := s.vm } : State) L k n) : State.butDraws s t lw_cs (fun t1 => Framed s o t1 L k n) := by
  have h2 : t.drawn = d0 := congrArg State.drawn hs.1
  refine ⟨⟨hv, hW, State.sameButNew.setDrawn hs s.drawn⟩, ?_, by decide⟩
  rw [h2]
  exact hd0
def lw_Q (_ : Array Value) (s : State) (o : Outcome) (t : State) : Prop := o = .returned (some (.int 1)) ∧ State.butDraws s t lw_cs (fun t1 => Framed s o t1 [] 601024 7293034)
def lw_Z (below : List Frame) (a : Array Value) (s : State) : State → Prop := fun t => ∃ o, t.status = .running ∧ Ended t below o ∧ lw_Q a s o t
/-- the law's own end, with 1 on the stack, nothing written that was there before, its room as the claim has it; d0: the record of draws at this point (at the entry s.drawn: begin with 'refine W.base ?_' and 'have hd0 := Drawn.sameBut.refl s.drawn lw_cs') -/
theorem lw_ret {p : Program} {l : Launch} {e : Env} {s : State} {m : MethodId} {below : List Frame} {meth : Method} {c : Code} {b : Nat} {d0 : Drawn} (hd0 : s.drawn.sameBut d0 lw_cs) (hx : p.tables.exec = Jvm.exec) (hb : c.code = code) (hr : meth.sig.returnType = ret) (hlocks : meth.locks = false) {pc : Nat} {H : Heap} {ls : Array Slot} (hdg : decode code pc = .ok (.ireturn, 1)) : W p l e room_1 (s.setDrawn d0) m #[Value.ref b] below meth c H [] 601024 7293034 (lw_Z below #[Value.ref b] s) (F0 m pc ls [.int 1]) := by
  intro T hT X
  obtain ⟨fs, hret, hrun, hended, hW, hframe⟩ := X.leave (v := some (.int 1)) (hlocks := hlocks) (fun h => by rw [hr] at h; cases h)
  have hmeth' : T.vm.method? m = some meth := X.method'
  refine ⟨T.setFrames fs, ?_, .returned (some (.int 1)), hrun, hended, rfl, lw_closed hd0 ⟨_, rfl⟩ hW hframe⟩
  jvm_step X.here [X.here.top, hx, hb, hdg, hmeth', hr, ret, narrow_b1]
  (try refine ⟨rfl, ?_⟩); (try refine ⟨rfl, ?_⟩)
  first | (intro acts; rw [hret _ acts rfl rfl rfl]) | rw [hret _ _ rfl rfl rfl]
  exact Steps.refl _
/-- what holds at the law's entry: the machine, the code, the tables' words (any of lw_tbl by 'hts w (by decide +kernel)'), the script of L ints xs at the cell b, what the Statement gives of the start (any of its parts by flat_of_before) -/
def lw_At (p : Program) (s : State) (m : MethodId) (meth : Method) (c : Code) (b L : Nat) (xs : Nat → Int32) : Prop :=
  p.tables.exec = Jvm.exec ∧ c.code = code ∧ meth.sig.returnType = ret ∧ c.maxLocals = 9 ∧ s.vm.findClass R_law = some m.cls ∧ (∀ w ∈ lw_tbl, w.before #[Value.ref b] s = true) ∧ va_X b L xs s s.heap ∧ b < s.heap.size ∧ meth.locks = false ∧ (Jvm.Cond.and given_1 narrow_1).before #[Value.ref b] s = true
/-! ===== the law's loop ===== -/
theorem and63z (x : Int32) : ∃ j : Nat, j < 64 ∧ (x &&& 63).toInt = (j : Int) := by
  refine ⟨x.toBitVec.toNat % 64, by omega, ?_⟩
  have e1 : (x &&& 63).toBitVec.toNat = x.toBitVec.toNat % 64 := by
    show (x.toBitVec &&& (63 : Int32).toBitVec).toNat = _
    rw [BitVec.toNat_and]
    exact Nat.and_two_pow_sub_one_eq_mod x.toBitVec.toNat 6
  show (x &&& 63).toBitVec.toInt = _
  rw [BitVec.toInt_eq_toNat_of_lt (by rw [e1]; omega), e1]
theorem nI_oIz (n : Nat) : nI n = oI (n : Int) := by
  unfold nI oI
  rw [Int32.ofInt_eq_ofNat]
theorem lwa_of {L k j : Nat} {xs : Nat → Int32} {jI : Int32} (hj : jI = nI j) (h : 6 * k + j < L) (hL : L ≤ 3072) : LwA L xs (nI (6 * k)) jI (xs (6 * k + j)).toInt := by
  subst hj
  unfold LwA
  rw [nI_add, nI_clamp (by omega)]
  exact ⟨vp_in_nI h (by omega), (oI_of _).symm, Int32.le_toInt _, Int32.toInt_le _⟩
set_option maxHeartbeats 4000000 in
set_option maxRecDepth 100000 in
theorem law_loop {p : Program} {l : Launch} {e : Env} {s : State} {m : MethodId} {below : List Frame} {meth : Method} {c : Code} {D : va_G} {ad adV : Nat → Nat} {aT : Nat → ClassId} {aL : ClassId} {b ao L : Nat} {xs : Nat → Int32} (hc : LwC p l s m meth c D aT aL ad adV (fun q => s.heap.size ≤ q) b L xs) (hr : meth.sig.returnType = ret) (hL3 : L ≤ 3072) :
    ∀ (n k : Nat), L + 6 ≤ 6 * (k + n) → 6 * k ≤ L → ∀ (w : aI) (f : Nat → Int64) (H : Heap) (locs : List Loc) (ls : Array Slot), Inv w → Lx D ad aT (fun q => s.heap.size ≤ q) s.heap (cm w) (oW aL ao f) H locs → lv_has ls 9 (LL ad b ao (nI (6 * k))) → W p l e room_1 s m #[Value.ref b] below meth c H locs (1000 + 4 * k) (100000 + 24 * k) (lw_Z below #[Value.ref b] s) (F0 m 23 ls []) := by
  obtain ⟨hx, hN, hX, hbl, hbA⟩ := id hc
  have hR : 11 ≤ room_1.frames ∧ 510 ≤ room_1.locals := ⟨by decide, by decide⟩
  have cmp : ∀ k : Nat, 6 * k ≤ L → (Int32.ofNat L - 6 < nI (6 * k) ↔ (L : Int) - 6 < ((6 * k : Nat) : Int)) := fun k hk => by
    rw [nI_oIz, show Int32.ofNat L = oI (L : Int) from nI_oIz L, show (6 : Int32) = oI 6 by decide, oI_sub]
    exact oI_lt (by omega) (by omega)
  have ends : ∀ (k : Nat), 6 * k ≤ L → ∀ (w : aI) (f : Nat → Int64) (H : Heap) (locs : List Loc) (ls : Array Slot), Lx D ad aT (fun q => s.heap.size ≤ q) s.heap (cm w) (oW aL ao f) H locs → W p l e room_1 s m #[Value.ref b] below meth c H locs (1000 + 4 * k) (100000 + 24 * k) (lw_Z below #[Value.ref b] s) (F0 m 2137 ls []) := by
    intro k hk w f H locs ls hL
    refine lv_iconst (v := 1) hx.1 hx.2.1 dL_law_2137 (by decide) ?_
    refine va_forget hL.2.2.2.2 ?_
    refine W.widen (k := 601024) (n := 7293034) (by omega) (by omega) ?_
    exact lw_ret (d0 := s.drawn) (Drawn.sameBut.refl s.drawn lw_cs) hx.1 hx.2.1 hr hx.2.2.2.2.2.1 dL_law_2138
  intro n
  induction n with
  | zero =>
    intro k h1 h2 w f H locs ls hI hL hl
    exact absurd h1 (by omega)
  | succ n ih =>
    intro k h1 h2 w f H locs ls hI hL hl
    have hl : lv_has ls 9 [(0, .ref b), (1, .ref (ad 0)), (2, .ref (ad 210)), (3, .ref ao), (4, .int (nI (6 * k)))] := hl
    refine lv_iload hx.1 hx.2.1 dL_law_23 (lv_at hl 4 rfl) ?_
    refine lv_aload_n hx.1 hx.2.1 dL_law_25 rfl (lv_at hl 0 rfl) ?_
    refine va_slen hx.1 hx.2.1 hX hbl hbA hL.2.2 dL_law_26 ?_
    refine lv_bipush (v := 6) hx.1 hx.2.1 dL_law_27 (by decide) ?_
    refine lv_isub hx.1 hx.2.1 dL_law_29 ?_
    refine lv_icmp_gt (tgt := 2137) hx.1 hx.2.1 dL_law_30 (by decide) (fun _ => ends k h2 w f H locs ls hL) (fun z => ?_)
    have hk6 : 6 * k + 6 ≤ L := by
      rcases Nat.lt_or_ge L (6 * k + 6) with h | h
      · exact absurd ((cmp k h2).mpr (by omega)) z
      · exact h
    have a1 := lwa_of (xs := xs) (jI := 1) (j := 1) rfl (show 6 * k + 1 < L by omega) hL3
    have a2 := lwa_of (xs := xs) (jI := 2) (j := 2) rfl (show 6 * k + 2 < L by omega) hL3
    have a3 := lwa_of (xs := xs) (jI := 3) (j := 3) rfl (show 6 * k + 3 < L by omega) hL3
    have a4 := lwa_of (xs := xs) (jI := 4) (j := 4) rfl (show 6 * k + 4 < L by omega) hL3
    have a5 := lwa_of (xs := xs) (jI := 5) (j := 5) rfl (show 6 * k + 5 < L by omega) hL3
    have hj9 : 1000 + 4 * k + 4 ≤ room_1.cells ∧ 100000 + 24 * k + 24 ≤ room_1.slots := ⟨by show 1000 + 4 * k + 4 ≤ 601024; omega, by show 100000 + 24 * k + 24 ≤ 7293034; omega⟩
    have kk : LwK p l e room_1 s m below meth c (lw_Z below #[Value.ref b] s) D ad aT aL (fun q => s.heap.size ≤ q) b ao (nI (6 * k)) (1000 + 4 * k + 4) (100000 + 24 * k + 24) := by
      intro w f H locs ls hI hL hl
      have hl : lv_has ls 9 [(0, .ref b), (1, .ref (ad 0)), (2, .ref (ad 210)), (3, .ref ao), (4, .int (nI (6 * k)))] := hl
      refine lv_iinc (v := nI (6 * (k + 1))) (lv' := [(4, .int (nI (6 * (k + 1)))), (0, .ref b), (1, .ref (ad 0)), (2, .ref (ad 210)), (3, .ref ao)]) hx.1 hx.2.1 dL_law_2131 hl (k := 4) rfl (by rw [show Int32.ofInt 6 = nI 6 from rfl, nI_add]; rfl) (by decide) rfl (fun ls hl => ?_)
      refine lv_goto (tgt := 23) hx.1 hx.2.1 dL_law_2134 (by decide) ?_
      refine W.widen (k := 1000 + 4 * (k + 1)) (n := 100000 + 24 * (k + 1)) (by omega) (by omega) ?_
      exact ih (k + 1) (by omega) (by omega) w f H locs ls hI hL (lv_sub hl [1, 2, 3, 4, 0] rfl)
    refine lv_aload_n hx.1 hx.2.1 dL_law_33 rfl (lv_at hl 0 rfl) ?_
    refine lv_iload hx.1 hx.2.1 dL_law_34 (lv_at hl 4 rfl) ?_
    refine va_sld hx.1 hx.2.1 hX hbl hbA hL.2.2 (vp_in_nI (show 6 * k < L by omega) (by omega)) dL_law_36 ?_
    refine lv_bipush (v := 63) hx.1 hx.2.1 dL_law_37 (by decide) ?_
    refine lv_iand hx.1 hx.2.1 dL_law_39 ?_
    obtain ⟨j, hj64, hj⟩ := and63z (xs (nI (6 * k)).toNatClampNeg)
    rcases (show j = 0 ∨ j = 1 ∨ j = 2 ∨ j = 3 ∨ j = 4 ∨ j = 5 ∨ j = 6 ∨ j = 7 ∨ j = 8 ∨ j = 9 ∨ j = 10 ∨ j = 11 ∨ j = 12 ∨ j = 13 ∨ j = 14 ∨ j = 15 ∨ j = 16 ∨ j = 17 ∨ j = 18 ∨ j = 19 ∨ j = 20 ∨ j = 21 ∨ j = 22 ∨ j = 23 ∨ j = 24 ∨ j = 25 ∨ j = 26 ∨ j = 27 ∨ j = 28 ∨ j = 29 ∨ j = 30 ∨ j = 31 ∨ j = 32 ∨ j = 33 ∨ j = 34 ∨ j = 35 ∨ j = 36 ∨ 37 ≤ j by omega) with rfl | rfl | rfl | rfl | rfl | rfl | rfl | rfl | rfl | rfl | rfl | rfl | rfl | rfl | rfl | rfl | rfl | rfl | rfl | rfl | rfl | rfl | rfl | rfl | rfl | rfl | rfl | rfl | rfl | rfl | rfl | rfl | rfl | rfl | rfl | rfl | rfl | hge
    · refine lv_tableIn (tgt := 204) hx.1 hx.2.1 dL_law_40 (by rw [hj]; decide) (by rw [hj]; decide) (by rw [hj]; rfl) (by decide) ?_
      exact lc_0 hc hR a1 a2 a3 a4 a5 hI hL hl hj9 kk
    · refine lv_tableIn (tgt := 277) hx.1 hx.2.1 dL_law_40 (by rw [hj]; decide) (by rw [hj]; decide) (by rw [hj]; rfl) (by decide) ?_
      exact lc_1 hc hR a1 a2 a3 a4 a5 hI hL hl hj9 kk
    · refine lv_tableIn (tgt := 302) hx.1 hx.2.1 dL_law_40 (by rw [hj]; decide) (by rw [hj]; decide) (by rw [hj]; rfl) (by decide) ?_
      exact lc_2 hc hR a1 a2 a3 a4 a5 hI hL hl hj9 kk
    · refine lv_tableIn (tgt := 315) hx.1 hx.2.1 dL_law_40 (by rw [hj]; decide) (by rw [hj]; decide) (by rw [hj]; rfl) (by decide) ?_
      exact lc_3 hc hR a1 a2 a3 a4 a5 hI hL hl hj9 kk
    · refine lv_tableIn (tgt := 328) hx.1 hx.2.1 dL_law_40 (by rw [hj]; decide) (by rw [hj]; decide) (by rw [hj]; rfl) (by decide) ?_
      exact lc_4 hc hR a1 a2 a3 a4 a5 hI hL hl hj9 kk
    · refine lv_tableIn (tgt := 341) hx.1 hx.2.1 dL_law_40 (by rw [hj]; decide) (by rw [hj]; decide) (by rw [hj]; rfl) (by decide) ?_
      exact lc_5 hc hR a1 a2 a3 a4 a5 hI hL hl hj9 kk
    · refine lv_tableIn (tgt := 354) hx.1 hx.2.1 dL_law_40 (by rw [hj]; decide) (by rw [hj]; decide) (by rw [hj]; rfl) (by decide) ?_
      exact lc_6 hc hR a1 a2 a3 a4 a5 hI hL hl hj9 kk
    · refine lv_tableIn (tgt := 410) hx.1 hx.2.1 dL_law_40 (by rw [hj]; decide) (by rw [hj]; decide) (by rw [hj]; rfl) (by decide) ?_
      exact lc_7 hc hR a1 a2 a3 a4 a5 hI hL hl hj9 kk
    · refine lv_tableIn (tgt := 466) hx.1 hx.2.1 dL_law_40 (by rw [hj]; decide) (by rw [hj]; decide) (by rw [hj]; rfl) (by decide) ?_
      exact lc_8 hc hR a1 a2 a3 a4 a5 hI hL hl hj9 kk
    · refine lv_tableIn (tgt := 534) hx.1 hx.2.1 dL_law_40 (by rw [hj]; decide) (by rw [hj]; decide) (by rw [hj]; rfl) (by decide) ?_
      exact lc_9 hc hR a1 a2 a3 a4 a5 hI hL hl hj9 kk
    · refine lv_tableIn (tgt := 602) hx.1 hx.2.1 dL_law_40 (by rw [hj]; decide) (by rw [hj]; decide) (by rw [hj]; rfl) (by decide) ?_
      exact lc_10 hc hR a1 a2 a3 a4 a5 hI hL hl hj9 kk
    · refine lv_tableIn (tgt := 670) hx.1 hx.2.1 dL_law_40 (by rw [hj]; decide) (by rw [hj]; decide) (by rw [hj]; rfl) (by decide) ?_
      exact lc_11 hc hR a1 a2 a3 a4 a5 hI hL hl hj9 kk
    · refine lv_tableIn (tgt := 738) hx.1 hx.2.1 dL_law_40 (by rw [hj]; decide) (by rw [hj]; decide) (by rw [hj]; rfl) (by decide) ?_
      exact lc_12 hc hR a1 a2 a3 a4 a5 hI hL hl hj9 kk
    · refine lv_tableIn (tgt := 806) hx.1 hx.2.1 dL_law_40 (by rw [hj]; decide) (by rw [hj]; decide) (by rw [hj]; rfl) (by decide) ?_
      exact lc_13 hc hR a1 a2 a3 a4 a5 hI hL hl hj9 kk
    · refine lv_tableIn (tgt := 874) hx.1 hx.2.1 dL_law_40 (by rw [hj]; decide) (by rw [hj]; decide) (by rw [hj]; rfl) (by decide) ?_
      exact lc_14 hc hR a1 a2 a3 a4 a5 hI hL hl hj9 kk
    · refine lv_tableIn (tgt := 970) hx.1 hx.2.1 dL_law_40 (by rw [hj]; decide) (by rw [hj]; decide) (by rw [hj]; rfl) (by decide) ?_
      exact lc_15 hc hR a1 a2 a3 a4 a5 hI hL hl hj9 kk
    · refine lv_tableIn (tgt := 1038) hx.1 hx.2.1 dL_law_40 (by rw [hj]; decide) (by rw [hj]; decide) (by rw [hj]; rfl) (by decide) ?_
      exact lc_16 hc hR a1 a2 a3 a4 a5 hI hL hl hj9 kk
    · refine lv_tableIn (tgt := 1106) hx.1 hx.2.1 dL_law_40 (by rw [hj]; decide) (by rw [hj]; decide) (by rw [hj]; rfl) (by decide) ?_
      exact lc_17 hc hR a1 a2 a3 a4 a5 hI hL hl hj9 kk
    · refine lv_tableIn (tgt := 1186) hx.1 hx.2.1 dL_law_40 (by rw [hj]; decide) (by rw [hj]; decide) (by rw [hj]; rfl) (by decide) ?_
      exact lc_18 hc hR a1 a2 a3 a4 a5 hI hL hl hj9 kk
    · refine lv_tableIn (tgt := 1266) hx.1 hx.2.1 dL_law_40 (by rw [hj]; decide) (by rw [hj]; decide) (by rw [hj]; rfl) (by decide) ?_
      exact lc_19 hc hR a1 a2 a3 a4 a5 hI hL hl hj9 kk
    · refine lv_tableIn (tgt := 1334) hx.1 hx.2.1 dL_law_40 (by rw [hj]; decide) (by rw [hj]; decide) (by rw [hj]; rfl) (by decide) ?_
      exact lc_20 hc hR a1 a2 a3 a4 a5 hI hL hl hj9 kk
    · refine lv_tableIn (tgt := 1390) hx.1 hx.2.1 dL_law_40 (by rw [hj]; decide) (by rw [hj]; decide) (by rw [hj]; rfl) (by decide) ?_
      exact lc_21 hc hR a1 a2 a3 a4 a5 hI hL hl hj9 kk
    · refine lv_tableIn (tgt := 1458) hx.1 hx.2.1 dL_law_40 (by rw [hj]; decide) (by rw [hj]; decide) (by rw [hj]; rfl) (by decide) ?_
      exact lc_22 hc hR a1 a2 a3 a4 a5 hI hL hl hj9 kk
    · refine lv_tableIn (tgt := 1471) hx.1 hx.2.1 dL_law_40 (by rw [hj]; decide) (by rw [hj]; decide) (by rw [hj]; rfl) (by decide) ?_
      exact lc_23 hc hR a1 a2 a3 a4 a5 hI hL hl hj9 kk
    · refine lv_tableIn (tgt := 1484) hx.1 hx.2.1 dL_law_40 (by rw [hj]; decide) (by rw [hj]; decide) (by rw [hj]; rfl) (by decide) ?_
      exact lc_24 hc hR a1 a2 a3 a4 a5 hI hL hl hj9 kk
    · refine lv_tableIn (tgt := 1525) hx.1 hx.2.1 dL_law_40 (by rw [hj]; decide) (by rw [hj]; decide) (by rw [hj]; rfl) (by decide) ?_
      exact lc_25 hc hR a1 a2 a3 a4 a5 hI hL hl hj9 kk
    · refine lv_tableIn (tgt := 1568) hx.1 hx.2.1 dL_law_40 (by rw [hj]; decide) (by rw [hj]; decide) (by rw [hj]; rfl) (by decide) ?_
      exact lc_26 hc hR a1 a2 a3 a4 a5 hI hL hl hj9 kk
    · refine lv_tableIn (tgt := 1676) hx.1 hx.2.1 dL_law_40 (by rw [hj]; decide) (by rw [hj]; decide) (by rw [hj]; rfl) (by decide) ?_
      exact lc_27 hc hR a1 a2 a3 a4 a5 hI hL hl hj9 kk
    · refine lv_tableIn (tgt := 1732) hx.1 hx.2.1 dL_law_40 (by rw [hj]; decide) (by rw [hj]; decide) (by rw [hj]; rfl) (by decide) ?_
      exact lc_28 hc hR a1 a2 a3 a4 a5 hI hL hl hj9 kk
    · refine lv_tableIn (tgt := 1800) hx.1 hx.2.1 dL_law_40 (by rw [hj]; decide) (by rw [hj]; decide) (by rw [hj]; rfl) (by decide) ?_
      exact lc_29 hc hR a1 a2 a3 a4 a5 hI hL hl hj9 kk
    · refine lv_tableIn (tgt := 1868) hx.1 hx.2.1 dL_law_40 (by rw [hj]; decide) (by rw [hj]; decide) (by rw [hj]; rfl) (by decide) ?_
      exact lc_30 hc hR a1 a2 a3 a4 a5 hI hL hl hj9 kk
    · refine lv_tableIn (tgt := 1936) hx.1 hx.2.1 dL_law_40 (by rw [hj]; decide) (by rw [hj]; decide) (by rw [hj]; rfl) (by decide) ?_
      exact lc_31 hc hR a1 a2 a3 a4 a5 hI hL hl hj9 kk
    · refine lv_tableIn (tgt := 1980) hx.1 hx.2.1 dL_law_40 (by rw [hj]; decide) (by rw [hj]; decide) (by rw [hj]; rfl) (by decide) ?_
      exact lc_32 hc hR a1 a2 a3 a4 a5 hI hL hl hj9 kk
    · refine lv_tableIn (tgt := 1993) hx.1 hx.2.1 dL_law_40 (by rw [hj]; decide) (by rw [hj]; decide) (by rw [hj]; rfl) (by decide) ?_
      exact lc_33 hc hR a1 a2 a3 a4 a5 hI hL hl hj9 kk
    · refine lv_tableIn (tgt := 2049) hx.1 hx.2.1 dL_law_40 (by rw [hj]; decide) (by rw [hj]; decide) (by rw [hj]; rfl) (by decide) ?_
      exact lc_34 hc hR a1 a2 a3 a4 a5 hI hL hl hj9 kk
    · refine lv_tableIn (tgt := 2074) hx.1 hx.2.1 dL_law_40 (by rw [hj]; decide) (by rw [hj]; decide) (by rw [hj]; rfl) (by decide) ?_
      exact lc_35 hc hR a1 a2 a3 a4 a5 hI hL hl hj9 kk
    · refine lv_tableIn (tgt := 2087) hx.1 hx.2.1 dL_law_40 (by rw [hj]; decide) (by rw [hj]; decide) (by rw [hj]; rfl) (by decide) ?_
      exact lc_36 hc hR a1 a2 a3 a4 a5 hI hL hl hj9 kk
    · refine lv_tableOut (tgt := 2131) hx.1 hx.2.1 dL_law_40 (Or.inr (by rw [hj]; omega)) (by decide) ?_
      exact W.widen (by omega) (by omega) (kk w f H locs ls hI hL hl)
