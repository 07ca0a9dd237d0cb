/-! ===== the law's body: script, bits, builder ===== -/
theorem FSc.at {D : va_G} {A : Nat → Prop} {s : State} {H : Heap} {wr : va_W} {locs : List Loc} {sc L : Nat} {xs : Nat → Int32} (h : FSc sc L xs A s s.heap) (hS : Sx D A s.heap (wr ++ []) H locs) : FSc sc L xs (va_A [] H.size) s H := by
  obtain ⟨h1, h2, h3⟩ := h
  refine ⟨h1.kept (hS.2.2.2.1 sc h2 h3), Nat.lt_of_lt_of_le h2 hS.2.2.1, ?_⟩
  rintro (⟨k, e, hk⟩ | hk)
  · simp at hk
  · have := hS.2.2.1
    omega
section LB
variable {p : Program} {l : Launch} {e : Env} {R : Room} {s : State} {m : MethodId} {args : Array Value} {below : List Frame} {meth : Method} {c : Code} {H H0 : Heap} {locs : List Loc} {cells slots : Nat} {Q : State → Prop}
variable {D : va_G} {ad adV : Nat → Nat} {aT : Nat → ClassId} {N : Nat} {A : Nat → Prop} {z : aI} {w : aW} {X : va_W} {own : String} {cc : ByteArray} {nL pc : Nat} {ls : Array Slot} {cB : ClassId} {b : Nat} {tx : List Int32}
theorem L_cell (hx : LxC p l s m args meth c RL cc nL D aT [(cB, .byte)] ad adV A) (hV : PVs s) {sc L k : Nat} {xs : Nat → Int32} (hF : FSc sc L xs A s s.heap) (hk : L ≤ 65536 ∧ k ≤ 65536) (hR : 2 ≤ R.frames ∧ 60 ≤ R.locals) (hcs : cells ≤ R.cells ∧ slots ≤ R.slots) (d : decode cc pc = .ok (.invokestatic 233, 3)) (st : List Value) (hst : (st.map fun v => v.category).sum ≤ 8) (hls : ls.size = nL) (hL : Lx D ad aT N A s.heap w X H locs)
    (kk : ∀ (H1 : Heap) (locs1 : List Loc), Lx D ad aT N A s.heap w X H1 locs1 → W p l e R s m args below meth c H1 locs1 cells slots Q (F0 m (pc + 3) ls (.int (clz L xs k) :: st))) : W p l e R s m args below meth c H locs cells slots Q (F0 m pc ls (.int (nI k) :: .ref sc :: st)) := by
  have hB := bx_of hx hV
  refine B_callS (n := 2) hB (bc_cell cB (sc := sc) (L := L) (k := k) (xs := xs) hk) FSc_ok hL.sx.nil (hF.at hL.sx.nil) g650 g26 g648 g649 ⟨⟨by decide +kernel, by decide +kernel⟩, by decide +kernel⟩ d st rfl rfl hst ⟨by omega, by omega⟩ ⟨hcs.1, hcs.2⟩ hls (fun r w1 H1 locs1 hp hS => ?_)
  obtain ⟨rfl, rfl⟩ := hp
  exact kk H1 locs1 (hL.of hS.nil')
theorem L_bits (hx : LxC p l s m args meth c RL cc nL D aT [(cB, .byte)] ad adV A) {x f k : Int} (hk : 0 ≤ k ∧ k < 32) (hR : 2 ≤ R.frames ∧ 60 ≤ R.locals) (hcs : cells ≤ R.cells ∧ slots ≤ R.slots) (d : decode cc pc = .ok (.invokestatic 184, 3)) (st : List Value) (hst : (st.map fun v => v.category).sum ≤ 8) (hls : ls.size = nL) (hL : Lx D ad aT N A s.heap (cm z) X H locs)
    (kk : ∀ (H1 : Heap) (locs1 : List Loc), Lx D ad aT N A s.heap (cm z) X H1 locs1 → W p l e R s m args below meth c H1 locs1 cells slots Q (F0 m (pc + 3) ls (.int (oI (bv x f k)) :: st))) : W p l e R s m args below meth c H locs cells slots Q (F0 m pc ls (.int (oI k) :: .int (oI f) :: .int (oI x) :: st)) := by
  refine L_callS hx [.int (oI x), .int (oI f), .int (oI k)] st (ev_L_bits 100 x f k z) sm_L_bits g651 d rfl rfl hst ⟨by omega, by omega⟩ ⟨by omega, by omega⟩ hls hL (bv_eq hk) (fun v hv H1 locs1 hL => ?_) (fun E hE => absurd hE (by intro h; cases h))
  cases hv
  exact kk H1 locs1 hL
theorem L_apS (hx : LxC p l s m args meth c RL cc nL D aT [(cB, .byte)] ad adV A) (hV : PVs s) (hT : BT cB b tx X) (i : Nat) (hi : hasS i = true) (hk : tx.length + (xB i).length ≤ 240 ∧ (xB i).length ≤ 7) (hb : ∀ j, j < (xB i).length → fits .byte (.int ((xB i).getD j 0)) = true) (hR : 6 ≤ R.frames ∧ 300 ≤ R.locals) (hcs : cells + 1 ≤ R.cells ∧ slots + 700 ≤ R.slots) (d : decode cc pc = .ok (.invokevirtual 242, 3)) (st : List Value) (hst : (st.map fun v => v.category).sum ≤ 8) (hls : ls.size = nL) (hL : Lx D ad aT N A s.heap w X H locs)
    (kk : ∀ (X1 : va_W) (H1 : Heap) (locs1 : List Loc), BT cB b (tx ++ xB i) X1 → Lx D ad aT N A s.heap w X1 H1 locs1 → W p l e R s m args below meth c H1 locs1 (cells + 1) (slots + 700) Q (F0 m (pc + 3) ls (.ref b :: st))) : W p l e R s m args below meth c H locs cells slots Q (F0 m pc ls (.ref (ad (sx i)) :: .ref b :: st)) := by
  have hB := bx_of hx hV
  obtain ⟨v, mm, f, rfl, h1, h2, h3, h4⟩ := hT
  have hF : FS (ad (sx i)) (ad (sv i)) (xB i) A s s.heap := hx.2.2.2.2.2.2.2.2.1.1 i hi
  refine B_callV (n := 1) hB (wr := conc ad aT N w) (bc_sbS cB (b := b) (v := v) (m := mm) (sa := ad (sx i)) (sd := ad (sv i)) (f := f) (tx := tx) (bs := xB i) h1 h2 h3 h4 hk hb) FS_ok hL.sx (hF.at hL.sx hx.2.2.2.2.2.2.2.2.2) (B_recv hB hL.sx (N + 0) (by rw [cx_r]; rfl)) (hx.2.2.2.2.1 _ g1134) g1135 g43 g1132 g1133 ⟨⟨by decide +kernel, by decide +kernel⟩, by decide +kernel⟩ d st rfl rfl hst ⟨by omega, by omega⟩ ⟨hcs.1, hcs.2⟩ hls (fun r w1 H1 locs1 hp hS => ?_)
  obtain ⟨rfl, hp⟩ := hp
  exact kk w1 H1 locs1 hp (hL.of hS)
theorem L_apC (hx : LxC p l s m args meth c RL cc nL D aT [(cB, .byte)] ad adV A) (hV : PVs s) (hT : BT cB b tx X) {k : Nat} (hk : tx.length + 1 ≤ 240) (hc : k < 128) (hR : 6 ≤ R.frames ∧ 300 ≤ R.locals) (hcs : cells + 1 ≤ R.cells ∧ slots + 700 ≤ R.slots) (d : decode cc pc = .ok (.invokevirtual 246, 3)) (st : List Value) (hst : (st.map fun v => v.category).sum ≤ 8) (hls : ls.size = nL) (hL : Lx D ad aT N A s.heap w X H locs)
    (kk : ∀ (X1 : va_W) (H1 : Heap) (locs1 : List Loc), BT cB b (tx ++ [nI k]) X1 → Lx D ad aT N A s.heap w X1 H1 locs1 → W p l e R s m args below meth c H1 locs1 (cells + 1) (slots + 700) Q (F0 m (pc + 3) ls (.ref b :: st))) : W p l e R s m args below meth c H locs cells slots Q (F0 m pc ls (.int (nI k) :: .ref b :: st)) := by
  have hB := bx_of hx hV
  obtain ⟨v, mm, f, rfl, h1, h2, h3, h4⟩ := hT
  refine B_callV (n := 1) hB (wr := conc ad aT N w) (bc_sbC cB (b := b) (v := v) (m := mm) (k := k) (f := f) (tx := tx) h1 h2 h3 h4 hk hc) FNo_ok hL.sx trivial (B_recv hB hL.sx (N + 0) (by rw [cx_r]; rfl)) (hx.2.2.2.2.1 _ g1229) g1230 g43 g1227 g1228 ⟨⟨by decide +kernel, by decide +kernel⟩, by decide +kernel⟩ d st rfl rfl hst ⟨by omega, by omega⟩ ⟨hcs.1, hcs.2⟩ hls (fun r w1 H1 locs1 hp hS => ?_)
  obtain ⟨rfl, hp⟩ := hp
  exact kk w1 H1 locs1 hp (hL.of hS)
theorem L_apI (hx : LxC p l s m args meth c RL cc nL D aT [(cB, .byte)] ad adV A) (hV : PVs s) (hT : BT cB b tx X) {d1 d2 k : Nat} (hD : FD d1 d2 A s s.heap) (hk : tx.length + 2 ≤ 240) (hc : k < 100) (hR : 6 ≤ R.frames ∧ 300 ≤ R.locals) (hcs : cells + 1 ≤ R.cells ∧ slots + 700 ≤ R.slots) (d : decode cc pc = .ok (.invokevirtual 249, 3)) (st : List Value) (hst : (st.map fun v => v.category).sum ≤ 8) (hls : ls.size = nL) (hL : Lx D ad aT N A s.heap w X H locs)
    (kk : ∀ (X1 : va_W) (H1 : Heap) (locs1 : List Loc), BT cB b (tx ++ dgI k) X1 → Lx D ad aT N A s.heap w X1 H1 locs1 → W p l e R s m args below meth c H1 locs1 (cells + 1) (slots + 700) Q (F0 m (pc + 3) ls (.ref b :: st))) : W p l e R s m args below meth c H locs cells slots Q (F0 m pc ls (.int (nI k) :: .ref b :: st)) := by
  have hB := bx_of hx hV
  obtain ⟨v, mm, f, rfl, h1, h2, h3, h4⟩ := hT
  refine B_callV (n := 1) hB (wr := conc ad aT N w) (bc_sbI cB (b := b) (v := v) (m := mm) (k := k) (d1 := d1) (d2 := d2) (f := f) (tx := tx) h1 h2 h3 h4 hk hc) FD_ok hL.sx (hD.at hL.sx hx.2.2.2.2.2.2.2.2.2) (B_recv hB hL.sx (N + 0) (by rw [cx_r]; rfl)) (hx.2.2.2.2.1 _ g1242) g1243 g43 g1240 g1241 ⟨⟨by decide +kernel, by decide +kernel⟩, by decide +kernel⟩ d st rfl rfl hst ⟨by omega, by omega⟩ ⟨hcs.1, hcs.2⟩ hls (fun r w1 H1 locs1 hp hS => ?_)
  obtain ⟨rfl, hp⟩ := hp
  exact kk w1 H1 locs1 hp (hL.of hS)
end LB
