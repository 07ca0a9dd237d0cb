/-! ===== the reference's constructor: the first state of the two ===== -/
theorem inv0 {w v : aI} (hC : CI w) (ho : ∀ a, a < 210 → v a = w a) (h211 : v 211 = R8z) (h4 : v 210 4 = 0) (h5 : v 210 5 = 0) (h13 : v 210 13 = 0) (h14 : v 210 14 = 0) (h15 : v 210 15 = -1) (h27 : v 210 27 = 0) : Inv v := by
  obtain ⟨c1, c2, c3, c4, c5, c6, c7, c8, c9, c10⟩ := hC
  have hb3 : ∀ b ∈ [12, 30, 48, 66, 84, 102, 120, 138, 156, 174, 192], b + 18 ≤ 210 := by decide +kernel
  refine ⟨⟨fun b hb => (c2 b hb).of fun a h1 h2 => ho a (by have := hb3 b hb; omega), ?_⟩, ⟨?_, ?_, fun k k0 k1 => ?_⟩, ⟨?_, ?_, fun k k0 k1 => ?_⟩, ⟨?_, ?_, ?_, ?_⟩, ⟨?_, ?_, ?_⟩, ⟨?_, ?_, fun z => ?_⟩, ⟨?_, ?_, ?_, fun j j0 j1 => ?_⟩⟩
  · rw [ho 8 (by decide)]; exact c3
  · rw [ho 1 (by decide), c4, h13]
  · rw [h13]; decide
  · rw [h13] at k1; omega
  · rw [ho 3 (by decide), c5, h27]
  · rw [h27]; decide
  · rw [h27] at k1; omega
  · rw [ho 5 (by decide), c6.1, h14]
  · rw [ho 5 (by decide), c6.2, h15]
  · rw [h14]; decide
  · rw [h15]; decide
  · rw [h211]; exact c1.of fun a h1 h2 => ho a (by omega)
  · rw [h211]; exact c10
  · rw [h211]; decide +kernel
  · rw [ho 0 (by decide), c7, h5]
  · exact Or.inl h5
  · rw [h5] at z; omega
  · rw [ho 10 (by decide), c9, h4]
  · rw [h4]; decide
  · rw [ho 10 (by decide), c8]; decide
  · rw [h4] at j1; omega
def CmP (D : va_G) (aT : Nat → ClassId) (ad0 adV : Nat → Nat) (h0 sz : Nat) (Yc : va_W) : Array Value → State → Prop := va_Pc [.ref h0] (fun U => U.heap.size = sz ∧ va_P D vwCl ((h0, iMs) :: Yc) U.heap ∧ va_D (fun _ => True) ((h0, iMs) :: Yc) ∧ va_K D vwCl (tysA aT) U ∧ va_AO "WhistlePosts$Post" U ∧ XE ad0 adV (va_A ((h0, iMs) :: Yc) sz) U U.heap)
def CmQ (D : va_G) (aT : Nat → ClassId) (ad0 : Nat → Nat) (h0 sz : Nat) (Yc : va_W) : Array Value → State → Outcome → State → Prop := va_Qv (fun u : (Nat → Nat) × aI => u.1 210 = h0 ∧ (∀ i, i < 210 → u.1 i = ad0 i) ∧ (∀ i, 223 ≤ i → u.1 i = ad0 i) ∧ Inv u.2) (fun u t => va_P D vwCl (conc u.1 aT (cm u.2)) t.heap ∧ va_D (va_A ((h0, iMs) :: Yc) sz) (conc u.1 aT (cm u.2))) (va_A ((h0, iMs) :: Yc) sz)
set_option maxHeartbeats 8000000 in
set_option maxRecDepth 100000 in
theorem ct_M (l : Launch) (htr : l.stackTraces = false) (D : va_G) (aT : Nat → ClassId) (ad0 adV : Nat → Nat) (h0 sz : Nat) {w : aI} (hC : CI w) : Met l yX11_init (.code yX11_init cX11_init 5 none :: Gw) (ctR 10 300 30000) (CmP D aT ad0 adV h0 sz (conc_k ad0 aT (cm w))) (CmQ D aT ad0 h0 sz (conc_k ad0 aT (cm w))) 300 30000 (va_A ((h0, iMs) :: conc_k ad0 aT (cm w)) sz) := by
  refine Met.ofW (cc := cX11_init) (maxL := 5) (ret := none) (by decide +kernel) rfl ?_
  intro p e s m args below meth c s₁ B hml hv
  obtain ⟨rfl, hsz, hP, hD, hK, hAO, hX⟩ := hv
  subst hsz
  have hts := atoms_spec (ws := .code yX11_init cX11_init 5 none :: Gw) B.pre
  have hin : meth.name = "<init>" := (name_of_methodNamed B.named B.method).1
  have hl := lv_entry [.ref h0] (n := 5) (Nat.le_of_ble_eq_true rfl)
  rw [lg_entry_eq]
  generalize (lg_sl ([.ref h0]) ++ List.replicate (5 - (lg_sl ([.ref h0])).length) Slot.unset).toArray = ls at hl ⊢
  have hl : lv_has ls 5 [(0, .ref h0)] := hl
  obtain ⟨A, hAe⟩ : ∃ A, A = va_A ((h0, iMs) :: conc_k ad0 aT (cm w)) s.heap.size := ⟨_, rfl⟩
  have hA : ∀ q, s.heap.size ≤ q → A q := fun q h => by rw [hAe]; exact Or.inr h
  have hx : KxC p s m [Value.ref h0].toArray meth c "WhistlePostsModel" cX11_init 5 D aT A := ⟨B.exec, B.bytes, hml, findClass_of_methodNamed B.named, fun w hw => hts w (List.mem_cons_of_mem _ hw), B.notSynchronized, hin, B.returns, hK, hA, hAO⟩
  have hS : Sx D A s.heap ((h0, iMs) :: conc_k ad0 aT (cm w)) s.heap [] := ⟨hP, by rw [hAe]; exact hD.self, va_S.rf⟩
  rw [← hAe]
  have hX : XE ad0 adV A s s.heap := by rw [hAe]; exact hX
  refine mo_make hx ⟨by decide, by decide, by decide, by decide⟩ hS hl (fun H locs a1 a2 a3 a4 a5 a6 a7 a8 a9 a10 a11 a12 hS => ?_)
  obtain ⟨ad, b0, l0, l2, hL⟩ := mo_conc hS
  have hy : LxC p l s m [Value.ref h0].toArray meth c "WhistlePostsModel" cX11_init 5 D aT [] ad adV A := ⟨B.exec, B.bytes, hml, findClass_of_methodNamed B.named, fun w hw => hts w (List.mem_cons_of_mem _ hw), B.notSynchronized, htr, by rw [List.append_nil]; exact hK, XE_cg l2 hX, hA⟩
  have hl : lv_has ls 5 [(0, .ref (ad 210))] := by rw [b0]; exact hl
  have hRR : 10 ≤ (ctR 10 300 30000).frames ∧ 390 ≤ (ctR 10 300 30000).locals := ⟨by decide, by decide⟩
  have z211 : mo0 w 211 = fun _ => 0 := by
    funext k
    unfold mo0
    rw [if_neg (by decide), if_neg (fun z => absurd z.1 (by decide))]
  have hc0 := m_clears (F := 20000) (v := mo0 w) (by omega)
  refine lv_aload_n hx.1 hx.2.1 dX11_init_112 rfl (lv_at hl 0 rfl) ?_
  refine L_callV hy (b := 210) [] [] (ev_X11_clears 20000 210 (by decide +kernel) (mo0 w)) vm_X11_clears fc9 (by decide +kernel) g1311 dX11_init_113 rfl rfl (Nat.le_of_ble_eq_true rfl) ⟨by decide, by decide⟩ ⟨by decide, by decide⟩ hl.1 hL hc0 (fun w9 hv H locs hL => ?_) (fun E hE => absurd hE (by intro h; cases h))
  cases hv
  obtain ⟨v1, ev1⟩ : ∃ v1, v1 = stc (mo0 w) 211 (clrT (mo0 w 211)) := ⟨_, rfl⟩
  have hL : Lx D ad aT A s.heap (cm v1) [] H locs := by rw [ev1]; exact hL
  have k211 : v1 211 = R0z := by rw [ev1, stc_eq, z211]; rfl
  refine L_ldcS hy (tx := "tower barn mill inn ") 33 (by decide +kernel) dX11_init_116 ?_
  refine lv_astore_n (lv' := [(1, .ref (ad (sx 33))), (0, .ref (ad 210))]) hx.1 hx.2.1 dX11_init_118 rfl hl (by decide) rfl (fun ls hl => ?_)
  refine lv_bipush (v := 16) hx.1 hx.2.1 dX11_init_119 (by decide) ?_
  refine L_newa (N' := 16) hy hL (by decide) (by decide) (by decide) gi155 ⟨by decide, by decide⟩ dX11_init_121 (fun q H hL => ?_)
  have hL : Lx D ad aT A s.heap (cm v1) [(q, .inl (aT 0, 16, .inl fun _ => 0))] H locs := hL
  refine lv_dup hx.1 hx.2.1 dX11_init_123 rfl ?_
  refine lv_iconst (v := 0) hx.1 hx.2.1 dX11_init_124 (by decide) ?_
  refine lv_iconst (v := 4) hx.1 hx.2.1 dX11_init_125 (by decide) ?_
  refine L_iastX hy hL (by decide) dX11_init_126 (fun H locs hL => ?_)
  refine lv_dup hx.1 hx.2.1 dX11_init_127 rfl ?_
  refine lv_iconst (v := 1) hx.1 hx.2.1 dX11_init_128 (by decide) ?_
  refine lv_iconst (v := 2) hx.1 hx.2.1 dX11_init_129 (by decide) ?_
  refine L_iastX hy hL (by decide) dX11_init_130 (fun H locs hL => ?_)
  refine lv_dup hx.1 hx.2.1 dX11_init_131 rfl ?_
  refine lv_iconst (v := 2) hx.1 hx.2.1 dX11_init_132 (by decide) ?_
  refine lv_iconst (v := 1) hx.1 hx.2.1 dX11_init_133 (by decide) ?_
  refine L_iastX hy hL (by decide) dX11_init_134 (fun H locs hL => ?_)
  refine lv_dup hx.1 hx.2.1 dX11_init_135 rfl ?_
  refine lv_iconst (v := 3) hx.1 hx.2.1 dX11_init_136 (by decide) ?_
  refine lv_bipush (v := 30) hx.1 hx.2.1 dX11_init_137 (by decide) ?_
  refine L_iastX hy hL (by decide) dX11_init_139 (fun H locs hL => ?_)
  refine lv_dup hx.1 hx.2.1 dX11_init_140 rfl ?_
  refine lv_iconst (v := 4) hx.1 hx.2.1 dX11_init_141 (by decide) ?_
  refine lv_iconst (v := 2) hx.1 hx.2.1 dX11_init_142 (by decide) ?_
  refine L_iastX hy hL (by decide) dX11_init_143 (fun H locs hL => ?_)
  refine lv_dup hx.1 hx.2.1 dX11_init_144 rfl ?_
  refine lv_iconst (v := 5) hx.1 hx.2.1 dX11_init_145 (by decide) ?_
  refine lv_iconst (v := 0) hx.1 hx.2.1 dX11_init_146 (by decide) ?_
  refine L_iastX hy hL (by decide) dX11_init_147 (fun H locs hL => ?_)
  refine lv_dup hx.1 hx.2.1 dX11_init_148 rfl ?_
  refine lv_bipush (v := 6) hx.1 hx.2.1 dX11_init_149 (by decide) ?_
  refine lv_iconst (v := 2) hx.1 hx.2.1 dX11_init_151 (by decide) ?_
  refine L_iastX hy hL (by decide) dX11_init_152 (fun H locs hL => ?_)
  refine lv_dup hx.1 hx.2.1 dX11_init_153 rfl ?_
  refine lv_bipush (v := 7) hx.1 hx.2.1 dX11_init_154 (by decide) ?_
  refine lv_bipush (v := 20) hx.1 hx.2.1 dX11_init_156 (by decide) ?_
  refine L_iastX hy hL (by decide) dX11_init_158 (fun H locs hL => ?_)
  refine lv_dup hx.1 hx.2.1 dX11_init_159 rfl ?_
  refine lv_bipush (v := 8) hx.1 hx.2.1 dX11_init_160 (by decide) ?_
  refine lv_iconst (v := 3) hx.1 hx.2.1 dX11_init_162 (by decide) ?_
  refine L_iastX hy hL (by decide) dX11_init_163 (fun H locs hL => ?_)
  refine lv_dup hx.1 hx.2.1 dX11_init_164 rfl ?_
  refine lv_bipush (v := 9) hx.1 hx.2.1 dX11_init_165 (by decide) ?_
  refine lv_iconst (v := 5) hx.1 hx.2.1 dX11_init_167 (by decide) ?_
  refine L_iastX hy hL (by decide) dX11_init_168 (fun H locs hL => ?_)
  refine lv_dup hx.1 hx.2.1 dX11_init_169 rfl ?_
  refine lv_bipush (v := 10) hx.1 hx.2.1 dX11_init_170 (by decide) ?_
  refine lv_iconst (v := 0) hx.1 hx.2.1 dX11_init_172 (by decide) ?_
  refine L_iastX hy hL (by decide) dX11_init_173 (fun H locs hL => ?_)
  refine lv_dup hx.1 hx.2.1 dX11_init_174 rfl ?_
  refine lv_bipush (v := 11) hx.1 hx.2.1 dX11_init_175 (by decide) ?_
  refine lv_bipush (v := 9) hx.1 hx.2.1 dX11_init_177 (by decide) ?_
  refine L_iastX hy hL (by decide) dX11_init_179 (fun H locs hL => ?_)
  refine lv_dup hx.1 hx.2.1 dX11_init_180 rfl ?_
  refine lv_bipush (v := 12) hx.1 hx.2.1 dX11_init_181 (by decide) ?_
  refine lv_bipush (v := 8) hx.1 hx.2.1 dX11_init_183 (by decide) ?_
  refine L_iastX hy hL (by decide) dX11_init_185 (fun H locs hL => ?_)
  refine lv_dup hx.1 hx.2.1 dX11_init_186 rfl ?_
  refine lv_bipush (v := 13) hx.1 hx.2.1 dX11_init_187 (by decide) ?_
  refine lv_iconst (v := 1) hx.1 hx.2.1 dX11_init_189 (by decide) ?_
  refine L_iastX hy hL (by decide) dX11_init_190 (fun H locs hL => ?_)
  refine lv_dup hx.1 hx.2.1 dX11_init_191 rfl ?_
  refine lv_bipush (v := 14) hx.1 hx.2.1 dX11_init_192 (by decide) ?_
  refine lv_iconst (v := 3) hx.1 hx.2.1 dX11_init_194 (by decide) ?_
  refine L_iastX hy hL (by decide) dX11_init_195 (fun H locs hL => ?_)
  refine lv_dup hx.1 hx.2.1 dX11_init_196 rfl ?_
  refine lv_bipush (v := 15) hx.1 hx.2.1 dX11_init_197 (by decide) ?_
  refine lv_bipush (v := 40) hx.1 hx.2.1 dX11_init_199 (by decide) ?_
  refine L_iastX hy hL (by decide) dX11_init_201 (fun H locs hL => ?_)
  obtain ⟨f16, hf16⟩ : ∃ f16 : Nat → Int32, f16 = (upd (upd (upd (upd (upd (upd (upd (upd (upd (upd (upd (upd (upd (upd (upd (upd (fun _ => (0 : Int32)) (0 : Int32).toNatClampNeg 4) (1 : Int32).toNatClampNeg 2) (2 : Int32).toNatClampNeg 1) (3 : Int32).toNatClampNeg 30) (4 : Int32).toNatClampNeg 2) (5 : Int32).toNatClampNeg 0) (6 : Int32).toNatClampNeg 2) (7 : Int32).toNatClampNeg 20) (8 : Int32).toNatClampNeg 3) (9 : Int32).toNatClampNeg 5) (10 : Int32).toNatClampNeg 0) (11 : Int32).toNatClampNeg 9) (12 : Int32).toNatClampNeg 8) (13 : Int32).toNatClampNeg 1) (14 : Int32).toNatClampNeg 3) (15 : Int32).toNatClampNeg 40) := ⟨_, rfl⟩
  rw [← hf16] at hL
  refine lv_astore_n (lv' := [(2, .ref q), (1, .ref (ad (sx 33))), (0, .ref (ad 210))]) hx.1 hx.2.1 dX11_init_202 rfl hl (by decide) rfl (fun ls hl => ?_)
  refine lv_iconst (v := oI ((0 : Nat) : Int)) hx.1 hx.2.1 dX11_init_203 (by decide) ?_
  refine lv_istore_n (lv' := [(3, .int (oI ((0 : Nat) : Int))), (2, .ref q), (1, .ref (ad (sx 33))), (0, .ref (ad 210))]) hx.1 hx.2.1 dX11_init_204 rfl hl (by decide) rfl (fun ls hl => ?_)
  refine W.widen (k := 300) (n := 30000) (by decide) (by decide) ?_
  have hj9 : 300 ≤ (ctR 10 300 30000).cells ∧ 30000 ≤ (ctR 10 300 30000).slots := ⟨by decide, by decide⟩
  refine mo_word hy hRR hj9 0 5 (by decide) (by decide) (by decide +kernel) (by decide +kernel) (by decide) (r := R0z) (by decide +kernel) (ib := 0) (by rw [show R0z 0 = 0 by decide +kernel]; decide) (br := 4) (ea := 2) (fe := 1) (pu := 30) (by rw [hf16]; decide +kernel) (by rw [hf16]; decide +kernel) (by rw [hf16]; decide +kernel) (by rw [hf16]; decide +kernel) (f := fun k => B0z (tS B0z N0z 4 + k)) (by decide +kernel) hL k211 hl (fun v2 H locs ls hL k211 ho2 hi2 hl => ?_)
  have k211 : v2 211 = R1z := by
    rw [k211]
    show roofA R0z ((5 : Nat) : Int) _ _ _ _ _ = roofA R0z (10 - tS B0z N0z 4) _ (tV B0z N0z 10) (tV B0z N0z 12) (tV B0z N0z 14) (tV B0z N0z 16)
    rw [show 10 - tS B0z N0z 4 = ((5 : Nat) : Int) by decide +kernel, show tV B0z N0z 10 = 4 by decide +kernel, show tV B0z N0z 12 = 2 by decide +kernel, show tV B0z N0z 14 = 1 by decide +kernel, show tV B0z N0z 16 = 30 by decide +kernel]
  refine mo_word hy hRR hj9 6 4 (by decide) (by decide) (by decide +kernel) (by decide +kernel) (by decide) (r := R1z) (by decide +kernel) (ib := 4) (by rw [show R1z 0 = 1 by decide +kernel]; decide) (br := 2) (ea := 0) (fe := 2) (pu := 20) (by rw [hf16]; decide +kernel) (by rw [hf16]; decide +kernel) (by rw [hf16]; decide +kernel) (by rw [hf16]; decide +kernel) (f := fun k => B0z (tS B0z N0z 24 + k)) (by decide +kernel) hL k211 hl (fun v3 H locs ls hL k211 ho3 hi3 hl => ?_)
  have k211 : v3 211 = R2z := by
    rw [k211]
    show roofA R1z ((4 : Nat) : Int) _ _ _ _ _ = roofA R1z (29 - tS B0z N0z 24) _ (tV B0z N0z 29) (tV B0z N0z 31) (tV B0z N0z 33) (tV B0z N0z 35)
    rw [show 29 - tS B0z N0z 24 = ((4 : Nat) : Int) by decide +kernel, show tV B0z N0z 29 = 2 by decide +kernel, show tV B0z N0z 31 = 0 by decide +kernel, show tV B0z N0z 33 = 2 by decide +kernel, show tV B0z N0z 35 = 20 by decide +kernel]
  refine mo_word hy hRR hj9 11 4 (by decide) (by decide) (by decide +kernel) (by decide +kernel) (by decide) (r := R2z) (by decide +kernel) (ib := 8) (by rw [show R2z 0 = 2 by decide +kernel]; decide) (br := 3) (ea := 5) (fe := 0) (pu := 9) (by rw [hf16]; decide +kernel) (by rw [hf16]; decide +kernel) (by rw [hf16]; decide +kernel) (by rw [hf16]; decide +kernel) (f := fun k => B0z (tS B0z N0z 43 + k)) (by decide +kernel) hL k211 hl (fun v4 H locs ls hL k211 ho4 hi4 hl => ?_)
  have k211 : v4 211 = R3z := by
    rw [k211]
    show roofA R2z ((4 : Nat) : Int) _ _ _ _ _ = roofA R2z (48 - tS B0z N0z 43) _ (tV B0z N0z 48) (tV B0z N0z 50) (tV B0z N0z 52) (tV B0z N0z 54)
    rw [show 48 - tS B0z N0z 43 = ((4 : Nat) : Int) by decide +kernel, show tV B0z N0z 48 = 3 by decide +kernel, show tV B0z N0z 50 = 5 by decide +kernel, show tV B0z N0z 52 = 0 by decide +kernel, show tV B0z N0z 54 = 9 by decide +kernel]
  refine mo_word hy hRR hj9 16 3 (by decide) (by decide) (by decide +kernel) (by decide +kernel) (by decide) (r := R3z) (by decide +kernel) (ib := 12) (by rw [show R3z 0 = 3 by decide +kernel]; decide) (br := 8) (ea := 1) (fe := 3) (pu := 40) (by rw [hf16]; decide +kernel) (by rw [hf16]; decide +kernel) (by rw [hf16]; decide +kernel) (by rw [hf16]; decide +kernel) (f := fun k => B0z (tS B0z N0z 61 + k)) (by decide +kernel) hL k211 hl (fun v5 H locs ls hL k211 ho5 hi5 hl => ?_)
  have k211 : v5 211 = R4z := by
    rw [k211]
    show roofA R3z ((3 : Nat) : Int) _ _ _ _ _ = roofA R3z (65 - tS B0z N0z 61) _ (tV B0z N0z 65) (tV B0z N0z 67) (tV B0z N0z 69) (tV B0z N0z 71)
    rw [show 65 - tS B0z N0z 61 = ((3 : Nat) : Int) by decide +kernel, show tV B0z N0z 65 = 8 by decide +kernel, show tV B0z N0z 67 = 1 by decide +kernel, show tV B0z N0z 69 = 3 by decide +kernel, show tV B0z N0z 71 = 40 by decide +kernel]
  refine lv_iload_n hx.1 hx.2.1 dX11_init_205 rfl (lv_at hl 0 rfl) ?_
  refine lv_aload_n hx.1 hx.2.1 dX11_init_206 rfl (lv_at hl 2 rfl) ?_
  refine L_strlen hy hL (i := 33) (by decide) g1316 dX11_init_207 (Nat.le_of_ble_eq_true rfl) ⟨by decide, by decide⟩ hj9 hl.1 (n := 20) (by decide +kernel) (fun H locs hL => ?_)
  refine lv_icmp_ge (tgt := 313) hx.1 hx.2.1 dX11_init_210 (by decide) (fun _ => ?_) (fun z => absurd (by decide) z)
  refine lv_aload_n hx.1 hx.2.1 dX11_init_313 rfl (lv_at hl 3 rfl) ?_
  refine lv_iconst (v := oI 0) hx.1 hx.2.1 dX11_init_314 (by decide) ?_
  refine lv_iconst (v := oI 1) hx.1 hx.2.1 dX11_init_315 (by decide) ?_
  refine lv_iconst (v := oI 4) hx.1 hx.2.1 dX11_init_316 (by decide) ?_
  have hn1 := m_newWay (F := 20000) (v := v5) (r := R4z) (a := 0) (b := 1) (far := 4) k211 (by decide +kernel)
  refine L_callV hy (b := 210) [.int (oI 0), .int (oI 1), .int (oI 4)] [] (ev_X11_newWay 20000 210 (by decide +kernel) 0 1 4 v5) vm_X11_newWay fc9 (by decide +kernel) g1325 dX11_init_317 rfl rfl (Nat.le_of_ble_eq_true rfl) ⟨by omega, by omega⟩ hj9 hl.1 hL hn1 (fun w9 hv H locs hL => ?_) (fun E hE => absurd hE (by intro h; cases h))
  cases hv
  obtain ⟨v6, ev6⟩ : ∃ v6, v6 = stc v5 211 (wayA R4z 0 1 4) := ⟨_, rfl⟩
  have hL : Lx D ad aT A s.heap (cm v6) [(q, .inl (aT 0, 16, .inl f16))] H locs := by rw [ev6]; exact hL
  have k211 : v6 211 = R5z := by
    rw [ev6, stc_eq]
    show wayA R4z 0 1 4 = wayA R4z 0 1 (tV B0z N0z 89)
    rw [show tV B0z N0z 89 = 4 by decide +kernel]
  have hs1 : ∀ a, ¬ a = 211 → v6 a = v5 a := fun a h => by rw [ev6, stc_ne h]
  refine lv_aload_n hx.1 hx.2.1 dX11_init_320 rfl (lv_at hl 3 rfl) ?_
  refine lv_iconst (v := oI 1) hx.1 hx.2.1 dX11_init_321 (by decide) ?_
  refine lv_iconst (v := oI 2) hx.1 hx.2.1 dX11_init_322 (by decide) ?_
  refine lv_bipush (v := oI 6) hx.1 hx.2.1 dX11_init_323 (by decide) ?_
  have hn2 := m_newWay (F := 20000) (v := v6) (r := R5z) (a := 1) (b := 2) (far := 6) k211 (by decide +kernel)
  refine L_callV hy (b := 210) [.int (oI 1), .int (oI 2), .int (oI 6)] [] (ev_X11_newWay 20000 210 (by decide +kernel) 1 2 6 v6) vm_X11_newWay fc9 (by decide +kernel) g1325 dX11_init_325 rfl rfl (Nat.le_of_ble_eq_true rfl) ⟨by omega, by omega⟩ hj9 hl.1 hL hn2 (fun w9 hv H locs hL => ?_) (fun E hE => absurd hE (by intro h; cases h))
  cases hv
  obtain ⟨v7, ev7⟩ : ∃ v7, v7 = stc v6 211 (wayA R5z 1 2 6) := ⟨_, rfl⟩
  have hL : Lx D ad aT A s.heap (cm v7) [(q, .inl (aT 0, 16, .inl f16))] H locs := by rw [ev7]; exact hL
  have k211 : v7 211 = R6z := by
    rw [ev7, stc_eq]
    show wayA R5z 1 2 6 = wayA R5z 1 2 (tV B0z N0z 105)
    rw [show tV B0z N0z 105 = 6 by decide +kernel]
  have hs2 : ∀ a, ¬ a = 211 → v7 a = v6 a := fun a h => by rw [ev7, stc_ne h]
  refine lv_aload_n hx.1 hx.2.1 dX11_init_328 rfl (lv_at hl 3 rfl) ?_
  refine lv_iconst (v := oI 0) hx.1 hx.2.1 dX11_init_329 (by decide) ?_
  refine lv_iconst (v := oI 2) hx.1 hx.2.1 dX11_init_330 (by decide) ?_
  refine lv_bipush (v := oI 9) hx.1 hx.2.1 dX11_init_331 (by decide) ?_
  have hn3 := m_newWay (F := 20000) (v := v7) (r := R6z) (a := 0) (b := 2) (far := 9) k211 (by decide +kernel)
  refine L_callV hy (b := 210) [.int (oI 0), .int (oI 2), .int (oI 9)] [] (ev_X11_newWay 20000 210 (by decide +kernel) 0 2 9 v7) vm_X11_newWay fc9 (by decide +kernel) g1325 dX11_init_333 rfl rfl (Nat.le_of_ble_eq_true rfl) ⟨by omega, by omega⟩ hj9 hl.1 hL hn3 (fun w9 hv H locs hL => ?_) (fun E hE => absurd hE (by intro h; cases h))
  cases hv
  obtain ⟨v8, ev8⟩ : ∃ v8, v8 = stc v7 211 (wayA R6z 0 2 9) := ⟨_, rfl⟩
  have hL : Lx D ad aT A s.heap (cm v8) [(q, .inl (aT 0, 16, .inl f16))] H locs := by rw [ev8]; exact hL
  have k211 : v8 211 = R7z := by
    rw [ev8, stc_eq]
    show wayA R6z 0 2 9 = wayA R6z 0 2 (tV B0z N0z 122)
    rw [show tV B0z N0z 122 = 9 by decide +kernel]
  have hs3 : ∀ a, ¬ a = 211 → v8 a = v7 a := fun a h => by rw [ev8, stc_ne h]
  refine lv_aload_n hx.1 hx.2.1 dX11_init_336 rfl (lv_at hl 3 rfl) ?_
  refine lv_iconst (v := oI 2) hx.1 hx.2.1 dX11_init_337 (by decide) ?_
  refine lv_iconst (v := oI 3) hx.1 hx.2.1 dX11_init_338 (by decide) ?_
  refine lv_iconst (v := oI 3) hx.1 hx.2.1 dX11_init_339 (by decide) ?_
  have hn4 := m_newWay (F := 20000) (v := v8) (r := R7z) (a := 2) (b := 3) (far := 3) k211 (by decide +kernel)
  refine L_callV hy (b := 210) [.int (oI 2), .int (oI 3), .int (oI 3)] [] (ev_X11_newWay 20000 210 (by decide +kernel) 2 3 3 v8) vm_X11_newWay fc9 (by decide +kernel) g1325 dX11_init_340 rfl rfl (Nat.le_of_ble_eq_true rfl) ⟨by omega, by omega⟩ hj9 hl.1 hL hn4 (fun w9 hv H locs hL => ?_) (fun E hE => absurd hE (by intro h; cases h))
  cases hv
  obtain ⟨v9, ev9⟩ : ∃ v9, v9 = stc v8 211 (wayA R7z 2 3 3) := ⟨_, rfl⟩
  have hL : Lx D ad aT A s.heap (cm v9) [(q, .inl (aT 0, 16, .inl f16))] H locs := by rw [ev9]; exact hL
  have k211 : v9 211 = R8z := by
    rw [ev9, stc_eq]
    show wayA R7z 2 3 3 = wayA R7z 2 3 (tV B0z N0z 137)
    rw [show tV B0z N0z 137 = 3 by decide +kernel]
  have hs4 : ∀ a, ¬ a = 211 → v9 a = v8 a := fun a h => by rw [ev9, stc_ne h]
  have big : ∀ a, a < 210 → v9 a = w a := fun a ha => by
    rw [hs4 a (by omega), hs3 a (by omega), hs2 a (by omega), hs1 a (by omega), ho5 a (by omega) (by omega) (by omega), ho4 a (by omega) (by omega) (by omega), ho3 a (by omega) (by omega) (by omega), ho2 a (by omega) (by omega) (by omega), ev1, stc_ne (by omega)]
    funext k
    unfold mo0
    rw [if_pos ha]
  have sml : ∀ i, ¬ i = 8 → v9 210 i = mo0 w 210 i := fun i hi => by
    rw [hs4 210 (by omega), hs3 210 (by omega), hs2 210 (by omega), hs1 210 (by omega), hi5 i hi, hi4 i hi, hi3 i hi, hi2 i hi, ev1, stc_ne (by omega)]
  have m0z : ∀ i : Int, ¬ i = 15 → mo0 w 210 i = 0 := fun i hi => by
    unfold mo0
    rw [if_neg (by decide), if_neg (fun z => hi z.2)]
  have m15 : mo0 w 210 15 = -1 := by
    unfold mo0
    rw [if_neg (by decide), if_pos ⟨rfl, rfl⟩]
  have hI : Inv v9 := inv0 hC big k211 (by rw [sml 4 (by decide), m0z 4 (by decide)]) (by rw [sml 5 (by decide), m0z 5 (by decide)]) (by rw [sml 13 (by decide), m0z 13 (by decide)]) (by rw [sml 14 (by decide), m0z 14 (by decide)]) (by rw [sml 15 (by decide), m15]) (by rw [sml 27 (by decide), m0z 27 (by decide)])
  have hP9 : va_P D vwCl (conc ad aT (cm v9)) H := hL.cn
  have hD9 : va_D A (conc ad aT (cm v9)) := ⟨fun i j x y hi hj e => by
    obtain ⟨h1, rfl⟩ := conc_of hi
    obtain ⟨h2, rfl⟩ := conc_of hj
    exact hL.2.1.1 i j _ _ (cx_l h1) (cx_l h2) e, fun k q hk => by
    obtain ⟨h1, rfl⟩ := conc_of hk
    exact hL.2.1.2 k _ (cx_l h1)⟩
  subst hAe
  exact W.vret hx.1 hx.2.1 hx.2.2.2.2.2.2.2.1 (fun t ht hW => ⟨⟨(ad, v9), rfl, ⟨b0, l0, l2, hI⟩, by rw [ht]; exact hP9, hD9⟩, hL.2.2.F ht⟩) hL.2.2.2.2 dX11_init_343 (hlocks := B.notSynchronized)
