/-! ===== the law's body calls its own methods ===== -/
section LG4
variable {p : Program} {l : Launch} {e : Env} {R : Room} {s : State} {m : MethodId} {args : Array Value} {below : List Frame} {meth : Method} {c : Code} {H : Heap} {locs : List Loc} {cells slots : Nat} {Q : State → Prop}
variable {D : va_G} {ad adV : Nat → Nat} {aT : Nat → ClassId} {N : Nat} {A : Nat → Prop} {w : aW} {X : va_W} {tys : List (ClassId × FieldType)} {own : String} {cc : ByteArray} {nL pc : Nat} {ls : Array Slot}
theorem L_callG {T2 : Type} {X2 : Option T2} {cv2 : T2 → aO} (hx : LxC p l s m args meth c own cc nL D aT tys ad adV A) {y : MethodName} {C : String} {cc2 : ByteArray} {nL2 dp2 mc2 ix n : Nat} {ret2 : Option FieldType} {ci Nc : Nat} {Tt : u_T} {b : Nat} (As : List Value) (st : List Value) {sk : List Value}
    (hE : EvG y cc2 nL2 ret2 dp2 mc2 cv2 (.ref b :: As) w X2) (hm : VMet y C cc2 nL2 ret2 n) (fc : fcl ci C Tt Nc) (hb : shK b = 10 + ci) (he : xst N b) (g : Cond.methodLink own ix y ∈ Gw) (d : decode cc pc = .ok (.invokevirtual ix, 3)) (hs : sk = (As.map (cvv ad)).reverse ++ .ref (ad b) :: st) (hn : As.length = n) (hst : (st.map fun v => v.category).sum ≤ 8) (hfr : dp2 + 1 ≤ R.frames ∧ 8 + (nL2 + 11) + 39 * dp2 ≤ R.locals) (hj : cells + mc2 ≤ R.cells ∧ slots + 6 * mc2 ≤ R.slots)
    (hls : ls.size = nL) (hL : Lx D ad aT N A s.heap w X H locs) {r2 : T2} (h2 : X2 = some r2)
    (kk : ∀ v, (cv2 r2).1 = .inl v → ∀ (ad2 : Nat → Nat) (N2 : Nat) (H1 : Heap) (locs1 : List Loc), Agr ad ad2 N N2 → Lx D ad2 aT N2 A s.heap (cv2 r2).2 X H1 locs1 → W p l e R s m args below meth c H1 locs1 (cells + mc2) (slots + 6 * mc2) Q (F0 m (pc + 3) ls ((v.map (cvv ad2)).toList ++ st))) :
    W p l e R s m args below meth c H locs cells slots Q (F0 m pc ls sk) := by
  subst hs
  have hK := hx.2.2.2.2.2.2.2.1.1.sub (tys' := tysA aT) [0, 1, 2] rfl
  obtain ⟨q1, q2, q3, q4, q5, q6, q7, q8, q9, q10⟩ := id hx
  obtain ⟨m1, m2, m3, m4, m5, m6, m7⟩ := hm
  have hM := hE r2 h2 l q7 D ad aT N adV H.size
  have hr := vx_runV (p := p) (e := e) (R := R) (below := below) (meth := meth) (H := H) (locs := locs) (cells := cells) (slots := slots) (b := ad b) (As := As.map (cvv ad)) (rest := st) (C := C) (own := own) (index := ix) (n := n) (g := F0 m pc ls ((As.map (cvv ad)).reverse ++ .ref (ad b) :: st)) (S := (⟨q1, q2, q3, q4, q5⟩ : CallFix p m c cc nL s args Gw own)) hM
    (cw := ⟨⟨rfl, rfl, hfr.1, hfr.2, L_ws hx m4, List.mem_cons_self, q5 _ m4, q5 _ m3, m5, hx_par m6, q5 _ g⟩, q5 _ m1, q5 _ m2⟩)
    ⟨PcE_blind, va_recv hK hL.cn fc.1 (q0 := ps b) (ci := vi ci) (a := ad b) (by rw [conc_get hL.1.2.2.1 he, cve_obj hb]), fun U hU hW => L_at hx hL (.ref b :: As) hU hW⟩
    rfl (by rw [List.length_map]; exact hn) hls rfl (by show 2 * 0 + _ ≤ 8; omega) d hj
  exact L_runG hr hL q10 kk
end LG4
