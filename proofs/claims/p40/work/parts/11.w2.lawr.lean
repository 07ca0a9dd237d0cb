/-! ===== the law's methods: more rules; its helper that catches ===== -/
/-- a call that may throw, where a throw is not owed -/
def bTW {T : Type} (o : Option ((Int ⊕ String) × aI)) (K : Int → aI → Option T) : Option T := o.bind fun r => match r.1 with | .inl v => K v r.2 | .inr _ => none
/-- the contract of a method that catches -/
def EvX {T : Type} (y : MethodName) (cc : ByteArray) (nL : Nat) (ret : Option FieldType) (hh : List (Nat × Nat × Nat × Nat)) (dp mc : Nat) (cv : T → aO) (avs : List Value) (w : aW) (X : Option T) : Prop :=
  ∀ t, X = some t → (∀ E, ¬ (cv t).1 = .inr E) → ∀ (l : Launch), l.stackTraces = false → ∀ (D : va_G) (ad : Nat → Nat) (aT : Nat → ClassId) (N : Nat) (adV : Nat → Nat) (sz : Nat), vx_Met l y (.codeWith y cc nL ret hh :: Gw) (rmd dp mc) (PcE D ad aT N adV sz avs w) (QcE D ad aT N (aA ad N sz) [] (cv t)) (XcE D ad aT N (aA ad N sz) [] (cv t)) mc (6 * mc) (aA ad N sz)
def SMetX (y : MethodName) (cc : ByteArray) (nL : Nat) (ret : Option FieldType) (hh : List (Nat × Nat × Nat × Nat)) (n : Nat) : Prop :=
  Cond.static y ∈ Gw ∧ Cond.initialized y.cls ∈ Gw ∧ Cond.codeWith y cc nL ret hh ∈ Gw ∧ (y.cls ≠ "java/lang/invoke/MethodHandle" ∧ y.cls ≠ "java/lang/invoke/VarHandle") ∧ (parseMethodDescriptor y.desc).map (fun d => d.parameters.length) = some n ∧ nL ≤ 20
section LR2
variable {T : Type} {x : Cx} {Qf : T → State → Prop} {own : String} {cc : ByteArray} {nL dp mc j pc : Nat} {ret : Option FieldType} {L : List (Nat × Value)} {st : List Value} {w : aI} {m : aW} {X Y : Option T}
theorem E_gdy {a : Nat} (k : dy x a → EnQ x Qf j pc L st (cm w) X) : EnQ x Qf j pc L st (cm w) (gd (331 ≤ (a : Int) ∧ (a : Int) < w 999 0 + 90 ∧ w 999 0 ≤ 800) X) := by
  intro t ht H locs ls hP hS hl
  by_cases c : 331 ≤ (a : Int) ∧ (a : Int) < w 999 0 + 90 ∧ w 999 0 ≤ 800
  · rw [gd, if_pos c] at ht
    have := hP.nI (by omega) c.2.2
    exact k ⟨by omega, by omega⟩ t ht H locs ls hP hS hl
  · rw [gd, if_neg c] at ht; cases ht
theorem I_cVT (hx : CxOK x own cc nL dp mc ret) {y : MethodName} {C : String} {cc2 : ByteArray} {nL2 dp2 mc2 ix n : Nat} {ret2 : Option FieldType} {ci N : Nat} {Tt : u_T} {b : Nat} {X2 : Option ((Int ⊕ String) × aI)} {K : Int → aI → Option T} (As st : List Value) {sk : List Value} (hE : Ev y cc2 nL2 ret2 dp2 mc2 jvT (.ref b :: As) (cm w) X2) (hm : VMet y C cc2 nL2 ret2 n) (fc : fcl ci C Tt N) (hb : shK b = 10 + ci) (he : xst (xN x) b) (g : Cond.methodLink own ix y ∈ Gw) (d : decode cc pc = .ok (.invokevirtual ix, 3)) (hs : sk = As.reverse ++ .ref b :: st) (hn : As.length = n) (hst : (st.map fun v => v.category).sum ≤ 8) (hdp : dp2 + 1 ≤ dp) (hj : j + mc2 ≤ mc)
    (kk : ∀ (v : Int) (w1 : aI), EnQ x Qf (j + mc2) (pc + 3) L (.int (oI v) :: st) (cm w1) (K v w1)) : EnQ x Qf j pc L sk (cm w) (bTW X2 K) := by
  refine E_callV hx As st hE hm fc hb he g d hs hn hst hdp hj (fun r2 _ v hv => ?_) (fun r2 _ E hE9 r hr => ?_)
  · obtain ⟨q, w1⟩ := r2
    cases q with
    | inl u => cases hv; exact kk u w1
    | inr E => cases hv
  · obtain ⟨q, w1⟩ := r2
    cases q with
    | inl u => cases hE9
    | inr E => cases hr
theorem I_cSBX (hx : CxOK x own cc nL dp mc ret) {y : MethodName} {cc2 : ByteArray} {nL2 dp2 mc2 ix n : Nat} {ret2 : Option FieldType} {hh : List (Nat × Nat × Nat × Nat)} {X2 : Option (Bool × aI)} {K : Bool → aI → Option T} (As st : List Value) {sk : List Value}
    (hE : EvX y cc2 nL2 ret2 hh dp2 mc2 jvBW As (cm w) X2) (hm : SMetX y cc2 nL2 ret2 hh n) (g : Cond.methodLink own ix y ∈ Gw) (d : decode cc pc = .ok (.invokestatic ix, 3)) (hs : sk = As.reverse ++ st) (hn : As.length = n) (hst : (st.map fun v => v.category).sum ≤ 8) (hdp : dp2 + 1 ≤ dp) (hj : j + mc2 ≤ mc)
    (kk : ∀ (v : Bool) (w1 : aI), EnQ x Qf (j + mc2) (pc + 3) L (.int (oI (bI v)) :: st) (cm w1) (K v w1)) : EnQ x Qf j pc L sk (cm w) (bKW X2 K) := by
  intro t ht H locs ls hP hS hl
  subst hs
  obtain ⟨r2, h2, h3⟩ := Option.bind_eq_some_iff.mp ht
  obtain ⟨m1, m3, m4, m5, m6, m7⟩ := hm
  have hM := hE r2 h2 (fun E h => by cases h) (xl x) hx.tr (xD x) (xad x) (xaT x) (xN x) (xaV x) H.size
  have hsk : ((As.reverse ++ st).map (cvv (xad x))) = (As.map (cvv (xad x))).reverse ++ st.map (cvv (xad x)) := by
    rw [List.map_append, List.map_reverse]
  have hws : ∀ v ∈ (Cond.codeWith y cc2 nL2 ret2 hh :: Gw), ∀ (a' : Array Value) (U : State), (xs x).WarmedH U.vm → v.before a' U = true := by
    intro v hv a' U hW
    have h : v ∈ Gw := by
      rcases List.mem_cons.mp hv with h | h
      · rw [h]; exact m4
      · exact h
    exact word_at hW (good_of_word (gw_good v h)) (hx.ts v h)
  have hr := vx_runSX (p := xp x) (e := xe x) (R := xRm x) (below := xb x) (meth := xme x) (H := H) (locs := locs) (cells := j) (slots := 6 * j) (hh := hh) (As := As.map (cvv (xad x))) (rest := st.map (cvv (xad x))) (own := own) (index := ix) (n := n) (g := F0 (xm x) pc ls ((As.reverse ++ st).map (cvv (xad x)))) (S := (⟨hx.ex, hx.bs, hx.ml, hx.ow, hx.ts⟩ : CallFix (xp x) (xm x) (xc x) cc nL (xs x) (xa x) Gw own)) hM
    (cw := ⟨⟨rfl, rfl, (rmd_room hx hdp m7).1, (rmd_room hx (mc2 := mc2) hdp m7).2, hws, List.mem_cons_self⟩, hx.ts _ m4, hx.ts _ m3, m5, hx_par m6, hx.ts _ g, hx.ts _ m1⟩)
    ⟨PcE_blind, fun U hU hW => PcE_at hx hP hS As hU hW⟩
    rfl (by rw [List.length_map]; exact hn) (by show ls.size = nL; rw [← hx.ml]; exact hl.1) hsk (by rw [cvv_cats]; exact (show 2 * 0 + _ ≤ 8 by omega)) d (rmd_cells hx hj)
  refine E_run hx hP hr hS hj (fun v hv H1 locs1 hP1 hS1 => ?_) (fun E hE1 => by cases hE1)
  cases hv
  exact kk r2.1 r2.2 t h3 H1 locs1 ls hP1 hS1 hl
end LR2
/-- what the helper answers: whether it was an IllegalStateException -/
def f_L_isRefused (F : Nat) (a0 : Nat) (p1 p2 p3 : Int) (w : aI) : Option (Bool × aI) :=
  gd (rg p1) (if p1 = 0 then (f_X10_cut F a0 p2 p3 w).bind (fun r => match r.1 with | .inl _ => some (false, r.2) | .inr E => if E = "java/lang/IllegalStateException" then some (true, r.2) else none) else (f_X10_send F a0 p2 p3 1 0 w).bind (fun r => match r.1 with | .inl _ => some (false, r.2) | .inr E => if E = "java/lang/IllegalStateException" then some (true, r.2) else none))
theorem sm_L_isRefused : SMetX yL_isRefused cL_isRefused 5 (some .boolean) [(0, 24, 25, 182)] 4 := ⟨g687, by decide +kernel, by decide +kernel, ⟨by decide +kernel, by decide +kernel⟩, by decide +kernel, Nat.le_of_ble_eq_true rfl⟩
