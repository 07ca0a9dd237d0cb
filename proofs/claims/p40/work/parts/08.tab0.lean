/-! ===== what the printed rows of methods stand on ===== -/
def lp {S : Type} (body : S → S) (z : S) (n : Nat) : S := Nat.rec z (fun _ k => body k) n
theorem lp_zero {S : Type} (body : S → S) (z : S) : lp body z 0 = z := rfl
theorem lp_succ {S : Type} (body : S → S) (z : S) (n : Nat) : lp body z (n + 1) = body (lp body z n) := rfl
theorem kt_of (ci k tg : Nat) (h : ∀ a, a < 331 → shK a = 10 + ci → shK (shR a k) = tg) {a : Nat} (ha : shK a = 10 + ci) : shK (shR a k) = tg := h a (shK_lt ha (by omega)) ha
theorem pfd_I : parseFieldDescriptor "I" = some .int := by decide +kernel
theorem pfd_Z : parseFieldDescriptor "Z" = some .boolean := by decide +kernel
theorem bi_fit (b : Bool) : fits .boolean (.int (bi b)) = true := by cases b <;> rfl
theorem z_bi {v : Int32} (h : v = 0 ∨ v = 1) : bi (v == 1) = v := by rcases h with rfl | rfl <;> rfl
theorem z_nar {v : Int32} (h : v = 0 ∨ v = 1) : narrow .boolean (.int v) = .int v := by rcases h with rfl | rfl <;> rfl
theorem sw_out (x : Int32) (lo hi : Int) (hb : -2147483648 ≤ lo ∧ hi ≤ 2147483647) (h : ∀ n : Int, lo ≤ n → n ≤ hi → x = Int32.ofInt n → False) : x.toInt < lo ∨ hi < x.toInt := by
  rcases Int.lt_or_le x.toInt lo with q | q
  · exact Or.inl q
  · rcases Int.lt_or_le hi x.toInt with r | r
    · exact Or.inr r
    · exact (h x.toInt q r (Int32.ofInt_toInt x).symm).elim
theorem sw_ne {x : Int32} {n : Int32} (h : ¬ x = n) : ¬ x.toInt = n.toInt := fun e => h (Int32.toInt_inj.mp e)
theorem lsw_out (dflt : Int) (v : Int) : ∀ (ps : List (Int × Int)), (∀ q ∈ ps, ¬ v = q.1) → Op.lookupswitch.offset ps dflt v = dflt := by
  intro ps
  induction ps with
  | nil => intro _; rfl
  | cons q r ih =>
    intro h
    obtain ⟨a, o⟩ := q
    rw [Op.lookupswitch.offset_cons, if_neg (fun e => h (a, o) List.mem_cons_self e.symm)]
    exact ih (fun q hq => h q (List.mem_cons_of_mem _ hq))
section
variable {T : Type} {x : Cx} {cv : T → aO} {Qf : T → State → Prop} {own : String} {cc : ByteArray} {nL dp mc j pc : Nat} {ret : Option FieldType} {L : List (Nat × Value)} {st : List Value} {w : aW} {X Y : Option T}
theorem E_anull (hx : CxOK x own cc nL dp mc ret) (d : decode cc pc = .ok (.aconst_null, 1)) (kk : EnQ x Qf j (pc + 1) L (.null :: st) w X) : EnQ x Qf j pc L st w X :=
  fun t ht H locs ls hP hS hl => lv_null hx.ex hx.bs d (kk t ht H locs ls hP hS hl)
theorem I_ldcw (hx : CxOK x own cc nL dp mc ret) {m : aW} {ix : Nat} (n : Int) {v : Int32} (g : Cond.constant own ix v ∈ Gw) (hv : v = oI n) (d : decode cc pc = .ok (.ldc_w ix, 3)) (kk : EnQ x Qf j (pc + 3) L (.int (oI n) :: st) m X) : EnQ x Qf j pc L st m X := by
  subst hv
  exact fun t ht H locs ls hP hS hl => lv_ldcw hx.ex hx.bs hx.ow (hx.ts _ g) d (kk t ht H locs ls hP hS hl)
theorem lswI_out (dflt : Int) {u : Int} (hr : rg u) (ps : List (Int × Int)) (h : ∀ q ∈ ps, ¬ u = q.1) : Op.lookupswitch.offset ps dflt (oI u).toInt = dflt := by rw [oI_toInt hr]; exact lsw_out dflt u ps h
def f_strlen (s : Nat) : Option Int := gd (hasS s = true) (some ((xB s).length : Int))
def f_strchr (s : Nat) (k : Int) : Option Int := gd (hasS s = true) (gd (inI k (xB s).length) (some ((xB s).getD k.toNat 0).toInt))
end
