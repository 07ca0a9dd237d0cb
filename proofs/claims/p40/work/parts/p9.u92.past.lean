/-! ===== the constructor of what is kept: eight posts, made in a loop ===== -/
theorem gi157 : (Cond.instantiable "WhistlePosts$Post" 10) ∈ Gw := gw_in 79 (by decide +kernel) (by decide +kernel)
def wPas (aT : Nat → ClassId) (cs : Nat → Nat → Nat) : Nat → va_W
  | 0 => []
  | k + 1 => wPas aT cs k ++ wPos aT (cs k)
theorem wPas_cg {aT : Nat → ClassId} {cs ds : Nat → Nat → Nat} : ∀ k, (∀ j, j < k → ds j = cs j) → wPas aT ds k = wPas aT cs k := by
  intro k
  induction k with
  | zero => intro _; rfl
  | succ k ih =>
    intro h
    show wPas aT ds k ++ wPos aT (ds k) = wPas aT cs k ++ wPos aT (cs k)
    rw [ih (fun j hj => h j (by omega)), h k (by omega)]
def fPas (cs : Nat → Nat → Nat) (k : Nat) : Nat → Option Nat := fun j => if j < k then some (cs j 0) else none
def wPast (aT : Nat → ClassId) (h0 q : Nat) (cs : Nat → Nat → Nat) (k : Nat) : va_W := (h0, .inr (3, [.ref q, .int 0, .int 0])) :: ([(q, .inl (aT 1, 8, .inr (.inr (.inr (.inr (fPas cs k))))))] ++ wPas aT cs k)
def poPas : (Nat → ClassId) → Nat → va_W → Prop := fun aT h0 w1 => ∃ q cs, w1 = wPast aT h0 q cs 8
theorem ix2 {T : Type} (x y : T) (L M : List T) : ((x :: ([y] ++ L)) ++ M)[2 + L.length]? = M[0]? := by
  have hl : (x :: ([y] ++ L)).length = 2 + L.length := by
    simp only [List.length_cons, List.length_append, List.length_nil]; omega
  rw [List.getElem?_append_right (by rw [hl]; exact Nat.le_refl _), hl, Nat.sub_self]
set_option maxHeartbeats 4000000 in
set_option maxRecDepth 100000 in
theorem past_loop {p : Program} {l : Launch} {e : Env} {s : State} {m : MethodId} {args : Array Value} {below : List Frame} {meth : Method} {c : Code} {D : va_G} {aT : Nat → ClassId} {h0 q : Nat} (hx : KxC p s m args meth c "WhistlePosts$Past" cX1_init 2 D aT (va_A [(h0, (.inr (3, [.null, .int 0, .int 0]) : va_E))] s.heap.size)) :
    ∀ (n k : Nat), k + n = 8 → ∀ (cs : Nat → Nat → Nat) (H : Heap) (locs : List Loc) (ls : Array Slot), Sx D (va_A [(h0, (.inr (3, [.null, .int 0, .int 0]) : va_E))] s.heap.size) s.heap (wPast aT h0 q cs k) H locs → lv_has ls 2 [(1, .int (nI k)), (0, .ref h0)] →
    W p l e (ctR 4 145 7056) s m args below meth c H locs (1 + 18 * k) (8 + 881 * k) (MQ below (CtQ D aT h0 s.heap.size 3 [.null, .int 0, .int 0] poPas) args s 145 7056 (va_A [(h0, .inr (3, [.null, .int 0, .int 0]))] s.heap.size)) (F0 m 15 ls []) := by
  obtain ⟨A, hAe⟩ : ∃ A, va_A [(h0, (.inr (3, [.null, .int 0, .int 0]) : va_E))] s.heap.size = A := ⟨_, rfl⟩
  have hK := hx.2.2.2.2.2.2.2.2.1
  intro n
  induction n with
  | zero =>
    intro k hk cs H locs ls hS hl
    obtain rfl : k = 8 := by omega
    have hS : Sx D (va_A [(h0, (.inr (3, [.null, .int 0, .int 0]) : va_E))] s.heap.size) s.heap ((h0, .inr (3, [.ref q, .int 0, .int 0])) :: ([(q, .inl (aT 1, 8, .inr (.inr (.inr (.inr (fPas cs 8))))))] ++ wPas aT cs 8)) _ _ := hS
    refine lv_iload_n hx.1 hx.2.1 dX1_init_15 rfl (lv_at hl 0 rfl) ?_
    refine lv_aload_n hx.1 hx.2.1 dX1_init_16 rfl (lv_at hl 1 rfl) ?_
    refine K_get (k := 0) (v := .ref q) hx hS fc1 (by decide) ⟨rfl, rfl, rfl⟩ g186 rfl dX1_init_17 ?_
    refine va_alen (v := nI 8) (x := (8, .inr (.inr (.inr (.inr (fPas cs 8)))))) hx.1 hx.2.1 hK hS.1 1 1 rfl rfl rfl dX1_init_20 ?_
    refine lv_icmp_ge (tgt := 43) hx.1 hx.2.1 dX1_init_21 (by decide) (fun _ => ?_) (fun z => absurd (by decide) z)
    refine lv_aload_n hx.1 hx.2.1 dX1_init_43 rfl (lv_at hl 1 rfl) ?_
    refine lv_iconst (v := 0) hx.1 hx.2.1 dX1_init_44 (by decide) ?_
    refine K_put (k := 1) (ty := .int) hx hS tyX1 fc1 tyX1_ok (by decide) ⟨rfl, rfl, rfl⟩ g187 (Or.inl rfl) (by decide +kernel) rfl rfl (Nat.le_of_ble_eq_true rfl) dX1_init_45 (fun H locs hS => ?_)
    refine lv_aload_n hx.1 hx.2.1 dX1_init_48 rfl (lv_at hl 1 rfl) ?_
    refine lv_iconst (v := 0) hx.1 hx.2.1 dX1_init_49 (by decide) ?_
    refine K_put (k := 2) (ty := .int) hx hS tyX1 fc1 tyX1_ok (by decide) ⟨rfl, rfl, rfl⟩ g188 (Or.inl rfl) (by decide +kernel) rfl rfl (Nat.le_of_ble_eq_true rfl) dX1_init_50 (fun H locs hS => ?_)
    exact K_ret hx hS ⟨q, cs, rfl⟩ ⟨by decide, by decide⟩ dX1_init_53 rfl
  | succ n ih =>
    intro k hk cs H locs ls hS hl
    have hk8 : k < 8 := by omega
    have hS : Sx D (va_A [(h0, (.inr (3, [.null, .int 0, .int 0]) : va_E))] s.heap.size) s.heap ((h0, .inr (3, [.ref q, .int 0, .int 0])) :: ([(q, .inl (aT 1, 8, .inr (.inr (.inr (.inr (fPas cs k))))))] ++ wPas aT cs k)) _ _ := hS
    refine lv_iload_n hx.1 hx.2.1 dX1_init_15 rfl (lv_at hl 0 rfl) ?_
    refine lv_aload_n hx.1 hx.2.1 dX1_init_16 rfl (lv_at hl 1 rfl) ?_
    refine K_get (k := 0) (v := .ref q) hx hS fc1 (by decide) ⟨rfl, rfl, rfl⟩ g186 rfl dX1_init_17 ?_
    refine va_alen (v := nI 8) (x := (8, .inr (.inr (.inr (.inr (fPas cs k)))))) hx.1 hx.2.1 hK hS.1 1 1 rfl rfl rfl dX1_init_20 ?_
    refine lv_icmp_ge (tgt := 43) hx.1 hx.2.1 dX1_init_21 (by decide) (fun z => absurd z (nI_ge hk8 (by decide))) (fun _ => ?_)
    refine lv_aload_n hx.1 hx.2.1 dX1_init_24 rfl (lv_at hl 1 rfl) ?_
    refine K_get (k := 0) (v := .ref q) hx hS fc1 (by decide) ⟨rfl, rfl, rfl⟩ g186 rfl dX1_init_25 ?_
    refine lv_iload_n hx.1 hx.2.1 dX1_init_28 rfl (lv_at hl 0 rfl) ?_
    refine K_new (ci := 2) (fs := [.int 0, .int 0, .int 0, .int 0, .null, .null, .null, .null, .null, .null]) hx hS tyX2 fc2 tyX2_ok (fun j hj => by rcases (show j = 0 ∨ j = 1 ∨ j = 2 ∨ j = 3 ∨ j = 4 ∨ j = 5 ∨ j = 6 ∨ j = 7 ∨ j = 8 ∨ j = 9 by omega) with rfl | rfl | rfl | rfl | rfl | rfl | rfl | rfl | rfl | rfl <;> rfl) g183 gi157 g29 ⟨by show 1 + 18 * k + 1 ≤ 145; omega, by show 8 + 881 * k + 10 ≤ 7056; omega⟩ dX1_init_29 (fun q1 H hS => ?_)
    refine lv_dup hx.1 hx.2.1 dX1_init_32 rfl ?_
    refine K_call (As := []) (st := [.ref q1, .int (nI k), .ref q]) hx ct_Post hS g82 g29 g185 g81 rfl (by decide +kernel) dX1_init_33 rfl rfl (Nat.le_of_ble_eq_true rfl) ⟨by decide, by decide⟩ ⟨by show 1 + 18 * k + 1 + 17 ≤ 145; omega, by show 8 + 881 * k + 10 + 871 ≤ 7056; omega⟩ hl.1 (fun w1 H locs hw hS9 => ?_)
    obtain ⟨cr, hcr, rfl⟩ := hw
    subst hcr
    have hin : vp_in (nI k) 8 := vp_in_nI hk8 (by decide)
    refine va_astq (r := (RX2, TX2, 10)) (f := fPas cs k) (n := 8) (v := cr 0) hx.1 hx.2.1 hK hS9.1 hS9.2.1 hS9.2.2 1 1 (2 + (wPas aT cs k).length) 4 rfl rfl ((ix2 _ _ _ _).trans rfl) fc2.1 hin dX1_init_36 (fun H locs a1 a2 a3 => ?_)
    obtain ⟨ds, hds⟩ : ∃ ds : Nat → Nat → Nat, ds = fun j => if j < k then cs j else cr := ⟨_, rfl⟩
    have e0 : (nI k).toNatClampNeg = k := nI_clamp (by omega)
    have e1 : va_up (fPas cs k) (nI k).toNatClampNeg (some (cr 0)) = fPas ds (k + 1) := by
      funext j
      rw [e0]
      unfold va_up fPas
      rw [hds]
      by_cases c1 : j = k
      · rw [if_pos c1, if_pos (by omega), c1]
        dsimp only
        rw [if_neg (Nat.lt_irrefl k)]
      · rw [if_neg c1]
        by_cases c2 : j < k
        · rw [if_pos c2, if_pos (by omega)]
          dsimp only
          rw [if_pos c2]
        · rw [if_neg c2, if_neg (by omega)]
    have e2 : wPas aT ds k = wPas aT cs k := wPas_cg k (fun j hj => by rw [hds]; exact if_pos hj)
    have e3 : ds k = cr := by rw [hds]; exact if_neg (Nat.lt_irrefl k)
    have e4 : (((h0, (.inr (3, [.ref q, .int 0, .int 0]) : va_E)) :: ([(q, (.inl (aT 1, 8, .inr (.inr (.inr (.inr (fPas cs k))))) : va_E))] ++ wPas aT cs k)) ++ wPos aT cr).set 1 (q, .inl (aT 1, 8, .inr (.inr (.inr (.inr (va_up (fPas cs k) (nI k).toNatClampNeg (some (cr 0)))))))) = wPast aT h0 q ds (k + 1) := by
      rw [e1]
      show _ :: _ :: (wPas aT cs k ++ wPos aT cr) = _ :: _ :: (wPas aT ds k ++ wPos aT (ds k))
      rw [e2, e3]
    rw [e4] at a1 a2
    refine lv_iinc (v := nI (k + 1)) (lv' := [(1, .int (nI (k + 1))), (0, .ref h0)]) hx.1 hx.2.1 dX1_init_37 hl (k := 0) rfl (by rw [← nI_1]; rfl) (by decide) rfl (fun ls hl => ?_)
    refine lv_goto (tgt := 15) hx.1 hx.2.1 dX1_init_40 (by decide) ?_
    refine W.widen (k := 1 + 18 * (k + 1)) (n := 8 + 881 * (k + 1)) (by omega) (by omega) ?_
    exact ih (k + 1) (by omega) ds H locs ls ⟨a1, a2, a3⟩ hl
set_option maxHeartbeats 4000000 in
set_option maxRecDepth 100000 in
theorem ct_Past : Ct yX1_init cX1_init 2 4 145 7056 3 [.null, .int 0, .int 0] [] poPas := by
  refine Ct.of (own := "WhistlePosts$Past") (by decide +kernel) rfl rfl (fun _ => Nat.le_of_ble_eq_true rfl) ?_
  intro p l e s m args below meth c D aT h0 ls hx hS hl
  have hl : lv_has ls 2 [(0, .ref h0)] := hl
  refine lv_aload_n hx.1 hx.2.1 dX1_init_0 rfl (lv_at hl 0 rfl) ?_
  refine K_obj hx g182 g62 g63 hl.1 dX1_init_1 (Nat.le_of_ble_eq_true rfl) (Nat.le_of_ble_eq_true rfl) ?_
  refine lv_aload_n hx.1 hx.2.1 dX1_init_4 rfl (lv_at hl 0 rfl) ?_
  refine lv_bipush (v := 8) hx.1 hx.2.1 dX1_init_5 (by decide) ?_
  refine K_newq (N' := 8) hx hS (by decide) (by decide) (by decide) g183 ⟨by decide, by decide⟩ dX1_init_7 (fun q H hS => ?_)
  have e0 : (fun _ => none : Nat → Option Nat) = fPas (fun _ _ => 0) 0 := by
    funext j
    exact (if_neg (Nat.not_lt_zero j)).symm
  rw [e0] at hS
  refine K_put (k := 0) (ty := .array (.object "WhistlePosts$Post")) hx hS tyX1 fc1 tyX1_ok (by decide) ⟨rfl, rfl, rfl⟩ g186 (Or.inr ⟨rfl, rfl⟩) (by decide +kernel) rfl rfl (Nat.le_of_ble_eq_true rfl) dX1_init_10 (fun H locs hS => ?_)
  refine lv_iconst (v := 0) hx.1 hx.2.1 dX1_init_13 (by decide) ?_
  refine lv_istore_n (lv' := [(1, .int (nI 0)), (0, .ref h0)]) hx.1 hx.2.1 dX1_init_14 rfl hl (by decide) rfl (fun ls hl => ?_)
  exact past_loop hx 8 0 rfl (fun _ _ => 0) H locs ls hS hl
