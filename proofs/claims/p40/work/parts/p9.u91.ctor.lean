/-! ===== the constructors of what the class holds ===== -/
def wTab (aT : Nat → ClassId) (q a : Nat) (r c : Int32) (n : Nat) : va_W := [(q, .inr (8, [.int r, .int c, .ref a])), (a, .inl (aT 0, n, .inl fun _ => 0))]
def wByt (aT : Nat → ClassId) (q a n : Nat) : va_W := [(q, .inr (2, [.ref a, .int 0])), (a, .inl (aT 0, n, .inl fun _ => 0))]
def wRoa (aT : Nat → ClassId) (c : Nat → Nat) : va_W := (c 0, .inr (5, [.ref (c 1), .ref (c 3), .ref (c 5)])) :: ((([] ++ wTab aT (c 1) (c 2) 10 10 100) ++ wTab aT (c 3) (c 4) 10 10 100) ++ wTab aT (c 5) (c 6) 10 10 100)
def wPos (aT : Nat → ClassId) (c : Nat → Nat) : va_W := (c 0, .inr (4, [.int 0, .int 0, .int 0, .int 0, .ref (c 1), .ref (c 3), .ref (c 5), .ref (c 7), .ref (c 9), .ref (c 11)])) :: (((((([] ++ wTab aT (c 1) (c 2) 10 8 80) ++ wTab aT (c 3) (c 4) 20 3 60) ++ wTab aT (c 5) (c 6) 30 13 390) ++ wTab aT (c 7) (c 8) 1 3 3) ++ wTab aT (c 9) (c 10) 1 11 11) ++ wRoa aT (fun k => c (11 + k)))
def poByt (n : Nat) : (Nat → ClassId) → Nat → va_W → Prop := fun aT h0 w1 => ∃ a, w1 = wByt aT h0 a n
def poTab (r c : Int32) (n : Nat) : (Nat → ClassId) → Nat → va_W → Prop := fun aT h0 w1 => ∃ a, w1 = wTab aT h0 a r c n
def poRoa : (Nat → ClassId) → Nat → va_W → Prop := fun aT h0 w1 => ∃ c : Nat → Nat, c 0 = h0 ∧ w1 = wRoa aT c
def poPos : (Nat → ClassId) → Nat → va_W → Prop := fun aT h0 w1 => ∃ c : Nat → Nat, c 0 = h0 ∧ w1 = wPos aT c
theorem int_ra {s : State} {ty : FieldType} (h : ∀ n, ty ≠ .object n) {cA : ClassId} (k : va_RA s cA ty) : s.vm.findClass ("[" ++ ty.toString) = some cA := by
  cases ty with
  | object n => exact absurd rfl (h n)
  | _ => exact k
theorem gi155 : (Cond.arrayClass Jvm.ClassFile.FieldType.int) ∈ Gw := gw_in 77 (by decide +kernel) (by decide +kernel)
theorem gi163 : (Cond.instantiable "WhistlePosts$Table" 3) ∈ Gw := gw_in 85 (by decide +kernel) (by decide +kernel)
theorem gi179 : (Cond.instantiable "WhistlePosts$Roads" 3) ∈ Gw := gw_in 101 (by decide +kernel) (by decide +kernel)
set_option maxHeartbeats 4000000 in
set_option maxRecDepth 100000 in
theorem ct_Table {r co : Int32} {n : Nat} (h1 : ¬ r ≤ 0) (h2 : ¬ 64 < r) (h3 : ¬ co ≤ 0) (h4 : ¬ 64 < co) (h5 : (r * co).toNatClampNeg = n) (h6 : ¬ r * co < 0) (h7 : n * componentBytes .int ≤ 536870912) : Ct yX7_init cX7_init 4 1 1 n 8 [.int 0, .int 0, .null] [.int r, .int co] (poTab r co n) := by
  refine Ct.of (own := "WhistlePosts$Table") (by decide +kernel) rfl rfl (fun _ => Nat.le_of_ble_eq_true rfl) ?_
  intro p l e s m args below meth c D aT h0 ls hx hS hl
  have hl : lv_has ls 4 [(0, .ref h0), (1, .int r), (2, .int co)] := hl
  generalize hAe : va_A [(h0, (.inr (8, [.int 0, .int 0, .null]) : va_E))] s.heap.size = A at hx hS ⊢
  have hS : Sx D A s.heap ((h0, .inr (8, [.int 0, .int 0, .null])) :: []) _ _ := hS
  refine lv_aload_n hx.1 hx.2.1 dX7_init_0 rfl (lv_at hl 0 rfl) ?_
  refine K_obj hx g89 g62 g63 hl.1 dX7_init_1 (Nat.le_of_ble_eq_true rfl) (Nat.le_of_ble_eq_true rfl) ?_
  refine lv_iload_n hx.1 hx.2.1 dX7_init_4 rfl (lv_at hl 1 rfl) ?_
  refine lv_if_le (tgt := 28) hx.1 hx.2.1 dX7_init_5 (by decide) (fun z => absurd z h1) (fun _ => ?_)
  refine lv_iload_n hx.1 hx.2.1 dX7_init_8 rfl (lv_at hl 1 rfl) ?_
  refine lv_bipush (v := 64) hx.1 hx.2.1 dX7_init_9 (by decide) ?_
  refine lv_icmp_gt (tgt := 28) hx.1 hx.2.1 dX7_init_11 (by decide) (fun z => absurd z h2) (fun _ => ?_)
  refine lv_iload_n hx.1 hx.2.1 dX7_init_14 rfl (lv_at hl 2 rfl) ?_
  refine lv_if_le (tgt := 28) hx.1 hx.2.1 dX7_init_15 (by decide) (fun z => absurd z h3) (fun _ => ?_)
  refine lv_iload_n hx.1 hx.2.1 dX7_init_18 rfl (lv_at hl 2 rfl) ?_
  refine lv_bipush (v := 64) hx.1 hx.2.1 dX7_init_19 (by decide) ?_
  refine lv_icmp_gt (tgt := 28) hx.1 hx.2.1 dX7_init_21 (by decide) (fun z => absurd z h4) (fun _ => ?_)
  refine lv_iconst (v := 1) hx.1 hx.2.1 dX7_init_24 (by decide) ?_
  refine lv_goto (tgt := 29) hx.1 hx.2.1 dX7_init_25 (by decide) ?_
  refine lv_istore_n (lv' := [(3, .int 1), (0, .ref h0), (1, .int r), (2, .int co)]) hx.1 hx.2.1 dX7_init_29 rfl hl (by decide) rfl (fun ls hl => ?_)
  refine lv_aload_n hx.1 hx.2.1 dX7_init_30 rfl (lv_at hl 1 rfl) ?_
  refine lv_iload_n hx.1 hx.2.1 dX7_init_31 rfl (lv_at hl 0 rfl) ?_
  refine lv_if_eq (tgt := 39) hx.1 hx.2.1 dX7_init_32 (by decide) (fun z => absurd z (by decide)) (fun _ => ?_)
  refine lv_iload_n hx.1 hx.2.1 dX7_init_35 rfl (lv_at hl 2 rfl) ?_
  refine lv_goto (tgt := 40) hx.1 hx.2.1 dX7_init_36 (by decide) ?_
  refine K_put (k := 0) (ty := .int) hx hS tyX7 fc6 tyX7_ok (by decide) ⟨rfl, rfl, rfl⟩ g90 (Or.inr ⟨rfl, rfl⟩) (by decide +kernel) rfl rfl (Nat.le_of_ble_eq_true rfl) dX7_init_40 (fun H locs hS => ?_)
  have hS : Sx D A s.heap ((h0, .inr (8, [.int r, .int 0, .null])) :: []) _ _ := hS
  refine lv_aload_n hx.1 hx.2.1 dX7_init_43 rfl (lv_at hl 1 rfl) ?_
  refine lv_iload_n hx.1 hx.2.1 dX7_init_44 rfl (lv_at hl 0 rfl) ?_
  refine lv_if_eq (tgt := 52) hx.1 hx.2.1 dX7_init_45 (by decide) (fun z => absurd z (by decide)) (fun _ => ?_)
  refine lv_iload_n hx.1 hx.2.1 dX7_init_48 rfl (lv_at hl 3 rfl) ?_
  refine lv_goto (tgt := 53) hx.1 hx.2.1 dX7_init_49 (by decide) ?_
  refine K_put (k := 1) (ty := .int) hx hS tyX7 fc6 tyX7_ok (by decide) ⟨rfl, rfl, rfl⟩ g91 (Or.inr ⟨rfl, rfl⟩) (by decide +kernel) rfl rfl (Nat.le_of_ble_eq_true rfl) dX7_init_53 (fun H locs hS => ?_)
  have hS : Sx D A s.heap ((h0, .inr (8, [.int r, .int co, .null])) :: []) _ _ := hS
  refine lv_aload_n hx.1 hx.2.1 dX7_init_56 rfl (lv_at hl 1 rfl) ?_
  refine lv_iload_n hx.1 hx.2.1 dX7_init_57 rfl (lv_at hl 0 rfl) ?_
  refine lv_if_eq (tgt := 69) hx.1 hx.2.1 dX7_init_58 (by decide) (fun z => absurd z (by decide)) (fun _ => ?_)
  refine lv_iload_n hx.1 hx.2.1 dX7_init_61 rfl (lv_at hl 2 rfl) ?_
  refine lv_iload_n hx.1 hx.2.1 dX7_init_62 rfl (lv_at hl 3 rfl) ?_
  refine lv_imul hx.1 hx.2.1 dX7_init_63 ?_
  refine K_newa (atype := .int) (ty := .int) (a0 := (n, .inl fun _ => 0)) hx hS 0 rfl rfl (fun _ k => int_ra (fun _ h => by cases h) k) (fun _ => rfl) h6 h5 h7 gi155 ⟨Nat.le_of_ble_eq_true rfl, by show 0 + n ≤ n; omega⟩ dX7_init_64 (fun q H hS => ?_)
  have hS : Sx D A s.heap ((h0, .inr (8, [.int r, .int co, .null])) :: [(q, .inl (aT 0, n, .inl fun _ => 0))]) _ _ := hS
  refine lv_goto (tgt := 72) hx.1 hx.2.1 dX7_init_66 (by decide) ?_
  refine K_put (k := 2) (ty := .array .int) hx hS tyX7 fc6 tyX7_ok (by decide) ⟨rfl, rfl, rfl⟩ g92 (Or.inr ⟨rfl, rfl⟩) (by decide +kernel) rfl rfl (Nat.le_of_ble_eq_true rfl) dX7_init_72 (fun H locs hS => ?_)
  have hS : Sx D A s.heap ((h0, .inr (8, [.int r, .int co, .ref q])) :: [(q, .inl (aT 0, n, .inl fun _ => 0))]) _ _ := hS
  subst hAe
  exact K_ret hx hS ⟨q, rfl⟩ ⟨Nat.le_of_ble_eq_true rfl, by show 0 + n ≤ n; omega⟩ dX7_init_75 rfl
set_option maxHeartbeats 4000000 in
set_option maxRecDepth 100000 in
theorem ct_Bytes {r : Int32} {n : Nat} (h1 : ¬ r ≤ 0) (h2 : ¬ 800 < r) (h5 : r.toNatClampNeg = n) (h6 : ¬ r < 0) (h7 : n * componentBytes .int ≤ 536870912) : Ct yX0_init cX0_init 2 1 1 n 2 [.null, .int 0] [.int r] (poByt n) := by
  refine Ct.of (own := "WhistlePosts$Bytes") (by decide +kernel) rfl rfl (fun _ => Nat.le_of_ble_eq_true rfl) ?_
  intro p l e s m args below meth c D aT h0 ls hx hS hl
  have hl : lv_has ls 2 [(0, .ref h0), (1, .int r)] := hl
  generalize hAe : va_A [(h0, (.inr (2, [.null, .int 0]) : va_E))] s.heap.size = A at hx hS ⊢
  have hS : Sx D A s.heap ((h0, .inr (2, [.null, .int 0])) :: []) _ _ := hS
  refine lv_aload_n hx.1 hx.2.1 dX0_init_0 rfl (lv_at hl 0 rfl) ?_
  refine K_obj hx g69 g62 g63 hl.1 dX0_init_1 (Nat.le_of_ble_eq_true rfl) (Nat.le_of_ble_eq_true rfl) ?_
  refine lv_aload_n hx.1 hx.2.1 dX0_init_4 rfl (lv_at hl 0 rfl) ?_
  refine lv_iload_n hx.1 hx.2.1 dX0_init_5 rfl (lv_at hl 1 rfl) ?_
  refine lv_if_le (tgt := 20) hx.1 hx.2.1 dX0_init_6 (by decide) (fun z => absurd z h1) (fun _ => ?_)
  refine lv_iload_n hx.1 hx.2.1 dX0_init_9 rfl (lv_at hl 1 rfl) ?_
  refine lv_sipush (v := 800) hx.1 hx.2.1 dX0_init_10 (by decide) ?_
  refine lv_icmp_gt (tgt := 20) hx.1 hx.2.1 dX0_init_13 (by decide) (fun z => absurd z h2) (fun _ => ?_)
  refine lv_iload_n hx.1 hx.2.1 dX0_init_16 rfl (lv_at hl 1 rfl) ?_
  refine lv_goto (tgt := 21) hx.1 hx.2.1 dX0_init_17 (by decide) ?_
  refine K_newa (atype := .int) (ty := .int) (a0 := (n, .inl fun _ => 0)) hx hS 0 rfl rfl (fun _ k => int_ra (fun _ h => by cases h) k) (fun _ => rfl) h6 h5 h7 gi155 ⟨Nat.le_of_ble_eq_true rfl, by show 0 + n ≤ n; omega⟩ dX0_init_21 (fun q H hS => ?_)
  have hS : Sx D A s.heap ((h0, .inr (2, [.null, .int 0])) :: [(q, .inl (aT 0, n, .inl fun _ => 0))]) _ _ := hS
  refine K_put (k := 0) (ty := .array .int) hx hS tyX0 fc0 tyX0_ok (by decide) ⟨rfl, rfl, rfl⟩ g70 (Or.inr ⟨rfl, rfl⟩) (by decide +kernel) rfl rfl (Nat.le_of_ble_eq_true rfl) dX0_init_23 (fun H locs hS => ?_)
  have hS : Sx D A s.heap ((h0, .inr (2, [.ref q, .int 0])) :: [(q, .inl (aT 0, n, .inl fun _ => 0))]) _ _ := hS
  refine lv_aload_n hx.1 hx.2.1 dX0_init_26 rfl (lv_at hl 0 rfl) ?_
  refine lv_iconst (v := 0) hx.1 hx.2.1 dX0_init_27 (by decide) ?_
  refine K_put (k := 1) (ty := .int) hx hS tyX0 fc0 tyX0_ok (by decide) ⟨rfl, rfl, rfl⟩ g71 (Or.inl rfl) (by decide +kernel) rfl rfl (Nat.le_of_ble_eq_true rfl) dX0_init_28 (fun H locs hS => ?_)
  have hS : Sx D A s.heap ((h0, .inr (2, [.ref q, .int 0])) :: [(q, .inl (aT 0, n, .inl fun _ => 0))]) _ _ := hS
  subst hAe
  exact K_ret hx hS ⟨q, rfl⟩ ⟨Nat.le_of_ble_eq_true rfl, by show 0 + n ≤ n; omega⟩ dX0_init_31 rfl
set_option maxHeartbeats 4000000 in
set_option maxRecDepth 100000 in
theorem ct_Roads : Ct yX3_init cX3_init 1 2 6 309 5 [.null, .null, .null] [] poRoa := by
  refine Ct.of (own := "WhistlePosts$Roads") (by decide +kernel) rfl rfl (fun _ => Nat.le_of_ble_eq_true rfl) ?_
  intro p l e s m args below meth c D aT h0 ls hx hS hl
  have hl : lv_has ls 1 [(0, .ref h0)] := hl
  generalize hAe : va_A [(h0, (.inr (5, [.null, .null, .null]) : va_E))] s.heap.size = A at hx hS ⊢
  have hS : Sx D A s.heap ((h0, .inr (5, [.null, .null, .null])) :: []) _ _ := hS
  refine lv_aload_n hx.1 hx.2.1 dX3_init_0 rfl (lv_at hl 0 rfl) ?_
  refine K_obj hx g105 g62 g63 hl.1 dX3_init_1 (Nat.le_of_ble_eq_true rfl) (Nat.le_of_ble_eq_true rfl) ?_
  refine lv_aload_n hx.1 hx.2.1 dX3_init_4 rfl (lv_at hl 0 rfl) ?_
  refine K_new (ci := 6) (fs := [.int 0, .int 0, .null]) hx hS tyX7 fc6 tyX7_ok (fun j hj => by rcases (show j = 0 ∨ j = 1 ∨ j = 2 by omega) with rfl | rfl | rfl <;> rfl) g106 gi163 g30 ⟨by decide, by decide⟩ dX3_init_5 (fun q5 H hS => ?_)
  have hS : Sx D A s.heap (((h0, .inr (5, [.null, .null, .null])) :: []) ++ [(q5, .inr (8, [.int 0, .int 0, .null]))]) _ _ := hS
  refine lv_dup hx.1 hx.2.1 dX3_init_8 rfl ?_
  refine lv_bipush (v := 10) hx.1 hx.2.1 dX3_init_9 (by decide) ?_
  refine lv_bipush (v := 10) hx.1 hx.2.1 dX3_init_11 (by decide) ?_
  refine K_call (ws := (h0, .inr (5, [.null, .null, .null])) :: []) (As := [.int 10, .int 10]) (st := [.ref q5, .ref h0]) hx (ct_Table (r := 10) (co := 10) (n := 100) (by decide) (by decide) (by decide) (by decide) (by decide) (by decide) (Nat.le_of_ble_eq_true rfl)) hS g88 g30 g107 g87 rfl (by decide +kernel) dX3_init_13 rfl rfl (Nat.le_of_ble_eq_true rfl) ⟨by decide, by decide⟩ ⟨by decide, by decide⟩ hl.1 (fun w1 H locs hw hS => ?_)
  obtain ⟨a5, rfl⟩ := hw
  have hS : Sx D A s.heap ((h0, .inr (5, [.null, .null, .null])) :: ([] ++ wTab aT q5 a5 10 10 100)) _ _ := hS
  refine K_put (k := 0) (ty := .object "WhistlePosts$Table") hx hS tyX3 fc3 tyX3_ok (by decide) ⟨rfl, rfl, rfl⟩ g108 (Or.inr ⟨rfl, rfl⟩) (by decide +kernel) rfl rfl (Nat.le_of_ble_eq_true rfl) dX3_init_16 (fun H locs hS => ?_)
  have hS : Sx D A s.heap ((h0, .inr (5, [.ref q5, .null, .null])) :: ([] ++ wTab aT q5 a5 10 10 100)) _ _ := hS
  refine lv_aload_n hx.1 hx.2.1 dX3_init_19 rfl (lv_at hl 0 rfl) ?_
  refine K_new (ci := 6) (fs := [.int 0, .int 0, .null]) hx hS tyX7 fc6 tyX7_ok (fun j hj => by rcases (show j = 0 ∨ j = 1 ∨ j = 2 by omega) with rfl | rfl | rfl <;> rfl) g106 gi163 g30 ⟨by decide, by decide⟩ dX3_init_20 (fun q20 H hS => ?_)
  have hS : Sx D A s.heap (((h0, .inr (5, [.ref q5, .null, .null])) :: ([] ++ wTab aT q5 a5 10 10 100)) ++ [(q20, .inr (8, [.int 0, .int 0, .null]))]) _ _ := hS
  refine lv_dup hx.1 hx.2.1 dX3_init_23 rfl ?_
  refine lv_bipush (v := 10) hx.1 hx.2.1 dX3_init_24 (by decide) ?_
  refine lv_bipush (v := 10) hx.1 hx.2.1 dX3_init_26 (by decide) ?_
  refine K_call (ws := (h0, .inr (5, [.ref q5, .null, .null])) :: ([] ++ wTab aT q5 a5 10 10 100)) (As := [.int 10, .int 10]) (st := [.ref q20, .ref h0]) hx (ct_Table (r := 10) (co := 10) (n := 100) (by decide) (by decide) (by decide) (by decide) (by decide) (by decide) (Nat.le_of_ble_eq_true rfl)) hS g88 g30 g107 g87 rfl (by decide +kernel) dX3_init_28 rfl rfl (Nat.le_of_ble_eq_true rfl) ⟨by decide, by decide⟩ ⟨by decide, by decide⟩ hl.1 (fun w1 H locs hw hS => ?_)
  obtain ⟨a20, rfl⟩ := hw
  have hS : Sx D A s.heap ((h0, .inr (5, [.ref q5, .null, .null])) :: (([] ++ wTab aT q5 a5 10 10 100) ++ wTab aT q20 a20 10 10 100)) _ _ := hS
  refine K_put (k := 1) (ty := .object "WhistlePosts$Table") hx hS tyX3 fc3 tyX3_ok (by decide) ⟨rfl, rfl, rfl⟩ g110 (Or.inr ⟨rfl, rfl⟩) (by decide +kernel) rfl rfl (Nat.le_of_ble_eq_true rfl) dX3_init_31 (fun H locs hS => ?_)
  have hS : Sx D A s.heap ((h0, .inr (5, [.ref q5, .ref q20, .null])) :: (([] ++ wTab aT q5 a5 10 10 100) ++ wTab aT q20 a20 10 10 100)) _ _ := hS
  refine lv_aload_n hx.1 hx.2.1 dX3_init_34 rfl (lv_at hl 0 rfl) ?_
  refine K_new (ci := 6) (fs := [.int 0, .int 0, .null]) hx hS tyX7 fc6 tyX7_ok (fun j hj => by rcases (show j = 0 ∨ j = 1 ∨ j = 2 by omega) with rfl | rfl | rfl <;> rfl) g106 gi163 g30 ⟨by decide, by decide⟩ dX3_init_35 (fun q35 H hS => ?_)
  have hS : Sx D A s.heap (((h0, .inr (5, [.ref q5, .ref q20, .null])) :: (([] ++ wTab aT q5 a5 10 10 100) ++ wTab aT q20 a20 10 10 100)) ++ [(q35, .inr (8, [.int 0, .int 0, .null]))]) _ _ := hS
  refine lv_dup hx.1 hx.2.1 dX3_init_38 rfl ?_
  refine lv_bipush (v := 10) hx.1 hx.2.1 dX3_init_39 (by decide) ?_
  refine lv_bipush (v := 10) hx.1 hx.2.1 dX3_init_41 (by decide) ?_
  refine K_call (ws := (h0, .inr (5, [.ref q5, .ref q20, .null])) :: (([] ++ wTab aT q5 a5 10 10 100) ++ wTab aT q20 a20 10 10 100)) (As := [.int 10, .int 10]) (st := [.ref q35, .ref h0]) hx (ct_Table (r := 10) (co := 10) (n := 100) (by decide) (by decide) (by decide) (by decide) (by decide) (by decide) (Nat.le_of_ble_eq_true rfl)) hS g88 g30 g107 g87 rfl (by decide +kernel) dX3_init_43 rfl rfl (Nat.le_of_ble_eq_true rfl) ⟨by decide, by decide⟩ ⟨by decide, by decide⟩ hl.1 (fun w1 H locs hw hS => ?_)
  obtain ⟨a35, rfl⟩ := hw
  have hS : Sx D A s.heap ((h0, .inr (5, [.ref q5, .ref q20, .null])) :: ((([] ++ wTab aT q5 a5 10 10 100) ++ wTab aT q20 a20 10 10 100) ++ wTab aT q35 a35 10 10 100)) _ _ := hS
  refine K_put (k := 2) (ty := .object "WhistlePosts$Table") hx hS tyX3 fc3 tyX3_ok (by decide) ⟨rfl, rfl, rfl⟩ g112 (Or.inr ⟨rfl, rfl⟩) (by decide +kernel) rfl rfl (Nat.le_of_ble_eq_true rfl) dX3_init_46 (fun H locs hS => ?_)
  have hS : Sx D A s.heap ((h0, .inr (5, [.ref q5, .ref q20, .ref q35])) :: ((([] ++ wTab aT q5 a5 10 10 100) ++ wTab aT q20 a20 10 10 100) ++ wTab aT q35 a35 10 10 100)) _ _ := hS
  subst hAe
  exact K_ret hx hS ⟨fun k => [h0, q5, a5, q20, a20, q35, a35].getD k 0, rfl, rfl⟩ ⟨by decide, by decide⟩ dX3_init_49 rfl
set_option maxHeartbeats 4000000 in
set_option maxRecDepth 100000 in
theorem ct_Post : Ct yX2_init cX2_init 1 3 17 871 4 [.int 0, .int 0, .int 0, .int 0, .null, .null, .null, .null, .null, .null] [] poPos := by
  refine Ct.of (own := "WhistlePosts$Post") (by decide +kernel) rfl rfl (fun _ => Nat.le_of_ble_eq_true rfl) ?_
  intro p l e s m args below meth c D aT h0 ls hx hS hl
  have hl : lv_has ls 1 [(0, .ref h0)] := hl
  generalize hAe : va_A [(h0, (.inr (4, [.int 0, .int 0, .int 0, .int 0, .null, .null, .null, .null, .null, .null]) : va_E))] s.heap.size = A at hx hS ⊢
  have hS : Sx D A s.heap ((h0, .inr (4, [.int 0, .int 0, .int 0, .int 0, .null, .null, .null, .null, .null, .null])) :: []) _ _ := hS
  refine lv_aload_n hx.1 hx.2.1 dX2_init_0 rfl (lv_at hl 0 rfl) ?_
  refine K_obj hx g83 g62 g63 hl.1 dX2_init_1 (Nat.le_of_ble_eq_true rfl) (Nat.le_of_ble_eq_true rfl) ?_
  refine lv_aload_n hx.1 hx.2.1 dX2_init_4 rfl (lv_at hl 0 rfl) ?_
  refine K_new (ci := 6) (fs := [.int 0, .int 0, .null]) hx hS tyX7 fc6 tyX7_ok (fun j hj => by rcases (show j = 0 ∨ j = 1 ∨ j = 2 by omega) with rfl | rfl | rfl <;> rfl) g84 gi163 g30 ⟨by decide, by decide⟩ dX2_init_5 (fun q5 H hS => ?_)
  have hS : Sx D A s.heap (((h0, .inr (4, [.int 0, .int 0, .int 0, .int 0, .null, .null, .null, .null, .null, .null])) :: []) ++ [(q5, .inr (8, [.int 0, .int 0, .null]))]) _ _ := hS
  refine lv_dup hx.1 hx.2.1 dX2_init_8 rfl ?_
  refine lv_bipush (v := 10) hx.1 hx.2.1 dX2_init_9 (by decide) ?_
  refine lv_bipush (v := 8) hx.1 hx.2.1 dX2_init_11 (by decide) ?_
  refine K_call (ws := (h0, .inr (4, [.int 0, .int 0, .int 0, .int 0, .null, .null, .null, .null, .null, .null])) :: []) (As := [.int 10, .int 8]) (st := [.ref q5, .ref h0]) hx (ct_Table (r := 10) (co := 8) (n := 80) (by decide) (by decide) (by decide) (by decide) (by decide) (by decide) (Nat.le_of_ble_eq_true rfl)) hS g88 g30 g86 g87 rfl (by decide +kernel) dX2_init_13 rfl rfl (Nat.le_of_ble_eq_true rfl) ⟨by decide, by decide⟩ ⟨by decide, by decide⟩ hl.1 (fun w1 H locs hw hS => ?_)
  obtain ⟨a5, rfl⟩ := hw
  have hS : Sx D A s.heap ((h0, .inr (4, [.int 0, .int 0, .int 0, .int 0, .null, .null, .null, .null, .null, .null])) :: ([] ++ wTab aT q5 a5 10 8 80)) _ _ := hS
  refine K_put (k := 4) (ty := .object "WhistlePosts$Table") hx hS tyX2 fc2 tyX2_ok (by decide) ⟨rfl, rfl, rfl⟩ g138 (Or.inr ⟨rfl, rfl⟩) (by decide +kernel) rfl rfl (Nat.le_of_ble_eq_true rfl) dX2_init_16 (fun H locs hS => ?_)
  have hS : Sx D A s.heap ((h0, .inr (4, [.int 0, .int 0, .int 0, .int 0, .ref q5, .null, .null, .null, .null, .null])) :: ([] ++ wTab aT q5 a5 10 8 80)) _ _ := hS
  refine lv_aload_n hx.1 hx.2.1 dX2_init_19 rfl (lv_at hl 0 rfl) ?_
  refine K_new (ci := 6) (fs := [.int 0, .int 0, .null]) hx hS tyX7 fc6 tyX7_ok (fun j hj => by rcases (show j = 0 ∨ j = 1 ∨ j = 2 by omega) with rfl | rfl | rfl <;> rfl) g84 gi163 g30 ⟨by decide, by decide⟩ dX2_init_20 (fun q20 H hS => ?_)
  have hS : Sx D A s.heap (((h0, .inr (4, [.int 0, .int 0, .int 0, .int 0, .ref q5, .null, .null, .null, .null, .null])) :: ([] ++ wTab aT q5 a5 10 8 80)) ++ [(q20, .inr (8, [.int 0, .int 0, .null]))]) _ _ := hS
  refine lv_dup hx.1 hx.2.1 dX2_init_23 rfl ?_
  refine lv_bipush (v := 20) hx.1 hx.2.1 dX2_init_24 (by decide) ?_
  refine lv_iconst (v := 3) hx.1 hx.2.1 dX2_init_26 (by decide) ?_
  refine K_call (ws := (h0, .inr (4, [.int 0, .int 0, .int 0, .int 0, .ref q5, .null, .null, .null, .null, .null])) :: ([] ++ wTab aT q5 a5 10 8 80)) (As := [.int 20, .int 3]) (st := [.ref q20, .ref h0]) hx (ct_Table (r := 20) (co := 3) (n := 60) (by decide) (by decide) (by decide) (by decide) (by decide) (by decide) (Nat.le_of_ble_eq_true rfl)) hS g88 g30 g86 g87 rfl (by decide +kernel) dX2_init_27 rfl rfl (Nat.le_of_ble_eq_true rfl) ⟨by decide, by decide⟩ ⟨by decide, by decide⟩ hl.1 (fun w1 H locs hw hS => ?_)
  obtain ⟨a20, rfl⟩ := hw
  have hS : Sx D A s.heap ((h0, .inr (4, [.int 0, .int 0, .int 0, .int 0, .ref q5, .null, .null, .null, .null, .null])) :: (([] ++ wTab aT q5 a5 10 8 80) ++ wTab aT q20 a20 20 3 60)) _ _ := hS
  refine K_put (k := 5) (ty := .object "WhistlePosts$Table") hx hS tyX2 fc2 tyX2_ok (by decide) ⟨rfl, rfl, rfl⟩ g142 (Or.inr ⟨rfl, rfl⟩) (by decide +kernel) rfl rfl (Nat.le_of_ble_eq_true rfl) dX2_init_30 (fun H locs hS => ?_)
  have hS : Sx D A s.heap ((h0, .inr (4, [.int 0, .int 0, .int 0, .int 0, .ref q5, .ref q20, .null, .null, .null, .null])) :: (([] ++ wTab aT q5 a5 10 8 80) ++ wTab aT q20 a20 20 3 60)) _ _ := hS
  refine lv_aload_n hx.1 hx.2.1 dX2_init_33 rfl (lv_at hl 0 rfl) ?_
  refine K_new (ci := 6) (fs := [.int 0, .int 0, .null]) hx hS tyX7 fc6 tyX7_ok (fun j hj => by rcases (show j = 0 ∨ j = 1 ∨ j = 2 by omega) with rfl | rfl | rfl <;> rfl) g84 gi163 g30 ⟨by decide, by decide⟩ dX2_init_34 (fun q34 H hS => ?_)
  have hS : Sx D A s.heap (((h0, .inr (4, [.int 0, .int 0, .int 0, .int 0, .ref q5, .ref q20, .null, .null, .null, .null])) :: (([] ++ wTab aT q5 a5 10 8 80) ++ wTab aT q20 a20 20 3 60)) ++ [(q34, .inr (8, [.int 0, .int 0, .null]))]) _ _ := hS
  refine lv_dup hx.1 hx.2.1 dX2_init_37 rfl ?_
  refine lv_bipush (v := 30) hx.1 hx.2.1 dX2_init_38 (by decide) ?_
  refine lv_bipush (v := 13) hx.1 hx.2.1 dX2_init_40 (by decide) ?_
  refine K_call (ws := (h0, .inr (4, [.int 0, .int 0, .int 0, .int 0, .ref q5, .ref q20, .null, .null, .null, .null])) :: (([] ++ wTab aT q5 a5 10 8 80) ++ wTab aT q20 a20 20 3 60)) (As := [.int 30, .int 13]) (st := [.ref q34, .ref h0]) hx (ct_Table (r := 30) (co := 13) (n := 390) (by decide) (by decide) (by decide) (by decide) (by decide) (by decide) (Nat.le_of_ble_eq_true rfl)) hS g88 g30 g86 g87 rfl (by decide +kernel) dX2_init_42 rfl rfl (Nat.le_of_ble_eq_true rfl) ⟨by decide, by decide⟩ ⟨by decide, by decide⟩ hl.1 (fun w1 H locs hw hS => ?_)
  obtain ⟨a34, rfl⟩ := hw
  have hS : Sx D A s.heap ((h0, .inr (4, [.int 0, .int 0, .int 0, .int 0, .ref q5, .ref q20, .null, .null, .null, .null])) :: ((([] ++ wTab aT q5 a5 10 8 80) ++ wTab aT q20 a20 20 3 60) ++ wTab aT q34 a34 30 13 390)) _ _ := hS
  refine K_put (k := 6) (ty := .object "WhistlePosts$Table") hx hS tyX2 fc2 tyX2_ok (by decide) ⟨rfl, rfl, rfl⟩ g144 (Or.inr ⟨rfl, rfl⟩) (by decide +kernel) rfl rfl (Nat.le_of_ble_eq_true rfl) dX2_init_45 (fun H locs hS => ?_)
  have hS : Sx D A s.heap ((h0, .inr (4, [.int 0, .int 0, .int 0, .int 0, .ref q5, .ref q20, .ref q34, .null, .null, .null])) :: ((([] ++ wTab aT q5 a5 10 8 80) ++ wTab aT q20 a20 20 3 60) ++ wTab aT q34 a34 30 13 390)) _ _ := hS
  refine lv_aload_n hx.1 hx.2.1 dX2_init_48 rfl (lv_at hl 0 rfl) ?_
  refine K_new (ci := 6) (fs := [.int 0, .int 0, .null]) hx hS tyX7 fc6 tyX7_ok (fun j hj => by rcases (show j = 0 ∨ j = 1 ∨ j = 2 by omega) with rfl | rfl | rfl <;> rfl) g84 gi163 g30 ⟨by decide, by decide⟩ dX2_init_49 (fun q49 H hS => ?_)
  have hS : Sx D A s.heap (((h0, .inr (4, [.int 0, .int 0, .int 0, .int 0, .ref q5, .ref q20, .ref q34, .null, .null, .null])) :: ((([] ++ wTab aT q5 a5 10 8 80) ++ wTab aT q20 a20 20 3 60) ++ wTab aT q34 a34 30 13 390)) ++ [(q49, .inr (8, [.int 0, .int 0, .null]))]) _ _ := hS
  refine lv_dup hx.1 hx.2.1 dX2_init_52 rfl ?_
  refine lv_iconst (v := 1) hx.1 hx.2.1 dX2_init_53 (by decide) ?_
  refine lv_iconst (v := 3) hx.1 hx.2.1 dX2_init_54 (by decide) ?_
  refine K_call (ws := (h0, .inr (4, [.int 0, .int 0, .int 0, .int 0, .ref q5, .ref q20, .ref q34, .null, .null, .null])) :: ((([] ++ wTab aT q5 a5 10 8 80) ++ wTab aT q20 a20 20 3 60) ++ wTab aT q34 a34 30 13 390)) (As := [.int 1, .int 3]) (st := [.ref q49, .ref h0]) hx (ct_Table (r := 1) (co := 3) (n := 3) (by decide) (by decide) (by decide) (by decide) (by decide) (by decide) (Nat.le_of_ble_eq_true rfl)) hS g88 g30 g86 g87 rfl (by decide +kernel) dX2_init_55 rfl rfl (Nat.le_of_ble_eq_true rfl) ⟨by decide, by decide⟩ ⟨by decide, by decide⟩ hl.1 (fun w1 H locs hw hS => ?_)
  obtain ⟨a49, rfl⟩ := hw
  have hS : Sx D A s.heap ((h0, .inr (4, [.int 0, .int 0, .int 0, .int 0, .ref q5, .ref q20, .ref q34, .null, .null, .null])) :: (((([] ++ wTab aT q5 a5 10 8 80) ++ wTab aT q20 a20 20 3 60) ++ wTab aT q34 a34 30 13 390) ++ wTab aT q49 a49 1 3 3)) _ _ := hS
  refine K_put (k := 7) (ty := .object "WhistlePosts$Table") hx hS tyX2 fc2 tyX2_ok (by decide) ⟨rfl, rfl, rfl⟩ g148 (Or.inr ⟨rfl, rfl⟩) (by decide +kernel) rfl rfl (Nat.le_of_ble_eq_true rfl) dX2_init_58 (fun H locs hS => ?_)
  have hS : Sx D A s.heap ((h0, .inr (4, [.int 0, .int 0, .int 0, .int 0, .ref q5, .ref q20, .ref q34, .ref q49, .null, .null])) :: (((([] ++ wTab aT q5 a5 10 8 80) ++ wTab aT q20 a20 20 3 60) ++ wTab aT q34 a34 30 13 390) ++ wTab aT q49 a49 1 3 3)) _ _ := hS
  refine lv_aload_n hx.1 hx.2.1 dX2_init_61 rfl (lv_at hl 0 rfl) ?_
  refine K_new (ci := 6) (fs := [.int 0, .int 0, .null]) hx hS tyX7 fc6 tyX7_ok (fun j hj => by rcases (show j = 0 ∨ j = 1 ∨ j = 2 by omega) with rfl | rfl | rfl <;> rfl) g84 gi163 g30 ⟨by decide, by decide⟩ dX2_init_62 (fun q62 H hS => ?_)
  have hS : Sx D A s.heap (((h0, .inr (4, [.int 0, .int 0, .int 0, .int 0, .ref q5, .ref q20, .ref q34, .ref q49, .null, .null])) :: (((([] ++ wTab aT q5 a5 10 8 80) ++ wTab aT q20 a20 20 3 60) ++ wTab aT q34 a34 30 13 390) ++ wTab aT q49 a49 1 3 3)) ++ [(q62, .inr (8, [.int 0, .int 0, .null]))]) _ _ := hS
  refine lv_dup hx.1 hx.2.1 dX2_init_65 rfl ?_
  refine lv_iconst (v := 1) hx.1 hx.2.1 dX2_init_66 (by decide) ?_
  refine lv_bipush (v := 11) hx.1 hx.2.1 dX2_init_67 (by decide) ?_
  refine K_call (ws := (h0, .inr (4, [.int 0, .int 0, .int 0, .int 0, .ref q5, .ref q20, .ref q34, .ref q49, .null, .null])) :: (((([] ++ wTab aT q5 a5 10 8 80) ++ wTab aT q20 a20 20 3 60) ++ wTab aT q34 a34 30 13 390) ++ wTab aT q49 a49 1 3 3)) (As := [.int 1, .int 11]) (st := [.ref q62, .ref h0]) hx (ct_Table (r := 1) (co := 11) (n := 11) (by decide) (by decide) (by decide) (by decide) (by decide) (by decide) (Nat.le_of_ble_eq_true rfl)) hS g88 g30 g86 g87 rfl (by decide +kernel) dX2_init_69 rfl rfl (Nat.le_of_ble_eq_true rfl) ⟨by decide, by decide⟩ ⟨by decide, by decide⟩ hl.1 (fun w1 H locs hw hS => ?_)
  obtain ⟨a62, rfl⟩ := hw
  have hS : Sx D A s.heap ((h0, .inr (4, [.int 0, .int 0, .int 0, .int 0, .ref q5, .ref q20, .ref q34, .ref q49, .null, .null])) :: ((((([] ++ wTab aT q5 a5 10 8 80) ++ wTab aT q20 a20 20 3 60) ++ wTab aT q34 a34 30 13 390) ++ wTab aT q49 a49 1 3 3) ++ wTab aT q62 a62 1 11 11)) _ _ := hS
  refine K_put (k := 8) (ty := .object "WhistlePosts$Table") hx hS tyX2 fc2 tyX2_ok (by decide) ⟨rfl, rfl, rfl⟩ g149 (Or.inr ⟨rfl, rfl⟩) (by decide +kernel) rfl rfl (Nat.le_of_ble_eq_true rfl) dX2_init_72 (fun H locs hS => ?_)
  have hS : Sx D A s.heap ((h0, .inr (4, [.int 0, .int 0, .int 0, .int 0, .ref q5, .ref q20, .ref q34, .ref q49, .ref q62, .null])) :: ((((([] ++ wTab aT q5 a5 10 8 80) ++ wTab aT q20 a20 20 3 60) ++ wTab aT q34 a34 30 13 390) ++ wTab aT q49 a49 1 3 3) ++ wTab aT q62 a62 1 11 11)) _ _ := hS
  refine lv_aload_n hx.1 hx.2.1 dX2_init_75 rfl (lv_at hl 0 rfl) ?_
  refine K_new (ci := 3) (fs := [.null, .null, .null]) hx hS tyX3 fc3 tyX3_ok (fun j hj => by rcases (show j = 0 ∨ j = 1 ∨ j = 2 by omega) with rfl | rfl | rfl <;> rfl) g100 gi179 g31 ⟨by decide, by decide⟩ dX2_init_76 (fun q76 H hS => ?_)
  have hS : Sx D A s.heap (((h0, .inr (4, [.int 0, .int 0, .int 0, .int 0, .ref q5, .ref q20, .ref q34, .ref q49, .ref q62, .null])) :: ((((([] ++ wTab aT q5 a5 10 8 80) ++ wTab aT q20 a20 20 3 60) ++ wTab aT q34 a34 30 13 390) ++ wTab aT q49 a49 1 3 3) ++ wTab aT q62 a62 1 11 11)) ++ [(q76, .inr (5, [.null, .null, .null]))]) _ _ := hS
  refine lv_dup hx.1 hx.2.1 dX2_init_79 rfl ?_
  refine K_call (ws := (h0, .inr (4, [.int 0, .int 0, .int 0, .int 0, .ref q5, .ref q20, .ref q34, .ref q49, .ref q62, .null])) :: ((((([] ++ wTab aT q5 a5 10 8 80) ++ wTab aT q20 a20 20 3 60) ++ wTab aT q34 a34 30 13 390) ++ wTab aT q49 a49 1 3 3) ++ wTab aT q62 a62 1 11 11)) (As := []) (st := [.ref q76, .ref h0]) hx ct_Roads hS g104 g31 g102 g103 rfl (by decide +kernel) dX2_init_80 rfl rfl (Nat.le_of_ble_eq_true rfl) ⟨by decide, by decide⟩ ⟨by decide, by decide⟩ hl.1 (fun w1 H locs hw hS => ?_)
  obtain ⟨cr, hcr, rfl⟩ := hw
  have hS : Sx D A s.heap ((h0, .inr (4, [.int 0, .int 0, .int 0, .int 0, .ref q5, .ref q20, .ref q34, .ref q49, .ref q62, .null])) :: (((((([] ++ wTab aT q5 a5 10 8 80) ++ wTab aT q20 a20 20 3 60) ++ wTab aT q34 a34 30 13 390) ++ wTab aT q49 a49 1 3 3) ++ wTab aT q62 a62 1 11 11) ++ wRoa aT cr)) _ _ := hS
  refine K_put (k := 9) (ty := .object "WhistlePosts$Roads") hx hS tyX2 fc2 tyX2_ok (by decide) ⟨rfl, rfl, rfl⟩ g152 (Or.inr ⟨rfl, rfl⟩) (by decide +kernel) rfl rfl (Nat.le_of_ble_eq_true rfl) dX2_init_83 (fun H locs hS => ?_)
  have hS : Sx D A s.heap ((h0, .inr (4, [.int 0, .int 0, .int 0, .int 0, .ref q5, .ref q20, .ref q34, .ref q49, .ref q62, .ref q76])) :: (((((([] ++ wTab aT q5 a5 10 8 80) ++ wTab aT q20 a20 20 3 60) ++ wTab aT q34 a34 30 13 390) ++ wTab aT q49 a49 1 3 3) ++ wTab aT q62 a62 1 11 11) ++ wRoa aT cr)) _ _ := hS
  subst hAe
  refine K_ret hx hS ⟨fun k => if k < 11 then [h0, q5, a5, q20, a20, q34, a34, q49, a49, q62, a62].getD k 0 else cr (k - 11), rfl, ?_⟩ ⟨by decide, by decide⟩ dX2_init_86 rfl
  rw [← hcr]
  rfl
set_option maxHeartbeats 4000000 in
set_option maxRecDepth 100000 in
theorem ct_Tokens (b1 : Nat) : Ct yX9_init cX9_init 2 1 0 0 9 [.null, .int 0, .int 0, .int 0, .int 0, .int 0, .int 0] [.ref b1] (fun _ h0 w1 => w1 = [(h0, .inr (9, [.ref b1, .int 0, .int 0, .int 0, .int 0, .int 0, .int (-1)]))]) := by
  refine Ct.of (own := "WhistlePosts$Tokens") (by decide +kernel) rfl rfl (fun _ => Nat.le_of_ble_eq_true rfl) ?_
  intro p l e s m args below meth c D aT h0 ls hx hS hl
  have hl : lv_has ls 2 [(0, .ref h0), (1, .ref b1)] := hl
  generalize hAe : va_A [(h0, (.inr (9, [.null, .int 0, .int 0, .int 0, .int 0, .int 0, .int 0]) : va_E))] s.heap.size = A at hx hS ⊢
  have hS : Sx D A s.heap ((h0, .inr (9, [.null, .int 0, .int 0, .int 0, .int 0, .int 0, .int 0])) :: []) _ _ := hS
  refine lv_aload_n hx.1 hx.2.1 dX9_init_0 rfl (lv_at hl 0 rfl) ?_
  refine K_obj hx g201 g62 g63 hl.1 dX9_init_1 (Nat.le_of_ble_eq_true rfl) (Nat.le_of_ble_eq_true rfl) ?_
  refine lv_aload_n hx.1 hx.2.1 dX9_init_4 rfl (lv_at hl 0 rfl) ?_
  refine lv_aload_n hx.1 hx.2.1 dX9_init_5 rfl (lv_at hl 1 rfl) ?_
  refine K_put (k := 0) (ty := .object "WhistlePosts$Bytes") hx hS tyX9 fc7 tyX9_ok (by decide) ⟨rfl, rfl, rfl⟩ g202 (Or.inr ⟨rfl, rfl⟩) (by decide +kernel) rfl rfl (Nat.le_of_ble_eq_true rfl) dX9_init_6 (fun H locs hS => ?_)
  have hS : Sx D A s.heap ((h0, .inr (9, [.ref b1, .int 0, .int 0, .int 0, .int 0, .int 0, .int 0])) :: []) _ _ := hS
  refine lv_aload_n hx.1 hx.2.1 dX9_init_9 rfl (lv_at hl 0 rfl) ?_
  refine lv_iconst (v := 0) hx.1 hx.2.1 dX9_init_10 (by decide) ?_
  refine K_put (k := 5) (ty := .int) hx hS tyX9 fc7 tyX9_ok (by decide) ⟨rfl, rfl, rfl⟩ g208 (Or.inl rfl) (by decide +kernel) rfl rfl (Nat.le_of_ble_eq_true rfl) dX9_init_11 (fun H locs hS => ?_)
  have hS : Sx D A s.heap ((h0, .inr (9, [.ref b1, .int 0, .int 0, .int 0, .int 0, .int 0, .int 0])) :: []) _ _ := hS
  refine lv_aload_n hx.1 hx.2.1 dX9_init_14 rfl (lv_at hl 0 rfl) ?_
  refine lv_iconst (v := -1) hx.1 hx.2.1 dX9_init_15 (by decide) ?_
  refine K_put (k := 6) (ty := .int) hx hS tyX9 fc7 tyX9_ok (by decide) ⟨rfl, rfl, rfl⟩ g209 (Or.inl rfl) (by decide +kernel) rfl rfl (Nat.le_of_ble_eq_true rfl) dX9_init_16 (fun H locs hS => ?_)
  have hS : Sx D A s.heap ((h0, .inr (9, [.ref b1, .int 0, .int 0, .int 0, .int 0, .int 0, .int (-1)])) :: []) _ _ := hS
  subst hAe
  exact K_ret hx hS rfl ⟨by decide, by decide⟩ dX9_init_19 rfl
set_option maxHeartbeats 4000000 in
set_option maxRecDepth 100000 in
theorem ct_Setup (b1 b2 : Nat) : Ct yX5_init cX5_init 3 1 0 0 7 [.null, .null] [.ref b1, .ref b2] (fun _ h0 w1 => w1 = [(h0, .inr (7, [.ref b1, .ref b2]))]) := by
  refine Ct.of (own := "WhistlePosts$Setup") (by decide +kernel) rfl rfl (fun _ => Nat.le_of_ble_eq_true rfl) ?_
  intro p l e s m args below meth c D aT h0 ls hx hS hl
  have hl : lv_has ls 3 [(0, .ref h0), (1, .ref b1), (2, .ref b2)] := hl
  generalize hAe : va_A [(h0, (.inr (7, [.null, .null]) : va_E))] s.heap.size = A at hx hS ⊢
  have hS : Sx D A s.heap ((h0, .inr (7, [.null, .null])) :: []) _ _ := hS
  refine lv_aload_n hx.1 hx.2.1 dX5_init_0 rfl (lv_at hl 0 rfl) ?_
  refine K_obj hx g230 g62 g63 hl.1 dX5_init_1 (Nat.le_of_ble_eq_true rfl) (Nat.le_of_ble_eq_true rfl) ?_
  refine lv_aload_n hx.1 hx.2.1 dX5_init_4 rfl (lv_at hl 0 rfl) ?_
  refine lv_aload_n hx.1 hx.2.1 dX5_init_5 rfl (lv_at hl 1 rfl) ?_
  refine K_put (k := 0) (ty := .object "WhistlePosts$Tokens") hx hS tyX5 fc5 tyX5_ok (by decide) ⟨rfl, rfl, rfl⟩ g231 (Or.inr ⟨rfl, rfl⟩) (by decide +kernel) rfl rfl (Nat.le_of_ble_eq_true rfl) dX5_init_6 (fun H locs hS => ?_)
  have hS : Sx D A s.heap ((h0, .inr (7, [.ref b1, .null])) :: []) _ _ := hS
  refine lv_aload_n hx.1 hx.2.1 dX5_init_9 rfl (lv_at hl 0 rfl) ?_
  refine lv_aload_n hx.1 hx.2.1 dX5_init_10 rfl (lv_at hl 2 rfl) ?_
  refine K_put (k := 1) (ty := .object "WhistlePosts$Post") hx hS tyX5 fc5 tyX5_ok (by decide) ⟨rfl, rfl, rfl⟩ g232 (Or.inr ⟨rfl, rfl⟩) (by decide +kernel) rfl rfl (Nat.le_of_ble_eq_true rfl) dX5_init_11 (fun H locs hS => ?_)
  have hS : Sx D A s.heap ((h0, .inr (7, [.ref b1, .ref b2])) :: []) _ _ := hS
  subst hAe
  exact K_ret hx hS rfl ⟨by decide, by decide⟩ dX5_init_14 rfl
set_option maxHeartbeats 4000000 in
set_option maxRecDepth 100000 in
theorem ct_Script (b1 b2 : Nat) : Ct yX4_init cX4_init 3 2 2 153 6 [.null, .null, .null, .int 0] [.ref b1, .ref b2] (fun aT h0 w1 => ∃ q a, w1 = (h0, .inr (6, [.ref b1, .ref b2, .ref q, .int 0])) :: ([] ++ wTab aT q a 30 5 150)) := by
  refine Ct.of (own := "WhistlePosts$Script") (by decide +kernel) rfl rfl (fun _ => Nat.le_of_ble_eq_true rfl) ?_
  intro p l e s m args below meth c D aT h0 ls hx hS hl
  have hl : lv_has ls 3 [(0, .ref h0), (1, .ref b1), (2, .ref b2)] := hl
  generalize hAe : va_A [(h0, (.inr (6, [.null, .null, .null, .int 0]) : va_E))] s.heap.size = A at hx hS ⊢
  have hS : Sx D A s.heap ((h0, .inr (6, [.null, .null, .null, .int 0])) :: []) _ _ := hS
  refine lv_aload_n hx.1 hx.2.1 dX4_init_0 rfl (lv_at hl 0 rfl) ?_
  refine K_obj hx g243 g62 g63 hl.1 dX4_init_1 (Nat.le_of_ble_eq_true rfl) (Nat.le_of_ble_eq_true rfl) ?_
  refine lv_aload_n hx.1 hx.2.1 dX4_init_4 rfl (lv_at hl 0 rfl) ?_
  refine lv_aload_n hx.1 hx.2.1 dX4_init_5 rfl (lv_at hl 1 rfl) ?_
  refine K_put (k := 0) (ty := .object "WhistlePosts$Tokens") hx hS tyX4 fc4 tyX4_ok (by decide) ⟨rfl, rfl, rfl⟩ g246 (Or.inr ⟨rfl, rfl⟩) (by decide +kernel) rfl rfl (Nat.le_of_ble_eq_true rfl) dX4_init_6 (fun H locs hS => ?_)
  have hS : Sx D A s.heap ((h0, .inr (6, [.ref b1, .null, .null, .int 0])) :: []) _ _ := hS
  refine lv_aload_n hx.1 hx.2.1 dX4_init_9 rfl (lv_at hl 0 rfl) ?_
  refine lv_aload_n hx.1 hx.2.1 dX4_init_10 rfl (lv_at hl 2 rfl) ?_
  refine K_put (k := 1) (ty := .object "WhistlePosts$Post") hx hS tyX4 fc4 tyX4_ok (by decide) ⟨rfl, rfl, rfl⟩ g247 (Or.inr ⟨rfl, rfl⟩) (by decide +kernel) rfl rfl (Nat.le_of_ble_eq_true rfl) dX4_init_11 (fun H locs hS => ?_)
  have hS : Sx D A s.heap ((h0, .inr (6, [.ref b1, .ref b2, .null, .int 0])) :: []) _ _ := hS
  refine lv_aload_n hx.1 hx.2.1 dX4_init_14 rfl (lv_at hl 0 rfl) ?_
  refine K_new (ci := 6) (fs := [.int 0, .int 0, .null]) hx hS tyX7 fc6 tyX7_ok (fun j hj => by rcases (show j = 0 ∨ j = 1 ∨ j = 2 by omega) with rfl | rfl | rfl <;> rfl) g244 gi163 g30 ⟨by decide, by decide⟩ dX4_init_15 (fun q15 H hS => ?_)
  have hS : Sx D A s.heap (((h0, .inr (6, [.ref b1, .ref b2, .null, .int 0])) :: []) ++ [(q15, .inr (8, [.int 0, .int 0, .null]))]) _ _ := hS
  refine lv_dup hx.1 hx.2.1 dX4_init_18 rfl ?_
  refine lv_bipush (v := 30) hx.1 hx.2.1 dX4_init_19 (by decide) ?_
  refine lv_iconst (v := 5) hx.1 hx.2.1 dX4_init_21 (by decide) ?_
  refine K_call (ws := (h0, .inr (6, [.ref b1, .ref b2, .null, .int 0])) :: []) (As := [.int 30, .int 5]) (st := [.ref q15, .ref h0]) hx (ct_Table (r := 30) (co := 5) (n := 150) (by decide) (by decide) (by decide) (by decide) (by decide) (by decide) (Nat.le_of_ble_eq_true rfl)) hS g88 g30 g245 g87 rfl (by decide +kernel) dX4_init_22 rfl rfl (Nat.le_of_ble_eq_true rfl) ⟨by decide, by decide⟩ ⟨by decide, by decide⟩ hl.1 (fun w1 H locs hw hS => ?_)
  obtain ⟨a15, rfl⟩ := hw
  have hS : Sx D A s.heap ((h0, .inr (6, [.ref b1, .ref b2, .null, .int 0])) :: ([] ++ wTab aT q15 a15 30 5 150)) _ _ := hS
  refine K_put (k := 2) (ty := .object "WhistlePosts$Table") hx hS tyX4 fc4 tyX4_ok (by decide) ⟨rfl, rfl, rfl⟩ g248 (Or.inr ⟨rfl, rfl⟩) (by decide +kernel) rfl rfl (Nat.le_of_ble_eq_true rfl) dX4_init_25 (fun H locs hS => ?_)
  have hS : Sx D A s.heap ((h0, .inr (6, [.ref b1, .ref b2, .ref q15, .int 0])) :: ([] ++ wTab aT q15 a15 30 5 150)) _ _ := hS
  refine lv_aload_n hx.1 hx.2.1 dX4_init_28 rfl (lv_at hl 0 rfl) ?_
  refine lv_iconst (v := 0) hx.1 hx.2.1 dX4_init_29 (by decide) ?_
  refine K_put (k := 3) (ty := .int) hx hS tyX4 fc4 tyX4_ok (by decide) ⟨rfl, rfl, rfl⟩ g249 (Or.inl rfl) (by decide +kernel) rfl rfl (Nat.le_of_ble_eq_true rfl) dX4_init_30 (fun H locs hS => ?_)
  have hS : Sx D A s.heap ((h0, .inr (6, [.ref b1, .ref b2, .ref q15, .int 0])) :: ([] ++ wTab aT q15 a15 30 5 150)) _ _ := hS
  subst hAe
  exact K_ret hx hS ⟨q15, a15, rfl⟩ ⟨by decide, by decide⟩ dX4_init_33 rfl
