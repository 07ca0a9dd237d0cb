/-! ===== the class's constructor, up to where all its cells are there ===== -/
theorem gi143 : (Cond.instantiable "WhistlePosts$Bytes" 2) ∈ Gw := gw_in 65 (by decide +kernel) (by decide +kernel)
theorem gi264 : (Cond.instantiable "WhistlePosts$Past" 3) ∈ Gw := gw_in 178 (by decide +kernel) (by decide +kernel)
theorem gi283 : (Cond.instantiable "WhistlePosts$Tokens" 7) ∈ Gw := gw_in 197 (by decide +kernel) (by decide +kernel)
theorem gi316 : (Cond.instantiable "WhistlePosts$Setup" 2) ∈ Gw := gw_in 226 (by decide +kernel) (by decide +kernel)
theorem gi329 : (Cond.instantiable "WhistlePosts$Script" 4) ∈ Gw := gw_in 239 (by decide +kernel) (by decide +kernel)
def iW0 : List Value := [.null, .null, .null, .null, .null, .null, .null, .null, .null, .int 0]
/-- the cells in the order in which they are made -/
def wWp (aT : Nat → ClassId) (h0 qi ai qo ao : Nat) (c1 c2 c3 : Nat → Nat) (qp pa : Nat) (cs : Nat → Nat → Nat) (tk su sc st sa : Nat) : va_W :=
  (h0, .inr (10, [.ref qi, .ref qo, .ref tk, .ref su, .ref sc, .ref (c1 0), .ref (c2 0), .ref (c3 0), .ref qp, .int 0])) :: ((((((((([] ++ wByt aT qi ai 800) ++ wByt aT qo ao 400) ++ wPos aT c1) ++ wPos aT c2) ++ wPos aT c3) ++ wPast aT qp pa cs 8) ++ [(tk, .inr (9, [.ref qi, .int 0, .int 0, .int 0, .int 0, .int 0, .int (-1)]))]) ++ [(su, .inr (7, [.ref tk, .ref (c3 0)]))]) ++ ((sc, .inr (6, [.ref tk, .ref (c1 0), .ref st, .int 0])) :: ([] ++ wTab aT st sa 30 5 150)))
set_option maxHeartbeats 4000000 in
set_option maxRecDepth 100000 in
theorem cw_make {p : Program} {l : Launch} {e : Env} {R : Room} {s : State} {m : MethodId} {args : Array Value} {below : List Frame} {meth : Method} {c : Code} {D : va_G} {aT : Nat → ClassId} {A : Nat → Prop} {Q : State → Prop} {ls : Array Slot} {h0 : Nat} (hx : KxC p s m args meth c "WhistlePosts" cX10_init 1 D aT A) (hR : 10 ≤ R.frames ∧ 390 ≤ R.locals ∧ 300 ≤ R.cells ∧ 30000 ≤ R.slots)
    (hS : Sx D A s.heap [(h0, .inr (10, iW0))] s.heap []) (hl : lv_has ls 1 [(0, .ref h0)])
    (kk : ∀ (H : Heap) (locs : List Loc) (qi ai qo ao : Nat) (c1 c2 c3 : Nat → Nat) (qp pa : Nat) (cs : Nat → Nat → Nat) (tk su sc st sa : Nat), Sx D A s.heap (wWp aT h0 qi ai qo ao c1 c2 c3 qp pa cs tk su sc st sa) H locs → W p l e R s m args below meth c H locs 300 30000 Q (F0 m 134 ls [])) :
    W p l e R s m args below meth c s.heap [] 0 0 Q (F0 m 0 ls []) := by
  obtain ⟨r1, r2, r3, r4⟩ := hR
  have hS : Sx D A s.heap ((h0, .inr (10, [.null, .null, .null, .null, .null, .null, .null, .null, .null, .int 0])) :: []) _ _ := hS
  refine lv_aload_n hx.1 hx.2.1 dX10_init_0 rfl (lv_at hl 0 rfl) ?_
  refine K_obj hx g61 g62 g63 hl.1 dX10_init_1 (by omega) (by show 0 + 12 ≤ _; omega) ?_
  refine lv_aload_n hx.1 hx.2.1 dX10_init_4 rfl (lv_at hl 0 rfl) ?_
  refine K_new (ci := 0) (fs := [.null, .int 0]) hx hS tyX0 fc0 tyX0_ok (fun j hj => by rcases (show j = 0 ∨ j = 1 by omega) with rfl | rfl <;> rfl) g64 gi143 g28 ⟨by omega, by omega⟩ dX10_init_5 (fun q5 H hS => ?_)
  have hS : Sx D A s.heap (((h0, .inr (10, [.null, .null, .null, .null, .null, .null, .null, .null, .null, .int 0])) :: []) ++ [(q5, .inr (2, [.null, .int 0]))]) _ _ := hS
  refine lv_dup hx.1 hx.2.1 dX10_init_8 rfl ?_
  refine lv_sipush (v := 800) hx.1 hx.2.1 dX10_init_9 (by decide) ?_
  refine K_call (n := 1) (ws := (h0, .inr (10, [.null, .null, .null, .null, .null, .null, .null, .null, .null, .int 0])) :: []) (As := [.int 800]) (st := [.ref q5, .ref h0]) hx (ct_Bytes (r := 800) (n := 800) (by decide) (by decide) (by decide) (by decide) (Nat.le_of_ble_eq_true rfl)) hS g68 g28 g66 g67 rfl (by decide +kernel) dX10_init_12 rfl rfl (Nat.le_of_ble_eq_true rfl) ⟨by omega, by omega⟩ ⟨by omega, by omega⟩ hl.1 (fun w1 H locs hw hS => ?_)
  obtain ⟨a5, rfl⟩ := hw
  have hS : Sx D A s.heap ((h0, .inr (10, [.null, .null, .null, .null, .null, .null, .null, .null, .null, .int 0])) :: ([] ++ wByt aT q5 a5 800)) _ _ := hS
  refine K_put (k := 0) (ty := .object "WhistlePosts$Bytes") hx hS tyX10 fc8 tyX10_ok (by decide) ⟨rfl, rfl, rfl⟩ g496 (Or.inr ⟨rfl, rfl⟩) (by decide +kernel) rfl rfl (Nat.le_of_ble_eq_true rfl) dX10_init_15 (fun H locs hS => ?_)
  have hS : Sx D A s.heap ((h0, .inr (10, [.ref q5, .null, .null, .null, .null, .null, .null, .null, .null, .int 0])) :: ([] ++ wByt aT q5 a5 800)) _ _ := hS
  refine lv_aload_n hx.1 hx.2.1 dX10_init_18 rfl (lv_at hl 0 rfl) ?_
  refine K_new (ci := 0) (fs := [.null, .int 0]) hx hS tyX0 fc0 tyX0_ok (fun j hj => by rcases (show j = 0 ∨ j = 1 by omega) with rfl | rfl <;> rfl) g64 gi143 g28 ⟨by omega, by omega⟩ dX10_init_19 (fun q19 H hS => ?_)
  have hS : Sx D A s.heap (((h0, .inr (10, [.ref q5, .null, .null, .null, .null, .null, .null, .null, .null, .int 0])) :: ([] ++ wByt aT q5 a5 800)) ++ [(q19, .inr (2, [.null, .int 0]))]) _ _ := hS
  refine lv_dup hx.1 hx.2.1 dX10_init_22 rfl ?_
  refine lv_sipush (v := 400) hx.1 hx.2.1 dX10_init_23 (by decide) ?_
  refine K_call (n := 1) (ws := (h0, .inr (10, [.ref q5, .null, .null, .null, .null, .null, .null, .null, .null, .int 0])) :: ([] ++ wByt aT q5 a5 800)) (As := [.int 400]) (st := [.ref q19, .ref h0]) hx (ct_Bytes (r := 400) (n := 400) (by decide) (by decide) (by decide) (by decide) (Nat.le_of_ble_eq_true rfl)) hS g68 g28 g66 g67 rfl (by decide +kernel) dX10_init_26 rfl rfl (Nat.le_of_ble_eq_true rfl) ⟨by omega, by omega⟩ ⟨by omega, by omega⟩ hl.1 (fun w1 H locs hw hS => ?_)
  obtain ⟨a19, rfl⟩ := hw
  have hS : Sx D A s.heap ((h0, .inr (10, [.ref q5, .null, .null, .null, .null, .null, .null, .null, .null, .int 0])) :: (([] ++ wByt aT q5 a5 800) ++ wByt aT q19 a19 400)) _ _ := hS
  refine K_put (k := 1) (ty := .object "WhistlePosts$Bytes") hx hS tyX10 fc8 tyX10_ok (by decide) ⟨rfl, rfl, rfl⟩ g497 (Or.inr ⟨rfl, rfl⟩) (by decide +kernel) rfl rfl (Nat.le_of_ble_eq_true rfl) dX10_init_29 (fun H locs hS => ?_)
  have hS : Sx D A s.heap ((h0, .inr (10, [.ref q5, .ref q19, .null, .null, .null, .null, .null, .null, .null, .int 0])) :: (([] ++ wByt aT q5 a5 800) ++ wByt aT q19 a19 400)) _ _ := hS
  refine lv_aload_n hx.1 hx.2.1 dX10_init_32 rfl (lv_at hl 0 rfl) ?_
  refine K_new (ci := 2) (fs := [.int 0, .int 0, .int 0, .int 0, .null, .null, .null, .null, .null, .null]) hx hS tyX2 fc2 tyX2_ok (fun j hj => by rcases (show j = 0 ∨ j = 1 ∨ j = 2 ∨ j = 3 ∨ j = 4 ∨ j = 5 ∨ j = 6 ∨ j = 7 ∨ j = 8 ∨ j = 9 by omega) with rfl | rfl | rfl | rfl | rfl | rfl | rfl | rfl | rfl | rfl <;> rfl) g78 gi157 g29 ⟨by omega, by omega⟩ dX10_init_33 (fun q33 H hS => ?_)
  have hS : Sx D A s.heap (((h0, .inr (10, [.ref q5, .ref q19, .null, .null, .null, .null, .null, .null, .null, .int 0])) :: (([] ++ wByt aT q5 a5 800) ++ wByt aT q19 a19 400)) ++ [(q33, .inr (4, [.int 0, .int 0, .int 0, .int 0, .null, .null, .null, .null, .null, .null]))]) _ _ := hS
  refine lv_dup hx.1 hx.2.1 dX10_init_36 rfl ?_
  refine K_call (n := 0) (ws := (h0, .inr (10, [.ref q5, .ref q19, .null, .null, .null, .null, .null, .null, .null, .int 0])) :: (([] ++ wByt aT q5 a5 800) ++ wByt aT q19 a19 400)) (As := []) (st := [.ref q33, .ref h0]) hx ct_Post hS g82 g29 g80 g81 rfl (by decide +kernel) dX10_init_37 rfl rfl (Nat.le_of_ble_eq_true rfl) ⟨by omega, by omega⟩ ⟨by omega, by omega⟩ hl.1 (fun w1 H locs hw hS => ?_)
  obtain ⟨c33, hc33, rfl⟩ := hw
  have hS : Sx D A s.heap ((h0, .inr (10, [.ref q5, .ref q19, .null, .null, .null, .null, .null, .null, .null, .int 0])) :: ((([] ++ wByt aT q5 a5 800) ++ wByt aT q19 a19 400) ++ wPos aT c33)) _ _ := hS
  refine K_put (k := 5) (ty := .object "WhistlePosts$Post") hx hS tyX10 fc8 tyX10_ok (by decide) ⟨rfl, rfl, rfl⟩ g501 (Or.inr ⟨rfl, rfl⟩) (by decide +kernel) rfl rfl (Nat.le_of_ble_eq_true rfl) dX10_init_40 (fun H locs hS => ?_)
  have hS : Sx D A s.heap ((h0, .inr (10, [.ref q5, .ref q19, .null, .null, .null, .ref q33, .null, .null, .null, .int 0])) :: ((([] ++ wByt aT q5 a5 800) ++ wByt aT q19 a19 400) ++ wPos aT c33)) _ _ := hS
  refine lv_aload_n hx.1 hx.2.1 dX10_init_43 rfl (lv_at hl 0 rfl) ?_
  refine K_new (ci := 2) (fs := [.int 0, .int 0, .int 0, .int 0, .null, .null, .null, .null, .null, .null]) hx hS tyX2 fc2 tyX2_ok (fun j hj => by rcases (show j = 0 ∨ j = 1 ∨ j = 2 ∨ j = 3 ∨ j = 4 ∨ j = 5 ∨ j = 6 ∨ j = 7 ∨ j = 8 ∨ j = 9 by omega) with rfl | rfl | rfl | rfl | rfl | rfl | rfl | rfl | rfl | rfl <;> rfl) g78 gi157 g29 ⟨by omega, by omega⟩ dX10_init_44 (fun q44 H hS => ?_)
  have hS : Sx D A s.heap (((h0, .inr (10, [.ref q5, .ref q19, .null, .null, .null, .ref q33, .null, .null, .null, .int 0])) :: ((([] ++ wByt aT q5 a5 800) ++ wByt aT q19 a19 400) ++ wPos aT c33)) ++ [(q44, .inr (4, [.int 0, .int 0, .int 0, .int 0, .null, .null, .null, .null, .null, .null]))]) _ _ := hS
  refine lv_dup hx.1 hx.2.1 dX10_init_47 rfl ?_
  refine K_call (n := 0) (ws := (h0, .inr (10, [.ref q5, .ref q19, .null, .null, .null, .ref q33, .null, .null, .null, .int 0])) :: ((([] ++ wByt aT q5 a5 800) ++ wByt aT q19 a19 400) ++ wPos aT c33)) (As := []) (st := [.ref q44, .ref h0]) hx ct_Post hS g82 g29 g80 g81 rfl (by decide +kernel) dX10_init_48 rfl rfl (Nat.le_of_ble_eq_true rfl) ⟨by omega, by omega⟩ ⟨by omega, by omega⟩ hl.1 (fun w1 H locs hw hS => ?_)
  obtain ⟨c44, hc44, rfl⟩ := hw
  have hS : Sx D A s.heap ((h0, .inr (10, [.ref q5, .ref q19, .null, .null, .null, .ref q33, .null, .null, .null, .int 0])) :: (((([] ++ wByt aT q5 a5 800) ++ wByt aT q19 a19 400) ++ wPos aT c33) ++ wPos aT c44)) _ _ := hS
  refine K_put (k := 6) (ty := .object "WhistlePosts$Post") hx hS tyX10 fc8 tyX10_ok (by decide) ⟨rfl, rfl, rfl⟩ g502 (Or.inr ⟨rfl, rfl⟩) (by decide +kernel) rfl rfl (Nat.le_of_ble_eq_true rfl) dX10_init_51 (fun H locs hS => ?_)
  have hS : Sx D A s.heap ((h0, .inr (10, [.ref q5, .ref q19, .null, .null, .null, .ref q33, .ref q44, .null, .null, .int 0])) :: (((([] ++ wByt aT q5 a5 800) ++ wByt aT q19 a19 400) ++ wPos aT c33) ++ wPos aT c44)) _ _ := hS
  refine lv_aload_n hx.1 hx.2.1 dX10_init_54 rfl (lv_at hl 0 rfl) ?_
  refine K_new (ci := 2) (fs := [.int 0, .int 0, .int 0, .int 0, .null, .null, .null, .null, .null, .null]) hx hS tyX2 fc2 tyX2_ok (fun j hj => by rcases (show j = 0 ∨ j = 1 ∨ j = 2 ∨ j = 3 ∨ j = 4 ∨ j = 5 ∨ j = 6 ∨ j = 7 ∨ j = 8 ∨ j = 9 by omega) with rfl | rfl | rfl | rfl | rfl | rfl | rfl | rfl | rfl | rfl <;> rfl) g78 gi157 g29 ⟨by omega, by omega⟩ dX10_init_55 (fun q55 H hS => ?_)
  have hS : Sx D A s.heap (((h0, .inr (10, [.ref q5, .ref q19, .null, .null, .null, .ref q33, .ref q44, .null, .null, .int 0])) :: (((([] ++ wByt aT q5 a5 800) ++ wByt aT q19 a19 400) ++ wPos aT c33) ++ wPos aT c44)) ++ [(q55, .inr (4, [.int 0, .int 0, .int 0, .int 0, .null, .null, .null, .null, .null, .null]))]) _ _ := hS
  refine lv_dup hx.1 hx.2.1 dX10_init_58 rfl ?_
  refine K_call (n := 0) (ws := (h0, .inr (10, [.ref q5, .ref q19, .null, .null, .null, .ref q33, .ref q44, .null, .null, .int 0])) :: (((([] ++ wByt aT q5 a5 800) ++ wByt aT q19 a19 400) ++ wPos aT c33) ++ wPos aT c44)) (As := []) (st := [.ref q55, .ref h0]) hx ct_Post hS g82 g29 g80 g81 rfl (by decide +kernel) dX10_init_59 rfl rfl (Nat.le_of_ble_eq_true rfl) ⟨by omega, by omega⟩ ⟨by omega, by omega⟩ hl.1 (fun w1 H locs hw hS => ?_)
  obtain ⟨c55, hc55, rfl⟩ := hw
  have hS : Sx D A s.heap ((h0, .inr (10, [.ref q5, .ref q19, .null, .null, .null, .ref q33, .ref q44, .null, .null, .int 0])) :: ((((([] ++ wByt aT q5 a5 800) ++ wByt aT q19 a19 400) ++ wPos aT c33) ++ wPos aT c44) ++ wPos aT c55)) _ _ := hS
  refine K_put (k := 7) (ty := .object "WhistlePosts$Post") hx hS tyX10 fc8 tyX10_ok (by decide) ⟨rfl, rfl, rfl⟩ g503 (Or.inr ⟨rfl, rfl⟩) (by decide +kernel) rfl rfl (Nat.le_of_ble_eq_true rfl) dX10_init_62 (fun H locs hS => ?_)
  have hS : Sx D A s.heap ((h0, .inr (10, [.ref q5, .ref q19, .null, .null, .null, .ref q33, .ref q44, .ref q55, .null, .int 0])) :: ((((([] ++ wByt aT q5 a5 800) ++ wByt aT q19 a19 400) ++ wPos aT c33) ++ wPos aT c44) ++ wPos aT c55)) _ _ := hS
  refine lv_aload_n hx.1 hx.2.1 dX10_init_65 rfl (lv_at hl 0 rfl) ?_
  refine K_new (ci := 1) (fs := [.null, .int 0, .int 0]) hx hS tyX1 fc1 tyX1_ok (fun j hj => by rcases (show j = 0 ∨ j = 1 ∨ j = 2 by omega) with rfl | rfl | rfl <;> rfl) g177 gi264 g32 ⟨by omega, by omega⟩ dX10_init_66 (fun q66 H hS => ?_)
  have hS : Sx D A s.heap (((h0, .inr (10, [.ref q5, .ref q19, .null, .null, .null, .ref q33, .ref q44, .ref q55, .null, .int 0])) :: ((((([] ++ wByt aT q5 a5 800) ++ wByt aT q19 a19 400) ++ wPos aT c33) ++ wPos aT c44) ++ wPos aT c55)) ++ [(q66, .inr (3, [.null, .int 0, .int 0]))]) _ _ := hS
  refine lv_dup hx.1 hx.2.1 dX10_init_69 rfl ?_
  refine K_call (n := 0) (ws := (h0, .inr (10, [.ref q5, .ref q19, .null, .null, .null, .ref q33, .ref q44, .ref q55, .null, .int 0])) :: ((((([] ++ wByt aT q5 a5 800) ++ wByt aT q19 a19 400) ++ wPos aT c33) ++ wPos aT c44) ++ wPos aT c55)) (As := []) (st := [.ref q66, .ref h0]) hx ct_Past hS g181 g32 g179 g180 rfl (by decide +kernel) dX10_init_70 rfl rfl (Nat.le_of_ble_eq_true rfl) ⟨by omega, by omega⟩ ⟨by omega, by omega⟩ hl.1 (fun w1 H locs hw hS => ?_)
  obtain ⟨pa, cs, rfl⟩ := hw
  have hS : Sx D A s.heap ((h0, .inr (10, [.ref q5, .ref q19, .null, .null, .null, .ref q33, .ref q44, .ref q55, .null, .int 0])) :: (((((([] ++ wByt aT q5 a5 800) ++ wByt aT q19 a19 400) ++ wPos aT c33) ++ wPos aT c44) ++ wPos aT c55) ++ wPast aT q66 pa cs 8)) _ _ := hS
  refine K_put (k := 8) (ty := .object "WhistlePosts$Past") hx hS tyX10 fc8 tyX10_ok (by decide) ⟨rfl, rfl, rfl⟩ g504 (Or.inr ⟨rfl, rfl⟩) (by decide +kernel) rfl rfl (Nat.le_of_ble_eq_true rfl) dX10_init_73 (fun H locs hS => ?_)
  have hS : Sx D A s.heap ((h0, .inr (10, [.ref q5, .ref q19, .null, .null, .null, .ref q33, .ref q44, .ref q55, .ref q66, .int 0])) :: (((((([] ++ wByt aT q5 a5 800) ++ wByt aT q19 a19 400) ++ wPos aT c33) ++ wPos aT c44) ++ wPos aT c55) ++ wPast aT q66 pa cs 8)) _ _ := hS
  refine lv_aload_n hx.1 hx.2.1 dX10_init_76 rfl (lv_at hl 0 rfl) ?_
  refine K_new (ci := 7) (fs := [.null, .int 0, .int 0, .int 0, .int 0, .int 0, .int 0]) hx hS tyX9 fc7 tyX9_ok (fun j hj => by rcases (show j = 0 ∨ j = 1 ∨ j = 2 ∨ j = 3 ∨ j = 4 ∨ j = 5 ∨ j = 6 by omega) with rfl | rfl | rfl | rfl | rfl | rfl | rfl <;> rfl) g196 gi283 g33 ⟨by omega, by omega⟩ dX10_init_77 (fun q77 H hS => ?_)
  have hS : Sx D A s.heap (((h0, .inr (10, [.ref q5, .ref q19, .null, .null, .null, .ref q33, .ref q44, .ref q55, .ref q66, .int 0])) :: (((((([] ++ wByt aT q5 a5 800) ++ wByt aT q19 a19 400) ++ wPos aT c33) ++ wPos aT c44) ++ wPos aT c55) ++ wPast aT q66 pa cs 8)) ++ [(q77, .inr (9, [.null, .int 0, .int 0, .int 0, .int 0, .int 0, .int 0]))]) _ _ := hS
  refine lv_dup hx.1 hx.2.1 dX10_init_80 rfl ?_
  refine lv_aload_n hx.1 hx.2.1 dX10_init_81 rfl (lv_at hl 0 rfl) ?_
  refine K_get (k := 0) (v := .ref q5) hx hS fc8 (by decide) ⟨rfl, rfl, rfl⟩ g496 rfl dX10_init_82 ?_
  refine K_call (n := 1) (ws := (h0, .inr (10, [.ref q5, .ref q19, .null, .null, .null, .ref q33, .ref q44, .ref q55, .ref q66, .int 0])) :: (((((([] ++ wByt aT q5 a5 800) ++ wByt aT q19 a19 400) ++ wPos aT c33) ++ wPos aT c44) ++ wPos aT c55) ++ wPast aT q66 pa cs 8)) (As := [.ref q5]) (st := [.ref q77, .ref h0]) hx (ct_Tokens q5) hS g200 g33 g198 g199 rfl (by decide +kernel) dX10_init_85 rfl rfl (Nat.le_of_ble_eq_true rfl) ⟨by omega, by omega⟩ ⟨by omega, by omega⟩ hl.1 (fun w1 H locs hw hS => ?_)
  obtain ⟨rfl⟩ := hw
  have hS : Sx D A s.heap ((h0, .inr (10, [.ref q5, .ref q19, .null, .null, .null, .ref q33, .ref q44, .ref q55, .ref q66, .int 0])) :: ((((((([] ++ wByt aT q5 a5 800) ++ wByt aT q19 a19 400) ++ wPos aT c33) ++ wPos aT c44) ++ wPos aT c55) ++ wPast aT q66 pa cs 8) ++ [(q77, .inr (9, [.ref q5, .int 0, .int 0, .int 0, .int 0, .int 0, .int (-1)]))])) _ _ := hS
  refine K_put (k := 2) (ty := .object "WhistlePosts$Tokens") hx hS tyX10 fc8 tyX10_ok (by decide) ⟨rfl, rfl, rfl⟩ g498 (Or.inr ⟨rfl, rfl⟩) (by decide +kernel) rfl rfl (Nat.le_of_ble_eq_true rfl) dX10_init_88 (fun H locs hS => ?_)
  have hS : Sx D A s.heap ((h0, .inr (10, [.ref q5, .ref q19, .ref q77, .null, .null, .ref q33, .ref q44, .ref q55, .ref q66, .int 0])) :: ((((((([] ++ wByt aT q5 a5 800) ++ wByt aT q19 a19 400) ++ wPos aT c33) ++ wPos aT c44) ++ wPos aT c55) ++ wPast aT q66 pa cs 8) ++ [(q77, .inr (9, [.ref q5, .int 0, .int 0, .int 0, .int 0, .int 0, .int (-1)]))])) _ _ := hS
  refine lv_aload_n hx.1 hx.2.1 dX10_init_91 rfl (lv_at hl 0 rfl) ?_
  refine K_new (ci := 5) (fs := [.null, .null]) hx hS tyX5 fc5 tyX5_ok (fun j hj => by rcases (show j = 0 ∨ j = 1 by omega) with rfl | rfl <;> rfl) g225 gi316 g34 ⟨by omega, by omega⟩ dX10_init_92 (fun q92 H hS => ?_)
  have hS : Sx D A s.heap (((h0, .inr (10, [.ref q5, .ref q19, .ref q77, .null, .null, .ref q33, .ref q44, .ref q55, .ref q66, .int 0])) :: ((((((([] ++ wByt aT q5 a5 800) ++ wByt aT q19 a19 400) ++ wPos aT c33) ++ wPos aT c44) ++ wPos aT c55) ++ wPast aT q66 pa cs 8) ++ [(q77, .inr (9, [.ref q5, .int 0, .int 0, .int 0, .int 0, .int 0, .int (-1)]))])) ++ [(q92, .inr (7, [.null, .null]))]) _ _ := hS
  refine lv_dup hx.1 hx.2.1 dX10_init_95 rfl ?_
  refine lv_aload_n hx.1 hx.2.1 dX10_init_96 rfl (lv_at hl 0 rfl) ?_
  refine K_get (k := 2) (v := .ref q77) hx hS fc8 (by decide) ⟨rfl, rfl, rfl⟩ g498 rfl dX10_init_97 ?_
  refine lv_aload_n hx.1 hx.2.1 dX10_init_100 rfl (lv_at hl 0 rfl) ?_
  refine K_get (k := 7) (v := .ref q55) hx hS fc8 (by decide) ⟨rfl, rfl, rfl⟩ g503 rfl dX10_init_101 ?_
  refine K_call (n := 2) (ws := (h0, .inr (10, [.ref q5, .ref q19, .ref q77, .null, .null, .ref q33, .ref q44, .ref q55, .ref q66, .int 0])) :: ((((((([] ++ wByt aT q5 a5 800) ++ wByt aT q19 a19 400) ++ wPos aT c33) ++ wPos aT c44) ++ wPos aT c55) ++ wPast aT q66 pa cs 8) ++ [(q77, .inr (9, [.ref q5, .int 0, .int 0, .int 0, .int 0, .int 0, .int (-1)]))])) (As := [.ref q77, .ref q55]) (st := [.ref q92, .ref h0]) hx (ct_Setup q77 q55) hS g229 g34 g227 g228 rfl (by decide +kernel) dX10_init_104 rfl rfl (Nat.le_of_ble_eq_true rfl) ⟨by omega, by omega⟩ ⟨by omega, by omega⟩ hl.1 (fun w1 H locs hw hS => ?_)
  obtain ⟨rfl⟩ := hw
  have hS : Sx D A s.heap ((h0, .inr (10, [.ref q5, .ref q19, .ref q77, .null, .null, .ref q33, .ref q44, .ref q55, .ref q66, .int 0])) :: (((((((([] ++ wByt aT q5 a5 800) ++ wByt aT q19 a19 400) ++ wPos aT c33) ++ wPos aT c44) ++ wPos aT c55) ++ wPast aT q66 pa cs 8) ++ [(q77, .inr (9, [.ref q5, .int 0, .int 0, .int 0, .int 0, .int 0, .int (-1)]))]) ++ [(q92, .inr (7, [.ref q77, .ref q55]))])) _ _ := hS
  refine K_put (k := 3) (ty := .object "WhistlePosts$Setup") hx hS tyX10 fc8 tyX10_ok (by decide) ⟨rfl, rfl, rfl⟩ g499 (Or.inr ⟨rfl, rfl⟩) (by decide +kernel) rfl rfl (Nat.le_of_ble_eq_true rfl) dX10_init_107 (fun H locs hS => ?_)
  have hS : Sx D A s.heap ((h0, .inr (10, [.ref q5, .ref q19, .ref q77, .ref q92, .null, .ref q33, .ref q44, .ref q55, .ref q66, .int 0])) :: (((((((([] ++ wByt aT q5 a5 800) ++ wByt aT q19 a19 400) ++ wPos aT c33) ++ wPos aT c44) ++ wPos aT c55) ++ wPast aT q66 pa cs 8) ++ [(q77, .inr (9, [.ref q5, .int 0, .int 0, .int 0, .int 0, .int 0, .int (-1)]))]) ++ [(q92, .inr (7, [.ref q77, .ref q55]))])) _ _ := hS
  refine lv_aload_n hx.1 hx.2.1 dX10_init_110 rfl (lv_at hl 0 rfl) ?_
  refine K_new (ci := 4) (fs := [.null, .null, .null, .int 0]) hx hS tyX4 fc4 tyX4_ok (fun j hj => by rcases (show j = 0 ∨ j = 1 ∨ j = 2 ∨ j = 3 by omega) with rfl | rfl | rfl | rfl <;> rfl) g238 gi329 g35 ⟨by omega, by omega⟩ dX10_init_111 (fun q111 H hS => ?_)
  have hS : Sx D A s.heap (((h0, .inr (10, [.ref q5, .ref q19, .ref q77, .ref q92, .null, .ref q33, .ref q44, .ref q55, .ref q66, .int 0])) :: (((((((([] ++ wByt aT q5 a5 800) ++ wByt aT q19 a19 400) ++ wPos aT c33) ++ wPos aT c44) ++ wPos aT c55) ++ wPast aT q66 pa cs 8) ++ [(q77, .inr (9, [.ref q5, .int 0, .int 0, .int 0, .int 0, .int 0, .int (-1)]))]) ++ [(q92, .inr (7, [.ref q77, .ref q55]))])) ++ [(q111, .inr (6, [.null, .null, .null, .int 0]))]) _ _ := hS
  refine lv_dup hx.1 hx.2.1 dX10_init_114 rfl ?_
  refine lv_aload_n hx.1 hx.2.1 dX10_init_115 rfl (lv_at hl 0 rfl) ?_
  refine K_get (k := 2) (v := .ref q77) hx hS fc8 (by decide) ⟨rfl, rfl, rfl⟩ g498 rfl dX10_init_116 ?_
  refine lv_aload_n hx.1 hx.2.1 dX10_init_119 rfl (lv_at hl 0 rfl) ?_
  refine K_get (k := 5) (v := .ref q33) hx hS fc8 (by decide) ⟨rfl, rfl, rfl⟩ g501 rfl dX10_init_120 ?_
  refine K_call (n := 2) (ws := (h0, .inr (10, [.ref q5, .ref q19, .ref q77, .ref q92, .null, .ref q33, .ref q44, .ref q55, .ref q66, .int 0])) :: (((((((([] ++ wByt aT q5 a5 800) ++ wByt aT q19 a19 400) ++ wPos aT c33) ++ wPos aT c44) ++ wPos aT c55) ++ wPast aT q66 pa cs 8) ++ [(q77, .inr (9, [.ref q5, .int 0, .int 0, .int 0, .int 0, .int 0, .int (-1)]))]) ++ [(q92, .inr (7, [.ref q77, .ref q55]))])) (As := [.ref q77, .ref q33]) (st := [.ref q111, .ref h0]) hx (ct_Script q77 q33) hS g242 g35 g240 g241 rfl (by decide +kernel) dX10_init_123 rfl rfl (Nat.le_of_ble_eq_true rfl) ⟨by omega, by omega⟩ ⟨by omega, by omega⟩ hl.1 (fun w1 H locs hw hS => ?_)
  obtain ⟨st, sa, rfl⟩ := hw
  have hS : Sx D A s.heap ((h0, .inr (10, [.ref q5, .ref q19, .ref q77, .ref q92, .null, .ref q33, .ref q44, .ref q55, .ref q66, .int 0])) :: ((((((((([] ++ wByt aT q5 a5 800) ++ wByt aT q19 a19 400) ++ wPos aT c33) ++ wPos aT c44) ++ wPos aT c55) ++ wPast aT q66 pa cs 8) ++ [(q77, .inr (9, [.ref q5, .int 0, .int 0, .int 0, .int 0, .int 0, .int (-1)]))]) ++ [(q92, .inr (7, [.ref q77, .ref q55]))]) ++ ((q111, .inr (6, [.ref q77, .ref q33, .ref st, .int 0])) :: ([] ++ wTab aT st sa 30 5 150)))) _ _ := hS
  refine K_put (k := 4) (ty := .object "WhistlePosts$Script") hx hS tyX10 fc8 tyX10_ok (by decide) ⟨rfl, rfl, rfl⟩ g500 (Or.inr ⟨rfl, rfl⟩) (by decide +kernel) rfl rfl (Nat.le_of_ble_eq_true rfl) dX10_init_126 (fun H locs hS => ?_)
  have hS : Sx D A s.heap ((h0, .inr (10, [.ref q5, .ref q19, .ref q77, .ref q92, .ref q111, .ref q33, .ref q44, .ref q55, .ref q66, .int 0])) :: ((((((((([] ++ wByt aT q5 a5 800) ++ wByt aT q19 a19 400) ++ wPos aT c33) ++ wPos aT c44) ++ wPos aT c55) ++ wPast aT q66 pa cs 8) ++ [(q77, .inr (9, [.ref q5, .int 0, .int 0, .int 0, .int 0, .int 0, .int (-1)]))]) ++ [(q92, .inr (7, [.ref q77, .ref q55]))]) ++ ((q111, .inr (6, [.ref q77, .ref q33, .ref st, .int 0])) :: ([] ++ wTab aT st sa 30 5 150)))) _ _ := hS
  refine lv_aload_n hx.1 hx.2.1 dX10_init_129 rfl (lv_at hl 0 rfl) ?_
  refine lv_iconst (v := 0) hx.1 hx.2.1 dX10_init_130 (by decide) ?_
  refine K_put (k := 9) (ty := .boolean) hx hS tyX10 fc8 tyX10_ok (by decide) ⟨rfl, rfl, rfl⟩ g505 (Or.inl rfl) (by decide +kernel) rfl rfl (Nat.le_of_ble_eq_true rfl) dX10_init_131 (fun H locs hS => ?_)
  have hS : Sx D A s.heap ((h0, .inr (10, [.ref q5, .ref q19, .ref q77, .ref q92, .ref q111, .ref q33, .ref q44, .ref q55, .ref q66, .int 0])) :: ((((((((([] ++ wByt aT q5 a5 800) ++ wByt aT q19 a19 400) ++ wPos aT c33) ++ wPos aT c44) ++ wPos aT c55) ++ wPast aT q66 pa cs 8) ++ [(q77, .inr (9, [.ref q5, .int 0, .int 0, .int 0, .int 0, .int 0, .int (-1)]))]) ++ [(q92, .inr (7, [.ref q77, .ref q55]))]) ++ ((q111, .inr (6, [.ref q77, .ref q33, .ref st, .int 0])) :: ([] ++ wTab aT st sa 30 5 150)))) _ _ := hS
  have hS9 := hS
  subst hc33
  subst hc44
  subst hc55
  refine W.widen (k := 300) (n := 30000) (by omega) (by omega) ?_
  exact kk H locs q5 a5 q19 a19 c33 c44 c55 q66 pa cs q77 q92 q111 st sa hS9
