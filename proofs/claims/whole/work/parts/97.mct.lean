/-! ===== the reference's constructor ===== -/
theorem gi619 : (Cond.arrayClass Jvm.ClassFile.FieldType.byte) ∈ Gw := gw_in 619 (by decide +kernel) (by decide +kernel)
theorem gi1417 : (Cond.arrayClass Jvm.ClassFile.FieldType.boolean) ∈ Gw := gw_in 1417 (by decide +kernel) (by decide +kernel)
def iM0 : List Value := [.null, .null, .null, .null, .int 0, .int 0, .int 0, .null, .int 0, .null, .null, .int 0, .null, .int 0, .int 0, .int 0, .int 0, .int 0, .int 0, .int 0, .int 0, .int 0, .null, .int 0, .null, .null, .null, .int 0]
abbrev iMs : va_E := .inr (9, iM0)
def wMo (aT : Nat → ClassId) (h0 : Nat) (a1 a2 a3 a4 a5 a6 a7 a8 a9 a10 a11 a12 : Nat) (Yc : va_W) : va_W := (h0, .inr (9, [.ref a1, .ref a2, .ref a3, .ref a4, .int 0, .int 0, .int 0, .ref a5, .int 0, .ref a6, .ref a7, .int 0, .ref a8, .int 0, .int 0, .int (-1), .int 0, .int 0, .int 0, .int 0, .int 0, .int 0, .ref a9, .int 0, .ref a10, .ref a11, .ref a12, .int 0])) :: ((((((((((((Yc ++ [(a1, .inl (aT 0, 1030, .inl fun _ => 0))]) ++ [(a2, .inl (aT 0, 1030, .inl fun _ => 0))]) ++ [(a3, .inl (aT 0, 1030, .inl fun _ => 0))]) ++ [(a4, .inl (aT 0, 8240, .inl fun _ => 0))]) ++ [(a5, .inl (aT 0, 6, .inl fun _ => 0))]) ++ [(a6, .inl (aT 0, 10, .inl fun _ => 0))]) ++ [(a7, .inl (aT 0, 8, .inl fun _ => 0))]) ++ [(a8, .inl (aT 1, 800, .inl fun _ => 0))]) ++ [(a9, .inl (aT 0, 360, .inl fun _ => 0))]) ++ [(a10, .inl (aT 0, 10, .inl fun _ => 0))]) ++ [(a11, .inl (aT 2, 10, .inl fun _ => 0))]) ++ [(a12, .inl (aT 1, 300, .inl fun _ => 0))])
set_option maxHeartbeats 4000000 in
set_option maxRecDepth 100000 in
theorem mo_make {p : Program} {l : Launch} {e : Env} {R : Room} {s : State} {m : MethodId} {args : Array Value} {below : List Frame} {meth : Method} {c : Code} {D : va_G} {aT : Nat → ClassId} {A : Nat → Prop} {Q : State → Prop} {ls : Array Slot} {h0 : Nat} {Yc : va_W} (hx : KxC p s m args meth c "WhistlePostsModel" cX11_init 5 D aT A) (hR : 10 ≤ R.frames ∧ 390 ≤ R.locals ∧ 300 ≤ R.cells ∧ 30000 ≤ R.slots)
    (hS : Sx D A s.heap ((h0, iMs) :: Yc) s.heap []) (hl : lv_has ls 5 [(0, .ref h0)])
    (kk : ∀ (H : Heap) (locs : List Loc) (a1 a2 a3 a4 a5 a6 a7 a8 a9 a10 a11 a12 : Nat), Sx D A s.heap (wMo aT h0 a1 a2 a3 a4 a5 a6 a7 a8 a9 a10 a11 a12 Yc) H locs → W p l e R s m args below meth c H locs 20 13000 Q (F0 m 112 ls [])) :
    W p l e R s m args below meth c s.heap [] 0 0 Q (F0 m 0 ls []) := by
  obtain ⟨r1, r2, r3, r4⟩ := hR
  have hS : Sx D A s.heap ((h0, .inr (9, [.null, .null, .null, .null, .int 0, .int 0, .int 0, .null, .int 0, .null, .null, .int 0, .null, .int 0, .int 0, .int 0, .int 0, .int 0, .int 0, .int 0, .int 0, .int 0, .null, .int 0, .null, .null, .null, .int 0])) :: Yc) _ _ := hS
  refine lv_aload_n hx.1 hx.2.1 dX11_init_0 rfl (lv_at hl 0 rfl) ?_
  refine K_obj hx g1310 g140 g141 hl.1 dX11_init_1 (by omega) (by show 0 + 12 ≤ _; omega) ?_
  refine lv_aload_n hx.1 hx.2.1 dX11_init_4 rfl (lv_at hl 0 rfl) ?_
  refine lv_sipush (v := 1030) hx.1 hx.2.1 dX11_init_5 (by decide) ?_
  refine K_newa (atype := .int) (ty := .int) (a0 := (1030, .inl fun _ => 0)) hx hS 0 rfl rfl (fun _ k => int_ra (fun _ h => by cases h) k) (fun _ => rfl) (by decide) (by decide) (Nat.le_of_ble_eq_true rfl) gi155 ⟨by omega, by omega⟩ dX11_init_8 (fun a1 H hS => ?_)
  have hS : Sx D A s.heap ((h0, .inr (9, [.null, .null, .null, .null, .int 0, .int 0, .int 0, .null, .int 0, .null, .null, .int 0, .null, .int 0, .int 0, .int 0, .int 0, .int 0, .int 0, .int 0, .int 0, .int 0, .null, .int 0, .null, .null, .null, .int 0])) :: (Yc ++ [(a1, .inl (aT 0, 1030, .inl fun _ => 0))])) _ _ := hS
  refine K_put (k := 0) (ty := .array .int) hx hS tyX11 fc9 tyX11_ok (by decide) ⟨rfl, rfl, rfl⟩ g1332 (Or.inr ⟨rfl, rfl⟩) (by decide +kernel) rfl rfl (Nat.le_of_ble_eq_true rfl) dX11_init_10 (fun H locs hS => ?_)
  have hS : Sx D A s.heap ((h0, .inr (9, [.ref a1, .null, .null, .null, .int 0, .int 0, .int 0, .null, .int 0, .null, .null, .int 0, .null, .int 0, .int 0, .int 0, .int 0, .int 0, .int 0, .int 0, .int 0, .int 0, .null, .int 0, .null, .null, .null, .int 0])) :: (Yc ++ [(a1, .inl (aT 0, 1030, .inl fun _ => 0))])) _ _ := hS
  refine lv_aload_n hx.1 hx.2.1 dX11_init_13 rfl (lv_at hl 0 rfl) ?_
  refine lv_sipush (v := 1030) hx.1 hx.2.1 dX11_init_14 (by decide) ?_
  refine K_newa (atype := .int) (ty := .int) (a0 := (1030, .inl fun _ => 0)) hx hS 0 rfl rfl (fun _ k => int_ra (fun _ h => by cases h) k) (fun _ => rfl) (by decide) (by decide) (Nat.le_of_ble_eq_true rfl) gi155 ⟨by omega, by omega⟩ dX11_init_17 (fun a2 H hS => ?_)
  have hS : Sx D A s.heap ((h0, .inr (9, [.ref a1, .null, .null, .null, .int 0, .int 0, .int 0, .null, .int 0, .null, .null, .int 0, .null, .int 0, .int 0, .int 0, .int 0, .int 0, .int 0, .int 0, .int 0, .int 0, .null, .int 0, .null, .null, .null, .int 0])) :: ((Yc ++ [(a1, .inl (aT 0, 1030, .inl fun _ => 0))]) ++ [(a2, .inl (aT 0, 1030, .inl fun _ => 0))])) _ _ := hS
  refine K_put (k := 1) (ty := .array .int) hx hS tyX11 fc9 tyX11_ok (by decide) ⟨rfl, rfl, rfl⟩ g1333 (Or.inr ⟨rfl, rfl⟩) (by decide +kernel) rfl rfl (Nat.le_of_ble_eq_true rfl) dX11_init_19 (fun H locs hS => ?_)
  have hS : Sx D A s.heap ((h0, .inr (9, [.ref a1, .ref a2, .null, .null, .int 0, .int 0, .int 0, .null, .int 0, .null, .null, .int 0, .null, .int 0, .int 0, .int 0, .int 0, .int 0, .int 0, .int 0, .int 0, .int 0, .null, .int 0, .null, .null, .null, .int 0])) :: ((Yc ++ [(a1, .inl (aT 0, 1030, .inl fun _ => 0))]) ++ [(a2, .inl (aT 0, 1030, .inl fun _ => 0))])) _ _ := hS
  refine lv_aload_n hx.1 hx.2.1 dX11_init_22 rfl (lv_at hl 0 rfl) ?_
  refine lv_sipush (v := 1030) hx.1 hx.2.1 dX11_init_23 (by decide) ?_
  refine K_newa (atype := .int) (ty := .int) (a0 := (1030, .inl fun _ => 0)) hx hS 0 rfl rfl (fun _ k => int_ra (fun _ h => by cases h) k) (fun _ => rfl) (by decide) (by decide) (Nat.le_of_ble_eq_true rfl) gi155 ⟨by omega, by omega⟩ dX11_init_26 (fun a3 H hS => ?_)
  have hS : Sx D A s.heap ((h0, .inr (9, [.ref a1, .ref a2, .null, .null, .int 0, .int 0, .int 0, .null, .int 0, .null, .null, .int 0, .null, .int 0, .int 0, .int 0, .int 0, .int 0, .int 0, .int 0, .int 0, .int 0, .null, .int 0, .null, .null, .null, .int 0])) :: (((Yc ++ [(a1, .inl (aT 0, 1030, .inl fun _ => 0))]) ++ [(a2, .inl (aT 0, 1030, .inl fun _ => 0))]) ++ [(a3, .inl (aT 0, 1030, .inl fun _ => 0))])) _ _ := hS
  refine K_put (k := 2) (ty := .array .int) hx hS tyX11 fc9 tyX11_ok (by decide) ⟨rfl, rfl, rfl⟩ g1334 (Or.inr ⟨rfl, rfl⟩) (by decide +kernel) rfl rfl (Nat.le_of_ble_eq_true rfl) dX11_init_28 (fun H locs hS => ?_)
  have hS : Sx D A s.heap ((h0, .inr (9, [.ref a1, .ref a2, .ref a3, .null, .int 0, .int 0, .int 0, .null, .int 0, .null, .null, .int 0, .null, .int 0, .int 0, .int 0, .int 0, .int 0, .int 0, .int 0, .int 0, .int 0, .null, .int 0, .null, .null, .null, .int 0])) :: (((Yc ++ [(a1, .inl (aT 0, 1030, .inl fun _ => 0))]) ++ [(a2, .inl (aT 0, 1030, .inl fun _ => 0))]) ++ [(a3, .inl (aT 0, 1030, .inl fun _ => 0))])) _ _ := hS
  refine lv_aload_n hx.1 hx.2.1 dX11_init_31 rfl (lv_at hl 0 rfl) ?_
  refine lv_sipush (v := 8240) hx.1 hx.2.1 dX11_init_32 (by decide) ?_
  refine K_newa (atype := .int) (ty := .int) (a0 := (8240, .inl fun _ => 0)) hx hS 0 rfl rfl (fun _ k => int_ra (fun _ h => by cases h) k) (fun _ => rfl) (by decide) (by decide) (Nat.le_of_ble_eq_true rfl) gi155 ⟨by omega, by omega⟩ dX11_init_35 (fun a4 H hS => ?_)
  have hS : Sx D A s.heap ((h0, .inr (9, [.ref a1, .ref a2, .ref a3, .null, .int 0, .int 0, .int 0, .null, .int 0, .null, .null, .int 0, .null, .int 0, .int 0, .int 0, .int 0, .int 0, .int 0, .int 0, .int 0, .int 0, .null, .int 0, .null, .null, .null, .int 0])) :: ((((Yc ++ [(a1, .inl (aT 0, 1030, .inl fun _ => 0))]) ++ [(a2, .inl (aT 0, 1030, .inl fun _ => 0))]) ++ [(a3, .inl (aT 0, 1030, .inl fun _ => 0))]) ++ [(a4, .inl (aT 0, 8240, .inl fun _ => 0))])) _ _ := hS
  refine K_put (k := 3) (ty := .array .int) hx hS tyX11 fc9 tyX11_ok (by decide) ⟨rfl, rfl, rfl⟩ g1335 (Or.inr ⟨rfl, rfl⟩) (by decide +kernel) rfl rfl (Nat.le_of_ble_eq_true rfl) dX11_init_37 (fun H locs hS => ?_)
  have hS : Sx D A s.heap ((h0, .inr (9, [.ref a1, .ref a2, .ref a3, .ref a4, .int 0, .int 0, .int 0, .null, .int 0, .null, .null, .int 0, .null, .int 0, .int 0, .int 0, .int 0, .int 0, .int 0, .int 0, .int 0, .int 0, .null, .int 0, .null, .null, .null, .int 0])) :: ((((Yc ++ [(a1, .inl (aT 0, 1030, .inl fun _ => 0))]) ++ [(a2, .inl (aT 0, 1030, .inl fun _ => 0))]) ++ [(a3, .inl (aT 0, 1030, .inl fun _ => 0))]) ++ [(a4, .inl (aT 0, 8240, .inl fun _ => 0))])) _ _ := hS
  refine lv_aload_n hx.1 hx.2.1 dX11_init_40 rfl (lv_at hl 0 rfl) ?_
  refine lv_bipush (v := 6) hx.1 hx.2.1 dX11_init_41 (by decide) ?_
  refine K_newa (atype := .int) (ty := .int) (a0 := (6, .inl fun _ => 0)) hx hS 0 rfl rfl (fun _ k => int_ra (fun _ h => by cases h) k) (fun _ => rfl) (by decide) (by decide) (Nat.le_of_ble_eq_true rfl) gi155 ⟨by omega, by omega⟩ dX11_init_43 (fun a5 H hS => ?_)
  have hS : Sx D A s.heap ((h0, .inr (9, [.ref a1, .ref a2, .ref a3, .ref a4, .int 0, .int 0, .int 0, .null, .int 0, .null, .null, .int 0, .null, .int 0, .int 0, .int 0, .int 0, .int 0, .int 0, .int 0, .int 0, .int 0, .null, .int 0, .null, .null, .null, .int 0])) :: (((((Yc ++ [(a1, .inl (aT 0, 1030, .inl fun _ => 0))]) ++ [(a2, .inl (aT 0, 1030, .inl fun _ => 0))]) ++ [(a3, .inl (aT 0, 1030, .inl fun _ => 0))]) ++ [(a4, .inl (aT 0, 8240, .inl fun _ => 0))]) ++ [(a5, .inl (aT 0, 6, .inl fun _ => 0))])) _ _ := hS
  refine K_put (k := 7) (ty := .array .int) hx hS tyX11 fc9 tyX11_ok (by decide) ⟨rfl, rfl, rfl⟩ g1339 (Or.inr ⟨rfl, rfl⟩) (by decide +kernel) rfl rfl (Nat.le_of_ble_eq_true rfl) dX11_init_45 (fun H locs hS => ?_)
  have hS : Sx D A s.heap ((h0, .inr (9, [.ref a1, .ref a2, .ref a3, .ref a4, .int 0, .int 0, .int 0, .ref a5, .int 0, .null, .null, .int 0, .null, .int 0, .int 0, .int 0, .int 0, .int 0, .int 0, .int 0, .int 0, .int 0, .null, .int 0, .null, .null, .null, .int 0])) :: (((((Yc ++ [(a1, .inl (aT 0, 1030, .inl fun _ => 0))]) ++ [(a2, .inl (aT 0, 1030, .inl fun _ => 0))]) ++ [(a3, .inl (aT 0, 1030, .inl fun _ => 0))]) ++ [(a4, .inl (aT 0, 8240, .inl fun _ => 0))]) ++ [(a5, .inl (aT 0, 6, .inl fun _ => 0))])) _ _ := hS
  refine lv_aload_n hx.1 hx.2.1 dX11_init_48 rfl (lv_at hl 0 rfl) ?_
  refine lv_bipush (v := 10) hx.1 hx.2.1 dX11_init_49 (by decide) ?_
  refine K_newa (atype := .int) (ty := .int) (a0 := (10, .inl fun _ => 0)) hx hS 0 rfl rfl (fun _ k => int_ra (fun _ h => by cases h) k) (fun _ => rfl) (by decide) (by decide) (Nat.le_of_ble_eq_true rfl) gi155 ⟨by omega, by omega⟩ dX11_init_51 (fun a6 H hS => ?_)
  have hS : Sx D A s.heap ((h0, .inr (9, [.ref a1, .ref a2, .ref a3, .ref a4, .int 0, .int 0, .int 0, .ref a5, .int 0, .null, .null, .int 0, .null, .int 0, .int 0, .int 0, .int 0, .int 0, .int 0, .int 0, .int 0, .int 0, .null, .int 0, .null, .null, .null, .int 0])) :: ((((((Yc ++ [(a1, .inl (aT 0, 1030, .inl fun _ => 0))]) ++ [(a2, .inl (aT 0, 1030, .inl fun _ => 0))]) ++ [(a3, .inl (aT 0, 1030, .inl fun _ => 0))]) ++ [(a4, .inl (aT 0, 8240, .inl fun _ => 0))]) ++ [(a5, .inl (aT 0, 6, .inl fun _ => 0))]) ++ [(a6, .inl (aT 0, 10, .inl fun _ => 0))])) _ _ := hS
  refine K_put (k := 9) (ty := .array .int) hx hS tyX11 fc9 tyX11_ok (by decide) ⟨rfl, rfl, rfl⟩ g1341 (Or.inr ⟨rfl, rfl⟩) (by decide +kernel) rfl rfl (Nat.le_of_ble_eq_true rfl) dX11_init_53 (fun H locs hS => ?_)
  have hS : Sx D A s.heap ((h0, .inr (9, [.ref a1, .ref a2, .ref a3, .ref a4, .int 0, .int 0, .int 0, .ref a5, .int 0, .ref a6, .null, .int 0, .null, .int 0, .int 0, .int 0, .int 0, .int 0, .int 0, .int 0, .int 0, .int 0, .null, .int 0, .null, .null, .null, .int 0])) :: ((((((Yc ++ [(a1, .inl (aT 0, 1030, .inl fun _ => 0))]) ++ [(a2, .inl (aT 0, 1030, .inl fun _ => 0))]) ++ [(a3, .inl (aT 0, 1030, .inl fun _ => 0))]) ++ [(a4, .inl (aT 0, 8240, .inl fun _ => 0))]) ++ [(a5, .inl (aT 0, 6, .inl fun _ => 0))]) ++ [(a6, .inl (aT 0, 10, .inl fun _ => 0))])) _ _ := hS
  refine lv_aload_n hx.1 hx.2.1 dX11_init_56 rfl (lv_at hl 0 rfl) ?_
  refine lv_bipush (v := 8) hx.1 hx.2.1 dX11_init_57 (by decide) ?_
  refine K_newa (atype := .int) (ty := .int) (a0 := (8, .inl fun _ => 0)) hx hS 0 rfl rfl (fun _ k => int_ra (fun _ h => by cases h) k) (fun _ => rfl) (by decide) (by decide) (Nat.le_of_ble_eq_true rfl) gi155 ⟨by omega, by omega⟩ dX11_init_59 (fun a7 H hS => ?_)
  have hS : Sx D A s.heap ((h0, .inr (9, [.ref a1, .ref a2, .ref a3, .ref a4, .int 0, .int 0, .int 0, .ref a5, .int 0, .ref a6, .null, .int 0, .null, .int 0, .int 0, .int 0, .int 0, .int 0, .int 0, .int 0, .int 0, .int 0, .null, .int 0, .null, .null, .null, .int 0])) :: (((((((Yc ++ [(a1, .inl (aT 0, 1030, .inl fun _ => 0))]) ++ [(a2, .inl (aT 0, 1030, .inl fun _ => 0))]) ++ [(a3, .inl (aT 0, 1030, .inl fun _ => 0))]) ++ [(a4, .inl (aT 0, 8240, .inl fun _ => 0))]) ++ [(a5, .inl (aT 0, 6, .inl fun _ => 0))]) ++ [(a6, .inl (aT 0, 10, .inl fun _ => 0))]) ++ [(a7, .inl (aT 0, 8, .inl fun _ => 0))])) _ _ := hS
  refine K_put (k := 10) (ty := .array .int) hx hS tyX11 fc9 tyX11_ok (by decide) ⟨rfl, rfl, rfl⟩ g1342 (Or.inr ⟨rfl, rfl⟩) (by decide +kernel) rfl rfl (Nat.le_of_ble_eq_true rfl) dX11_init_61 (fun H locs hS => ?_)
  have hS : Sx D A s.heap ((h0, .inr (9, [.ref a1, .ref a2, .ref a3, .ref a4, .int 0, .int 0, .int 0, .ref a5, .int 0, .ref a6, .ref a7, .int 0, .null, .int 0, .int 0, .int 0, .int 0, .int 0, .int 0, .int 0, .int 0, .int 0, .null, .int 0, .null, .null, .null, .int 0])) :: (((((((Yc ++ [(a1, .inl (aT 0, 1030, .inl fun _ => 0))]) ++ [(a2, .inl (aT 0, 1030, .inl fun _ => 0))]) ++ [(a3, .inl (aT 0, 1030, .inl fun _ => 0))]) ++ [(a4, .inl (aT 0, 8240, .inl fun _ => 0))]) ++ [(a5, .inl (aT 0, 6, .inl fun _ => 0))]) ++ [(a6, .inl (aT 0, 10, .inl fun _ => 0))]) ++ [(a7, .inl (aT 0, 8, .inl fun _ => 0))])) _ _ := hS
  refine lv_aload_n hx.1 hx.2.1 dX11_init_64 rfl (lv_at hl 0 rfl) ?_
  refine lv_sipush (v := 800) hx.1 hx.2.1 dX11_init_65 (by decide) ?_
  refine K_newa (atype := .byte) (ty := .byte) (a0 := (800, .inl fun _ => 0)) hx hS 1 rfl rfl (fun _ k => int_ra (fun _ h => by cases h) k) (fun _ => rfl) (by decide) (by decide) (Nat.le_of_ble_eq_true rfl) gi619 ⟨by omega, by omega⟩ dX11_init_68 (fun a8 H hS => ?_)
  have hS : Sx D A s.heap ((h0, .inr (9, [.ref a1, .ref a2, .ref a3, .ref a4, .int 0, .int 0, .int 0, .ref a5, .int 0, .ref a6, .ref a7, .int 0, .null, .int 0, .int 0, .int 0, .int 0, .int 0, .int 0, .int 0, .int 0, .int 0, .null, .int 0, .null, .null, .null, .int 0])) :: ((((((((Yc ++ [(a1, .inl (aT 0, 1030, .inl fun _ => 0))]) ++ [(a2, .inl (aT 0, 1030, .inl fun _ => 0))]) ++ [(a3, .inl (aT 0, 1030, .inl fun _ => 0))]) ++ [(a4, .inl (aT 0, 8240, .inl fun _ => 0))]) ++ [(a5, .inl (aT 0, 6, .inl fun _ => 0))]) ++ [(a6, .inl (aT 0, 10, .inl fun _ => 0))]) ++ [(a7, .inl (aT 0, 8, .inl fun _ => 0))]) ++ [(a8, .inl (aT 1, 800, .inl fun _ => 0))])) _ _ := hS
  refine K_put (k := 12) (ty := .array .byte) hx hS tyX11 fc9 tyX11_ok (by decide) ⟨rfl, rfl, rfl⟩ g1344 (Or.inr ⟨rfl, rfl⟩) (by decide +kernel) rfl rfl (Nat.le_of_ble_eq_true rfl) dX11_init_70 (fun H locs hS => ?_)
  have hS : Sx D A s.heap ((h0, .inr (9, [.ref a1, .ref a2, .ref a3, .ref a4, .int 0, .int 0, .int 0, .ref a5, .int 0, .ref a6, .ref a7, .int 0, .ref a8, .int 0, .int 0, .int 0, .int 0, .int 0, .int 0, .int 0, .int 0, .int 0, .null, .int 0, .null, .null, .null, .int 0])) :: ((((((((Yc ++ [(a1, .inl (aT 0, 1030, .inl fun _ => 0))]) ++ [(a2, .inl (aT 0, 1030, .inl fun _ => 0))]) ++ [(a3, .inl (aT 0, 1030, .inl fun _ => 0))]) ++ [(a4, .inl (aT 0, 8240, .inl fun _ => 0))]) ++ [(a5, .inl (aT 0, 6, .inl fun _ => 0))]) ++ [(a6, .inl (aT 0, 10, .inl fun _ => 0))]) ++ [(a7, .inl (aT 0, 8, .inl fun _ => 0))]) ++ [(a8, .inl (aT 1, 800, .inl fun _ => 0))])) _ _ := hS
  refine lv_aload_n hx.1 hx.2.1 dX11_init_73 rfl (lv_at hl 0 rfl) ?_
  refine lv_iconst (v := -1) hx.1 hx.2.1 dX11_init_74 (by decide) ?_
  refine K_put (k := 15) (ty := .int) hx hS tyX11 fc9 tyX11_ok (by decide) ⟨rfl, rfl, rfl⟩ g1347 (Or.inl rfl) (by decide +kernel) rfl rfl (Nat.le_of_ble_eq_true rfl) dX11_init_75 (fun H locs hS => ?_)
  have hS : Sx D A s.heap ((h0, .inr (9, [.ref a1, .ref a2, .ref a3, .ref a4, .int 0, .int 0, .int 0, .ref a5, .int 0, .ref a6, .ref a7, .int 0, .ref a8, .int 0, .int 0, .int (-1), .int 0, .int 0, .int 0, .int 0, .int 0, .int 0, .null, .int 0, .null, .null, .null, .int 0])) :: ((((((((Yc ++ [(a1, .inl (aT 0, 1030, .inl fun _ => 0))]) ++ [(a2, .inl (aT 0, 1030, .inl fun _ => 0))]) ++ [(a3, .inl (aT 0, 1030, .inl fun _ => 0))]) ++ [(a4, .inl (aT 0, 8240, .inl fun _ => 0))]) ++ [(a5, .inl (aT 0, 6, .inl fun _ => 0))]) ++ [(a6, .inl (aT 0, 10, .inl fun _ => 0))]) ++ [(a7, .inl (aT 0, 8, .inl fun _ => 0))]) ++ [(a8, .inl (aT 1, 800, .inl fun _ => 0))])) _ _ := hS
  refine lv_aload_n hx.1 hx.2.1 dX11_init_78 rfl (lv_at hl 0 rfl) ?_
  refine lv_sipush (v := 360) hx.1 hx.2.1 dX11_init_79 (by decide) ?_
  refine K_newa (atype := .int) (ty := .int) (a0 := (360, .inl fun _ => 0)) hx hS 0 rfl rfl (fun _ k => int_ra (fun _ h => by cases h) k) (fun _ => rfl) (by decide) (by decide) (Nat.le_of_ble_eq_true rfl) gi155 ⟨by omega, by omega⟩ dX11_init_82 (fun a9 H hS => ?_)
  have hS : Sx D A s.heap ((h0, .inr (9, [.ref a1, .ref a2, .ref a3, .ref a4, .int 0, .int 0, .int 0, .ref a5, .int 0, .ref a6, .ref a7, .int 0, .ref a8, .int 0, .int 0, .int (-1), .int 0, .int 0, .int 0, .int 0, .int 0, .int 0, .null, .int 0, .null, .null, .null, .int 0])) :: (((((((((Yc ++ [(a1, .inl (aT 0, 1030, .inl fun _ => 0))]) ++ [(a2, .inl (aT 0, 1030, .inl fun _ => 0))]) ++ [(a3, .inl (aT 0, 1030, .inl fun _ => 0))]) ++ [(a4, .inl (aT 0, 8240, .inl fun _ => 0))]) ++ [(a5, .inl (aT 0, 6, .inl fun _ => 0))]) ++ [(a6, .inl (aT 0, 10, .inl fun _ => 0))]) ++ [(a7, .inl (aT 0, 8, .inl fun _ => 0))]) ++ [(a8, .inl (aT 1, 800, .inl fun _ => 0))]) ++ [(a9, .inl (aT 0, 360, .inl fun _ => 0))])) _ _ := hS
  refine K_put (k := 22) (ty := .array .int) hx hS tyX11 fc9 tyX11_ok (by decide) ⟨rfl, rfl, rfl⟩ g1354 (Or.inr ⟨rfl, rfl⟩) (by decide +kernel) rfl rfl (Nat.le_of_ble_eq_true rfl) dX11_init_84 (fun H locs hS => ?_)
  have hS : Sx D A s.heap ((h0, .inr (9, [.ref a1, .ref a2, .ref a3, .ref a4, .int 0, .int 0, .int 0, .ref a5, .int 0, .ref a6, .ref a7, .int 0, .ref a8, .int 0, .int 0, .int (-1), .int 0, .int 0, .int 0, .int 0, .int 0, .int 0, .ref a9, .int 0, .null, .null, .null, .int 0])) :: (((((((((Yc ++ [(a1, .inl (aT 0, 1030, .inl fun _ => 0))]) ++ [(a2, .inl (aT 0, 1030, .inl fun _ => 0))]) ++ [(a3, .inl (aT 0, 1030, .inl fun _ => 0))]) ++ [(a4, .inl (aT 0, 8240, .inl fun _ => 0))]) ++ [(a5, .inl (aT 0, 6, .inl fun _ => 0))]) ++ [(a6, .inl (aT 0, 10, .inl fun _ => 0))]) ++ [(a7, .inl (aT 0, 8, .inl fun _ => 0))]) ++ [(a8, .inl (aT 1, 800, .inl fun _ => 0))]) ++ [(a9, .inl (aT 0, 360, .inl fun _ => 0))])) _ _ := hS
  refine lv_aload_n hx.1 hx.2.1 dX11_init_87 rfl (lv_at hl 0 rfl) ?_
  refine lv_bipush (v := 10) hx.1 hx.2.1 dX11_init_88 (by decide) ?_
  refine K_newa (atype := .int) (ty := .int) (a0 := (10, .inl fun _ => 0)) hx hS 0 rfl rfl (fun _ k => int_ra (fun _ h => by cases h) k) (fun _ => rfl) (by decide) (by decide) (Nat.le_of_ble_eq_true rfl) gi155 ⟨by omega, by omega⟩ dX11_init_90 (fun a10 H hS => ?_)
  have hS : Sx D A s.heap ((h0, .inr (9, [.ref a1, .ref a2, .ref a3, .ref a4, .int 0, .int 0, .int 0, .ref a5, .int 0, .ref a6, .ref a7, .int 0, .ref a8, .int 0, .int 0, .int (-1), .int 0, .int 0, .int 0, .int 0, .int 0, .int 0, .ref a9, .int 0, .null, .null, .null, .int 0])) :: ((((((((((Yc ++ [(a1, .inl (aT 0, 1030, .inl fun _ => 0))]) ++ [(a2, .inl (aT 0, 1030, .inl fun _ => 0))]) ++ [(a3, .inl (aT 0, 1030, .inl fun _ => 0))]) ++ [(a4, .inl (aT 0, 8240, .inl fun _ => 0))]) ++ [(a5, .inl (aT 0, 6, .inl fun _ => 0))]) ++ [(a6, .inl (aT 0, 10, .inl fun _ => 0))]) ++ [(a7, .inl (aT 0, 8, .inl fun _ => 0))]) ++ [(a8, .inl (aT 1, 800, .inl fun _ => 0))]) ++ [(a9, .inl (aT 0, 360, .inl fun _ => 0))]) ++ [(a10, .inl (aT 0, 10, .inl fun _ => 0))])) _ _ := hS
  refine K_put (k := 24) (ty := .array .int) hx hS tyX11 fc9 tyX11_ok (by decide) ⟨rfl, rfl, rfl⟩ g1356 (Or.inr ⟨rfl, rfl⟩) (by decide +kernel) rfl rfl (Nat.le_of_ble_eq_true rfl) dX11_init_92 (fun H locs hS => ?_)
  have hS : Sx D A s.heap ((h0, .inr (9, [.ref a1, .ref a2, .ref a3, .ref a4, .int 0, .int 0, .int 0, .ref a5, .int 0, .ref a6, .ref a7, .int 0, .ref a8, .int 0, .int 0, .int (-1), .int 0, .int 0, .int 0, .int 0, .int 0, .int 0, .ref a9, .int 0, .ref a10, .null, .null, .int 0])) :: ((((((((((Yc ++ [(a1, .inl (aT 0, 1030, .inl fun _ => 0))]) ++ [(a2, .inl (aT 0, 1030, .inl fun _ => 0))]) ++ [(a3, .inl (aT 0, 1030, .inl fun _ => 0))]) ++ [(a4, .inl (aT 0, 8240, .inl fun _ => 0))]) ++ [(a5, .inl (aT 0, 6, .inl fun _ => 0))]) ++ [(a6, .inl (aT 0, 10, .inl fun _ => 0))]) ++ [(a7, .inl (aT 0, 8, .inl fun _ => 0))]) ++ [(a8, .inl (aT 1, 800, .inl fun _ => 0))]) ++ [(a9, .inl (aT 0, 360, .inl fun _ => 0))]) ++ [(a10, .inl (aT 0, 10, .inl fun _ => 0))])) _ _ := hS
  refine lv_aload_n hx.1 hx.2.1 dX11_init_95 rfl (lv_at hl 0 rfl) ?_
  refine lv_bipush (v := 10) hx.1 hx.2.1 dX11_init_96 (by decide) ?_
  refine K_newa (atype := .boolean) (ty := .boolean) (a0 := (10, .inl fun _ => 0)) hx hS 2 rfl rfl (fun _ k => int_ra (fun _ h => by cases h) k) (fun _ => rfl) (by decide) (by decide) (Nat.le_of_ble_eq_true rfl) gi1417 ⟨by omega, by omega⟩ dX11_init_98 (fun a11 H hS => ?_)
  have hS : Sx D A s.heap ((h0, .inr (9, [.ref a1, .ref a2, .ref a3, .ref a4, .int 0, .int 0, .int 0, .ref a5, .int 0, .ref a6, .ref a7, .int 0, .ref a8, .int 0, .int 0, .int (-1), .int 0, .int 0, .int 0, .int 0, .int 0, .int 0, .ref a9, .int 0, .ref a10, .null, .null, .int 0])) :: (((((((((((Yc ++ [(a1, .inl (aT 0, 1030, .inl fun _ => 0))]) ++ [(a2, .inl (aT 0, 1030, .inl fun _ => 0))]) ++ [(a3, .inl (aT 0, 1030, .inl fun _ => 0))]) ++ [(a4, .inl (aT 0, 8240, .inl fun _ => 0))]) ++ [(a5, .inl (aT 0, 6, .inl fun _ => 0))]) ++ [(a6, .inl (aT 0, 10, .inl fun _ => 0))]) ++ [(a7, .inl (aT 0, 8, .inl fun _ => 0))]) ++ [(a8, .inl (aT 1, 800, .inl fun _ => 0))]) ++ [(a9, .inl (aT 0, 360, .inl fun _ => 0))]) ++ [(a10, .inl (aT 0, 10, .inl fun _ => 0))]) ++ [(a11, .inl (aT 2, 10, .inl fun _ => 0))])) _ _ := hS
  refine K_put (k := 25) (ty := .array .boolean) hx hS tyX11 fc9 tyX11_ok (by decide) ⟨rfl, rfl, rfl⟩ g1357 (Or.inr ⟨rfl, rfl⟩) (by decide +kernel) rfl rfl (Nat.le_of_ble_eq_true rfl) dX11_init_100 (fun H locs hS => ?_)
  have hS : Sx D A s.heap ((h0, .inr (9, [.ref a1, .ref a2, .ref a3, .ref a4, .int 0, .int 0, .int 0, .ref a5, .int 0, .ref a6, .ref a7, .int 0, .ref a8, .int 0, .int 0, .int (-1), .int 0, .int 0, .int 0, .int 0, .int 0, .int 0, .ref a9, .int 0, .ref a10, .ref a11, .null, .int 0])) :: (((((((((((Yc ++ [(a1, .inl (aT 0, 1030, .inl fun _ => 0))]) ++ [(a2, .inl (aT 0, 1030, .inl fun _ => 0))]) ++ [(a3, .inl (aT 0, 1030, .inl fun _ => 0))]) ++ [(a4, .inl (aT 0, 8240, .inl fun _ => 0))]) ++ [(a5, .inl (aT 0, 6, .inl fun _ => 0))]) ++ [(a6, .inl (aT 0, 10, .inl fun _ => 0))]) ++ [(a7, .inl (aT 0, 8, .inl fun _ => 0))]) ++ [(a8, .inl (aT 1, 800, .inl fun _ => 0))]) ++ [(a9, .inl (aT 0, 360, .inl fun _ => 0))]) ++ [(a10, .inl (aT 0, 10, .inl fun _ => 0))]) ++ [(a11, .inl (aT 2, 10, .inl fun _ => 0))])) _ _ := hS
  refine lv_aload_n hx.1 hx.2.1 dX11_init_103 rfl (lv_at hl 0 rfl) ?_
  refine lv_sipush (v := 300) hx.1 hx.2.1 dX11_init_104 (by decide) ?_
  refine K_newa (atype := .byte) (ty := .byte) (a0 := (300, .inl fun _ => 0)) hx hS 1 rfl rfl (fun _ k => int_ra (fun _ h => by cases h) k) (fun _ => rfl) (by decide) (by decide) (Nat.le_of_ble_eq_true rfl) gi619 ⟨by omega, by omega⟩ dX11_init_107 (fun a12 H hS => ?_)
  have hS : Sx D A s.heap ((h0, .inr (9, [.ref a1, .ref a2, .ref a3, .ref a4, .int 0, .int 0, .int 0, .ref a5, .int 0, .ref a6, .ref a7, .int 0, .ref a8, .int 0, .int 0, .int (-1), .int 0, .int 0, .int 0, .int 0, .int 0, .int 0, .ref a9, .int 0, .ref a10, .ref a11, .null, .int 0])) :: ((((((((((((Yc ++ [(a1, .inl (aT 0, 1030, .inl fun _ => 0))]) ++ [(a2, .inl (aT 0, 1030, .inl fun _ => 0))]) ++ [(a3, .inl (aT 0, 1030, .inl fun _ => 0))]) ++ [(a4, .inl (aT 0, 8240, .inl fun _ => 0))]) ++ [(a5, .inl (aT 0, 6, .inl fun _ => 0))]) ++ [(a6, .inl (aT 0, 10, .inl fun _ => 0))]) ++ [(a7, .inl (aT 0, 8, .inl fun _ => 0))]) ++ [(a8, .inl (aT 1, 800, .inl fun _ => 0))]) ++ [(a9, .inl (aT 0, 360, .inl fun _ => 0))]) ++ [(a10, .inl (aT 0, 10, .inl fun _ => 0))]) ++ [(a11, .inl (aT 2, 10, .inl fun _ => 0))]) ++ [(a12, .inl (aT 1, 300, .inl fun _ => 0))])) _ _ := hS
  refine K_put (k := 26) (ty := .array .byte) hx hS tyX11 fc9 tyX11_ok (by decide) ⟨rfl, rfl, rfl⟩ g1358 (Or.inr ⟨rfl, rfl⟩) (by decide +kernel) rfl rfl (Nat.le_of_ble_eq_true rfl) dX11_init_109 (fun H locs hS => ?_)
  have hS : Sx D A s.heap ((h0, .inr (9, [.ref a1, .ref a2, .ref a3, .ref a4, .int 0, .int 0, .int 0, .ref a5, .int 0, .ref a6, .ref a7, .int 0, .ref a8, .int 0, .int 0, .int (-1), .int 0, .int 0, .int 0, .int 0, .int 0, .int 0, .ref a9, .int 0, .ref a10, .ref a11, .ref a12, .int 0])) :: ((((((((((((Yc ++ [(a1, .inl (aT 0, 1030, .inl fun _ => 0))]) ++ [(a2, .inl (aT 0, 1030, .inl fun _ => 0))]) ++ [(a3, .inl (aT 0, 1030, .inl fun _ => 0))]) ++ [(a4, .inl (aT 0, 8240, .inl fun _ => 0))]) ++ [(a5, .inl (aT 0, 6, .inl fun _ => 0))]) ++ [(a6, .inl (aT 0, 10, .inl fun _ => 0))]) ++ [(a7, .inl (aT 0, 8, .inl fun _ => 0))]) ++ [(a8, .inl (aT 1, 800, .inl fun _ => 0))]) ++ [(a9, .inl (aT 0, 360, .inl fun _ => 0))]) ++ [(a10, .inl (aT 0, 10, .inl fun _ => 0))]) ++ [(a11, .inl (aT 2, 10, .inl fun _ => 0))]) ++ [(a12, .inl (aT 1, 300, .inl fun _ => 0))])) _ _ := hS
  refine W.widen (k := 20) (n := 13000) (by omega) (by omega) ?_
  exact kk H locs a1 a2 a3 a4 a5 a6 a7 a8 a9 a10 a11 a12 hS
/-- the whole numbers of the two, when the reference has its cells -/
def mo0 (w : aI) : aI := fun a k => if a < 210 then w a k else if a = 210 ∧ k = 15 then -1 else 0
theorem shR_lt : ∀ a, a < 210 → ∀ k, shR a k < 210 := by
  intro a ha k
  have h1 : ∀ a, a < 210 → ∀ x ∈ (shT.getD a (9, 0, [])).2.2, x < 210 := by decide +kernel
  unfold shR
  rw [List.getD_eq_getElem?_getD]
  cases hc : (shT.getD a (9, 0, [])).2.2[k]? with
  | none => exact Nat.lt_of_lt_of_le (Nat.zero_lt_succ 0) (by decide)
  | some x => exact h1 a ha x (List.mem_of_getElem? hc)
theorem cve_mo {ad ad' : Nat → Nat} {aT : Nat → ClassId} {w : aI} {a : Nat} (ha : a < 210) (h : ∀ i, i < 210 → ad' i = ad i) : cve ad' aT (cm (mo0 w)) a = cve_k ad aT (cm w) a := by
  have e0 : cm (mo0 w) a = cm w a := by
    funext k
    show oI (mo0 w a k) = oI (w a k)
    unfold mo0
    rw [if_pos ha]
  have e1 : shK_k a = shK a := if_pos ha
  have e2 : ∀ k, ad' (shR a k) = ad (shR a k) := fun k => h _ (shR_lt a ha k)
  unfold cve cve_k fvv
  rw [e0, e1]
  simp only [e2]
theorem cve_ma {ad : Nat → Nat} {aT : Nat → ClassId} {w : aI} {a n : Nat} (t : Nat) (ha : ¬ a < 210) (h2 : ¬ a = 210) (h3 : shK a = t) (ht : t < 3) (h4 : shL a = n) : cve ad aT (cm (mo0 w)) a = .inl (aT t, n, .inl fun _ => 0) := by
  rw [cve_arr h3 ht, h4]
  have e0 : cm (mo0 w) a = fun _ => 0 := by
    funext k
    show oI (mo0 w a k) = 0
    unfold mo0
    rw [if_neg ha, if_neg (fun z => h2 z.1)]
    rfl
  rw [e0]
theorem fvv9 (ad : Nat → Nat) (W : Nat → Int32) (rs : Nat → Nat) : fvv ad W rs (rfB 9) = [.ref (ad (rs 0)), .ref (ad (rs 1)), .ref (ad (rs 2)), .ref (ad (rs 3)), .int (W 4), .int (W 5), .int (W 6), .ref (ad (rs 7)), .int (W 8), .ref (ad (rs 9)), .ref (ad (rs 10)), .int (W 11), .ref (ad (rs 12)), .int (W 13), .int (W 14), .int (W 15), .int (W 16), .int (W 17), .int (W 18), .int (W 19), .int (W 20), .int (W 21), .ref (ad (rs 22)), .int (W 23), .ref (ad (rs 24)), .ref (ad (rs 25)), .ref (ad (rs 26)), .int (W 27)] := by
  apply List.ext_getElem?
  intro i
  match i with
  | 0 => exact fvv_ref rfl
  | 1 => exact fvv_ref rfl
  | 2 => exact fvv_ref rfl
  | 3 => exact fvv_ref rfl
  | 4 => exact fvv_int rfl
  | 5 => exact fvv_int rfl
  | 6 => exact fvv_int rfl
  | 7 => exact fvv_ref rfl
  | 8 => exact fvv_int rfl
  | 9 => exact fvv_ref rfl
  | 10 => exact fvv_ref rfl
  | 11 => exact fvv_int rfl
  | 12 => exact fvv_ref rfl
  | 13 => exact fvv_int rfl
  | 14 => exact fvv_int rfl
  | 15 => exact fvv_int rfl
  | 16 => exact fvv_int rfl
  | 17 => exact fvv_int rfl
  | 18 => exact fvv_int rfl
  | 19 => exact fvv_int rfl
  | 20 => exact fvv_int rfl
  | 21 => exact fvv_int rfl
  | 22 => exact fvv_ref rfl
  | 23 => exact fvv_int rfl
  | 24 => exact fvv_ref rfl
  | 25 => exact fvv_ref rfl
  | 26 => exact fvv_ref rfl
  | 27 => exact fvv_int rfl
  | n + 28 =>
    rw [List.getElem?_eq_none (by rw [fvv_len]; show 28 ≤ n + 28; omega), List.getElem?_eq_none (by show 28 ≤ n + 28; omega)]
set_option maxHeartbeats 1000000 in
theorem mo_conc {D : va_G} {aT : Nat → ClassId} {A : Nat → Prop} {H0 H : Heap} {locs : List Loc} {h0 a1 a2 a3 a4 a5 a6 a7 a8 a9 a10 a11 a12 : Nat} {ad0 : Nat → Nat} {w : aI} (hS : Sx D A H0 (wMo aT h0 a1 a2 a3 a4 a5 a6 a7 a8 a9 a10 a11 a12 (conc_k ad0 aT (cm w))) H locs) :
    ∃ ad : Nat → Nat, ad 210 = h0 ∧ (∀ i, i < 210 → ad i = ad0 i) ∧ (∀ i, 223 ≤ i → ad i = ad0 i) ∧ Lx D ad aT A H0 (cm (mo0 w)) [] H locs := by
  obtain ⟨ad, had⟩ : ∃ ad : Nat → Nat, ad = fun a => if a < 210 then ad0 a else if a < 223 then [h0, a1, a2, a3, a4, a5, a6, a7, a8, a9, a10, a11, a12].getD (a - 210) 0 else ad0 a := ⟨_, rfl⟩
  have l0 : ∀ i, i < 210 → ad i = ad0 i := fun i h => by rw [had]; exact if_pos h
  have l1 : ∀ i, i < 13 → ad (210 + i) = [h0, a1, a2, a3, a4, a5, a6, a7, a8, a9, a10, a11, a12].getD i 0 := fun i h => by
    rw [had]
    dsimp only
    rw [if_neg (by omega), if_pos (by omega), show 210 + i - 210 = i by omega]
  have l2 : ∀ i, 223 ≤ i → ad i = ad0 i := fun i h => by
    rw [had]
    dsimp only
    rw [if_neg (by omega), if_neg (by omega)]
  have b0 : ad 210 = h0 := l1 0 (by decide)
  have b1 : ad 211 = a1 := l1 1 (by decide)
  have b2 : ad 212 = a2 := l1 2 (by decide)
  have b3 : ad 213 = a3 := l1 3 (by decide)
  have b4 : ad 214 = a4 := l1 4 (by decide)
  have b5 : ad 215 = a5 := l1 5 (by decide)
  have b6 : ad 216 = a6 := l1 6 (by decide)
  have b7 : ad 217 = a7 := l1 7 (by decide)
  have b8 : ad 218 = a8 := l1 8 (by decide)
  have b9 : ad 219 = a9 := l1 9 (by decide)
  have b10 : ad 220 = a10 := l1 10 (by decide)
  have b11 : ad 221 = a11 := l1 11 (by decide)
  have b12 : ad 222 = a12 := l1 12 (by decide)
  refine ⟨ad, b0, l0, l2, ?_⟩
  obtain ⟨hP, hD, hSS⟩ := hS
  have hlen : (conc_k ad0 aT (cm w)).length = 210 := conc_len_k
  have f0 : cve ad aT (cm (mo0 w)) 210 = .inr (9, [.ref a1, .ref a2, .ref a3, .ref a4, .int 0, .int 0, .int 0, .ref a5, .int 0, .ref a6, .ref a7, .int 0, .ref a8, .int 0, .int 0, .int (-1), .int 0, .int 0, .int 0, .int 0, .int 0, .int 0, .ref a9, .int 0, .ref a10, .ref a11, .ref a12, .int 0]) := by
    have hW0 : ∀ k : Nat, ¬ k = 15 → cm (mo0 w) 210 k = 0 := fun k hk => by
      show oI (mo0 w 210 (k : Int)) = 0
      unfold mo0
      rw [if_neg (by decide), if_neg (fun z => hk (by omega))]
      rfl
    have hW15 : cm (mo0 w) 210 15 = -1 := by
      show oI (mo0 w 210 15) = -1
      unfold mo0
      rw [if_neg (by decide), if_pos ⟨rfl, rfl⟩]
      rfl
    rw [cve_obj (ci := 9) (by decide +kernel), fvv9, hW0 4 (by decide), hW0 5 (by decide), hW0 6 (by decide), hW0 8 (by decide), hW0 11 (by decide), hW0 13 (by decide), hW0 14 (by decide), hW0 16 (by decide), hW0 17 (by decide), hW0 18 (by decide), hW0 19 (by decide), hW0 20 (by decide), hW0 21 (by decide), hW0 23 (by decide), hW0 27 (by decide), hW15, show shR 210 0 = 211 by decide +kernel, show shR 210 1 = 212 by decide +kernel, show shR 210 2 = 213 by decide +kernel, show shR 210 3 = 214 by decide +kernel, show shR 210 7 = 215 by decide +kernel, show shR 210 9 = 216 by decide +kernel, show shR 210 10 = 217 by decide +kernel, show shR 210 12 = 218 by decide +kernel, show shR 210 22 = 219 by decide +kernel, show shR 210 24 = 220 by decide +kernel, show shR 210 25 = 221 by decide +kernel, show shR 210 26 = 222 by decide +kernel, b1, b2, b3, b4, b5, b6, b7, b8, b9, b10, b11, b12]
  have at1 : ∀ a, a < 210 → (wMo aT h0 a1 a2 a3 a4 a5 a6 a7 a8 a9 a10 a11 a12 (conc_k ad0 aT (cm w)))[1 + a]? = some (ad a, cve ad aT (cm (mo0 w)) a) := fun a ha => by
    unfold wMo
    rw [show 1 + a = a + 1 from Nat.add_comm 1 a, List.getElem?_cons_succ]
    simp only [List.append_assoc]
    rw [List.getElem?_append_left (by rw [hlen]; exact ha), conc_get_k ha, l0 a ha, cve_mo ha l0]
  have at2 : ∀ j, j < 12 → (wMo aT h0 a1 a2 a3 a4 a5 a6 a7 a8 a9 a10 a11 a12 (conc_k ad0 aT (cm w)))[211 + j]? = some (ad (211 + j), cve ad aT (cm (mo0 w)) (211 + j)) := fun j hj => by
    unfold wMo
    rw [show 211 + j = (210 + j) + 1 by omega, List.getElem?_cons_succ]
    simp only [List.append_assoc, List.cons_append, List.nil_append]
    rw [List.getElem?_append_right (by rw [hlen]; omega), hlen, show 210 + j - 210 = j by omega]
    rcases (show j = 0 ∨ j = 1 ∨ j = 2 ∨ j = 3 ∨ j = 4 ∨ j = 5 ∨ j = 6 ∨ j = 7 ∨ j = 8 ∨ j = 9 ∨ j = 10 ∨ j = 11 by omega) with rfl | rfl | rfl | rfl | rfl | rfl | rfl | rfl | rfl | rfl | rfl | rfl
    · show some (a1, _) = some (ad 211, cve ad aT (cm (mo0 w)) 211)
      rw [b1, cve_ma (n := 1030) 0 (by decide) (by decide) (by decide +kernel) (by decide) (by decide +kernel)]
    · show some (a2, _) = some (ad 212, cve ad aT (cm (mo0 w)) 212)
      rw [b2, cve_ma (n := 1030) 0 (by decide) (by decide) (by decide +kernel) (by decide) (by decide +kernel)]
    · show some (a3, _) = some (ad 213, cve ad aT (cm (mo0 w)) 213)
      rw [b3, cve_ma (n := 1030) 0 (by decide) (by decide) (by decide +kernel) (by decide) (by decide +kernel)]
    · show some (a4, _) = some (ad 214, cve ad aT (cm (mo0 w)) 214)
      rw [b4, cve_ma (n := 8240) 0 (by decide) (by decide) (by decide +kernel) (by decide) (by decide +kernel)]
    · show some (a5, _) = some (ad 215, cve ad aT (cm (mo0 w)) 215)
      rw [b5, cve_ma (n := 6) 0 (by decide) (by decide) (by decide +kernel) (by decide) (by decide +kernel)]
    · show some (a6, _) = some (ad 216, cve ad aT (cm (mo0 w)) 216)
      rw [b6, cve_ma (n := 10) 0 (by decide) (by decide) (by decide +kernel) (by decide) (by decide +kernel)]
    · show some (a7, _) = some (ad 217, cve ad aT (cm (mo0 w)) 217)
      rw [b7, cve_ma (n := 8) 0 (by decide) (by decide) (by decide +kernel) (by decide) (by decide +kernel)]
    · show some (a8, _) = some (ad 218, cve ad aT (cm (mo0 w)) 218)
      rw [b8, cve_ma (n := 800) 1 (by decide) (by decide) (by decide +kernel) (by decide) (by decide +kernel)]
    · show some (a9, _) = some (ad 219, cve ad aT (cm (mo0 w)) 219)
      rw [b9, cve_ma (n := 360) 0 (by decide) (by decide) (by decide +kernel) (by decide) (by decide +kernel)]
    · show some (a10, _) = some (ad 220, cve ad aT (cm (mo0 w)) 220)
      rw [b10, cve_ma (n := 10) 0 (by decide) (by decide) (by decide +kernel) (by decide) (by decide +kernel)]
    · show some (a11, _) = some (ad 221, cve ad aT (cm (mo0 w)) 221)
      rw [b11, cve_ma (n := 10) 2 (by decide) (by decide) (by decide +kernel) (by decide) (by decide +kernel)]
    · show some (a12, _) = some (ad 222, cve ad aT (cm (mo0 w)) 222)
      rw [b12, cve_ma (n := 300) 1 (by decide) (by decide) (by decide +kernel) (by decide) (by decide +kernel)]
  have ix : ∀ a, a < 223 → (wMo aT h0 a1 a2 a3 a4 a5 a6 a7 a8 a9 a10 a11 a12 (conc_k ad0 aT (cm w)))[if a < 210 then 1 + a else if a = 210 then 0 else a]? = some (ad a, cve ad aT (cm (mo0 w)) a) := fun a ha => by
    by_cases c1 : a < 210
    · rw [if_pos c1]; exact at1 a c1
    · rw [if_neg c1]
      by_cases c2 : a = 210
      · rw [if_pos c2, c2, f0, b0]
        rfl
      · rw [if_neg c2]
        obtain ⟨j, rfl⟩ : ∃ j, a = 211 + j := ⟨a - 211, by omega⟩
        exact at2 j (by omega)
  have hc : ∀ (k : Nat) (q : Nat × va_E), (conc ad aT (cm (mo0 w)) ++ [])[k]? = some q → k < 223 ∧ q = (ad k, cve ad aT (cm (mo0 w)) k) := fun k q hk => by
    rw [List.append_nil] at hk
    exact conc_of hk
  refine ⟨fun k q hk => ?_, ⟨fun i j x y hi hj e => ?_, fun k q hk => ?_⟩, hSS⟩
  · obtain ⟨h1, rfl⟩ := hc k q hk
    exact hP _ _ (ix k h1)
  · obtain ⟨h1, rfl⟩ := hc i x hi
    obtain ⟨h2, rfl⟩ := hc j y hj
    have h3 := hD.1 _ _ _ _ (ix i h1) (ix j h2) e
    split at h3 <;> split at h3 <;> (try split at h3) <;> (try split at h3) <;> omega
  · obtain ⟨h1, rfl⟩ := hc k q hk
    exact hD.2 _ _ (ix k h1)
