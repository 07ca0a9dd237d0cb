section
-- ===== PART A: goes FIRST, ahead of the names: the tables' words, and 'selects' of the private methods out of them =====
/-- a private method of a class that the tables say can be made, by its rows of tables_1 -/
def lw_okq (q : MethodName × Nat) : Prop := (q.1.cls ≠ "java/lang/invoke/MethodHandle" ∧ q.1.cls ≠ "java/lang/invoke/VarHandle") ∧ Cond.instantiable q.1.cls q.2 ∈ tables_1 ∧ Cond.privateMethod q.1 ∈ tables_1 ∧ Cond.instanceMethod q.1 ∈ tables_1
theorem lw_p0 : lw_okq (⟨"WhistlePosts$Setup", "isStatementRead", "()Z"⟩, 2) := ⟨⟨by decide +kernel, by decide +kernel⟩, List.mem_of_getElem? (i := 200) (by decide +kernel), List.mem_of_getElem? (i := 330) (by decide +kernel), List.mem_of_getElem? (i := 331) (by decide +kernel)⟩
theorem lw_p1 : lw_okq (⟨"WhistlePosts$Setup", "isRoofRead", "()Z"⟩, 2) := ⟨⟨by decide +kernel, by decide +kernel⟩, List.mem_of_getElem? (i := 200) (by decide +kernel), List.mem_of_getElem? (i := 341) (by decide +kernel), List.mem_of_getElem? (i := 342) (by decide +kernel)⟩
theorem lw_p2 : lw_okq (⟨"WhistlePosts$Setup", "isWayRead", "()Z"⟩, 2) := ⟨⟨by decide +kernel, by decide +kernel⟩, List.mem_of_getElem? (i := 200) (by decide +kernel), List.mem_of_getElem? (i := 380) (by decide +kernel), List.mem_of_getElem? (i := 381) (by decide +kernel)⟩
theorem lw_p3 : lw_okq (⟨"WhistlePosts$Setup", "isSettingRead", "(I)Z"⟩, 2) := ⟨⟨by decide +kernel, by decide +kernel⟩, List.mem_of_getElem? (i := 200) (by decide +kernel), List.mem_of_getElem? (i := 410) (by decide +kernel), List.mem_of_getElem? (i := 411) (by decide +kernel)⟩
theorem lw_p4 : lw_okq (⟨"WhistlePosts$Roads", "layNone", "(LWhistlePosts$Post;)V"⟩, 3) := ⟨⟨by decide +kernel, by decide +kernel⟩, List.mem_of_getElem? (i := 75) (by decide +kernel), List.mem_of_getElem? (i := 425) (by decide +kernel), List.mem_of_getElem? (i := 426) (by decide +kernel)⟩
theorem lw_p5 : lw_okq (⟨"WhistlePosts$Roads", "layWay", "(III)V"⟩, 3) := ⟨⟨by decide +kernel, by decide +kernel⟩, List.mem_of_getElem? (i := 75) (by decide +kernel), List.mem_of_getElem? (i := 432) (by decide +kernel), List.mem_of_getElem? (i := 433) (by decide +kernel)⟩
theorem lw_p6 : lw_okq (⟨"WhistlePosts$Roads", "shorten", "(III)V"⟩, 3) := ⟨⟨by decide +kernel, by decide +kernel⟩, List.mem_of_getElem? (i := 75) (by decide +kernel), List.mem_of_getElem? (i := 436) (by decide +kernel), List.mem_of_getElem? (i := 437) (by decide +kernel)⟩
theorem lw_p7 : lw_okq (⟨"WhistlePosts$Roads", "pointAll", "(LWhistlePosts$Post;)V"⟩, 3) := ⟨⟨by decide +kernel, by decide +kernel⟩, List.mem_of_getElem? (i := 75) (by decide +kernel), List.mem_of_getElem? (i := 440) (by decide +kernel), List.mem_of_getElem? (i := 441) (by decide +kernel)⟩
theorem lw_p8 : lw_okq (⟨"WhistlePosts$Roads", "beginOf", "(II)I"⟩, 3) := ⟨⟨by decide +kernel, by decide +kernel⟩, List.mem_of_getElem? (i := 75) (by decide +kernel), List.mem_of_getElem? (i := 444) (by decide +kernel), List.mem_of_getElem? (i := 445) (by decide +kernel)⟩
theorem lw_p9 : lw_okq (⟨"WhistlePosts", "appendFour", "(I)V"⟩, 10) := ⟨⟨by decide +kernel, by decide +kernel⟩, List.mem_of_getElem? (i := 31) (by decide +kernel), List.mem_of_getElem? (i := 639) (by decide +kernel), List.mem_of_getElem? (i := 640) (by decide +kernel)⟩
theorem lw_p10 : lw_okq (⟨"WhistlePostsLaw", "reckon", "()V"⟩, 34) := ⟨⟨by decide +kernel, by decide +kernel⟩, List.mem_of_getElem? (i := 511) (by decide +kernel), List.mem_of_getElem? (i := 652) (by decide +kernel), List.mem_of_getElem? (i := 653) (by decide +kernel)⟩
theorem lw_p11 : lw_okq (⟨"WhistlePostsLaw", "acts", "(LWhistlePosts;I)Z"⟩, 34) := ⟨⟨by decide +kernel, by decide +kernel⟩, List.mem_of_getElem? (i := 511) (by decide +kernel), List.mem_of_getElem? (i := 657) (by decide +kernel), List.mem_of_getElem? (i := 658) (by decide +kernel)⟩
theorem lw_p12 : lw_okq (⟨"WhistlePosts", "needRoof", "(I)V"⟩, 10) := ⟨⟨by decide +kernel, by decide +kernel⟩, List.mem_of_getElem? (i := 31) (by decide +kernel), List.mem_of_getElem? (i := 669) (by decide +kernel), List.mem_of_getElem? (i := 670) (by decide +kernel)⟩
theorem lw_p13 : lw_okq (⟨"java/lang/Throwable", "fillInStackTrace", "(I)Ljava/lang/Throwable;"⟩, 6) := ⟨⟨by decide +kernel, by decide +kernel⟩, List.mem_of_getElem? (i := 711) (by decide +kernel), List.mem_of_getElem? (i := 709) (by decide +kernel), List.mem_of_getElem? (i := 710) (by decide +kernel)⟩
theorem lw_p14 : lw_okq (⟨"WhistlePosts$Past", "postAt", "(I)LWhistlePosts$Post;"⟩, 3) := ⟨⟨by decide +kernel, by decide +kernel⟩, List.mem_of_getElem? (i := 152) (by decide +kernel), List.mem_of_getElem? (i := 761) (by decide +kernel), List.mem_of_getElem? (i := 762) (by decide +kernel)⟩
theorem lw_p15 : lw_okq (⟨"WhistlePosts", "needNumber", "(III)V"⟩, 10) := ⟨⟨by decide +kernel, by decide +kernel⟩, List.mem_of_getElem? (i := 31) (by decide +kernel), List.mem_of_getElem? (i := 799) (by decide +kernel), List.mem_of_getElem? (i := 800) (by decide +kernel)⟩
def lw_privs_1 : List (MethodName × Nat) := [(⟨"WhistlePosts$Setup", "isStatementRead", "()Z"⟩, 2), (⟨"WhistlePosts$Setup", "isRoofRead", "()Z"⟩, 2), (⟨"WhistlePosts$Setup", "isWayRead", "()Z"⟩, 2), (⟨"WhistlePosts$Setup", "isSettingRead", "(I)Z"⟩, 2), (⟨"WhistlePosts$Roads", "layNone", "(LWhistlePosts$Post;)V"⟩, 3), (⟨"WhistlePosts$Roads", "layWay", "(III)V"⟩, 3), (⟨"WhistlePosts$Roads", "shorten", "(III)V"⟩, 3), (⟨"WhistlePosts$Roads", "pointAll", "(LWhistlePosts$Post;)V"⟩, 3), (⟨"WhistlePosts$Roads", "beginOf", "(II)I"⟩, 3), (⟨"WhistlePosts", "appendFour", "(I)V"⟩, 10), (⟨"WhistlePostsLaw", "reckon", "()V"⟩, 34), (⟨"WhistlePostsLaw", "acts", "(LWhistlePosts;I)Z"⟩, 34), (⟨"WhistlePosts", "needRoof", "(I)V"⟩, 10), (⟨"java/lang/Throwable", "fillInStackTrace", "(I)Ljava/lang/Throwable;"⟩, 6), (⟨"WhistlePosts$Past", "postAt", "(I)LWhistlePosts$Post;"⟩, 3), (⟨"WhistlePosts", "needNumber", "(III)V"⟩, 10)]
theorem lw_r1 : ∀ q ∈ lw_privs_1, lw_okq q := List.forall_mem_cons.mpr ⟨lw_p0, List.forall_mem_cons.mpr ⟨lw_p1, List.forall_mem_cons.mpr ⟨lw_p2, List.forall_mem_cons.mpr ⟨lw_p3, List.forall_mem_cons.mpr ⟨lw_p4, List.forall_mem_cons.mpr ⟨lw_p5, List.forall_mem_cons.mpr ⟨lw_p6, List.forall_mem_cons.mpr ⟨lw_p7, List.forall_mem_cons.mpr ⟨lw_p8, List.forall_mem_cons.mpr ⟨lw_p9, List.forall_mem_cons.mpr ⟨lw_p10, List.forall_mem_cons.mpr ⟨lw_p11, List.forall_mem_cons.mpr ⟨lw_p12, List.forall_mem_cons.mpr ⟨lw_p13, List.forall_mem_cons.mpr ⟨lw_p14, List.forall_mem_cons.mpr ⟨lw_p15, fun _ h => absurd h List.not_mem_nil⟩⟩⟩⟩⟩⟩⟩⟩⟩⟩⟩⟩⟩⟩⟩⟩
theorem lw_p16 : lw_okq (⟨"WhistlePostsLaw", "sends", "(II[III)V"⟩, 34) := ⟨⟨by decide +kernel, by decide +kernel⟩, List.mem_of_getElem? (i := 511) (by decide +kernel), List.mem_of_getElem? (i := 827) (by decide +kernel), List.mem_of_getElem? (i := 828) (by decide +kernel)⟩
theorem lw_p17 : lw_okq (⟨"WhistlePostsLaw", "resets", "(I)V"⟩, 34) := ⟨⟨by decide +kernel, by decide +kernel⟩, List.mem_of_getElem? (i := 511) (by decide +kernel), List.mem_of_getElem? (i := 831) (by decide +kernel), List.mem_of_getElem? (i := 832) (by decide +kernel)⟩
theorem lw_p18 : lw_okq (⟨"WhistlePostsLaw", "ticks", "()V"⟩, 34) := ⟨⟨by decide +kernel, by decide +kernel⟩, List.mem_of_getElem? (i := 511) (by decide +kernel), List.mem_of_getElem? (i := 861) (by decide +kernel), List.mem_of_getElem? (i := 862) (by decide +kernel)⟩
theorem lw_p19 : lw_okq (⟨"WhistlePostsLaw", "lands", "(I)V"⟩, 34) := ⟨⟨by decide +kernel, by decide +kernel⟩, List.mem_of_getElem? (i := 511) (by decide +kernel), List.mem_of_getElem? (i := 865) (by decide +kernel), List.mem_of_getElem? (i := 866) (by decide +kernel)⟩
theorem lw_p20 : lw_okq (⟨"WhistlePostsLaw", "isRight", "(I)Z"⟩, 34) := ⟨⟨by decide +kernel, by decide +kernel⟩, List.mem_of_getElem? (i := 511) (by decide +kernel), List.mem_of_getElem? (i := 872) (by decide +kernel), List.mem_of_getElem? (i := 873) (by decide +kernel)⟩
theorem lw_p21 : lw_okq (⟨"WhistlePostsLaw", "first", "(I)I"⟩, 34) := ⟨⟨by decide +kernel, by decide +kernel⟩, List.mem_of_getElem? (i := 511) (by decide +kernel), List.mem_of_getElem? (i := 876) (by decide +kernel), List.mem_of_getElem? (i := 877) (by decide +kernel)⟩
theorem lw_p22 : lw_okq (⟨"WhistlePostsLaw", "next", "(II)I"⟩, 34) := ⟨⟨by decide +kernel, by decide +kernel⟩, List.mem_of_getElem? (i := 511) (by decide +kernel), List.mem_of_getElem? (i := 880) (by decide +kernel), List.mem_of_getElem? (i := 881) (by decide +kernel)⟩
theorem lw_p23 : lw_okq (⟨"WhistlePostsLaw", "bars", "(I)I"⟩, 34) := ⟨⟨by decide +kernel, by decide +kernel⟩, List.mem_of_getElem? (i := 511) (by decide +kernel), List.mem_of_getElem? (i := 884) (by decide +kernel), List.mem_of_getElem? (i := 885) (by decide +kernel)⟩
theorem lw_p24 : lw_okq (⟨"WhistlePostsLaw", "isLike", "(LWhistlePosts;)Z"⟩, 34) := ⟨⟨by decide +kernel, by decide +kernel⟩, List.mem_of_getElem? (i := 511) (by decide +kernel), List.mem_of_getElem? (i := 975) (by decide +kernel), List.mem_of_getElem? (i := 976) (by decide +kernel)⟩
theorem lw_p25 : lw_okq (⟨"WhistlePosts", "needTune", "(I)V"⟩, 10) := ⟨⟨by decide +kernel, by decide +kernel⟩, List.mem_of_getElem? (i := 31) (by decide +kernel), List.mem_of_getElem? (i := 1037) (by decide +kernel), List.mem_of_getElem? (i := 1038) (by decide +kernel)⟩
def lw_privs_2 : List (MethodName × Nat) := [(⟨"WhistlePostsLaw", "sends", "(II[III)V"⟩, 34), (⟨"WhistlePostsLaw", "resets", "(I)V"⟩, 34), (⟨"WhistlePostsLaw", "ticks", "()V"⟩, 34), (⟨"WhistlePostsLaw", "lands", "(I)V"⟩, 34), (⟨"WhistlePostsLaw", "isRight", "(I)Z"⟩, 34), (⟨"WhistlePostsLaw", "first", "(I)I"⟩, 34), (⟨"WhistlePostsLaw", "next", "(II)I"⟩, 34), (⟨"WhistlePostsLaw", "bars", "(I)I"⟩, 34), (⟨"WhistlePostsLaw", "isLike", "(LWhistlePosts;)Z"⟩, 34), (⟨"WhistlePosts", "needTune", "(I)V"⟩, 10)]
theorem lw_r2 : ∀ q ∈ lw_privs_2, lw_okq q := List.forall_mem_cons.mpr ⟨lw_p16, List.forall_mem_cons.mpr ⟨lw_p17, List.forall_mem_cons.mpr ⟨lw_p18, List.forall_mem_cons.mpr ⟨lw_p19, List.forall_mem_cons.mpr ⟨lw_p20, List.forall_mem_cons.mpr ⟨lw_p21, List.forall_mem_cons.mpr ⟨lw_p22, List.forall_mem_cons.mpr ⟨lw_p23, List.forall_mem_cons.mpr ⟨lw_p24, List.forall_mem_cons.mpr ⟨lw_p25, fun _ h => absurd h List.not_mem_nil⟩⟩⟩⟩⟩⟩⟩⟩⟩⟩
def lw_privs : List (MethodName × Nat) := lw_privs_1 ++ (lw_privs_2)
def lw_tbl : List Cond := k2_sels lw_privs ++ tables_1
theorem lw_privs_ok : ∀ q ∈ lw_privs, lw_okq q := by
  show ∀ q ∈ lw_privs_1 ++ (lw_privs_2), lw_okq q
  exact List.forall_mem_append.mpr ⟨lw_r1, lw_r2⟩
end
section
/-! ===== a word that the printed names use and do not print ===== -/
def va_AOA (t : FieldType) (U : State) : Prop := (Cond.arrayOver (.array t)).before #[] U = true
theorem va_AOA.use {t : FieldType} {args : Array Value} {U : State} (h : va_AOA t U) : (Cond.arrayOver (.array t)).before args U = true := h
end
section
/-! ===== BEGIN words of one list among another's, by their places ===== -/
theorem goodIn_r {big : List Cond} (ws : List Cond) (ps : List Nat) (hp : ws = ps.filterMap (fun i => big[i]?)) (h : ws.all goodWord = true) : GoodIn big ws := by
  intro w hw
  have h1 := List.all_eq_true.mp h w hw
  rw [hp] at hw
  obtain ⟨i, -, hi⟩ := List.mem_filterMap.mp hw
  have hm : w ∈ big := by first | exact List.mem_of_getElem? hi | exact List.getElem?_mem hi
  exact ⟨hm, good_of_word h1⟩
theorem goodIn_app {big a b : List Cond} (ha : GoodIn big a) (hb : GoodIn big b) : GoodIn big (a ++ b) := fun w h => (List.mem_append.mp h).elim (ha w) (hb w)
theorem goodIn_ca {big a b : List Cond} {c : Cond} (ha : GoodIn big (c :: a)) (hb : GoodIn big b) : GoodIn big (c :: (a ++ b)) := fun w h => (List.mem_cons.mp h).elim (fun e => ha w (List.mem_cons.mpr (Or.inl e))) (fun h => (List.mem_append.mp h).elim (fun h => ha w (List.mem_cons.mpr (Or.inr h))) (hb w))
theorem goodIn_sub {big ws : List Cond} (hm : ∀ w ∈ ws, w ∈ big) (h : ws.all goodWord = true) : GoodIn big ws := fun w hw => ⟨hm w hw, good_of_word (List.all_eq_true.mp h w hw)⟩
/-! ===== END ===== -/

/-! ===== BEGIN new T[n][m]: the outer array a place, the inner ones among the pooled ===== -/
/-- f, but v at every address of l -/
def vr_up {α : Type} (f : Nat → α) (l : List Nat) (v : α) : Nat → α := fun a => if a ∈ l then v else f a
theorem vr_up_in {α : Type} {f : Nat → α} {l : List Nat} {v : α} {a : Nat} (h : a ∈ l) : vr_up f l v a = v := if_pos h
theorem vr_up_ne {α : Type} {f : Nat → α} {l : List Nat} {v : α} {a : Nat} (h : a ∉ l) : vr_up f l v a = f a := if_neg h
theorem vr_rows {L l : List Nat} {f : Nat → va_E} {e : va_E} (h : ∀ a, a ∈ l → a ∉ L) : va_pl L f ++ l.map (fun a => (a, e)) = va_pl (L ++ l) (vr_up f l e) := by
  unfold va_pl
  rw [List.map_append]
  congr 1
  · apply List.map_congr_left
    intro a ha
    rw [vr_up_ne (fun q => h a q ha)]
  · apply List.map_congr_left
    intro a ha
    rw [vr_up_in ha]
theorem vr_lay {X rows : va_W} {x : Nat × va_E} {pl : va_W} {D : va_G} {cl : List vw_C} {H : Heap} (hP : va_P D cl (((X ++ pl) ++ [x]) ++ rows) H) : va_P D cl ((X ++ [x]) ++ (pl ++ rows)) H := by
  rw [List.append_assoc (X ++ pl)] at hP
  have h := va_P.swap hP
  rw [← List.append_assoc X] at h
  have h2 := va_P.swap h
  rw [List.append_assoc (X ++ [x])] at h2
  exact h2
theorem vr_layD {X rows : va_W} {x : Nat × va_E} {pl : va_W} {A : Nat → Prop} (hD : va_D A (((X ++ pl) ++ [x]) ++ rows)) : va_D A ((X ++ [x]) ++ (pl ++ rows)) := by
  rw [List.append_assoc (X ++ pl)] at hD
  have h := va_D.swap hD
  rw [← List.append_assoc X] at h
  have h2 := va_D.swap h
  rw [List.append_assoc (X ++ [x])] at h2
  exact h2
theorem vr_outer (c : ClassId) (N h0 : Nat) : ∀ i : Nat, Jvm.Free.Multi.outerC c N h0 i = arrV c N (fun j => va_rf (if j < i then some (h0 + 1 + j) else none))
  | 0 => by
    show ({ cls := c, slots := Array.replicate N .null, vm := .none } : Cell) = _
    rw [arrV_new]
    refine congrArg (arrV c N) (funext fun j => ?_)
    simp [va_rf]
  | i + 1 => by
    show (Jvm.Free.Multi.outerC c N h0 i).setSlot i (.ref (h0 + 1 + i)) = _
    rw [vr_outer c N h0 i, arrV_store]
    refine congrArg (arrV c N) (funext fun j => ?_)
    by_cases e : j = i
    · subst e
      simp [updV, va_rf]
    · by_cases h : j < i
      · simp [updV, e, h, Nat.lt_succ_of_lt h]
      · simp [updV, e, h, show ¬ j < i + 1 by omega]
section VGM
variable {p : Program} {l : Launch} {e : Env} {R : Room} {s : State} {m : MethodId} {args : Array Value} {below : List Frame} {meth : Method} {c : Code} {H : Heap} {locs : List Loc} {cells slots : Nat} {Q : State → Prop}
variable {cc : ByteArray} {pc : Nat} {ls : Array Slot} {rest : List Value} {D : va_G} {cl : List vw_C} {A : Nat → Prop} {a : Nat} {tys : List (ClassId × FieldType)} {ws : va_W} {H0 : Heap}
theorem va_mna {X : va_W} {L : List Nat} {f : Nat → va_E} {cc : ByteArray} (hexec : p.tables.exec = Jvm.exec) (hb : c.code = cc) {own : String} {index : Nat} {ty : FieldType} {cy : ClassId} (hown : s.vm.findClass own = some m.cls) (hclink : (Cond.classLink own index ("[" ++ (FieldType.array ty).toString)).before args s = true) (hover : va_AOA ty s) (harr : (Cond.arrayClass ty).before args s = true) (hcy : s.vm.findClass (FieldType.array ty).toString = some cy)
    (hK : va_K D cl tys s) (hP : va_P D cl (X ++ va_pl L f) H) (hD : va_D A (X ++ va_pl L f)) (hS : va_S A H0 H locs) (hA : ∀ q, H0.size ≤ q → A q) {n k : Int32} {N' K' : Nat} {z : vp_A} (hn : ¬ n < 0) (hk : ¬ k < 0) (hN : n.toNatClampNeg = N') (hM : k.toNatClampNeg = K')
    (hb1 : N' * 4 ≤ 536870912) (hb2 : K' * componentBytes ty ≤ 536870912) (hb3 : K' ≤ 536870912) (hdf : fits ty (defaultValue ty) = true) (hdd : (defaultValue ty).isDefault = true) (hcells : cells + (1 + N') ≤ R.cells) (hslots : slots + (N' + N' * K') ≤ R.slots) (hz : ∀ c : ClassId, Jvm.Free.Multi.innerC c K' (defaultValue ty) = vp_cell c z) (hdg : decode cc pc = .ok (.multianewarray index 2, 4))
    (kk : ∀ (q : Nat) (r : Nat → Nat) (cA : ClassId) (H1 : Heap), (∀ i j : Nat, i < N' → j < N' → r i = r j → i = j) → (∀ i : Nat, i < N' → r i ∉ L) → va_K D cl (tys ++ [(cA, .array ty)]) s →
      va_P D cl ((X ++ [(q, .inl (cA, N', .inr (.inr (.inr (.inr (fun i => if i < N' then some (r i) else none))))))]) ++ va_pl (L ++ (List.range N').map r) (vr_up f ((List.range N').map r) (.inl (cy, z)))) H1 → va_D A ((X ++ [(q, .inl (cA, N', .inr (.inr (.inr (.inr (fun i => if i < N' then some (r i) else none))))))]) ++ va_pl (L ++ (List.range N').map r) (vr_up f ((List.range N').map r) (.inl (cy, z)))) → va_S A H0 H1 locs →
      W p l e R s m args below meth c H1 locs (cells + 1 + N') (slots + N' + N' * K') Q (F0 m (pc + 4) ls (.ref q :: rest))) : W p l e R s m args below meth c H locs cells slots Q (F0 m pc ls (.int k :: .int n :: rest)) := by
  subst hN
  subst hM
  intro T hT Xs
  obtain ⟨vm₁, cA, comp, -, fA, fC, hO, -, X', step⟩ := Xs.multianewarray2F hexec hown hclink (va_AOA.use hover) harr (g := F0 m pc ls (.int k :: .int n :: rest)) rfl (by rw [hb]; exact hdg) rfl hn hk hb1 hb2 hb3 hdf hdd hcells hslots
  have ec : some cy = some comp := hcy.symm.trans fC
  cases ec
  generalize hF : Jvm.Free.Multi.fill (T.setVm vm₁) cA cy n.toNatClampNeg k.toNatClampNeg (defaultValue ty) n.toNatClampNeg = F at X' step
  have hTh : (T.setVm vm₁).heap = H := hT
  obtain ⟨f1, f2, -, -⟩ := Jvm.Free.Multi.fill_facts (T.setVm vm₁) cA cy n.toNatClampNeg k.toNatClampNeg (defaultValue ty) n.toNatClampNeg
  rw [hF, hTh] at f1 f2
  have hold : ∀ x : Nat, x < H.size → F.heap[x]? = H[x]? := fun x hx => by
    have := Jvm.Free.Multi.fill_old (T.setVm vm₁) cA cy n.toNatClampNeg k.toNatClampNeg (defaultValue ty) (a := x) (by rw [hTh]; exact hx) n.toNatClampNeg
    rw [hF, hTh] at this
    exact this
  have hrow : ∀ j : Nat, j < n.toNatClampNeg → F.heap[H.size + 1 + j]? = some (vp_cell cy z) := fun j hj => by
    have := Jvm.Free.Multi.fill_inner (T.setVm vm₁) cA cy n.toNatClampNeg k.toNatClampNeg (defaultValue ty) n.toNatClampNeg j hj
    rw [hF, hTh, hz] at this
    exact this
  have hout : Jvm.Free.Multi.outerC cA n.toNatClampNeg H.size n.toNatClampNeg = vp_cell cA (n.toNatClampNeg, .inr (.inr (.inr (.inr (fun i => if i < n.toNatClampNeg then some (H.size + 1 + i) else none))))) := by
    rw [vp_cell_q]
    exact vr_outer cA n.toNatClampNeg H.size n.toNatClampNeg
  rw [hout] at f2
  have hlt : ∀ a, a ∈ L → a < H.size := fun a ha => by
    obtain ⟨k9, hk9⟩ := va_pl_get (X := X) (f := f) ha
    exact (hP k9 _ hk9).lt
  have hnl : ∀ i : Nat, i < n.toNatClampNeg → H.size + 1 + i ∉ L := fun i _ h => by
    have := hlt _ h
    omega
  have hnm : ∀ a, a ∈ (List.range n.toNatClampNeg).map (fun i => H.size + 1 + i) → a ∉ L := fun a ha h => by
    obtain ⟨i, -, rfl⟩ := List.mem_map.mp ha
    have := hlt _ h
    omega
  have hP0 : va_P D cl (X ++ va_pl L f) F.heap := hP.kept (fun k9 x hx => hold x.1 ((hP k9 x hx).lt))
  have hP1 : va_P D cl ((X ++ va_pl L f) ++ [(H.size, .inl (cA, n.toNatClampNeg, .inr (.inr (.inr (.inr (fun i => if i < n.toNatClampNeg then some (H.size + 1 + i) else none))))))]) F.heap := hP0.app (fun k9 x hx => by
    have h0 : k9 < 1 := (List.getElem?_eq_some_iff.mp hx).1
    rw [show k9 = 0 by omega] at hx
    cases hx
    exact f2)
  have hP2 : va_P D cl (((X ++ va_pl L f) ++ [(H.size, .inl (cA, n.toNatClampNeg, .inr (.inr (.inr (.inr (fun i => if i < n.toNatClampNeg then some (H.size + 1 + i) else none))))))]) ++ ((List.range n.toNatClampNeg).map (fun i => H.size + 1 + i)).map (fun a => (a, .inl (cy, z)))) F.heap := hP1.app (fun k9 x hx => by
    obtain ⟨a, ha, rfl⟩ := List.mem_map.mp (List.mem_of_getElem? hx)
    obtain ⟨i, hi, rfl⟩ := List.mem_map.mp ha
    exact hrow i (List.mem_range.mp hi))
  have hD2 : va_D A (((X ++ va_pl L f) ++ [(H.size, .inl (cA, n.toNatClampNeg, .inr (.inr (.inr (.inr (fun i => if i < n.toNatClampNeg then some (H.size + 1 + i) else none))))))]) ++ ((List.range n.toNatClampNeg).map (fun i => H.size + 1 + i)).map (fun a => (a, .inl (cy, z)))) := by
    have hD1 := hD.push (e := .inl (cA, n.toNatClampNeg, .inr (.inr (.inr (.inr (fun i => if i < n.toNatClampNeg then some (H.size + 1 + i) else none)))))) hP rfl (hA _ hS.1)
    generalize hW1 : (X ++ va_pl L f) ++ [(H.size, .inl (cA, n.toNatClampNeg, .inr (.inr (.inr (.inr (fun i => if i < n.toNatClampNeg then some (H.size + 1 + i) else none))))))] = W1 at hD1 hP1 ⊢
    have hle : ∀ (k9 : Nat) (x : Nat × va_E), W1[k9]? = some x → x.1 ≤ H.size := fun k9 x hx => by
      rw [← hW1] at hx
      by_cases hl : k9 < (X ++ va_pl L f).length
      · rw [List.getElem?_append_left hl] at hx
        exact Nat.le_of_lt ((hP k9 x hx).lt)
      · rw [List.getElem?_append_right (by omega)] at hx
        have h0 : k9 - (X ++ va_pl L f).length < 1 := (List.getElem?_eq_some_iff.mp hx).1
        rw [show k9 - (X ++ va_pl L f).length = 0 by omega] at hx
        cases hx
        exact Nat.le_refl _
    have hr : ∀ (k9 : Nat) (x : Nat × va_E), (((List.range n.toNatClampNeg).map (fun i => H.size + 1 + i)).map (fun a => ((a, .inl (cy, z)) : Nat × va_E)))[k9]? = some x → x.1 = H.size + 1 + k9 := fun k9 x hx => by
      rw [List.getElem?_map, List.getElem?_map] at hx
      by_cases h9 : k9 < n.toNatClampNeg
      · rw [List.getElem?_range h9] at hx
        cases hx
        rfl
      · have hn0 : (List.range n.toNatClampNeg)[k9]? = none := List.getElem?_eq_none (by rw [List.length_range]; omega)
        rw [hn0] at hx
        cases hx
    refine ⟨fun i j x y hi hj hxy => ?_, fun k9 x hx => ?_⟩
    · by_cases h1 : i < W1.length <;> by_cases h2 : j < W1.length
      · rw [List.getElem?_append_left h1] at hi
        rw [List.getElem?_append_left h2] at hj
        exact hD1.1 i j x y hi hj hxy
      · rw [List.getElem?_append_left h1] at hi
        rw [List.getElem?_append_right (by omega)] at hj
        have := hle _ _ hi
        have := hr _ _ hj
        omega
      · rw [List.getElem?_append_right (by omega)] at hi
        rw [List.getElem?_append_left h2] at hj
        have := hle _ _ hj
        have := hr _ _ hi
        omega
      · rw [List.getElem?_append_right (by omega)] at hi hj
        have := hr _ _ hi
        have := hr _ _ hj
        omega
    · by_cases h1 : k9 < W1.length
      · rw [List.getElem?_append_left h1] at hx
        exact hD1.2 k9 x hx
      · rw [List.getElem?_append_right (by omega)] at hx
        have := hr _ _ hx
        exact hA _ (by have := hS.1; omega)
  have hAr : ArrOfT s cA (.array ty) := fun N9 z9 => by
    obtain ⟨-, k9, hk9, cm9, hkk9⟩ := (hO 0 0 0).1
    exact ⟨(fun q hq => by cases hq), k9, hk9, cm9, hkk9⟩
  have hK2 : va_K D cl (tys ++ [(cA, .array ty)]) s := ⟨hK.1, fun k9 x hx => by
    by_cases hl : k9 < tys.length
    · rw [List.getElem?_append_left hl] at hx
      exact hK.2 k9 x hx
    · rw [List.getElem?_append_right (by omega)] at hx
      have h0 : k9 - tys.length < 1 := (List.getElem?_eq_some_iff.mp hx).1
      rw [show k9 - tys.length = 0 by omega] at hx
      cases hx
      exact ⟨hAr, fA⟩⟩
  obtain ⟨t, a1, b1⟩ := kk H.size (fun i => H.size + 1 + i) cA F.heap (fun i j _ _ h => by have h9 : H.size + 1 + i = H.size + 1 + j := h; omega) hnl hK2 (by rw [← vr_rows hnm]; exact vr_lay hP2) (by rw [← vr_rows hnm]; exact vr_layD hD2) ⟨by rw [f1]; have := hS.1; omega, fun x h1 h2 => (hold x (Nat.lt_of_lt_of_le h1 hS.1)).trans (hS.2.1 x h1 h2), hS.2.2⟩ F rfl X'
  refine ⟨t, step t ?_, b1⟩
  have e : T.heap.size = H.size := by rw [hT]
  rw [e]
  exact a1
end VGM
/-! ===== END ===== -/

/-! ===== BEGIN exceptions that leave a method, and their catching by the caller (launches without stack traces) ===== -/
section VXA
/-! The laws vx_back, vx_callV, vx_callS, vx_callSW, vx_throw0, vx_throwS follow proofs of the library, with one case more: JvmDerived/Free/Laws.lean (Back.of_free), Shelf42/LK1.lean (callV, callS), Shelf/KitTraced.lean (throwNew0V, throwNewS). -/
/-- where a method has thrown q: the class by its name, the cell, what was written, the world -/
def vx_T (XC : String → State → State → Prop) (st : State) (q : Addr) (t : State) (mc ms : Nat) (free : Addr → Prop) : Prop :=
  ∃ (E : String) (ce : Cell) (L : List Loc), XC E st t ∧ t.heap[q]? = some ce ∧ ce.vm = .none ∧ st.vm.findClass E = some ce.cls ∧ st.WarmedH t.vm ∧ st.sameButNew ({ t with vm := st.vm } : State) L mc ms ∧ ∀ z ∈ L, free z.base
def vx_Q (Qc : Array Value → State → Outcome → State → Prop) (XC : String → State → State → Prop) (mc ms : Nat) (free : Addr → Prop) : Array Value → State → Outcome → State → Prop := fun a st o t =>
  (Qc a st o t ∧ ∃ L, FrameEnd st o t L mc ms ∧ ∀ q ∈ L, free q.base) ∨ ∃ q, o = .threw q ∧ vx_T XC st q t mc ms free
/-- a callee that returns or throws -/
def vx_Met (l : Launch) (y : MethodName) (ws : List Cond) (rm : Room) (Pc : Array Value → State → Prop) (Qc : Array Value → State → Outcome → State → Prop) (XC : String → State → State → Prop) (mc ms : Nat) (free : Addr → Prop) : Prop :=
  MetFree l y (headSpec ws rm) Pc (fun _ _ _ _ _ => True) (vx_Q Qc XC mc ms free)
def vx_Post (XC : String → State → State → Prop) (mc ms : Nat) (free : Addr → Prop) : Pt → Array Value → Addr → Pt → Prop := fun A a q B =>
  ∃ (g : JFrame) (mk : MethodId) (t : State) (L : List Loc) (E : String) (ce : Cell), B.U.heap = t.heap ∧ B.U.vm = t.vm ∧ XC E (A.U.calling g mk a) t ∧ t.heap[q]? = some ce ∧ ce.vm = .none ∧ A.U.vm.findClass E = some ce.cls ∧ B.locs = A.locs ++ L ∧ (∀ z ∈ L, free z.base) ∧ B.cells = A.cells + mc ∧ B.slots = A.slots + ms
def vx_Back (l : Launch) (R : Room) (p : Program) (e : Env) (below : List Frame) (s : State) (sargs : Array Value) (y : MethodName) (len W9 : Nat)
    (Pre : Pt → Array Value → Prop) (Post : Pt → Array Value → Option Value → Pt → Prop) (PostX : Pt → Array Value → Addr → Pt → Prop) : Prop :=
  ∀ (m : MethodId) (meth : Method) (c : Code) (A : Pt) (g : JFrame) (ig : Instr) (mk : MethodId) (a : Array Value),
    Stand p l e R s m sargs below meth c A.U A.locs A.cells A.slots → g.method = m → g.locals.size = c.maxLocals → decode c.code g.pc = .ok (ig, len) →
    2 * g.monitorRoom + (g.stack.map fun v => v.category).sum ≤ W9 → A.U.methodNamed? y = some mk → Pre A a →
    (∃ (v : Option Value) (B : Pt), Stand p l e R s m sargs below meth c B.U B.locs B.cells B.slots ∧ Post A a v B ∧
      Steps p.tables e below (doInvoke e (A.U.setTop g) [] mk a).1 (B.U.setTop { g with pc := g.pc + len, stack := v.toList ++ g.stack })) ∨
    (∃ (q : Addr) (B : Pt), Stand p l e R s m sargs below meth c B.U B.locs B.cells B.slots ∧ PostX A a q B ∧
      Steps p.tables e below (doInvoke e (A.U.setTop g) [] mk a).1 ((B.U.setTop g).pushFrame (.throwing q)))
section Payer
variable {l : Launch} {R : Room} {p : Program} {e : Env} {below : List Frame} {s : State} {sargs : Array Value} {y : MethodName} {len W9 : Nat}
theorem vx_back {ws : List Cond} {rm : Room} {Pc : Array Value → State → Prop} {Qc : Array Value → State → Outcome → State → Prop} {XC : String → State → State → Prop} {mc ms : Nat} {free : Addr → Prop} {bytes : ByteArray} {maxL : Nat} {ret : Option FieldType}
    (hM : vx_Met l y ws rm Pc Qc XC mc ms free) (hblind : FrameBlind Pc) (hrc : rm.cells = mc) (hrs : rm.slots = ms)
    (hframes : rm.frames + 1 ≤ R.frames) (hlocals : W9 + (maxL + 11) + rm.locals ≤ R.locals)
    (hws : ∀ w ∈ ws, ∀ a' U, s.WarmedH U.vm → w.before a' U = true) (hcode : Cond.code y bytes maxL ret ∈ ws) (hinit : ∀ a' U, s.WarmedH U.vm → (Cond.initialized y.cls).before a' U = true) :
    vx_Back l R p e below s sargs y len W9 (PreOf R mc ms Pc) (PostOf Qc mc ms free) (vx_Post XC mc ms free) := by
  intro m meth c A g ig mk a X hg hsize hdg hW hn hp
  have h1 : (headSpec ws rm).pre.before a A.U = true := atoms_intro fun w hw => hws w hw _ _ X.warmed
  have h2 : (Cond.code y bytes maxL ret).before a A.U = true := hws _ hcode _ _ X.warmed
  have h3 : (Cond.initialized y.cls).before a A.U = true := hinit _ _ X.warmed
  have h4 : A.cells + (headSpec ws rm).room.cells ≤ R.cells := by rw [show (headSpec ws rm).room.cells = mc from hrc]; exact hp.1
  have h5 : A.slots + (headSpec ws rm).room.slots ≤ R.slots := by rw [show (headSpec ws rm).room.slots = ms from hrs]; exact hp.2.1
  have hPc : Pc a (A.U.calling g mk a) := hblind _ _ _ _ hp.2.2
  obtain ⟨U, Ls, c0, s0⟩ := A
  dsimp only [Pt.U, Pt.locs, Pt.cells, Pt.slots] at h1 h2 h3 h4 h5 X hn hPc ⊢
  obtain ⟨methY, cY, hmY, hcY, -, hlY, -, -, -, -⟩ := Cond.code_spec hn h2
  obtain ⟨kY, hkY, -⟩ := className_of_methodNamed hn
  have hinitY : kY.init = .initialized := Cond.initialized_spec (findClass_of_methodNamed hn) hkY h3
  have h : At U g.method c below := by rw [hg]; exact X.here
  have hlocals9 : W9 + (maxL + 11) + (headSpec ws rm).room.locals ≤ R.locals := hlocals
  have happ : (headSpec ws rm).appliesLoose y e.platform (U.calling g mk a) = true :=
    Spec.appliesLoose_calling (g := g) h hdg hn hkY hinitY
      (X.room_calling (g := g) (R' := (headSpec ws rm).room) hsize hmY hcY hframes (by rw [hlY]; omega) h4 h5) h1
  obtain ⟨mid, hmid⟩ := h.above
  have hfr : (U.setTop g).frames = (.java g :: mid) ++ below := by rw [State.frames_setTop' g h.top, hmid]; rfl
  obtain ⟨o, s₂, hsteps, -, hend, hq⟩ := Steps.callFree hM p X.admits X.cas X.clock (acts := []) hfr happ hPc trivial
  have hq' : vx_Q Qc XC mc ms free a (U.calling g mk a) o s₂ := hq
  rw [State.frames_setTop' g h.top] at hend
  obtain ⟨g₀, hg0⟩ := Option.isSome_iff_exists.mp h.top
  obtain ⟨r, hr⟩ := State.topJava?_eq_some.mp hg0
  have hr' : (({ U with heap := s₂.heap, slotsUsed := s₂.slotsUsed } : State).setVm s₂.vm).frames = .java g₀ :: r := hr
  rcases hq' with ⟨hqc, L, hfe, hL⟩ | ⟨q, rfl, E, ce, L, hx, hce, hcv, hcl, hW₂, hsm, hL⟩
  · obtain ⟨⟨v, rfl⟩, hW₂, e2, q2, q3, q4, q5, q6⟩ := id hfe
    have e3 : s₂ = ({ (U.calling g mk a).setFrames s₂.frames with heap := s₂.heap, slotsUsed := s₂.slotsUsed } : State).setVm s₂.vm := by
      have : s₂ = ({ s₂ with vm := (U.calling g mk a).vm } : State).setVm s₂.vm := rfl
      rw [e2] at this
      exact this
    obtain ⟨c₂, i₂, len₂, hc₂, hd₂, hf₂⟩ := hend
    have hW' : U.WarmedH s₂.vm := hW₂
    have hcc : c₂ = c := by
      have h1 : s₂.code? g.method = U.code? g.method := by
        rw [State.code?_eq, State.code?_eq, hW'.alike.method?]
      exact Option.some.inj (hc₂.symm.trans (h1.trans h.code))
    subst hcc
    have hlen : len₂ = len := by rw [hdg] at hd₂; cases hd₂; rfl
    subst hlen
    have hs₂ : s₂ = (({ U with heap := s₂.heap, slotsUsed := s₂.slotsUsed } : State).setVm s₂.vm).setTop { g with pc := g.pc + len₂, stack := v.toList ++ g.stack } := by
      refine e3.trans ?_
      rw [hf₂, State.calling_eq h.top, State.setFrames_setFrames, State.setTop_of_frames _ hr', hr]
      rfl
    have hsame : U.sameButNew ({ U with heap := s₂.heap, slotsUsed := s₂.slotsUsed } : State) L mc ms := by
      refine ⟨?_, q2, q3, q4, q5, q6⟩
      obtain ⟨t, ht, -⟩ := State.frames_cons hr
      show ({ U with heap := s₂.heap, slotsUsed := s₂.slotsUsed } : State) = { U.setFrames U.frames with heap := s₂.heap, slotsUsed := s₂.slotsUsed }
      rw [State.setFrames_self ht]
    subst hg
    refine Or.inl ⟨v, ⟨(({ U with heap := s₂.heap, slotsUsed := s₂.slotsUsed } : State).setVm s₂.vm), Ls ++ L, c0 + mc, s0 + ms⟩,
      ⟨X.admits, X.cas, X.clock, X.frames, X.room, X.hears, X.method, X.code, (X.here.setHeapUsed s₂.heap s₂.slotsUsed).setVm hW'.alike, X.tail, State.WarmedH.trans X.warmed hW', X.limits, X.bytes, X.same.trans (hsame.setVm s.vm)⟩,
      ⟨g, mk, s₂, L, rfl, rfl, hqc, rfl, hL, rfl, rfl⟩, ?_⟩
    show Steps p.tables e below _ ((({ U with heap := s₂.heap, slotsUsed := s₂.slotsUsed } : State).setVm s₂.vm).setTop { g with pc := g.pc + len₂, stack := v.toList ++ g.stack })
    rw [← hs₂]
    exact hsteps
  · obtain ⟨e2, q2, q3, q4, q5, q6⟩ := id hsm
    have e3 : s₂ = ({ (U.calling g mk a).setFrames s₂.frames with heap := s₂.heap, slotsUsed := s₂.slotsUsed } : State).setVm s₂.vm := by
      have : s₂ = ({ s₂ with vm := (U.calling g mk a).vm } : State).setVm s₂.vm := rfl
      rw [e2] at this
      exact this
    have hf₂ : s₂.frames = .throwing q :: .java g :: U.frames.tail := hend
    have hW' : U.WarmedH s₂.vm := hW₂
    have hs₂ : s₂ = ((({ U with heap := s₂.heap, slotsUsed := s₂.slotsUsed } : State).setVm s₂.vm).setTop g).pushFrame (.throwing q) := by
      refine e3.trans ?_
      rw [hf₂, State.calling_eq h.top, State.setFrames_setFrames, State.pushFrame, State.frames_setTop _ hr', State.setTop_of_frames _ hr', State.setFrames_setFrames, hr]
      rfl
    have hsame : U.sameButNew ({ U with heap := s₂.heap, slotsUsed := s₂.slotsUsed } : State) L mc ms := by
      refine ⟨?_, q2, q3, q4, q5, q6⟩
      obtain ⟨t, ht, -⟩ := State.frames_cons hr
      show ({ U with heap := s₂.heap, slotsUsed := s₂.slotsUsed } : State) = { U.setFrames U.frames with heap := s₂.heap, slotsUsed := s₂.slotsUsed }
      rw [State.setFrames_self ht]
    subst hg
    refine Or.inr ⟨q, ⟨(({ U with heap := s₂.heap, slotsUsed := s₂.slotsUsed } : State).setVm s₂.vm), Ls ++ L, c0 + mc, s0 + ms⟩,
      ⟨X.admits, X.cas, X.clock, X.frames, X.room, X.hears, X.method, X.code, (X.here.setHeapUsed s₂.heap s₂.slotsUsed).setVm hW'.alike, X.tail, State.WarmedH.trans X.warmed hW', X.limits, X.bytes, X.same.trans (hsame.setVm s.vm)⟩,
      ⟨g, mk, s₂, L, E, ce, rfl, rfl, hx, hce, hcv, hcl, rfl, hL, rfl, rfl⟩, ?_⟩
    show Steps p.tables e below _ (((({ U with heap := s₂.heap, slotsUsed := s₂.slotsUsed } : State).setVm s₂.vm).setTop g).pushFrame (.throwing q))
    rw [← hs₂]
    exact hsteps
end Payer
section Calls
variable {p : Program} {l : Launch} {e : Env} {R : Room} {s : State} {m : MethodId} {args : Array Value} {below : List Frame} {meth : Method} {c : Code} {T : State} {locs : List Loc} {cells slots : Nat}
theorem vx_callV (X : Stand p l e R s m args below meth c T locs cells slots) (hexec : p.tables.exec = Jvm.exec) {own C : String} {index : Nat} {y : MethodName} {bytes : ByteArray} {maxL : Nat} {ret : Option FieldType}
    (hown : s.vm.findClass own = some m.cls) (hlink : (Cond.methodLink own index y).before args s = true) (hinst : (Cond.instanceMethod y).before args s = true) (hsel : (Cond.selects C y y).before args s = true)
    (hcode : (Cond.code y bytes maxL ret).before args s = true) (hy : y.cls ≠ "java/lang/invoke/MethodHandle" ∧ y.cls ≠ "java/lang/invoke/VarHandle")
    {W9 : Nat} {Pre : Pt → Array Value → Prop} {Post : Pt → Array Value → Option Value → Pt → Prop} {PostX : Pt → Array Value → Addr → Pt → Prop} (hK : vx_Back l R p e below s args y 3 W9 Pre Post PostX)
    {b : Addr} {cellB : Cell} (hcell : T.heap[b]? = some cellB) (hobj : cellB.vm.isStatics = false) (hcls : s.vm.findClass C = some cellB.cls)
    {g : JFrame} (hg : g.method = m) (hsize : g.locals.size = c.maxLocals) {argsL rest : List Value} (hlen : ∀ sig, parseMethodDescriptor y.desc = some sig → argsL.length = sig.parameters.length)
    (hstack : g.stack = argsL.reverse ++ .ref b :: rest) (hW : 2 * g.monitorRoom + (rest.map fun v => v.category).sum ≤ W9) (hdg : decode c.code g.pc = .ok (.invokevirtual index, 3))
    (hpre : ∀ vm₁, s.WarmedH vm₁ → Pre ⟨T.setVm vm₁, locs, cells, slots⟩ (Value.ref b :: argsL).toArray) :
    (∃ (v : Option Value) (vm₁ : Vm) (B : Pt), s.WarmedH vm₁ ∧ Stand p l e R s m args below meth c B.U B.locs B.cells B.slots ∧ Post ⟨T.setVm vm₁, locs, cells, slots⟩ (Value.ref b :: argsL).toArray v B ∧
      ∀ target, Steps p.tables e below (B.U.setTop { g with pc := g.pc + 3, stack := v.toList ++ rest }) target → Steps p.tables e below (T.setTop g) target) ∨
    (∃ (q : Addr) (vm₁ : Vm) (B : Pt), s.WarmedH vm₁ ∧ Stand p l e R s m args below meth c B.U B.locs B.cells B.slots ∧ PostX ⟨T.setVm vm₁, locs, cells, slots⟩ (Value.ref b :: argsL).toArray q B ∧
      Steps p.tables e below (T.setTop g) ((B.U.setTop { g with stack := rest }).pushFrame (.throwing q))) := by
  obtain ⟨mk, methM, hnamed, hmethM, hstM, habM⟩ := Cond.instanceMethod_spec hinst
  obtain ⟨methM', cM, hmethM', -, -, -, -, -, -, hsigM⟩ := Cond.code_spec hnamed hcode
  cases hmethM.symm.trans hmethM'
  obtain ⟨c2, r2, m2, q1, q2, q3, q4, kP, hkP, hkPi⟩ := Cond.selects_spec hsel
  cases hcls.symm.trans q1
  cases (State.methodFound?_of_named hnamed hy).symm.trans q2
  cases hnamed.symm.trans q3
  have hselP : selectMethod e.platform s.vm cellB.cls mk = .method mk := by rw [Launch.admits_selectMethod X.admits]; exact q4
  obtain ⟨vm₁, X₁, hstep₁⟩ := X.invokevirtual hexec hown hlink hnamed hmethM hstM hkP hkPi hy (a := b) (cell := cellB) hcell
    (fun z h => by rw [h] at hobj; cases hobj) hselP hmethM habM hkP hkPi (g := g) hg (argsL := argsL) (rest := rest) (hlen _ hsigM) hstack hdg
  rcases hK m meth c ⟨T.setVm vm₁, locs, cells, slots⟩ { g with stack := rest } (.invokevirtual index) mk (Value.ref b :: argsL).toArray X₁ hg hsize hdg hW (X₁.named hnamed) (hpre vm₁ X₁.warmed) with ⟨v, B, X', hpost, hsteps⟩ | ⟨q, B, X', hpost, hsteps⟩
  · exact Or.inl ⟨v, vm₁, B, X₁.warmed, X', hpost, fun target h => hstep₁ _ fun acts => by rw [doInvoke_state]; exact hsteps.trans h⟩
  · exact Or.inr ⟨q, vm₁, B, X₁.warmed, X', hpost, hstep₁ _ fun acts => by rw [doInvoke_state]; exact hsteps⟩
theorem vx_callS (X : Stand p l e R s m args below meth c T locs cells slots) (hexec : p.tables.exec = Jvm.exec) {own : String} {index : Nat} {y : MethodName} {bytes : ByteArray} {maxL : Nat} {ret : Option FieldType}
    (hown : s.vm.findClass own = some m.cls) (hlink : (Cond.methodLink own index y).before args s = true) (hstat : (Cond.static y).before args s = true) (hinit : (Cond.initialized y.cls).before args s = true)
    (hcode : (Cond.code y bytes maxL ret).before args s = true) (hy : y.cls ≠ "java/lang/invoke/MethodHandle" ∧ y.cls ≠ "java/lang/invoke/VarHandle")
    {W9 : Nat} {Pre : Pt → Array Value → Prop} {Post : Pt → Array Value → Option Value → Pt → Prop} {PostX : Pt → Array Value → Addr → Pt → Prop} (hK : vx_Back l R p e below s args y 3 W9 Pre Post PostX)
    {g : JFrame} (hg : g.method = m) (hsize : g.locals.size = c.maxLocals) {argsL rest : List Value} (hlen : ∀ sig, parseMethodDescriptor y.desc = some sig → argsL.length = sig.parameters.length)
    (hstack : g.stack = argsL.reverse ++ rest) (hW : 2 * g.monitorRoom + (rest.map fun v => v.category).sum ≤ W9) (hdg : decode c.code g.pc = .ok (.invokestatic index, 3))
    (hpre : ∀ vm₁, s.WarmedH vm₁ → Pre ⟨T.setVm vm₁, locs, cells, slots⟩ argsL.toArray) :
    (∃ (v : Option Value) (vm₁ : Vm) (B : Pt), s.WarmedH vm₁ ∧ Stand p l e R s m args below meth c B.U B.locs B.cells B.slots ∧ Post ⟨T.setVm vm₁, locs, cells, slots⟩ argsL.toArray v B ∧
      ∀ target, Steps p.tables e below (B.U.setTop { g with pc := g.pc + 3, stack := v.toList ++ rest }) target → Steps p.tables e below (T.setTop g) target) ∨
    (∃ (q : Addr) (vm₁ : Vm) (B : Pt), s.WarmedH vm₁ ∧ Stand p l e R s m args below meth c B.U B.locs B.cells B.slots ∧ PostX ⟨T.setVm vm₁, locs, cells, slots⟩ argsL.toArray q B ∧
      Steps p.tables e below (T.setTop g) ((B.U.setTop { g with stack := rest }).pushFrame (.throwing q))) := by
  obtain ⟨mk, hnamed⟩ := Cond.code_named hcode
  obtain ⟨methM, cM, hmethM, -, -, -, -, -, -, hsigM⟩ := Cond.code_spec hnamed hcode
  have hstatic : methM.isStatic = true := Cond.static_spec hnamed hmethM hstat
  obtain ⟨kP, hkP, -⟩ := className_of_methodNamed hnamed
  have hinitP : kP.init = .initialized := Cond.initialized_spec (findClass_of_methodNamed hnamed) hkP hinit
  obtain ⟨vm₁, X₁, hstep₁⟩ := X.invokestatic hexec hown hlink hnamed hmethM hstatic hkP hinitP hy (g := g) hg (argsL := argsL) (rest := rest) (hlen _ hsigM) hstack hdg
  rcases hK m meth c ⟨T.setVm vm₁, locs, cells, slots⟩ { g with stack := rest } (.invokestatic index) mk argsL.toArray X₁ hg hsize hdg hW (X₁.named hnamed) (hpre vm₁ X₁.warmed) with ⟨v, B, X', hpost, hsteps⟩ | ⟨q, B, X', hpost, hsteps⟩
  · exact Or.inl ⟨v, vm₁, B, X₁.warmed, X', hpost, fun target h => hstep₁ _ fun acts => by rw [doInvoke_state]; exact hsteps.trans h⟩
  · exact Or.inr ⟨q, vm₁, B, X₁.warmed, X', hpost, hstep₁ _ fun acts => by rw [doInvoke_state]; exact hsteps⟩
end Calls
theorem vx_cls {s : State} {T : State} {vm₁ : Vm} {E : String} {k : ClassId} (hW : s.WarmedH vm₁) (h : (T.setVm vm₁).vm.findClass E = some k) : s.vm.findClass E = some k := by
  have h1 : vm₁.findClass E = some k := h
  rw [hW.alike.findClass] at h1
  exact h1
/-- the method's frame g, with q thrown over it -/
def vx_W (p : Program) (l : Launch) (e : Env) (R : Room) (s : State) (m : MethodId) (args : Array Value) (below : List Frame) (meth : Method) (c : Code) (H : Heap) (locs : List Loc) (cells slots : Nat) (Q : State → Prop) (g : JFrame) (q : Addr) : Prop :=
  ∀ T : State, T.heap = H → Stand p l e R s m args below meth c T locs cells slots → ∃ t, Steps p.tables e below ((T.setTop g).pushFrame (.throwing q)) t ∧ Q t
def vx_Run (p : Program) (l : Launch) (e : Env) (R : Room) (s : State) (m : MethodId) (args : Array Value) (below : List Frame) (meth : Method) (c : Code) (H : Heap) (locs : List Loc) (cells slots mc ms : Nat) (g : JFrame) (rest : List Value) (Qa : State → Outcome → State → Prop) (XC : String → State → State → Prop) (free : Addr → Prop) : Prop :=
  ∀ T : State, T.heap = H → Stand p l e R s m args below meth c T locs cells slots →
    (∃ (v : Option Value) (st₀ t T' : State) (L : List Loc), st₀.heap = H ∧ Stand p l e R s m args below meth c T' (locs ++ L) (cells + mc) (slots + ms) ∧ (∀ q ∈ L, free q.base) ∧ T'.heap = t.heap ∧ T'.vm = t.vm ∧ Qa st₀ (.returned v) t ∧
      Goes p e below T g T' { g with pc := g.pc + 3, stack := v.toList ++ rest }) ∨
    (∃ (q : Addr) (st₀ t T' : State) (L : List Loc) (E : String) (ce : Cell), st₀.heap = H ∧ Stand p l e R s m args below meth c T' (locs ++ L) (cells + mc) (slots + ms) ∧ (∀ z ∈ L, free z.base) ∧ T'.heap = t.heap ∧ T'.vm = t.vm ∧ XC E st₀ t ∧ t.heap[q]? = some ce ∧ ce.vm = .none ∧ s.vm.findClass E = some ce.cls ∧
      Steps p.tables e below (T.setTop g) ((T'.setTop { g with stack := rest }).pushFrame (.throwing q)))
def vx_X {S : Type} (px : S → Prop) (B : String → S → State → Prop) (A : Nat → Prop) : String → State → State → Prop := fun E st t => ∃ u : S, px u ∧ B E u t ∧ va_F A st t
section Runs
variable {p : Program} {l : Launch} {e : Env} {R : Room} {s : State} {m : MethodId} {args : Array Value} {below : List Frame} {meth : Method} {c : Code} {H : Heap} {locs : List Loc} {cells slots : Nat}
variable {y : MethodName} {bytes cc : ByteArray} {maxL nL mc ms n index : Nat} {ret : Option FieldType} {ws : List Cond} {rm : Room} {Pc : Array Value → State → Prop} {Qc : Array Value → State → Outcome → State → Prop} {XC : String → State → State → Prop} {free : Addr → Prop} {Ts : List Cond} {own C : String} {b : Addr} {As rest : List Value} {g : JFrame}
theorem vx_callBack (cb : CallB R s args own index y bytes maxL ret ws rm mc ms n) (hM : vx_Met l y ws rm Pc Qc XC mc ms free) (hbl : FrameBlind Pc) : vx_Back l R p e below s args y 3 8 (PreOf R mc ms Pc) (PostOf Qc mc ms free) (vx_Post XC mc ms free) := by
  obtain ⟨hrc, hrs, hfr, hlo, hws, hcw, -, hini, -⟩ := cb
  exact vx_back (bytes := bytes) (maxL := maxL) (ret := ret) hM hbl hrc hrs hfr hlo hws hcw (fun a' U hW => word_at hW (Or.inl (by first | rfl | simp [Cond.onTables, Cond.keeps, Cond.steady])) hini)
theorem vx_runV (S : CallFix p m c cc nL s args Ts own) (hM : vx_Met l y ws rm Pc Qc XC mc ms free) (cw : CallW R s args own C index y bytes maxL ret ws rm mc ms n) (hp : PreV s H C b Pc As)
    (hg : g.method = m) (hn : As.length = n) (hsize : g.locals.size = nL) (hstack : g.stack = As.reverse ++ .ref b :: rest) (hW : 2 * g.monitorRoom + (rest.map fun v => v.category).sum ≤ 8) (hdg : decode cc g.pc = .ok (.invokevirtual index, 3)) (hf : cells + mc ≤ R.cells ∧ slots + ms ≤ R.slots) :
    vx_Run p l e R s m args below meth c H locs cells slots mc ms g rest (Qc (Value.ref b :: As).toArray) XC free := by
  have hK : vx_Back l R p e below s args y 3 8 (PreOf R mc ms Pc) (PostOf Qc mc ms free) (vx_Post XC mc ms free) := vx_callBack cw.1 hM hp.1
  obtain ⟨⟨-, -, -, -, -, -, hcode, -, hy, hlen, hl⟩, hin, hse⟩ := cw
  obtain ⟨hx, hb, hml, ho, -⟩ := S
  obtain ⟨-, ⟨cellB, hcB, hoB, hclB⟩, hPc⟩ := hp
  intro T hT X
  rcases vx_callV X hx (C := C) (bytes := bytes) (maxL := maxL) (ret := ret) ho hl hin hse hcode hy hK (by rw [hT]; exact hcB) hoB hclB hg (hsize.trans hml.symm) (argsL := As) (rest := rest) (fun sig h => hn.trans (hlen sig h)) hstack hW (by rw [hb]; exact hdg)
    (fun vm₁ hW₁ => ⟨hf.1, hf.2, hPc (T.setVm vm₁) hT hW₁⟩) with ⟨v, vm₁, ⟨U', l2, c2, s2⟩, hW₁, X', ⟨g', mk, t, L, e1, e2, hq, h1, hL, h2, h3⟩, st⟩ | ⟨q, vm₁, ⟨U', l2, c2, s2⟩, hW₁, X', ⟨g', mk, t, L, E, ce, e1, e2, hq, hce, hcv, hcl, h1, hL, h2, h3⟩, st⟩
  · dsimp only [Pt.U, Pt.locs, Pt.cells, Pt.slots] at X' e1 e2 h1 h2 h3 st
    subst h1; subst h2; subst h3
    exact Or.inl ⟨v, (T.setVm vm₁).calling g' mk (Value.ref b :: As).toArray, t, U', L, hT, X', hL, e1, e2, hq, st⟩
  · dsimp only [Pt.U, Pt.locs, Pt.cells, Pt.slots] at X' e1 e2 h1 h2 h3 st hcl
    subst h1; subst h2; subst h3
    exact Or.inr ⟨q, (T.setVm vm₁).calling g' mk (Value.ref b :: As).toArray, t, U', L, E, ce, hT, X', hL, e1, e2, hq, hce, hcv, vx_cls hW₁ hcl, st⟩
theorem vx_runS (S : CallFix p m c cc nL s args Ts own) (hM : vx_Met l y ws rm Pc Qc XC mc ms free) (cw : CallB R s args own index y bytes maxL ret ws rm mc ms n ∧ (Cond.static y).before args s = true) (hp : PreS s H Pc As)
    (hg : g.method = m) (hn : As.length = n) (hsize : g.locals.size = nL) (hstack : g.stack = As.reverse ++ rest) (hW : 2 * g.monitorRoom + (rest.map fun v => v.category).sum ≤ 8) (hdg : decode cc g.pc = .ok (.invokestatic index, 3)) (hf : cells + mc ≤ R.cells ∧ slots + ms ≤ R.slots) :
    vx_Run p l e R s m args below meth c H locs cells slots mc ms g rest (Qc As.toArray) XC free := by
  have hK : vx_Back l R p e below s args y 3 8 (PreOf R mc ms Pc) (PostOf Qc mc ms free) (vx_Post XC mc ms free) := vx_callBack cw.1 hM hp.1
  obtain ⟨⟨-, -, -, -, -, -, hcode, hini, hy, hlen, hl⟩, hstt⟩ := cw
  obtain ⟨hx, hb, hml, ho, -⟩ := S
  intro T hT X
  rcases vx_callS X hx (bytes := bytes) (maxL := maxL) (ret := ret) ho hl hstt hini hcode hy hK hg (hsize.trans hml.symm) (argsL := As) (rest := rest) (fun sig h => hn.trans (hlen sig h)) hstack hW (by rw [hb]; exact hdg)
    (fun vm₁ hW₁ => ⟨hf.1, hf.2, hp.2 (T.setVm vm₁) hT hW₁⟩) with ⟨v, vm₁, ⟨U', l2, c2, s2⟩, hW₁, X', ⟨g', mk, t, L, e1, e2, hq, h1, hL, h2, h3⟩, st⟩ | ⟨q, vm₁, ⟨U', l2, c2, s2⟩, hW₁, X', ⟨g', mk, t, L, E, ce, e1, e2, hq, hce, hcv, hcl, h1, hL, h2, h3⟩, st⟩
  · dsimp only [Pt.U, Pt.locs, Pt.cells, Pt.slots] at X' e1 e2 h1 h2 h3 st
    subst h1; subst h2; subst h3
    exact Or.inl ⟨v, (T.setVm vm₁).calling g' mk As.toArray, t, U', L, hT, X', hL, e1, e2, hq, st⟩
  · dsimp only [Pt.U, Pt.locs, Pt.cells, Pt.slots] at X' e1 e2 h1 h2 h3 st hcl
    subst h1; subst h2; subst h3
    exact Or.inr ⟨q, (T.setVm vm₁).calling g' mk As.toArray, t, U', L, E, ce, hT, X', hL, e1, e2, hq, hce, hcv, vx_cls hW₁ hcl, st⟩
end Runs
section Rows
variable {p : Program} {l : Launch} {e : Env} {R : Room} {s : State} {m : MethodId} {args : Array Value} {below : List Frame} {meth : Method} {c : Code} {H : Heap} {locs : List Loc} {cells slots : Nat} {Q : State → Prop}
variable {mc ms : Nat} {free : Addr → Prop} {A0 A1 : Nat → Prop} {H0 : Heap} {a : Array Value} {pc : Nat} {ls : Array Slot} {st0 rest : List Value}
theorem vx_keep {st₀ t T' : State} {L : List Loc} (h0 : st₀.heap = H) (e1 : T'.heap = t.heap) (hS : va_S A0 H0 H locs) (hA : ∀ q, q < H.size → A1 q → A0 q) (hf : ∀ q, free q → A0 q) (hL : ∀ q ∈ L, free q.base) (hF : va_F A1 st₀ t) :
    H.size ≤ T'.heap.size ∧ (∀ q : Nat, q < H.size → ¬ A1 q → T'.heap[q]? = H[q]?) ∧ va_S A0 H0 T'.heap (locs ++ L) := by
  obtain ⟨hz, hk⟩ := hF
  rw [h0] at hz hk
  exact ⟨by rw [e1]; exact hz, fun q h1 h2 => by rw [e1]; exact hk q h1 h2,
    ⟨Nat.le_trans hS.1 (by rw [e1]; exact hz), fun q h1 h2 => by rw [e1, hk q (Nat.lt_of_lt_of_le h1 hS.1) (fun z => h2 (hA q (Nat.lt_of_lt_of_le h1 hS.1) z))]; exact hS.2.1 q h1 h2, fun q hq => by
      rcases List.mem_append.mp hq with h | h
      · exact hS.2.2 q h
      · exact hf _ (hL q h)⟩⟩
theorem vx_calli {S SX : Type} {post : Int32 → S → Prop} {px : SX → Prop} {B : S → State → Prop} {BX : String → SX → State → Prop} {AX : Nat → Prop} (hr : vx_Run p l e R s m args below meth c H locs cells slots mc ms (F0 m pc ls st0) rest (va_Qi post B A1 a) (vx_X px BX AX) free) (hS : va_S A0 H0 H locs) (hA : ∀ q, q < H.size → A1 q → A0 q) (hf : ∀ q, free q → A0 q) (hAX : ∀ q, q < H.size → AX q → A0 q)
    (kx : ∀ (E : String) (ce : Cell) (q9 : Addr) (u : SX) (t : State) (H1 : Heap) (locs1 : List Loc), t.heap = H1 → s.vm.Alike t.vm → px u → BX E u t → H.size ≤ H1.size → (∀ q : Nat, q < H.size → ¬ AX q → H1[q]? = H[q]?) → va_S A0 H0 H1 locs1 → H1[q9]? = some ce → ce.vm = .none → s.vm.findClass E = some ce.cls → vx_W p l e R s m args below meth c H1 locs1 (cells + mc) (slots + ms) Q (F0 m pc ls rest) q9)
    (kk : ∀ (r : Int32) (u : S) (t : State) (H1 : Heap) (locs1 : List Loc), t.heap = H1 → s.vm.Alike t.vm → post r u → B u t → H.size ≤ H1.size → (∀ q : Nat, q < H.size → ¬ A1 q → H1[q]? = H[q]?) → va_S A0 H0 H1 locs1 → W p l e R s m args below meth c H1 locs1 (cells + mc) (slots + ms) Q (F0 m (pc + 3) ls (.int r :: rest))) : W p l e R s m args below meth c H locs cells slots Q (F0 m pc ls st0) := by
  intro T hT X
  rcases hr T hT X with ⟨v, st₀, t, T', L, h0, X', hL, e1, e2, ⟨⟨r, u, hv, hp, hb⟩, hF⟩, st⟩ | ⟨q, st₀, t, T', L, E, ce, h0, X', hL, e1, e2, ⟨u, hp, hb, hF⟩, hce, hcv, hcl, st⟩
  · cases hv
    obtain ⟨k1, k2, k3⟩ := vx_keep h0 e1 hS hA hf hL hF
    obtain ⟨t2, a1, b1⟩ := kk r u t T'.heap (locs ++ L) e1.symm (by rw [← e2]; exact X'.warmed.alike) hp hb k1 k2 k3 T' rfl X'
    exact ⟨t2, st t2 a1, b1⟩
  · obtain ⟨k1, k2, k3⟩ := vx_keep h0 e1 hS hAX hf hL hF
    obtain ⟨t2, a1, b1⟩ := kx E ce q u t T'.heap (locs ++ L) e1.symm (by rw [← e2]; exact X'.warmed.alike) hp hb k1 k2 k3 (by rw [e1]; exact hce) hcv hcl T' rfl X'
    exact ⟨t2, st.trans a1, b1⟩
theorem vx_calll {S SX : Type} {post : Int64 → S → Prop} {px : SX → Prop} {B : S → State → Prop} {BX : String → SX → State → Prop} {AX : Nat → Prop} (hr : vx_Run p l e R s m args below meth c H locs cells slots mc ms (F0 m pc ls st0) rest (va_Ql post B A1 a) (vx_X px BX AX) free) (hS : va_S A0 H0 H locs) (hA : ∀ q, q < H.size → A1 q → A0 q) (hf : ∀ q, free q → A0 q) (hAX : ∀ q, q < H.size → AX q → A0 q)
    (kx : ∀ (E : String) (ce : Cell) (q9 : Addr) (u : SX) (t : State) (H1 : Heap) (locs1 : List Loc), t.heap = H1 → s.vm.Alike t.vm → px u → BX E u t → H.size ≤ H1.size → (∀ q : Nat, q < H.size → ¬ AX q → H1[q]? = H[q]?) → va_S A0 H0 H1 locs1 → H1[q9]? = some ce → ce.vm = .none → s.vm.findClass E = some ce.cls → vx_W p l e R s m args below meth c H1 locs1 (cells + mc) (slots + ms) Q (F0 m pc ls rest) q9)
    (kk : ∀ (r : Int64) (u : S) (t : State) (H1 : Heap) (locs1 : List Loc), t.heap = H1 → s.vm.Alike t.vm → post r u → B u t → H.size ≤ H1.size → (∀ q : Nat, q < H.size → ¬ A1 q → H1[q]? = H[q]?) → va_S A0 H0 H1 locs1 → W p l e R s m args below meth c H1 locs1 (cells + mc) (slots + ms) Q (F0 m (pc + 3) ls (.long r :: rest))) : W p l e R s m args below meth c H locs cells slots Q (F0 m pc ls st0) := by
  intro T hT X
  rcases hr T hT X with ⟨v, st₀, t, T', L, h0, X', hL, e1, e2, ⟨⟨r, u, hv, hp, hb⟩, hF⟩, st⟩ | ⟨q, st₀, t, T', L, E, ce, h0, X', hL, e1, e2, ⟨u, hp, hb, hF⟩, hce, hcv, hcl, st⟩
  · cases hv
    obtain ⟨k1, k2, k3⟩ := vx_keep h0 e1 hS hA hf hL hF
    obtain ⟨t2, a1, b1⟩ := kk r u t T'.heap (locs ++ L) e1.symm (by rw [← e2]; exact X'.warmed.alike) hp hb k1 k2 k3 T' rfl X'
    exact ⟨t2, st t2 a1, b1⟩
  · obtain ⟨k1, k2, k3⟩ := vx_keep h0 e1 hS hAX hf hL hF
    obtain ⟨t2, a1, b1⟩ := kx E ce q u t T'.heap (locs ++ L) e1.symm (by rw [← e2]; exact X'.warmed.alike) hp hb k1 k2 k3 (by rw [e1]; exact hce) hcv hcl T' rfl X'
    exact ⟨t2, st.trans a1, b1⟩
theorem vx_callf {S SX : Type} {post : UInt32 → S → Prop} {px : SX → Prop} {B : S → State → Prop} {BX : String → SX → State → Prop} {AX : Nat → Prop} (hr : vx_Run p l e R s m args below meth c H locs cells slots mc ms (F0 m pc ls st0) rest (va_Qf post B A1 a) (vx_X px BX AX) free) (hS : va_S A0 H0 H locs) (hA : ∀ q, q < H.size → A1 q → A0 q) (hf : ∀ q, free q → A0 q) (hAX : ∀ q, q < H.size → AX q → A0 q)
    (kx : ∀ (E : String) (ce : Cell) (q9 : Addr) (u : SX) (t : State) (H1 : Heap) (locs1 : List Loc), t.heap = H1 → s.vm.Alike t.vm → px u → BX E u t → H.size ≤ H1.size → (∀ q : Nat, q < H.size → ¬ AX q → H1[q]? = H[q]?) → va_S A0 H0 H1 locs1 → H1[q9]? = some ce → ce.vm = .none → s.vm.findClass E = some ce.cls → vx_W p l e R s m args below meth c H1 locs1 (cells + mc) (slots + ms) Q (F0 m pc ls rest) q9)
    (kk : ∀ (r : UInt32) (u : S) (t : State) (H1 : Heap) (locs1 : List Loc), t.heap = H1 → s.vm.Alike t.vm → post r u → B u t → H.size ≤ H1.size → (∀ q : Nat, q < H.size → ¬ A1 q → H1[q]? = H[q]?) → va_S A0 H0 H1 locs1 → W p l e R s m args below meth c H1 locs1 (cells + mc) (slots + ms) Q (F0 m (pc + 3) ls (.float r :: rest))) : W p l e R s m args below meth c H locs cells slots Q (F0 m pc ls st0) := by
  intro T hT X
  rcases hr T hT X with ⟨v, st₀, t, T', L, h0, X', hL, e1, e2, ⟨⟨r, u, hv, hp, hb⟩, hF⟩, st⟩ | ⟨q, st₀, t, T', L, E, ce, h0, X', hL, e1, e2, ⟨u, hp, hb, hF⟩, hce, hcv, hcl, st⟩
  · cases hv
    obtain ⟨k1, k2, k3⟩ := vx_keep h0 e1 hS hA hf hL hF
    obtain ⟨t2, a1, b1⟩ := kk r u t T'.heap (locs ++ L) e1.symm (by rw [← e2]; exact X'.warmed.alike) hp hb k1 k2 k3 T' rfl X'
    exact ⟨t2, st t2 a1, b1⟩
  · obtain ⟨k1, k2, k3⟩ := vx_keep h0 e1 hS hAX hf hL hF
    obtain ⟨t2, a1, b1⟩ := kx E ce q u t T'.heap (locs ++ L) e1.symm (by rw [← e2]; exact X'.warmed.alike) hp hb k1 k2 k3 (by rw [e1]; exact hce) hcv hcl T' rfl X'
    exact ⟨t2, st.trans a1, b1⟩
theorem vx_calld {S SX : Type} {post : UInt64 → S → Prop} {px : SX → Prop} {B : S → State → Prop} {BX : String → SX → State → Prop} {AX : Nat → Prop} (hr : vx_Run p l e R s m args below meth c H locs cells slots mc ms (F0 m pc ls st0) rest (va_Qd post B A1 a) (vx_X px BX AX) free) (hS : va_S A0 H0 H locs) (hA : ∀ q, q < H.size → A1 q → A0 q) (hf : ∀ q, free q → A0 q) (hAX : ∀ q, q < H.size → AX q → A0 q)
    (kx : ∀ (E : String) (ce : Cell) (q9 : Addr) (u : SX) (t : State) (H1 : Heap) (locs1 : List Loc), t.heap = H1 → s.vm.Alike t.vm → px u → BX E u t → H.size ≤ H1.size → (∀ q : Nat, q < H.size → ¬ AX q → H1[q]? = H[q]?) → va_S A0 H0 H1 locs1 → H1[q9]? = some ce → ce.vm = .none → s.vm.findClass E = some ce.cls → vx_W p l e R s m args below meth c H1 locs1 (cells + mc) (slots + ms) Q (F0 m pc ls rest) q9)
    (kk : ∀ (r : UInt64) (u : S) (t : State) (H1 : Heap) (locs1 : List Loc), t.heap = H1 → s.vm.Alike t.vm → post r u → B u t → H.size ≤ H1.size → (∀ q : Nat, q < H.size → ¬ A1 q → H1[q]? = H[q]?) → va_S A0 H0 H1 locs1 → W p l e R s m args below meth c H1 locs1 (cells + mc) (slots + ms) Q (F0 m (pc + 3) ls (.double r :: rest))) : W p l e R s m args below meth c H locs cells slots Q (F0 m pc ls st0) := by
  intro T hT X
  rcases hr T hT X with ⟨v, st₀, t, T', L, h0, X', hL, e1, e2, ⟨⟨r, u, hv, hp, hb⟩, hF⟩, st⟩ | ⟨q, st₀, t, T', L, E, ce, h0, X', hL, e1, e2, ⟨u, hp, hb, hF⟩, hce, hcv, hcl, st⟩
  · cases hv
    obtain ⟨k1, k2, k3⟩ := vx_keep h0 e1 hS hA hf hL hF
    obtain ⟨t2, a1, b1⟩ := kk r u t T'.heap (locs ++ L) e1.symm (by rw [← e2]; exact X'.warmed.alike) hp hb k1 k2 k3 T' rfl X'
    exact ⟨t2, st t2 a1, b1⟩
  · obtain ⟨k1, k2, k3⟩ := vx_keep h0 e1 hS hAX hf hL hF
    obtain ⟨t2, a1, b1⟩ := kx E ce q u t T'.heap (locs ++ L) e1.symm (by rw [← e2]; exact X'.warmed.alike) hp hb k1 k2 k3 (by rw [e1]; exact hce) hcv hcl T' rfl X'
    exact ⟨t2, st.trans a1, b1⟩
theorem vx_callv {S SX : Type} {post : S → Prop} {px : SX → Prop} {B : S → State → Prop} {BX : String → SX → State → Prop} {AX : Nat → Prop} (hr : vx_Run p l e R s m args below meth c H locs cells slots mc ms (F0 m pc ls st0) rest (va_Qv post B A1 a) (vx_X px BX AX) free) (hS : va_S A0 H0 H locs) (hA : ∀ q, q < H.size → A1 q → A0 q) (hf : ∀ q, free q → A0 q) (hAX : ∀ q, q < H.size → AX q → A0 q)
    (kx : ∀ (E : String) (ce : Cell) (q9 : Addr) (u : SX) (t : State) (H1 : Heap) (locs1 : List Loc), t.heap = H1 → s.vm.Alike t.vm → px u → BX E u t → H.size ≤ H1.size → (∀ q : Nat, q < H.size → ¬ AX q → H1[q]? = H[q]?) → va_S A0 H0 H1 locs1 → H1[q9]? = some ce → ce.vm = .none → s.vm.findClass E = some ce.cls → vx_W p l e R s m args below meth c H1 locs1 (cells + mc) (slots + ms) Q (F0 m pc ls rest) q9)
    (kk : ∀ (u : S) (t : State) (H1 : Heap) (locs1 : List Loc), t.heap = H1 → s.vm.Alike t.vm → post u → B u t → H.size ≤ H1.size → (∀ q : Nat, q < H.size → ¬ A1 q → H1[q]? = H[q]?) → va_S A0 H0 H1 locs1 → W p l e R s m args below meth c H1 locs1 (cells + mc) (slots + ms) Q (F0 m (pc + 3) ls (rest))) : W p l e R s m args below meth c H locs cells slots Q (F0 m pc ls st0) := by
  intro T hT X
  rcases hr T hT X with ⟨v, st₀, t, T', L, h0, X', hL, e1, e2, ⟨⟨u, hv, hp, hb⟩, hF⟩, st⟩ | ⟨q, st₀, t, T', L, E, ce, h0, X', hL, e1, e2, ⟨u, hp, hb, hF⟩, hce, hcv, hcl, st⟩
  · cases hv
    obtain ⟨k1, k2, k3⟩ := vx_keep h0 e1 hS hA hf hL hF
    obtain ⟨t2, a1, b1⟩ := kk u t T'.heap (locs ++ L) e1.symm (by rw [← e2]; exact X'.warmed.alike) hp hb k1 k2 k3 T' rfl X'
    exact ⟨t2, st t2 a1, b1⟩
  · obtain ⟨k1, k2, k3⟩ := vx_keep h0 e1 hS hAX hf hL hF
    obtain ⟨t2, a1, b1⟩ := kx E ce q u t T'.heap (locs ++ L) e1.symm (by rw [← e2]; exact X'.warmed.alike) hp hb k1 k2 k3 (by rw [e1]; exact hce) hcv hcl T' rfl X'
    exact ⟨t2, st.trans a1, b1⟩
/-- caught by the row x of this method's table; the rows ahead don't take it -/
theorem vx_catch {own name : String} {E : String} {ce : Cell} {q : Addr} (hown : s.vm.findClass own = some m.cls) (pre : List ExceptionTableEntry) (x : ExceptionTableEntry) (suf : List ExceptionTableEntry) (hsplit : c.exceptionTable.toList = pre ++ x :: suf)
    (hpass : ∀ z ∈ pre, covers z pc = false ∨ (z.catchType ≠ 0 ∧ ∃ nm : String, (Cond.classLink own z.catchType nm).before args s = true ∧ va_Nc E nm s)) (hx : covers x pc = true) (h0 : x.catchType ≠ 0)
    (hlink : (Cond.classLink own x.catchType name).before args s = true) (hcast : (Cond.castable E name).before args s = true) (hcell : H[q]? = some ce) (hv : ce.vm = .none) (hcl : s.vm.findClass E = some ce.cls)
    (kk : W p l e R s m args below meth c H locs cells slots Q (F0 m x.handlerPc ls [.ref q])) : vx_W p l e R s m args below meth c H locs cells slots Q (F0 m pc ls rest) q := by
  intro T hT X
  have hpl : e.platform.magicAccessors = ({} : Platform).magicAccessors := by rw [X.admits.platform]
  obtain ⟨c3, c4, hc3, hc4, hasg⟩ := Cond.castable_spec hcast
  cases Option.some.inj (hc3.symm.trans hcl)
  obtain ⟨c5, hc5, hcl5⟩ := Cond.classLink_spec hown hlink e.platform hpl
  cases Option.some.inj (hc4.symm.trans hc5)
  obtain ⟨vm', X', st⟩ := X.thenCaughtThrough q (g := F0 m pc ls rest) rfl (Steps.refl _) (by rw [hT]; exact hcell) (by rw [hv]; rfl) (by obtain ⟨k9, h9, -⟩ := Vm.findClass_spec hcl; exact ⟨k9, h9⟩) pre x suf hsplit
    (fun z hz => by
      rcases hpass z hz with h | ⟨hz0, nm, hl1, hn1⟩
      · exact Or.inl h
      · obtain ⟨c6, hc6, hcl6⟩ := Cond.classLink_spec hown hl1 e.platform hpl
        obtain ⟨a8, b8, h1, h2, h3⟩ := hn1
        cases Option.some.inj (h1.symm.trans hcl)
        cases Option.some.inj (h2.symm.trans hc6)
        exact Or.inr ⟨hz0, _, hcl6, h3⟩) hx (Or.inr ⟨h0, c4, hcl5, hasg⟩)
  obtain ⟨t, a1, b1⟩ := kk (T.setVm vm') hT X'
  exact ⟨t, st.trans a1, b1⟩
end Rows
section Ends
variable {p : Program} {l : Launch} {e : Env} {R : Room} {s : State} {m : MethodId} {args : Array Value} {below : List Frame} {meth : Method} {c : Code} {H : Heap} {locs : List Loc} {cells slots : Nat} {Q : State → Prop}
variable {mc ms : Nat} {free : Addr → Prop} {A0 A1 : Nat → Prop} {H0 : Heap} {a : Array Value} {ls : Array Slot} {st0 rest : List Value}
variable {Qc : Array Value → State → Outcome → State → Prop} {XC : String → State → State → Prop}
/-- what a body that may throw owes at its end -/
def vx_MQ (below : List Frame) (Qc : Array Value → State → Outcome → State → Prop) (XC : String → State → State → Prop) (a : Array Value) (s : State) (mc ms : Nat) (free : Addr → Prop) : State → Prop := fun t =>
  ∃ o, t.status = .running ∧ Ended t below o ∧ vx_Q Qc XC mc ms free a s o t
theorem vx_ret {g : JFrame} {mc ms : Nat} (k : W p l e R s m args below meth c H locs cells slots (MQ below Qc args s mc ms free) g) : W p l e R s m args below meth c H locs cells slots (vx_MQ below Qc XC args s mc ms free) g := by
  intro T hT X
  obtain ⟨t, a1, o, b1, b2, b3, b4⟩ := k T hT X
  exact ⟨t, a1, o, b1, b2, Or.inl ⟨b3, b4⟩⟩
/-- not caught here: it goes on to the caller -/
theorem vx_widen {g : JFrame} {q : Addr} {k n : Nat} (h1 : cells ≤ k) (h2 : slots ≤ n) (kk : vx_W p l e R s m args below meth c H locs k n Q g q) : vx_W p l e R s m args below meth c H locs cells slots Q g q := fun T hT X => kk T hT (stand_widen X h1 h2)
theorem vx_out {pc : Nat} {E : String} {ce : Cell} {q : Addr} {mc ms : Nat} (hout : ∀ x ∈ c.exceptionTable.toList, covers x pc = false) (hlocks : meth.locks = false) (hcell : H[q]? = some ce) (hv : ce.vm = .none) (hcl : s.vm.findClass E = some ce.cls)
    (hx : ∀ t : State, t.heap = H → s.vm.Alike t.vm → XC E s t) (hf : ∀ z ∈ locs, free z.base) (hc : cells ≤ mc) (hs : slots ≤ ms) :
    vx_W p l e R s m args below meth c H locs cells slots (vx_MQ below Qc XC args s mc ms free) (F0 m pc ls rest) q := by
  intro T hT X
  obtain ⟨st1, hrun, hend, hW, hsm⟩ := X.leaveThrown q (g := F0 m pc ls rest) rfl rfl rfl hout hlocks
  have hcell9 : (T.setFrames (.throwing q :: below)).heap[q]? = some ce := by
    show T.heap[q]? = some ce
    rw [hT]; exact hcell
  exact ⟨_, st1, .threw q, hrun, hend, Or.inr ⟨q, rfl, E, ce, locs, hx _ hT hW.alike, hcell9, hv, hcl, hW, hsm.mono hc hs, hf⟩⟩
theorem vx_frame {U : State} {k n : Nat} (h : s.sameButNew ({ U with vm := s.vm } : State) locs k n) : s.heap.size ≤ U.heap.size ∧ ∀ q : Nat, q < s.heap.size → (∀ z ∈ locs, z.base ≠ q) → U.heap[q]? = s.heap[q]? := by
  obtain ⟨-, h2, -, -, -, h6⟩ := h
  refine ⟨h2, fun q hq hz => ?_⟩
  obtain ⟨c9, e1, e2, e3, e4⟩ := h6 q _ (Array.getElem?_eq_getElem hq)
  have hs : c9.slots = (s.heap[q]).slots := Array.ext_getElem? fun i => e4 i fun hm => hz _ hm rfl
  have h9 : c9 = s.heap[q] := by
    rw [hs] at e2
    exact e2
  have e5 : U.heap[q]? = some c9 := e1
  rw [e5, h9, Array.getElem?_eq_getElem hq]
/-- the words of a throw but the four that speak of the heap -/
def vx_no (w : Cond) : Bool := decide (w ≠ .isRef (.static Bundle.tN "UNASSIGNED_STACK" Bundle.steD)) && decide (w ≠ .isRef (.static Bundle.tN "SUPPRESSED_SENTINEL" Bundle.listD)) && decide (w ≠ .laysStatic Bundle.tN "UNASSIGNED_STACK" Bundle.steD) && decide (w ≠ .laysStatic Bundle.tN "SUPPRESSED_SENTINEL" Bundle.listD)
def vx_at0 (own : String) (ic : Nat) (X : String) (names : List String) : List Cond := (Bundle.ownAtoms0 own ic X names).filter vx_no
def vx_atS (own : String) (ic : Nat) (X : String) (names : List String) : List Cond := (Bundle.ownAtoms own ic X names).filter vx_no
/-- a word that the tables alone decide, or a good one -/
def vx_ot (w : Cond) : Bool := w.onTables || goodWord w
theorem vx_ot_at {args a' : Array Value} {s U : State} {w : Cond} (hW : s.WarmedH U.vm) (hvm : s.vm = U.vm) (hg : vx_ot w = true) (h : w.before args s = true) : w.before a' U = true := by
  simp only [vx_ot, Bool.or_eq_true] at hg
  rcases hg with hg | hg
  · exact va_tabs hg hvm h
  · exact word_at hW (good_of_word hg) h
/-- a list's words: the good ones out of the method's own list, the others by premises of their own -/
theorem vx_hat {args : Array Value} {s : State} {L B : List Cond} (h1 : ∀ w ∈ L.filter goodWord, w.before args s = true) (h2 : ∀ w ∈ L.filter (fun w => !goodWord w), w ∈ B) (h3 : ∀ w ∈ B, w.before args s = true) : ∀ w ∈ L, w.before args s = true := by
  intro w hw
  by_cases g : goodWord w = true
  · exact h1 w (List.mem_filter.mpr ⟨hw, g⟩)
  · refine h3 w (h2 w (List.mem_filter.mpr ⟨hw, ?_⟩))
    show (!goodWord w) = true
    cases hgw : goodWord w
    · rfl
    · exact absurd hgw g
theorem vx_c {args : Array Value} {s : State} {w : Cond} {B : List Cond} (h : w.before args s = true) (t : ∀ w ∈ B, w.before args s = true) : ∀ w' ∈ w :: B, w'.before args s = true := fun w' h' => (List.mem_cons.mp h').elim (fun e => by rw [e]; exact h) (t w')
theorem vx_n {args : Array Value} {s : State} : ∀ w ∈ ([] : List Cond), w.before args s = true := fun _ h => nomatch h
theorem vx_own {args : Array Value} {s : State} {L : List Cond} (h1 : ∀ w ∈ L.filter vx_no, w.before args s = true)
    (hU : (Cond.isRef (.static Bundle.tN "UNASSIGNED_STACK" Bundle.steD)).before args s = true) (hN : (Cond.isRef (.static Bundle.tN "SUPPRESSED_SENTINEL" Bundle.listD)).before args s = true)
    (lU : (Cond.laysStatic Bundle.tN "UNASSIGNED_STACK" Bundle.steD).before args s = true) (lN : (Cond.laysStatic Bundle.tN "SUPPRESSED_SENTINEL" Bundle.listD).before args s = true) : ∀ w ∈ L, w.before args s = true := by
  intro w hw
  by_cases e1 : w = .isRef (.static Bundle.tN "UNASSIGNED_STACK" Bundle.steD)
  · rw [e1]; exact hU
  · by_cases e2 : w = .isRef (.static Bundle.tN "SUPPRESSED_SENTINEL" Bundle.listD)
    · rw [e2]; exact hN
    · by_cases e3 : w = .laysStatic Bundle.tN "UNASSIGNED_STACK" Bundle.steD
      · rw [e3]; exact lU
      · by_cases e4 : w = .laysStatic Bundle.tN "SUPPRESSED_SENTINEL" Bundle.listD
        · rw [e4]; exact lN
        · exact h1 w (List.mem_filter.mpr ⟨hw, by unfold vx_no; rw [decide_eq_true e1, decide_eq_true e2, decide_eq_true e3, decide_eq_true e4]; rfl⟩)
/-- where a static field lies, its class's statics cell in H -/
def vx_L (C n d : String) (A : Nat → Prop) (U : State) (H : Heap) : Prop := ∃ (c : ClassId) (k : Class) (i : Nat) (f : Field) (a : Nat) (cell : Cell), U.vm.findClass C = some c ∧ U.fieldFound? C n d = some (c, k, i, f) ∧ f.isStatic = true ∧ k.statics = some a ∧ H[a]? = some cell ∧ cell.vm.isStatics = true ∧ cell.cls = c ∧ f.slot < cell.slots.size ∧ k.staticTypes[f.slot]? = some f.type ∧ ¬ A a
theorem vx_L.moved {C n d : String} {A : Nat → Prop} {u U : State} {H : Heap} (hvm : u.vm.Alike U.vm) (h : vx_L C n d A u H) : vx_L C n d A U H := by
  obtain ⟨c, k, i, f, a, cell, h1, h2, h3, h4, h5, h6, h7, h8, h9, h10⟩ := h
  obtain ⟨k', hi', he⟩ := State.fieldFound?_setVm hvm h2
  exact ⟨c, k', i, f, a, cell, by rw [hvm.findClass]; exact h1, hi', h3, by rw [he]; exact h4, h5, h6, h7, h8, by rw [he]; exact h9, h10⟩
theorem vx_L.kept {C n d : String} {A : Nat → Prop} {U : State} {H H1 : Heap} (h : vx_L C n d A U H) (hq : ∀ a : Nat, a < H.size → ¬ A a → H1[a]? = H[a]?) : vx_L C n d A U H1 := by
  obtain ⟨c, k, i, f, a, cell, h1, h2, h3, h4, h5, h6, h7, h8, h9, h10⟩ := h
  exact ⟨c, k, i, f, a, cell, h1, h2, h3, h4, by rw [hq a (Array.getElem?_eq_some_iff.mp h5).1 h10]; exact h5, h6, h7, h8, h9, h10⟩
theorem vx_L.narrow {C n d : String} {A B : Nat → Prop} {U : State} {H : Heap} (h : vx_L C n d A U H) (hAB : ∀ q, B q → A q) : vx_L C n d B U H := by
  obtain ⟨c, k, i, f, a, cell, h1, h2, h3, h4, h5, h6, h7, h8, h9, h10⟩ := h
  exact ⟨c, k, i, f, a, cell, h1, h2, h3, h4, h5, h6, h7, h8, h9, fun z => h10 (hAB _ z)⟩
theorem vx_L.word {C n d : String} {A : Nat → Prop} {s : State} {args : Array Value} (h : vx_L C n d A s s.heap) : (Cond.laysStatic C n d).before args s = true := by
  obtain ⟨c, k, i, f, a, cell, h1, h2, h3, h4, h5, h6, h7, h8, h9, -⟩ := h
  show (Cond.laysStatic C n d).holds args s none s [] = true
  exact Cond.laysStatic_of h1 h2 h3 h4 h5 h6 h7 h8 h9
/-- .. and what it holds: null or some reference -/
def vx_Zq (C n d : String) (A : Nat → Prop) (U : State) (H : Heap) : Prop := va_Zq C n d A U H ∧ vx_L C n d A U H
theorem vx_Zq.moved {C n d : String} {A : Nat → Prop} {u U : State} {H : Heap} (hvm : u.vm.Alike U.vm) (h : vx_Zq C n d A u H) : vx_Zq C n d A U H := ⟨va_Zq.moved hvm h.1, vx_L.moved hvm h.2⟩
theorem vx_Zq.kept {C n d : String} {A : Nat → Prop} {U : State} {H H1 : Heap} (h : vx_Zq C n d A U H) (hq : ∀ a : Nat, a < H.size → ¬ A a → H1[a]? = H[a]?) : vx_Zq C n d A U H1 := ⟨va_Zq.kept h.1 hq, vx_L.kept h.2 hq⟩
theorem vx_Zq.narrow {C n d : String} {A B : Nat → Prop} {U : State} {H : Heap} (h : vx_Zq C n d A U H) (hAB : ∀ q, B q → A q) : vx_Zq C n d B U H := ⟨va_Zq.narrow h.1 hAB, vx_L.narrow h.2 hAB⟩
theorem vx_Zqof {args : Array Value} {s : State} {C n d : String} {A : Nat → Prop} (hl : (Cond.laysStatic C n d).before args s = true) (hini : (Cond.initialized C).before args s = true) (h : (Cond.isRef (.static C n d)).before args s = true) (hA : ∀ a : Nat, a < s.heap.size → ¬ A a) : vx_Zq C n d A s s.heap := by
  refine ⟨va_Zqof hl hini h hA, ?_⟩
  obtain ⟨c, k, i, f, a, cell, h1, h2, h3, h4, h5, h6, h7, h8, h9⟩ := Cond.laysStatic_spec hl
  exact ⟨c, k, i, f, a, cell, h1, h2, h3, h4, h5, h6, h7, h8, h9, hA a (Array.getElem?_eq_some_iff.mp h5).1⟩
theorem vx_isRef {C n d : String} {v : Value} {A : Nat → Prop} {s : State} {args : Array Value} (h : va_Z C n d v A s s.heap) (hv : v.isRef = true) : (Cond.isRef (.static C n d)).before args s = true := by
  obtain ⟨cf, kf, fi, f, a, cell, h1, h2, h3, h4, h5, h6, h7, -⟩ := h
  have he : (Term.static C n d).eval args s none [] s = some v := by
    simp [Term.eval, State.fieldNamed?, h1, h2, h4, h5, h6, h7]
  simp only [Cond.before, Cond.holds, Cond.value, he]
  cases v <;> simp_all [Value.isRef]
theorem vx_isRefq {C n d : String} {A : Nat → Prop} {s : State} {args : Array Value} (h : va_Zq C n d A s s.heap) : (Cond.isRef (.static C n d)).before args s = true := by
  rcases h with h | ⟨t, h⟩
  · exact vx_isRef h rfl
  · exact vx_isRef h rfl
/-- the same frame, seen from here: as if the method were called anew in this heap -/
theorem vx_rebase {T : State} (X : Stand p l e R s m args below meth c T locs cells slots) {R' : Room} (hf : R'.frames ≤ R.frames) (hl : R'.locals ≤ R.locals) (hc : cells + R'.cells ≤ R.cells) (hs : slots + R'.slots ≤ R.slots) :
    Stand p l e R' ((T.setVm s.vm).setFrames (.invoking m args :: below)) m args below meth c T [] 0 0 := by
  have htop : (T.setVm s.vm).topJava?.isSome := X.here.top
  have hF : ((T.setVm s.vm).setFrames (.invoking m args :: below)).frames = .invoking m args :: below := State.frames_setFrames _ (State.cur_lt_of_top htop)
  obtain ⟨g₀, hg0⟩ := Option.isSome_iff_exists.mp htop
  obtain ⟨r, hr⟩ := State.topJava?_eq_some.mp hg0
  have hl9 : e.platform.stackLimits (T.setVm s.vm).me = e.platform.stackLimits s.me := X.limits
  have hb9 : (T.setVm s.vm).me.stackBytes = s.me.stackBytes := X.bytes
  refine ⟨X.admits, X.cas, X.clock, hF, ?_, X.hears, X.method, X.code, X.here, X.tail, X.warmed, ?_, ?_, ?_⟩
  · have h := X.room
    have hU : ((T.setVm s.vm).setFrames (.invoking m args :: below)).localsInUse = s.localsInUse := by
      rw [State.localsInUse_invoking hF (meth := meth) (c := c) X.method X.code, State.localsInUse_invoking X.frames X.method X.code]
    simp only [State.hasRoom, Bool.and_eq_true, decide_eq_true_eq] at h ⊢
    obtain ⟨⟨⟨⟨h1, h2, h3, h4, h5, h6⟩, h7⟩, h8⟩, h9⟩ := h
    rw [X.frames, List.length_cons] at h2 h3
    have q1 := X.heapSize
    have q2 := X.used
    simp only [hF, hU, List.length_cons, State.stackLimits_setFrames, State.stackBytes_setFrames, hl9, hb9]
    refine ⟨⟨⟨⟨by omega, by omega, by omega, by omega, by omega, h6⟩, ?_⟩, ?_⟩, X.book⟩
    · show T.heap.size + R'.cells ≤ e.platform.maxCells
      omega
    · show T.slotsUsed + R'.slots ≤ e.platform.maxSlots
      omega
  · rw [State.stackLimits_setFrames]; rfl
  · rw [State.stackBytes_setFrames]; rfl
  · refine ⟨?_, Nat.le_refl _, Nat.le_refl _, ?_, ?_, fun a c9 h9 => ⟨c9, h9, rfl, rfl, fun _ _ => rfl⟩⟩
    · obtain ⟨t, ht, -⟩ := State.frames_cons hr
      show T.setVm s.vm = { ((T.setVm s.vm).setFrames (.invoking m args :: below)).setFrames (T.setVm s.vm).frames with heap := T.heap, slotsUsed := T.slotsUsed }
      rw [State.setFrames_setFrames, State.setFrames_self ht]
      rfl
    · show T.slotsUsed = T.slotsUsed + ((T.heap.toList.drop T.heap.size).map (·.slots.size)).sum
      rw [List.drop_eq_nil_of_le (Nat.le_of_eq Array.length_toList)]
      rfl
    · show ((T.heap.toList.drop T.heap.size).map (·.slots.size)).sum ≤ 0
      rw [List.drop_eq_nil_of_le (Nat.le_of_eq Array.length_toList)]
      exact Nat.le_refl _
/-- 'throw new E()': new; dup; invokespecial; athrow -/
theorem vx_throw0 {cc : ByteArray} {pc : Nat} (hexec : p.tables.exec = Jvm.exec) (hb : c.code = cc) (hl : l.stackTraces = false) {own cls : String} {names : List String} {ik ic mc ms : Nat} {A : Nat → Prop}
    (hown : s.vm.findClass own = some m.cls) (hcls : Bundle.fit cls = true) (hnames : ∀ n ∈ names, Bundle.fit n = true)
    (hk : (Cond.classLink own ik cls).before args s = true) (hini : (Cond.initialized cls).before args s = true) (hat : ∀ w ∈ vx_at0 own ic cls names, w.before args s = true)
    (hgood : ∀ w ∈ Cond.classLink own ik cls :: Cond.initialized cls :: vx_at0 own ic cls names, vx_ot w = true)
    (hU : vx_Zq Bundle.tN "UNASSIGNED_STACK" Bundle.steD A s s.heap) (hN : vx_Zq Bundle.tN "SUPPRESSED_SENTINEL" Bundle.listD A s s.heap) (hS : va_S A s.heap H locs) (hsize : ls.size = c.maxLocals)
    (d0 : decode cc pc = .ok (.new ik, 3)) (d3 : decode cc (pc + 3) = .ok (.dup, 1)) (d4 : decode cc (pc + 4) = .ok (.invokespecial ic, 3)) (d7 : decode cc (pc + 7) = .ok (.athrow, 1))
    (hout : ∀ x ∈ c.exceptionTable.toList, covers x (pc + 7) = false)
    (hRframes : names.length + 3 < R.frames) (hRlocals : (rest.map fun v => v.category).sum + (13 * (names.length + 1) + 42) ≤ R.locals) (hRcells : cells + 1 ≤ R.cells) (hRslots : slots + 6 ≤ R.slots) (hlocks : meth.locks = false)
    (hx : ∀ t : State, s.vm.Alike t.vm → H.size ≤ t.heap.size → (∀ q : Nat, q < H.size → t.heap[q]? = H[q]?) → XC cls s t)
    (hf : ∀ z ∈ locs, free z.base) (hc : cells + 1 ≤ mc) (hs : slots + 6 ≤ ms) :
    W p l e R s m args below meth c H locs cells slots (vx_MQ below Qc XC args s mc ms free) (F0 m pc ls rest) := by
  intro T hT X
  have htr : e.platform.stackTraces = false := (show e.platform.stackTraces = l.stackTraces by rw [X.admits.platform]).trans hl
  have Y := vx_rebase X (R' := { frames := R.frames, locals := R.locals, cells := 1, slots := 6 }) (Nat.le_refl _) (Nat.le_refl _) hRcells hRslots
  obtain ⟨s', hA⟩ : ∃ z, z = (T.setVm s.vm).setFrames (.invoking m args :: below) := ⟨_, rfl⟩
  rw [← hA] at Y
  have hvm : s'.vm = s.vm := by rw [hA]; rfl
  have hhp : s'.heap = H := by rw [hA]; exact hT
  have hW0 : s.WarmedH s'.vm := by rw [hvm]; exact State.WarmedH.refl s
  have hat' : ∀ w ∈ vx_at0 own ic cls names, w.before args s' = true := fun w hw => vx_ot_at hW0 hvm.symm (hgood w (List.mem_cons_of_mem _ (List.mem_cons_of_mem _ hw))) (hat w hw)
  have hk' : (Cond.classLink own ik cls).before args s' = true := vx_ot_at hW0 hvm.symm (hgood _ List.mem_cons_self) hk
  have hini' : (Cond.initialized cls).before args s' = true := vx_ot_at hW0 hvm.symm (hgood _ (List.mem_cons_of_mem _ List.mem_cons_self)) hini
  have hU' : vx_Zq Bundle.tN "UNASSIGNED_STACK" Bundle.steD A s' s'.heap := by rw [hhp]; exact vx_Zq.moved hW0.alike (hU.kept hS.2.1)
  have hN' : vx_Zq Bundle.tN "SUPPRESSED_SENTINEL" Bundle.listD A s' s'.heap := by rw [hhp]; exact vx_Zq.moved hW0.alike (hN.kept hS.2.1)
  have h : ∀ w ∈ Bundle.ownAtoms0 own ic cls names, w.before args s' = true := vx_own hat' (vx_isRefq hU'.1) (vx_isRefq hN'.1) hU'.2.word hN'.2.word
  have hown' : s'.vm.findClass own = some m.cls := by rw [hvm]; exact hown
  have hins : (Cond.instantiable cls 6).before args s' = true := h _ (by simp [Bundle.ownAtoms0])
  obtain ⟨vm₁, cX, kX, hfX, hkX, -, -, X₁, st1⟩ := Y.newCold hexec (own := own) (C := cls) (index := ik) (n := 6) hown' hk' hins hini'
    (g := F0 m pc ls rest) rfl (by rw [hb]; exact d0) (Nat.le_refl _) (Nat.le_refl _)
  generalize hT1 : (T.setVm vm₁).pushCell { cls := cX, slots := kX.instanceTypes.map defaultValue, vm := .none } = T1 at X₁ st1
  have hcat : (Value.ref T.heap.size).category = 1 := rfl
  have hcellA : T1.heap[T.heap.size]? = some (freshCell cX kX) := by rw [← hT1]; exact State.heap_pushCell_size _ _
  have d3' : decode c.code (pc + 3) = .ok (.dup, 1) := by rw [hb]; exact d3
  obtain ⟨U, hsteps, hrun, hend, hW, hsame, ce, hce, hO⟩ := X₁.ctorThrow0 hexec htr (own := own) (cls := cls) (names := names) (ic := ic) hown' hcls hnames h (fun x hx => nomatch hx) hfX hkX hcellA (by rw [hhp, hT]; exact Nat.le_refl _)
    (g := { method := m, pc := pc + 4, locals := ls, stack := .ref T.heap.size :: .ref T.heap.size :: rest, locked := none }) rfl hsize rfl rfl (rest := rest) rfl
    (by rw [hb]; exact d4) (by rw [hb]; exact d7) hout hRframes (by simp only [List.map_cons, List.sum_cons, hcat]; omega) hlocks
  obtain ⟨f1, f2⟩ := vx_frame hsame
  rw [hhp] at f1 f2
  have hWs : s.WarmedH U.vm := State.WarmedH.trans hW0 hW
  have hcl : s.vm.findClass cls = some ce.cls := by
    have h9 := hO.cls
    rw [hvm] at h9
    exact h9
  have hall : s.sameButNew ({ U with vm := s.vm } : State) locs mc ms := by
    subst hA
    obtain ⟨e1, e2⟩ := hsame
    rw [State.setFrames_setFrames] at e1
    have h2 : (T.setVm s.vm).sameButNew ({ U with vm := s.vm } : State) [] (0 + 1) (0 + 6) := ⟨e1, e2⟩
    have h3 := X.same.trans h2
    rw [List.append_nil] at h3
    exact h3.mono hc hs
  refine ⟨U, ?_, .threw T.heap.size, hrun, hend, Or.inr ⟨T.heap.size, rfl, cls, ce, locs, hx U hWs.alike f1 (fun q hq => f2 q hq (fun z hz => nomatch hz)), hce, hO.vm, hcl, hWs, hall, hf⟩⟩
  refine st1 _ ?_
  show Steps p.tables e below (T1.setTop { method := m, pc := pc + 3, locals := ls, stack := .ref T.heap.size :: rest, locked := none }) _
  jvm_step X₁.here [X₁.here.top, hexec, d3', Value.category]
  exact hsteps
/-- 'throw new E("text")': new; dup; ldc; invokespecial; athrow -/
theorem vx_throwS {cc : ByteArray} {pc : Nat} (hexec : p.tables.exec = Jvm.exec) (hb : c.code = cc) (hl : l.stackTraces = false) {own cls text : String} {names : List String} {ik is ic mc ms sa : Nat} {A : Nat → Prop}
    (hown : s.vm.findClass own = some m.cls) (hcls : Bundle.fit cls = true) (hnames : ∀ n ∈ names, Bundle.fit n = true)
    (hk : (Cond.classLink own ik cls).before args s = true) (hini : (Cond.initialized cls).before args s = true) (hstr : vk_R own is text sa s) (hat : ∀ w ∈ vx_atS own ic cls names, w.before args s = true)
    (hgood : ∀ w ∈ Cond.classLink own ik cls :: Cond.initialized cls :: vx_atS own ic cls names, vx_ot w = true)
    (hU : vx_Zq Bundle.tN "UNASSIGNED_STACK" Bundle.steD A s s.heap) (hN : vx_Zq Bundle.tN "SUPPRESSED_SENTINEL" Bundle.listD A s s.heap) (hS : va_S A s.heap H locs) (hsize : ls.size = c.maxLocals)
    (d0 : decode cc pc = .ok (.new ik, 3)) (d3 : decode cc (pc + 3) = .ok (.dup, 1)) (d4 : decode cc (pc + 4) = .ok (.ldc is, 2)) (d6 : decode cc (pc + 6) = .ok (.invokespecial ic, 3)) (d9 : decode cc (pc + 9) = .ok (.athrow, 1))
    (hout : ∀ x ∈ c.exceptionTable.toList, covers x (pc + 9) = false)
    (hRframes : names.length + 3 < R.frames) (hRlocals : (rest.map fun v => v.category).sum + (13 * (names.length + 1) + 43) ≤ R.locals) (hRcells : cells + 1 ≤ R.cells) (hRslots : slots + 6 ≤ R.slots) (hlocks : meth.locks = false)
    (hx : ∀ t : State, s.vm.Alike t.vm → H.size ≤ t.heap.size → (∀ q : Nat, q < H.size → t.heap[q]? = H[q]?) → XC cls s t)
    (hf : ∀ z ∈ locs, free z.base) (hc : cells + 1 ≤ mc) (hs : slots + 6 ≤ ms) :
    W p l e R s m args below meth c H locs cells slots (vx_MQ below Qc XC args s mc ms free) (F0 m pc ls rest) := by
  intro T hT X
  have htr : e.platform.stackTraces = false := (show e.platform.stackTraces = l.stackTraces by rw [X.admits.platform]).trans hl
  have Y := vx_rebase X (R' := { frames := R.frames, locals := R.locals, cells := 1, slots := 6 }) (Nat.le_refl _) (Nat.le_refl _) hRcells hRslots
  obtain ⟨s', hA⟩ : ∃ z, z = (T.setVm s.vm).setFrames (.invoking m args :: below) := ⟨_, rfl⟩
  rw [← hA] at Y
  have hvm : s'.vm = s.vm := by rw [hA]; rfl
  have hhp : s'.heap = H := by rw [hA]; exact hT
  have hW0 : s.WarmedH s'.vm := by rw [hvm]; exact State.WarmedH.refl s
  have hat' : ∀ w ∈ vx_atS own ic cls names, w.before args s' = true := fun w hw => vx_ot_at hW0 hvm.symm (hgood w (List.mem_cons_of_mem _ (List.mem_cons_of_mem _ hw))) (hat w hw)
  have hk' : (Cond.classLink own ik cls).before args s' = true := vx_ot_at hW0 hvm.symm (hgood _ List.mem_cons_self) hk
  have hini' : (Cond.initialized cls).before args s' = true := vx_ot_at hW0 hvm.symm (hgood _ (List.mem_cons_of_mem _ List.mem_cons_self)) hini
  have hU' : vx_Zq Bundle.tN "UNASSIGNED_STACK" Bundle.steD A s' s'.heap := by rw [hhp]; exact vx_Zq.moved hW0.alike (hU.kept hS.2.1)
  have hN' : vx_Zq Bundle.tN "SUPPRESSED_SENTINEL" Bundle.listD A s' s'.heap := by rw [hhp]; exact vx_Zq.moved hW0.alike (hN.kept hS.2.1)
  have h : ∀ w ∈ Bundle.ownAtoms own ic cls names, w.before args s' = true := vx_own hat' (vx_isRefq hU'.1) (vx_isRefq hN'.1) hU'.2.word hN'.2.word
  have hown' : s'.vm.findClass own = some m.cls := by rw [hvm]; exact hown
  have hins : (Cond.instantiable cls 6).before args s' = true := h _ (by simp [Bundle.ownAtoms])
  obtain ⟨vm₁, cX, kX, hfX, hkX, -, -, X₁, st1⟩ := Y.newCold hexec (own := own) (C := cls) (index := ik) (n := 6) hown' hk' hins hini'
    (g := F0 m pc ls rest) rfl (by rw [hb]; exact d0) (Nat.le_refl _) (Nat.le_refl _)
  generalize hT1 : (T.setVm vm₁).pushCell { cls := cX, slots := kX.instanceTypes.map defaultValue, vm := .none } = T1 at X₁ st1
  have hcat : (Value.ref T.heap.size).category = 1 := rfl
  have hcellA : T1.heap[T.heap.size]? = some (freshCell cX kX) := by rw [← hT1]; exact State.heap_pushCell_size _ _
  have d3' : decode c.code (pc + 3) = .ok (.dup, 1) := by rw [hb]; exact d3
  have d4' : decode c.code (pc + 4) = .ok (.ldc is, 2) := by rw [hb]; exact d4
  have hstr' : vk_R own is text sa s' := vk_R.warm hW0 hstr
  obtain ⟨U, hsteps, hrun, hend, hW, hsame, ce, hce, hO⟩ := X₁.ctorThrowS hexec htr (own := own) (cls := cls) (names := names) (ic := ic) hown' hcls hnames h (fun x hx => nomatch hx) hfX hkX hcellA (by rw [hhp, hT]; exact Nat.le_refl _) (msg := .ref sa) rfl
    (g := { method := m, pc := pc + 6, locals := ls, stack := .ref sa :: .ref T.heap.size :: .ref T.heap.size :: rest, locked := none }) rfl hsize rfl rfl (rest := rest) rfl
    (by rw [hb]; exact d6) (by rw [hb]; exact d9) hout hRframes (by simp only [List.map_cons, List.sum_cons, hcat]; omega) hlocks
  obtain ⟨f1, f2⟩ := vx_frame hsame
  rw [hhp] at f1 f2
  have hWs : s.WarmedH U.vm := State.WarmedH.trans hW0 hW
  have hcl : s.vm.findClass cls = some ce.cls := by
    have h9 := hO.cls
    rw [hvm] at h9
    exact h9
  have hall : s.sameButNew ({ U with vm := s.vm } : State) locs mc ms := by
    subst hA
    obtain ⟨e1, e2⟩ := hsame
    rw [State.setFrames_setFrames] at e1
    have h2 : (T.setVm s.vm).sameButNew ({ U with vm := s.vm } : State) [] (0 + 1) (0 + 6) := ⟨e1, e2⟩
    have h3 := X.same.trans h2
    rw [List.append_nil] at h3
    exact h3.mono hc hs
  refine ⟨U, ?_, .threw T.heap.size, hrun, hend, Or.inr ⟨T.heap.size, rfl, cls, ce, locs, hx U hWs.alike f1 (fun q hq => f2 q hq (fun z hz => nomatch hz)), hce, hO.vm, hcl, hWs, hall, hf⟩⟩
  refine st1 _ ?_
  show Steps p.tables e below (T1.setTop { method := m, pc := pc + 3, locals := ls, stack := .ref T.heap.size :: rest, locked := none }) _
  jvm_step X₁.here [X₁.here.top, hexec, d3', Value.category]
  exact X₁.ldcString hexec (own := own) (text := text) (index := is) (a := sa) hown' hstr'.1 hstr'.2
    (g := { method := m, pc := pc + 4, locals := ls, stack := .ref T.heap.size :: .ref T.heap.size :: rest, locked := none }) rfl d4' _ hsteps
/-- 'throw new E("text")', the text by a wide index -/
theorem vx_throwSW {cc : ByteArray} {pc : Nat} (hexec : p.tables.exec = Jvm.exec) (hb : c.code = cc) (hl : l.stackTraces = false) {own cls text : String} {names : List String} {ik is ic mc ms sa : Nat} {A : Nat → Prop}
    (hown : s.vm.findClass own = some m.cls) (hcls : Bundle.fit cls = true) (hnames : ∀ n ∈ names, Bundle.fit n = true)
    (hk : (Cond.classLink own ik cls).before args s = true) (hini : (Cond.initialized cls).before args s = true) (hstr : vk_R own is text sa s) (hat : ∀ w ∈ vx_atS own ic cls names, w.before args s = true)
    (hgood : ∀ w ∈ Cond.classLink own ik cls :: Cond.initialized cls :: vx_atS own ic cls names, vx_ot w = true)
    (hU : vx_Zq Bundle.tN "UNASSIGNED_STACK" Bundle.steD A s s.heap) (hN : vx_Zq Bundle.tN "SUPPRESSED_SENTINEL" Bundle.listD A s s.heap) (hS : va_S A s.heap H locs) (hsize : ls.size = c.maxLocals)
    (d0 : decode cc pc = .ok (.new ik, 3)) (d3 : decode cc (pc + 3) = .ok (.dup, 1)) (d4 : decode cc (pc + 4) = .ok (.ldc_w is, 3)) (d7 : decode cc (pc + 7) = .ok (.invokespecial ic, 3)) (d10 : decode cc (pc + 10) = .ok (.athrow, 1))
    (hout : ∀ x ∈ c.exceptionTable.toList, covers x (pc + 10) = false)
    (hRframes : names.length + 3 < R.frames) (hRlocals : (rest.map fun v => v.category).sum + (13 * (names.length + 1) + 43) ≤ R.locals) (hRcells : cells + 1 ≤ R.cells) (hRslots : slots + 6 ≤ R.slots) (hlocks : meth.locks = false)
    (hx : ∀ t : State, s.vm.Alike t.vm → H.size ≤ t.heap.size → (∀ q : Nat, q < H.size → t.heap[q]? = H[q]?) → XC cls s t)
    (hf : ∀ z ∈ locs, free z.base) (hc : cells + 1 ≤ mc) (hs : slots + 6 ≤ ms) :
    W p l e R s m args below meth c H locs cells slots (vx_MQ below Qc XC args s mc ms free) (F0 m pc ls rest) := by
  intro T hT X
  have htr : e.platform.stackTraces = false := (show e.platform.stackTraces = l.stackTraces by rw [X.admits.platform]).trans hl
  have Y := vx_rebase X (R' := { frames := R.frames, locals := R.locals, cells := 1, slots := 6 }) (Nat.le_refl _) (Nat.le_refl _) hRcells hRslots
  obtain ⟨s', hA⟩ : ∃ z, z = (T.setVm s.vm).setFrames (.invoking m args :: below) := ⟨_, rfl⟩
  rw [← hA] at Y
  have hvm : s'.vm = s.vm := by rw [hA]; rfl
  have hhp : s'.heap = H := by rw [hA]; exact hT
  have hW0 : s.WarmedH s'.vm := by rw [hvm]; exact State.WarmedH.refl s
  have hat' : ∀ w ∈ vx_atS own ic cls names, w.before args s' = true := fun w hw => vx_ot_at hW0 hvm.symm (hgood w (List.mem_cons_of_mem _ (List.mem_cons_of_mem _ hw))) (hat w hw)
  have hk' : (Cond.classLink own ik cls).before args s' = true := vx_ot_at hW0 hvm.symm (hgood _ List.mem_cons_self) hk
  have hini' : (Cond.initialized cls).before args s' = true := vx_ot_at hW0 hvm.symm (hgood _ (List.mem_cons_of_mem _ List.mem_cons_self)) hini
  have hU' : vx_Zq Bundle.tN "UNASSIGNED_STACK" Bundle.steD A s' s'.heap := by rw [hhp]; exact vx_Zq.moved hW0.alike (hU.kept hS.2.1)
  have hN' : vx_Zq Bundle.tN "SUPPRESSED_SENTINEL" Bundle.listD A s' s'.heap := by rw [hhp]; exact vx_Zq.moved hW0.alike (hN.kept hS.2.1)
  have h : ∀ w ∈ Bundle.ownAtoms own ic cls names, w.before args s' = true := vx_own hat' (vx_isRefq hU'.1) (vx_isRefq hN'.1) hU'.2.word hN'.2.word
  have hown' : s'.vm.findClass own = some m.cls := by rw [hvm]; exact hown
  have hins : (Cond.instantiable cls 6).before args s' = true := h _ (by simp [Bundle.ownAtoms])
  obtain ⟨vm₁, cX, kX, hfX, hkX, -, -, X₁, st1⟩ := Y.newCold hexec (own := own) (C := cls) (index := ik) (n := 6) hown' hk' hins hini'
    (g := F0 m pc ls rest) rfl (by rw [hb]; exact d0) (Nat.le_refl _) (Nat.le_refl _)
  generalize hT1 : (T.setVm vm₁).pushCell { cls := cX, slots := kX.instanceTypes.map defaultValue, vm := .none } = T1 at X₁ st1
  have hcat : (Value.ref T.heap.size).category = 1 := rfl
  have hcellA : T1.heap[T.heap.size]? = some (freshCell cX kX) := by rw [← hT1]; exact State.heap_pushCell_size _ _
  have d3' : decode c.code (pc + 3) = .ok (.dup, 1) := by rw [hb]; exact d3
  have d4' : decode c.code (pc + 4) = .ok (.ldc_w is, 3) := by rw [hb]; exact d4
  have hstr' : vk_R own is text sa s' := vk_R.warm hW0 hstr
  obtain ⟨U, hsteps, hrun, hend, hW, hsame, ce, hce, hO⟩ := X₁.ctorThrowS hexec htr (own := own) (cls := cls) (names := names) (ic := ic) hown' hcls hnames h (fun x hx => nomatch hx) hfX hkX hcellA (by rw [hhp, hT]; exact Nat.le_refl _) (msg := .ref sa) rfl
    (g := { method := m, pc := pc + 7, locals := ls, stack := .ref sa :: .ref T.heap.size :: .ref T.heap.size :: rest, locked := none }) rfl hsize rfl rfl (rest := rest) rfl
    (by rw [hb]; exact d7) (by rw [hb]; exact d10) hout hRframes (by simp only [List.map_cons, List.sum_cons, hcat]; omega) hlocks
  obtain ⟨f1, f2⟩ := vx_frame hsame
  rw [hhp] at f1 f2
  have hWs : s.WarmedH U.vm := State.WarmedH.trans hW0 hW
  have hcl : s.vm.findClass cls = some ce.cls := by
    have h9 := hO.cls
    rw [hvm] at h9
    exact h9
  have hall : s.sameButNew ({ U with vm := s.vm } : State) locs mc ms := by
    subst hA
    obtain ⟨e1, e2⟩ := hsame
    rw [State.setFrames_setFrames] at e1
    have h2 : (T.setVm s.vm).sameButNew ({ U with vm := s.vm } : State) [] (0 + 1) (0 + 6) := ⟨e1, e2⟩
    have h3 := X.same.trans h2
    rw [List.append_nil] at h3
    exact h3.mono hc hs
  refine ⟨U, ?_, .threw T.heap.size, hrun, hend, Or.inr ⟨T.heap.size, rfl, cls, ce, locs, hx U hWs.alike f1 (fun q hq => f2 q hq (fun z hz => nomatch hz)), hce, hO.vm, hcl, hWs, hall, hf⟩⟩
  refine st1 _ ?_
  show Steps p.tables e below (T1.setTop { method := m, pc := pc + 3, locals := ls, stack := .ref T.heap.size :: rest, locked := none }) _
  jvm_step X₁.here [X₁.here.top, hexec, d3', Value.category]
  exact X₁.ldcStringW hexec (own := own) (text := text) (index := is) (a := sa) hown' hstr'.1 hstr'.2
    (g := { method := m, pc := pc + 4, locals := ls, stack := .ref T.heap.size :: .ref T.heap.size :: rest, locked := none }) rfl d4' _ hsteps
end Ends
section Bodies
variable {l : Launch}
theorem vx_ofW {y : MethodName} {ws ws' : List Cond} {rm : Room} {Pc : Array Value → State → Prop} {Qc : Array Value → State → Outcome → State → Prop} {XC : String → State → State → Prop} {mc ms : Nat} {free : Addr → Prop} {cc : ByteArray} {maxL : Nat} {ret : Option FieldType}
    (hy : plainName y.cls = true) (hw : ws = Cond.code y cc maxL ret :: ws')
    (body : ∀ p e s m args below meth c s₁, BodyLoose p l y (headSpec ws rm) cc maxL ret e s m args below meth c s₁ → c.maxLocals = maxL → (∀ x ∈ c.exceptionTable.toList, False) → Pc args s →
      W p l e (headSpec ws rm).room s m args below meth c s.heap [] 0 0 (vx_MQ below Qc XC args s mc ms free) (entryFrame m args maxL)) : vx_Met l y ws rm Pc Qc XC mc ms free := by
  refine MetFree.of_bodyS (code := cc) (maxLocals := maxL) (ret := ret) hy ?_ ?_
  · intro args s m h hn
    obtain ⟨meth, c, h1, h2, h3, h4, h5, h6, -, -⟩ := Cond.code_spec hn (atoms_spec (ws := ws) h _ (by rw [hw]; exact List.mem_cons_self))
    exact ⟨meth, c, h1, h2, h3, h4, h5, h6⟩
  · intro p e s m args below meth c s₁ B hml hP _
    have hh0 : s₁.heap = s.heap := by rw [B.state]; rfl
    have ht : ∀ x ∈ c.exceptionTable.toList, False := by
      obtain ⟨meth9, c9, h1, h2, -, -, -, -, h7, -⟩ := Cond.code_spec B.named (atoms_spec (ws := ws) B.pre _ (by rw [hw]; exact List.mem_cons_self))
      cases Option.some.inj (h1.symm.trans B.method)
      cases Option.some.inj (h2.symm.trans (Stand.of_body B).code)
      intro x hx
      rw [Array.isEmpty_iff.mp h7] at hx
      cases hx
    obtain ⟨t, a1, o, b1, b2, b3⟩ := body p e s m args below meth c s₁ B hml ht hP s₁ hh0 (Stand.of_body B)
    exact ⟨t, o, a1, b1, b2, b3⟩
/-- the table of a body with handlers -/
theorem vx_table {p : Program} {x y : MethodName} {S : Spec} {cc bytes : ByteArray} {maxL maxL' : Nat} {ret ret' : Option FieldType} {e : Env} {s s₁ : State} {m : MethodId} {args : Array Value} {below : List Frame} {meth : Method} {c : Code} {hh : List (Nat × Nat × Nat × Nat)}
    (B : BodyLoose p l y S cc maxL ret e s m args below meth c s₁) (h : (Cond.codeWith y bytes maxL' ret' hh).before args s = true) : c.exceptionTable.toList = tableOf hh := by
  obtain ⟨m9, meth9, c9, hn9, h1, h2, -, -, h6, -⟩ := Cond.codeWith_spec h
  cases Option.some.inj (hn9.symm.trans B.named)
  cases Option.some.inj (h1.symm.trans B.method)
  cases Option.some.inj (h2.symm.trans (Stand.of_body B).code)
  rw [← h6, table_eq]
end Bodies
end VXA
/-! ===== END ===== -/
/-! ===== BEGIN a static call of a method with an exception table ===== -/
section VXS
variable {p : Program} {l : Launch} {e : Env} {R : Room} {s : State} {m : MethodId} {args : Array Value} {below : List Frame} {meth : Method} {c : Code} {T : State} {H : Heap} {locs : List Loc} {cells slots : Nat}
abbrev vx_CSW (R : Room) (s : State) (args : Array Value) (own : String) (index : Nat) (y : MethodName) (bytes : ByteArray) (maxL : Nat) (ret : Option FieldType) (hh : List (Nat × Nat × Nat × Nat)) (ws : List Cond) (rm : Room) (mc ms n : Nat) : Prop :=
  (rm.cells = mc ∧ rm.slots = ms ∧ rm.frames + 1 ≤ R.frames ∧ 8 + (maxL + 11) + rm.locals ≤ R.locals ∧ (∀ w ∈ ws, ∀ (a' : Array Value) (U : State), s.WarmedH U.vm → w.before a' U = true) ∧ Cond.codeWith y bytes maxL ret hh ∈ ws) ∧
  (Cond.codeWith y bytes maxL ret hh).before args s = true ∧ (Cond.initialized y.cls).before args s = true ∧ (y.cls ≠ "java/lang/invoke/MethodHandle" ∧ y.cls ≠ "java/lang/invoke/VarHandle") ∧
  (∀ sig, parseMethodDescriptor y.desc = some sig → n = sig.parameters.length) ∧ (Cond.methodLink own index y).before args s = true ∧ (Cond.static y).before args s = true
theorem vx_cwSW {own : String} {index maxL mc ms : Nat} {y : MethodName} {bytes : ByteArray} {ret : Option FieldType} {hh : List (Nat × Nat × Nat × Nat)} {Ts ws ws' : List Cond} {rm : Room} (n : Nat) (ht : ∀ w ∈ Ts, w.before args s = true) (hT : GoodIn Ts (va_wsS own index y ws)) (hw : ws = Cond.codeWith y bytes maxL ret hh :: ws') (hrc : rm.cells = mc) (hrs : rm.slots = ms)
    (hd : y.cls ≠ "java/lang/invoke/MethodHandle" ∧ y.cls ≠ "java/lang/invoke/VarHandle" ∧ (parseMethodDescriptor y.desc).map (fun d => d.parameters.length) = some n) (hR : rm.frames + 1 ≤ R.frames ∧ 8 + (maxL + 11) + rm.locals ≤ R.locals) :
    vx_CSW R s args own index y bytes maxL ret hh ws rm mc ms n := by
  have ok : ∀ w ∈ va_wsS own index y ws, w.before args s = true := fun w h => ht w (hT w h).1
  have hG : GoodIn Ts ws := fun w h => hT w (by unfold va_wsS; exact List.mem_append_right _ h)
  have hc : Cond.codeWith y bytes maxL ret hh ∈ ws := by rw [hw]; exact List.mem_cons_self
  refine ⟨⟨hrc, hrs, hR.1, hR.2, pay_in ht hG, hc⟩, ht _ (hG _ hc).1, ok _ (by simp [va_wsS]), ⟨hd.1, hd.2.1⟩, fun sig h => ?_, ok _ (by simp [va_wsS]), ok _ (by simp [va_wsS])⟩
  have h2 := hd.2.2
  rw [h] at h2
  exact (Option.some.inj h2).symm
theorem vx_callSW (X : Stand p l e R s m args below meth c T locs cells slots) (hexec : p.tables.exec = Jvm.exec) {own : String} {index : Nat} {y : MethodName} {bytes : ByteArray} {maxL : Nat} {ret : Option FieldType} {hh : List (Nat × Nat × Nat × Nat)}
    (hown : s.vm.findClass own = some m.cls) (hlink : (Cond.methodLink own index y).before args s = true) (hstat : (Cond.static y).before args s = true) (hinit : (Cond.initialized y.cls).before args s = true)
    (hcode : (Cond.codeWith y bytes maxL ret hh).before args s = true) (hy : y.cls ≠ "java/lang/invoke/MethodHandle" ∧ y.cls ≠ "java/lang/invoke/VarHandle")
    {W9 : Nat} {Pre : Pt → Array Value → Prop} {Post : Pt → Array Value → Option Value → Pt → Prop} (hK : Back l R p e below s args y 3 W9 Pre Post)
    {g : JFrame} (hg : g.method = m) (hsize : g.locals.size = c.maxLocals) {argsL rest : List Value} (hlen : ∀ sig, parseMethodDescriptor y.desc = some sig → argsL.length = sig.parameters.length)
    (hstack : g.stack = argsL.reverse ++ rest) (hW : 2 * g.monitorRoom + (rest.map fun v => v.category).sum ≤ W9) (hdg : decode c.code g.pc = .ok (.invokestatic index, 3))
    (hpre : ∀ vm₁, s.WarmedH vm₁ → Pre ⟨T.setVm vm₁, locs, cells, slots⟩ argsL.toArray) :
    ∃ (v : Option Value) (vm₁ : Vm) (B : Pt), s.WarmedH vm₁ ∧ Stand p l e R s m args below meth c B.U B.locs B.cells B.slots ∧ Post ⟨T.setVm vm₁, locs, cells, slots⟩ argsL.toArray v B ∧
      ∀ target, Steps p.tables e below (B.U.setTop { g with pc := g.pc + 3, stack := v.toList ++ rest }) target → Steps p.tables e below (T.setTop g) target := by
  obtain ⟨mk, methM, cM, hnamed, hmethM, -, -, -, -, -, -, hsigM⟩ := Cond.codeWith_spec hcode
  have hstatic : methM.isStatic = true := Cond.static_spec hnamed hmethM hstat
  obtain ⟨kP, hkP, -⟩ := className_of_methodNamed hnamed
  have hinitP : kP.init = .initialized := Cond.initialized_spec (findClass_of_methodNamed hnamed) hkP hinit
  obtain ⟨vm₁, X₁, hstep₁⟩ := X.invokestatic hexec hown hlink hnamed hmethM hstatic hkP hinitP hy (g := g) hg (argsL := argsL) (rest := rest) (hlen _ hsigM) hstack hdg
  obtain ⟨v, B, X', hpost, hsteps⟩ := hK m meth c ⟨T.setVm vm₁, locs, cells, slots⟩ { g with stack := rest } (.invokestatic index) mk argsL.toArray X₁ hg hsize hdg hW (X₁.named hnamed) (hpre vm₁ X₁.warmed)
  exact ⟨v, vm₁, B, X₁.warmed, X', hpost, fun target h => hstep₁ _ fun acts => by rw [doInvoke_state]; exact hsteps.trans h⟩
theorem vx_runSW {y : MethodName} {bytes cc : ByteArray} {maxL nL mc ms n index : Nat} {ret : Option FieldType} {hh : List (Nat × Nat × Nat × Nat)} {ws : List Cond} {rm : Room} {Pc : Array Value → State → Prop} {Qc : Array Value → State → Outcome → State → Prop} {free : Addr → Prop} {Ts : List Cond} {own : String} {As rest : List Value} {g : JFrame}
    (S : CallFix p m c cc nL s args Ts own) (hM : Met l y ws rm Pc Qc mc ms free) (cw : vx_CSW R s args own index y bytes maxL ret hh ws rm mc ms n) (hp : PreS s H Pc As)
    (hg : g.method = m) (hn : As.length = n) (hsize : g.locals.size = nL) (hstack : g.stack = As.reverse ++ rest) (hW : 2 * g.monitorRoom + (rest.map fun v => v.category).sum ≤ 8) (hdg : decode cc g.pc = .ok (.invokestatic index, 3)) (hf : cells + mc ≤ R.cells ∧ slots + ms ≤ R.slots) :
    va_Run p l e R s m args below meth c H locs cells slots mc ms g rest (Qc As.toArray) (free) := by
  obtain ⟨⟨hrc, hrs, hfr, hlo, hws, hcw⟩, hcode, hini, hy, hlen, hl, hstt⟩ := cw
  have hK : Back l R p e below s args y 3 8 (PreOf R mc ms Pc) (PostOf Qc mc ms free) := va_backW (hh := hh) (bytes := bytes) (maxL := maxL) (ret := ret) hM hp.1 hrc hrs hfr hlo hws hcw (fun a' U hW => word_at hW (Or.inl (by first | rfl | simp [Cond.onTables, Cond.keeps, Cond.steady])) hini)
  obtain ⟨hx, hb, hml, ho, -⟩ := S
  intro T hT X
  obtain ⟨v, vm₁, ⟨U', l2, c2, s2⟩, hW₁, X', ⟨g', mk, t, L, e1, e2, hq, h1, hL, h2, h3⟩, st⟩ := vx_callSW X hx (hh := hh) (bytes := bytes) (maxL := maxL) (ret := ret) ho hl hstt hini hcode hy hK hg (hsize.trans hml.symm) (argsL := As) (rest := rest) (fun sig h => hn.trans (hlen sig h)) hstack hW (by rw [hb]; exact hdg)
    (fun vm₁ hW₁ => ⟨hf.1, hf.2, hp.2 (T.setVm vm₁) hT hW₁⟩)
  dsimp only [Pt.U, Pt.locs, Pt.cells, Pt.slots] at X' e1 e2 h1 h2 h3 st
  subst h1; subst h2; subst h3
  exact ⟨v, (T.setVm vm₁).calling g' mk As.toArray, t, U', L, hT, X', hL, e1, e2, hq, st⟩
/-- not caught here, past rows that name other classes: it goes on to the caller -/
theorem vx_outP {p : Program} {l : Launch} {e : Env} {R : Room} {s : State} {m : MethodId} {args : Array Value} {below : List Frame} {meth : Method} {c : Code} {H : Heap} {locs : List Loc} {cells slots : Nat} {free : Addr → Prop} {ls : Array Slot} {rest : List Value} {Qc : Array Value → State → Outcome → State → Prop} {XC : String → State → State → Prop}
    {pc : Nat} {own E : String} {ce : Cell} {q : Addr} {mc ms : Nat} (hown : s.vm.findClass own = some m.cls) (hlocks : meth.locks = false)
    (hpass : ∀ z ∈ c.exceptionTable.toList, covers z pc = false ∨ (z.catchType ≠ 0 ∧ ∃ nm : String, (Cond.classLink own z.catchType nm).before args s = true ∧ va_Nc E nm s)) (hcell : H[q]? = some ce) (hv : ce.vm = .none) (hcl : s.vm.findClass E = some ce.cls)
    (hx : ∀ t : State, t.heap = H → s.vm.Alike t.vm → XC E s t) (hf : ∀ z ∈ locs, free z.base) (hc : cells ≤ mc) (hs : slots ≤ ms) :
    vx_W p l e R s m args below meth c H locs cells slots (vx_MQ below Qc XC args s mc ms free) (F0 m pc ls rest) q := by
  intro T hT X
  have hpl : e.platform.magicAccessors = ({} : Platform).magicAccessors := by rw [X.admits.platform]
  obtain ⟨vm', hW', X', st⟩ := X.outThrough hlocks q (g := F0 m pc ls rest) rfl rfl rfl (cell := ce) (by rw [hT]; exact hcell) (by rw [hv]; rfl)
    (by obtain ⟨k9, h9, -⟩ := Vm.findClass_spec hcl; exact ⟨k9, h9⟩) (fun z hz => by
      rcases hpass z hz with h | ⟨hz0, nm, hl1, hn1⟩
      · exact Or.inl h
      · obtain ⟨c6, hc6, hcl6⟩ := Cond.classLink_spec hown hl1 e.platform hpl
        obtain ⟨a8, b8, h1, h2, h3⟩ := hn1
        cases Option.some.inj (h1.symm.trans hcl)
        cases Option.some.inj (h2.symm.trans hc6)
        exact Or.inr ⟨hz0, _, hcl6, h3⟩)
  obtain ⟨g₀, hfr⟩ := X'.frames_eq
  have hcell9 : ((T.setVm vm').setFrames (.throwing q :: below)).heap[q]? = some ce := by
    show T.heap[q]? = some ce
    rw [hT]; exact hcell
  have hend : Ended ((T.setVm vm').setFrames (.throwing q :: below)) below (.threw q) := State.frames_setFrames _ (State.cur_lt_of_frames hfr)
  refine ⟨(T.setVm vm').setFrames (.throwing q :: below), ?_, .threw q, X'.here.running, hend, Or.inr ⟨q, rfl, E, ce, locs, hx _ hT (X'.ends _).1.alike, hcell9, hv, hcl, (X'.ends _).1, (X'.ends _).2.mono hc hs, hf⟩⟩
  rw [X.pushThrowing_eq]
  exact st
/-- a thing of a world lies in the heap -/
theorem vx_lt {D : va_G} {cl : List vw_C} {ws : va_W} {H1 : Heap} (h : va_P D cl ws H1) {k : Nat} {q : Nat × va_E} (hk : ws[k]? = some q) : q.1 < H1.size := (h k q hk).lt
end VXS
/-! ===== END ===== -/
/-! ===== BEGIN methods with a table of their own: called by a name, returning or throwing ===== -/
section VXH
/-! vx_backW, vx_callVX, vx_callSX, vx_callVW, vx_runVW, vx_runVX, vx_runSX, vx_ofWH follow the same proofs as their sisters above (Free/Laws.lean, Shelf42/LK1.lean); vx_outP calls Shelf42/NT130.lean (outThrough). -/
section
variable {l : Launch} {R : Room} {p : Program} {e : Env} {below : List Frame} {s : State} {sargs : Array Value} {y : MethodName} {len W9 : Nat}
theorem vx_backW {ws : List Cond} {rm : Room} {Pc : Array Value → State → Prop} {Qc : Array Value → State → Outcome → State → Prop} {XC : String → State → State → Prop} {mc ms : Nat} {free : Addr → Prop} {bytes : ByteArray} {maxL : Nat} {ret : Option FieldType} {hh : List (Nat × Nat × Nat × Nat)}
    (hM : vx_Met l y ws rm Pc Qc XC mc ms free) (hblind : FrameBlind Pc) (hrc : rm.cells = mc) (hrs : rm.slots = ms)
    (hframes : rm.frames + 1 ≤ R.frames) (hlocals : W9 + (maxL + 11) + rm.locals ≤ R.locals)
    (hws : ∀ w ∈ ws, ∀ a' U, s.WarmedH U.vm → w.before a' U = true) (hcode : Cond.codeWith y bytes maxL ret hh ∈ ws) (hinit : ∀ a' U, s.WarmedH U.vm → (Cond.initialized y.cls).before a' U = true) :
    vx_Back l R p e below s sargs y len W9 (PreOf R mc ms Pc) (PostOf Qc mc ms free) (vx_Post XC mc ms free) := by
  intro m meth c A g ig mk a X hg hsize hdg hW hn hp
  have h1 : (headSpec ws rm).pre.before a A.U = true := atoms_intro fun w hw => hws w hw _ _ X.warmed
  have h2 : (Cond.codeWith y bytes maxL ret hh).before a A.U = true := hws _ hcode _ _ X.warmed
  have h3 : (Cond.initialized y.cls).before a A.U = true := hinit _ _ X.warmed
  have h4 : A.cells + (headSpec ws rm).room.cells ≤ R.cells := by rw [show (headSpec ws rm).room.cells = mc from hrc]; exact hp.1
  have h5 : A.slots + (headSpec ws rm).room.slots ≤ R.slots := by rw [show (headSpec ws rm).room.slots = ms from hrs]; exact hp.2.1
  have hPc : Pc a (A.U.calling g mk a) := hblind _ _ _ _ hp.2.2
  obtain ⟨U, Ls, c0, s0⟩ := A
  dsimp only [Pt.U, Pt.locs, Pt.cells, Pt.slots] at h1 h2 h3 h4 h5 X hn hPc ⊢
  obtain ⟨m9, methY, cY, hn9, hmY, hcY, -, hlY, -⟩ := Cond.codeWith_spec h2
  cases Option.some.inj (hn9.symm.trans hn)
  obtain ⟨kY, hkY, -⟩ := className_of_methodNamed hn
  have hinitY : kY.init = .initialized := Cond.initialized_spec (findClass_of_methodNamed hn) hkY h3
  have h : At U g.method c below := by rw [hg]; exact X.here
  have hlocals9 : W9 + (maxL + 11) + (headSpec ws rm).room.locals ≤ R.locals := hlocals
  have happ : (headSpec ws rm).appliesLoose y e.platform (U.calling g mk a) = true :=
    Spec.appliesLoose_calling (g := g) h hdg hn hkY hinitY
      (X.room_calling (g := g) (R' := (headSpec ws rm).room) hsize hmY hcY hframes (by rw [hlY]; omega) h4 h5) h1
  obtain ⟨mid, hmid⟩ := h.above
  have hfr : (U.setTop g).frames = (.java g :: mid) ++ below := by rw [State.frames_setTop' g h.top, hmid]; rfl
  obtain ⟨o, s₂, hsteps, -, hend, hq⟩ := Steps.callFree hM p X.admits X.cas X.clock (acts := []) hfr happ hPc trivial
  have hq' : vx_Q Qc XC mc ms free a (U.calling g mk a) o s₂ := hq
  rw [State.frames_setTop' g h.top] at hend
  obtain ⟨g₀, hg0⟩ := Option.isSome_iff_exists.mp h.top
  obtain ⟨r, hr⟩ := State.topJava?_eq_some.mp hg0
  have hr' : (({ U with heap := s₂.heap, slotsUsed := s₂.slotsUsed } : State).setVm s₂.vm).frames = .java g₀ :: r := hr
  rcases hq' with ⟨hqc, L, hfe, hL⟩ | ⟨q, rfl, E, ce, L, hx, hce, hcv, hcl, hW₂, hsm, hL⟩
  · obtain ⟨⟨v, rfl⟩, hW₂, e2, q2, q3, q4, q5, q6⟩ := id hfe
    have e3 : s₂ = ({ (U.calling g mk a).setFrames s₂.frames with heap := s₂.heap, slotsUsed := s₂.slotsUsed } : State).setVm s₂.vm := by
      have : s₂ = ({ s₂ with vm := (U.calling g mk a).vm } : State).setVm s₂.vm := rfl
      rw [e2] at this
      exact this
    obtain ⟨c₂, i₂, len₂, hc₂, hd₂, hf₂⟩ := hend
    have hW' : U.WarmedH s₂.vm := hW₂
    have hcc : c₂ = c := by
      have h1 : s₂.code? g.method = U.code? g.method := by
        rw [State.code?_eq, State.code?_eq, hW'.alike.method?]
      exact Option.some.inj (hc₂.symm.trans (h1.trans h.code))
    subst hcc
    have hlen : len₂ = len := by rw [hdg] at hd₂; cases hd₂; rfl
    subst hlen
    have hs₂ : s₂ = (({ U with heap := s₂.heap, slotsUsed := s₂.slotsUsed } : State).setVm s₂.vm).setTop { g with pc := g.pc + len₂, stack := v.toList ++ g.stack } := by
      refine e3.trans ?_
      rw [hf₂, State.calling_eq h.top, State.setFrames_setFrames, State.setTop_of_frames _ hr', hr]
      rfl
    have hsame : U.sameButNew ({ U with heap := s₂.heap, slotsUsed := s₂.slotsUsed } : State) L mc ms := by
      refine ⟨?_, q2, q3, q4, q5, q6⟩
      obtain ⟨t, ht, -⟩ := State.frames_cons hr
      show ({ U with heap := s₂.heap, slotsUsed := s₂.slotsUsed } : State) = { U.setFrames U.frames with heap := s₂.heap, slotsUsed := s₂.slotsUsed }
      rw [State.setFrames_self ht]
    subst hg
    refine Or.inl ⟨v, ⟨(({ U with heap := s₂.heap, slotsUsed := s₂.slotsUsed } : State).setVm s₂.vm), Ls ++ L, c0 + mc, s0 + ms⟩,
      ⟨X.admits, X.cas, X.clock, X.frames, X.room, X.hears, X.method, X.code, (X.here.setHeapUsed s₂.heap s₂.slotsUsed).setVm hW'.alike, X.tail, State.WarmedH.trans X.warmed hW', X.limits, X.bytes, X.same.trans (hsame.setVm s.vm)⟩,
      ⟨g, mk, s₂, L, rfl, rfl, hqc, rfl, hL, rfl, rfl⟩, ?_⟩
    show Steps p.tables e below _ ((({ U with heap := s₂.heap, slotsUsed := s₂.slotsUsed } : State).setVm s₂.vm).setTop { g with pc := g.pc + len₂, stack := v.toList ++ g.stack })
    rw [← hs₂]
    exact hsteps
  · obtain ⟨e2, q2, q3, q4, q5, q6⟩ := id hsm
    have e3 : s₂ = ({ (U.calling g mk a).setFrames s₂.frames with heap := s₂.heap, slotsUsed := s₂.slotsUsed } : State).setVm s₂.vm := by
      have : s₂ = ({ s₂ with vm := (U.calling g mk a).vm } : State).setVm s₂.vm := rfl
      rw [e2] at this
      exact this
    have hf₂ : s₂.frames = .throwing q :: .java g :: U.frames.tail := hend
    have hW' : U.WarmedH s₂.vm := hW₂
    have hs₂ : s₂ = ((({ U with heap := s₂.heap, slotsUsed := s₂.slotsUsed } : State).setVm s₂.vm).setTop g).pushFrame (.throwing q) := by
      refine e3.trans ?_
      rw [hf₂, State.calling_eq h.top, State.setFrames_setFrames, State.pushFrame, State.frames_setTop _ hr', State.setTop_of_frames _ hr', State.setFrames_setFrames, hr]
      rfl
    have hsame : U.sameButNew ({ U with heap := s₂.heap, slotsUsed := s₂.slotsUsed } : State) L mc ms := by
      refine ⟨?_, q2, q3, q4, q5, q6⟩
      obtain ⟨t, ht, -⟩ := State.frames_cons hr
      show ({ U with heap := s₂.heap, slotsUsed := s₂.slotsUsed } : State) = { U.setFrames U.frames with heap := s₂.heap, slotsUsed := s₂.slotsUsed }
      rw [State.setFrames_self ht]
    subst hg
    refine Or.inr ⟨q, ⟨(({ U with heap := s₂.heap, slotsUsed := s₂.slotsUsed } : State).setVm s₂.vm), Ls ++ L, c0 + mc, s0 + ms⟩,
      ⟨X.admits, X.cas, X.clock, X.frames, X.room, X.hears, X.method, X.code, (X.here.setHeapUsed s₂.heap s₂.slotsUsed).setVm hW'.alike, X.tail, State.WarmedH.trans X.warmed hW', X.limits, X.bytes, X.same.trans (hsame.setVm s.vm)⟩,
      ⟨g, mk, s₂, L, E, ce, rfl, rfl, hx, hce, hcv, hcl, rfl, hL, rfl, rfl⟩, ?_⟩
    show Steps p.tables e below _ (((({ U with heap := s₂.heap, slotsUsed := s₂.slotsUsed } : State).setVm s₂.vm).setTop g).pushFrame (.throwing q))
    rw [← hs₂]
    exact hsteps
end
variable {p : Program} {l : Launch} {e : Env} {R : Room} {s : State} {m : MethodId} {args : Array Value} {below : List Frame} {meth : Method} {c : Code} {T : State} {H : Heap} {locs : List Loc} {cells slots : Nat}
theorem vx_callVX (X : Stand p l e R s m args below meth c T locs cells slots) (hexec : p.tables.exec = Jvm.exec) {own C : String} {index : Nat} {y : MethodName} {bytes : ByteArray} {maxL : Nat} {ret : Option FieldType} {hh : List (Nat × Nat × Nat × Nat)}
    (hown : s.vm.findClass own = some m.cls) (hlink : (Cond.methodLink own index y).before args s = true) (hinst : (Cond.instanceMethod y).before args s = true) (hsel : (Cond.selects C y y).before args s = true)
    (hcode : (Cond.codeWith y bytes maxL ret hh).before args s = true) (hy : y.cls ≠ "java/lang/invoke/MethodHandle" ∧ y.cls ≠ "java/lang/invoke/VarHandle")
    {W9 : Nat} {Pre : Pt → Array Value → Prop} {Post : Pt → Array Value → Option Value → Pt → Prop} {PostX : Pt → Array Value → Addr → Pt → Prop} (hK : vx_Back l R p e below s args y 3 W9 Pre Post PostX)
    {b : Addr} {cellB : Cell} (hcell : T.heap[b]? = some cellB) (hobj : cellB.vm.isStatics = false) (hcls : s.vm.findClass C = some cellB.cls)
    {g : JFrame} (hg : g.method = m) (hsize : g.locals.size = c.maxLocals) {argsL rest : List Value} (hlen : ∀ sig, parseMethodDescriptor y.desc = some sig → argsL.length = sig.parameters.length)
    (hstack : g.stack = argsL.reverse ++ .ref b :: rest) (hW : 2 * g.monitorRoom + (rest.map fun v => v.category).sum ≤ W9) (hdg : decode c.code g.pc = .ok (.invokevirtual index, 3))
    (hpre : ∀ vm₁, s.WarmedH vm₁ → Pre ⟨T.setVm vm₁, locs, cells, slots⟩ (Value.ref b :: argsL).toArray) :
    (∃ (v : Option Value) (vm₁ : Vm) (B : Pt), s.WarmedH vm₁ ∧ Stand p l e R s m args below meth c B.U B.locs B.cells B.slots ∧ Post ⟨T.setVm vm₁, locs, cells, slots⟩ (Value.ref b :: argsL).toArray v B ∧
      ∀ target, Steps p.tables e below (B.U.setTop { g with pc := g.pc + 3, stack := v.toList ++ rest }) target → Steps p.tables e below (T.setTop g) target) ∨
    (∃ (q : Addr) (vm₁ : Vm) (B : Pt), s.WarmedH vm₁ ∧ Stand p l e R s m args below meth c B.U B.locs B.cells B.slots ∧ PostX ⟨T.setVm vm₁, locs, cells, slots⟩ (Value.ref b :: argsL).toArray q B ∧
      Steps p.tables e below (T.setTop g) ((B.U.setTop { g with stack := rest }).pushFrame (.throwing q))) := by
  obtain ⟨mk, methM, hnamed, hmethM, hstM, habM⟩ := Cond.instanceMethod_spec hinst
  obtain ⟨m8, methM', cM, hn8, hmethM', -, -, -, -, -, -, hsigM⟩ := Cond.codeWith_spec hcode
  cases Option.some.inj (hn8.symm.trans hnamed)
  cases hmethM.symm.trans hmethM'
  obtain ⟨c2, r2, m2, q1, q2, q3, q4, kP, hkP, hkPi⟩ := Cond.selects_spec hsel
  cases hcls.symm.trans q1
  cases (State.methodFound?_of_named hnamed hy).symm.trans q2
  cases hnamed.symm.trans q3
  have hselP : selectMethod e.platform s.vm cellB.cls mk = .method mk := by rw [Launch.admits_selectMethod X.admits]; exact q4
  obtain ⟨vm₁, X₁, hstep₁⟩ := X.invokevirtual hexec hown hlink hnamed hmethM hstM hkP hkPi hy (a := b) (cell := cellB) hcell
    (fun z h => by rw [h] at hobj; cases hobj) hselP hmethM habM hkP hkPi (g := g) hg (argsL := argsL) (rest := rest) (hlen _ hsigM) hstack hdg
  rcases hK m meth c ⟨T.setVm vm₁, locs, cells, slots⟩ { g with stack := rest } (.invokevirtual index) mk (Value.ref b :: argsL).toArray X₁ hg hsize hdg hW (X₁.named hnamed) (hpre vm₁ X₁.warmed) with ⟨v, B, X', hpost, hsteps⟩ | ⟨q, B, X', hpost, hsteps⟩
  · exact Or.inl ⟨v, vm₁, B, X₁.warmed, X', hpost, fun target h => hstep₁ _ fun acts => by rw [doInvoke_state]; exact hsteps.trans h⟩
  · exact Or.inr ⟨q, vm₁, B, X₁.warmed, X', hpost, hstep₁ _ fun acts => by rw [doInvoke_state]; exact hsteps⟩
theorem vx_callSX (X : Stand p l e R s m args below meth c T locs cells slots) (hexec : p.tables.exec = Jvm.exec) {own : String} {index : Nat} {y : MethodName} {bytes : ByteArray} {maxL : Nat} {ret : Option FieldType} {hh : List (Nat × Nat × Nat × Nat)}
    (hown : s.vm.findClass own = some m.cls) (hlink : (Cond.methodLink own index y).before args s = true) (hstat : (Cond.static y).before args s = true) (hinit : (Cond.initialized y.cls).before args s = true)
    (hcode : (Cond.codeWith y bytes maxL ret hh).before args s = true) (hy : y.cls ≠ "java/lang/invoke/MethodHandle" ∧ y.cls ≠ "java/lang/invoke/VarHandle")
    {W9 : Nat} {Pre : Pt → Array Value → Prop} {Post : Pt → Array Value → Option Value → Pt → Prop} {PostX : Pt → Array Value → Addr → Pt → Prop} (hK : vx_Back l R p e below s args y 3 W9 Pre Post PostX)
    {g : JFrame} (hg : g.method = m) (hsize : g.locals.size = c.maxLocals) {argsL rest : List Value} (hlen : ∀ sig, parseMethodDescriptor y.desc = some sig → argsL.length = sig.parameters.length)
    (hstack : g.stack = argsL.reverse ++ rest) (hW : 2 * g.monitorRoom + (rest.map fun v => v.category).sum ≤ W9) (hdg : decode c.code g.pc = .ok (.invokestatic index, 3))
    (hpre : ∀ vm₁, s.WarmedH vm₁ → Pre ⟨T.setVm vm₁, locs, cells, slots⟩ argsL.toArray) :
    (∃ (v : Option Value) (vm₁ : Vm) (B : Pt), s.WarmedH vm₁ ∧ Stand p l e R s m args below meth c B.U B.locs B.cells B.slots ∧ Post ⟨T.setVm vm₁, locs, cells, slots⟩ argsL.toArray v B ∧
      ∀ target, Steps p.tables e below (B.U.setTop { g with pc := g.pc + 3, stack := v.toList ++ rest }) target → Steps p.tables e below (T.setTop g) target) ∨
    (∃ (q : Addr) (vm₁ : Vm) (B : Pt), s.WarmedH vm₁ ∧ Stand p l e R s m args below meth c B.U B.locs B.cells B.slots ∧ PostX ⟨T.setVm vm₁, locs, cells, slots⟩ argsL.toArray q B ∧
      Steps p.tables e below (T.setTop g) ((B.U.setTop { g with stack := rest }).pushFrame (.throwing q))) := by
  obtain ⟨mk, methM, cM, hnamed, hmethM, -, -, -, -, -, -, hsigM⟩ := Cond.codeWith_spec hcode
  have hstatic : methM.isStatic = true := Cond.static_spec hnamed hmethM hstat
  obtain ⟨kP, hkP, -⟩ := className_of_methodNamed hnamed
  have hinitP : kP.init = .initialized := Cond.initialized_spec (findClass_of_methodNamed hnamed) hkP hinit
  obtain ⟨vm₁, X₁, hstep₁⟩ := X.invokestatic hexec hown hlink hnamed hmethM hstatic hkP hinitP hy (g := g) hg (argsL := argsL) (rest := rest) (hlen _ hsigM) hstack hdg
  rcases hK m meth c ⟨T.setVm vm₁, locs, cells, slots⟩ { g with stack := rest } (.invokestatic index) mk argsL.toArray X₁ hg hsize hdg hW (X₁.named hnamed) (hpre vm₁ X₁.warmed) with ⟨v, B, X', hpost, hsteps⟩ | ⟨q, B, X', hpost, hsteps⟩
  · exact Or.inl ⟨v, vm₁, B, X₁.warmed, X', hpost, fun target h => hstep₁ _ fun acts => by rw [doInvoke_state]; exact hsteps.trans h⟩
  · exact Or.inr ⟨q, vm₁, B, X₁.warmed, X', hpost, hstep₁ _ fun acts => by rw [doInvoke_state]; exact hsteps⟩
theorem vx_callVW (X : Stand p l e R s m args below meth c T locs cells slots) (hexec : p.tables.exec = Jvm.exec) {own C : String} {index : Nat} {y : MethodName} {bytes : ByteArray} {maxL : Nat} {ret : Option FieldType} {hh : List (Nat × Nat × Nat × Nat)}
    (hown : s.vm.findClass own = some m.cls) (hlink : (Cond.methodLink own index y).before args s = true) (hinst : (Cond.instanceMethod y).before args s = true) (hsel : (Cond.selects C y y).before args s = true)
    (hcode : (Cond.codeWith y bytes maxL ret hh).before args s = true) (hy : y.cls ≠ "java/lang/invoke/MethodHandle" ∧ y.cls ≠ "java/lang/invoke/VarHandle")
    {W9 : Nat} {Pre : Pt → Array Value → Prop} {Post : Pt → Array Value → Option Value → Pt → Prop} (hK : Back l R p e below s args y 3 W9 Pre Post)
    {b : Addr} {cellB : Cell} (hcell : T.heap[b]? = some cellB) (hobj : cellB.vm.isStatics = false) (hcls : s.vm.findClass C = some cellB.cls)
    {g : JFrame} (hg : g.method = m) (hsize : g.locals.size = c.maxLocals) {argsL rest : List Value} (hlen : ∀ sig, parseMethodDescriptor y.desc = some sig → argsL.length = sig.parameters.length)
    (hstack : g.stack = argsL.reverse ++ .ref b :: rest) (hW : 2 * g.monitorRoom + (rest.map fun v => v.category).sum ≤ W9) (hdg : decode c.code g.pc = .ok (.invokevirtual index, 3))
    (hpre : ∀ vm₁, s.WarmedH vm₁ → Pre ⟨T.setVm vm₁, locs, cells, slots⟩ (Value.ref b :: argsL).toArray) :
    ∃ (v : Option Value) (vm₁ : Vm) (B : Pt), s.WarmedH vm₁ ∧ Stand p l e R s m args below meth c B.U B.locs B.cells B.slots ∧ Post ⟨T.setVm vm₁, locs, cells, slots⟩ (Value.ref b :: argsL).toArray v B ∧
      ∀ target, Steps p.tables e below (B.U.setTop { g with pc := g.pc + 3, stack := v.toList ++ rest }) target → Steps p.tables e below (T.setTop g) target := by
  obtain ⟨mk, methM, hnamed, hmethM, hstM, habM⟩ := Cond.instanceMethod_spec hinst
  obtain ⟨m8, methM', cM, hn8, hmethM', -, -, -, -, -, -, hsigM⟩ := Cond.codeWith_spec hcode
  cases Option.some.inj (hn8.symm.trans hnamed)
  cases hmethM.symm.trans hmethM'
  obtain ⟨c2, r2, m2, q1, q2, q3, q4, kP, hkP, hkPi⟩ := Cond.selects_spec hsel
  cases hcls.symm.trans q1
  cases (State.methodFound?_of_named hnamed hy).symm.trans q2
  cases hnamed.symm.trans q3
  have hselP : selectMethod e.platform s.vm cellB.cls mk = .method mk := by rw [Launch.admits_selectMethod X.admits]; exact q4
  obtain ⟨vm₁, X₁, hstep₁⟩ := X.invokevirtual hexec hown hlink hnamed hmethM hstM hkP hkPi hy (a := b) (cell := cellB) hcell
    (fun z h => by rw [h] at hobj; cases hobj) hselP hmethM habM hkP hkPi (g := g) hg (argsL := argsL) (rest := rest) (hlen _ hsigM) hstack hdg
  obtain ⟨v, B, X', hpost, hsteps⟩ := hK m meth c ⟨T.setVm vm₁, locs, cells, slots⟩ { g with stack := rest } (.invokevirtual index) mk (Value.ref b :: argsL).toArray X₁ hg hsize hdg hW (X₁.named hnamed) (hpre vm₁ X₁.warmed)
  exact ⟨v, vm₁, B, X₁.warmed, X', hpost, fun target h => hstep₁ _ fun acts => by rw [doInvoke_state]; exact hsteps.trans h⟩
abbrev vx_CVW (R : Room) (s : State) (args : Array Value) (own C : String) (index : Nat) (y : MethodName) (bytes : ByteArray) (maxL : Nat) (ret : Option FieldType) (hh : List (Nat × Nat × Nat × Nat)) (ws : List Cond) (rm : Room) (mc ms n : Nat) : Prop :=
  (rm.cells = mc ∧ rm.slots = ms ∧ rm.frames + 1 ≤ R.frames ∧ 8 + (maxL + 11) + rm.locals ≤ R.locals ∧ (∀ w ∈ ws, ∀ (a' : Array Value) (U : State), s.WarmedH U.vm → w.before a' U = true) ∧ Cond.codeWith y bytes maxL ret hh ∈ ws) ∧
  (Cond.codeWith y bytes maxL ret hh).before args s = true ∧ (Cond.initialized y.cls).before args s = true ∧ (y.cls ≠ "java/lang/invoke/MethodHandle" ∧ y.cls ≠ "java/lang/invoke/VarHandle") ∧
  (∀ sig, parseMethodDescriptor y.desc = some sig → n = sig.parameters.length) ∧ (Cond.methodLink own index y).before args s = true ∧ (Cond.instanceMethod y).before args s = true ∧ (Cond.selects C y y).before args s = true
theorem vx_cwVW {own C : String} {index maxL mc ms : Nat} {y : MethodName} {bytes : ByteArray} {ret : Option FieldType} {hh : List (Nat × Nat × Nat × Nat)} {Ts ws ws' : List Cond} {rm : Room} (n : Nat) (ht : ∀ w ∈ Ts, w.before args s = true) (hT : GoodIn Ts (wsV own index C y ws)) (hw : ws = Cond.codeWith y bytes maxL ret hh :: ws') (hrc : rm.cells = mc) (hrs : rm.slots = ms)
    (hd : y.cls = C ∧ y.cls ≠ "java/lang/invoke/MethodHandle" ∧ y.cls ≠ "java/lang/invoke/VarHandle" ∧ (parseMethodDescriptor y.desc).map (fun d => d.parameters.length) = some n) (hR : rm.frames + 1 ≤ R.frames ∧ 8 + (maxL + 11) + rm.locals ≤ R.locals) :
    vx_CVW R s args own C index y bytes maxL ret hh ws rm mc ms n := by
  obtain ⟨hC, hd⟩ := hd
  subst hC
  have ok : ∀ w ∈ wsV own index y.cls y ws, w.before args s = true := fun w h => ht w (hT w h).1
  have hG : GoodIn Ts ws := fun w h => hT w (by unfold wsV; exact List.mem_append_right _ h)
  have hc : Cond.codeWith y bytes maxL ret hh ∈ ws := by rw [hw]; exact List.mem_cons_self
  refine ⟨⟨hrc, hrs, hR.1, hR.2, pay_in ht hG, hc⟩, ht _ (hG _ hc).1, ok _ (by simp [wsV]), ⟨hd.1, hd.2.1⟩, fun sig h => ?_, ok _ (by simp [wsV]), ok _ (by simp [wsV]), ok _ (by simp [wsV])⟩
  have h2 := hd.2.2
  rw [h] at h2
  exact (Option.some.inj h2).symm
theorem vx_runVW {y : MethodName} {bytes cc : ByteArray} {maxL nL mc ms n index : Nat} {ret : Option FieldType} {hh : List (Nat × Nat × Nat × Nat)} {ws : List Cond} {rm : Room} {Pc : Array Value → State → Prop} {Qc : Array Value → State → Outcome → State → Prop} {free : Addr → Prop} {Ts : List Cond} {own C : String} {b : Addr} {As rest : List Value} {g : JFrame}
    (S : CallFix p m c cc nL s args Ts own) (hM : Met l y ws rm Pc Qc mc ms free) (cw : vx_CVW R s args own C index y bytes maxL ret hh ws rm mc ms n) (hp : PreV s H C b Pc As)
    (hg : g.method = m) (hn : As.length = n) (hsize : g.locals.size = nL) (hstack : g.stack = As.reverse ++ .ref b :: rest) (hW : 2 * g.monitorRoom + (rest.map fun v => v.category).sum ≤ 8) (hdg : decode cc g.pc = .ok (.invokevirtual index, 3)) (hf : cells + mc ≤ R.cells ∧ slots + ms ≤ R.slots) :
    va_Run p l e R s m args below meth c H locs cells slots mc ms g rest (Qc (Value.ref b :: As).toArray) free := by
  obtain ⟨⟨hrc, hrs, hfr, hlo, hws, hcw⟩, hcode, hini, hy, hlen, hl, hin, hse⟩ := cw
  have hK : Back l R p e below s args y 3 8 (PreOf R mc ms Pc) (PostOf Qc mc ms free) := va_backW (hh := hh) (bytes := bytes) (maxL := maxL) (ret := ret) hM hp.1 hrc hrs hfr hlo hws hcw (fun a' U hW => word_at hW (Or.inl (by first | rfl | simp [Cond.onTables, Cond.keeps, Cond.steady])) hini)
  obtain ⟨hx, hb, hml, ho, -⟩ := S
  obtain ⟨-, ⟨cellB, hcB, hoB, hclB⟩, hPc⟩ := hp
  intro T hT X
  obtain ⟨v, vm₁, ⟨U', l2, c2, s2⟩, hW₁, X', ⟨g', mk, t, L, e1, e2, hq, h1, hL, h2, h3⟩, st⟩ := vx_callVW X hx (C := C) (hh := hh) (bytes := bytes) (maxL := maxL) (ret := ret) ho hl hin hse hcode hy hK (by rw [hT]; exact hcB) hoB hclB hg (hsize.trans hml.symm) (argsL := As) (rest := rest) (fun sig h => hn.trans (hlen sig h)) hstack hW (by rw [hb]; exact hdg)
    (fun vm₁ hW₁ => ⟨hf.1, hf.2, hPc (T.setVm vm₁) hT hW₁⟩)
  dsimp only [Pt.U, Pt.locs, Pt.cells, Pt.slots] at X' e1 e2 h1 h2 h3 st
  subst h1; subst h2; subst h3
  exact ⟨v, (T.setVm vm₁).calling g' mk (Value.ref b :: As).toArray, t, U', L, hT, X', hL, e1, e2, hq, st⟩
section
variable {y : MethodName} {bytes cc : ByteArray} {maxL nL mc ms n index : Nat} {ret : Option FieldType} {ws : List Cond} {rm : Room} {Pc : Array Value → State → Prop} {Qc : Array Value → State → Outcome → State → Prop} {XC : String → State → State → Prop} {free : Addr → Prop} {Ts : List Cond} {own C : String} {b : Addr} {As rest : List Value} {g : JFrame}
theorem vx_runVX {hh : List (Nat × Nat × Nat × Nat)} (S : CallFix p m c cc nL s args Ts own) (hM : vx_Met l y ws rm Pc Qc XC mc ms free) (cw : vx_CVW R s args own C index y bytes maxL ret hh ws rm mc ms n) (hp : PreV s H C b Pc As)
    (hg : g.method = m) (hn : As.length = n) (hsize : g.locals.size = nL) (hstack : g.stack = As.reverse ++ .ref b :: rest) (hW : 2 * g.monitorRoom + (rest.map fun v => v.category).sum ≤ 8) (hdg : decode cc g.pc = .ok (.invokevirtual index, 3)) (hf : cells + mc ≤ R.cells ∧ slots + ms ≤ R.slots) :
    vx_Run p l e R s m args below meth c H locs cells slots mc ms g rest (Qc (Value.ref b :: As).toArray) XC free := by
  obtain ⟨⟨hrc, hrs, hfr, hlo, hws, hcw⟩, hcode, hini, hy, hlen, hl, hin, hse⟩ := cw
  have hK : vx_Back l R p e below s args y 3 8 (PreOf R mc ms Pc) (PostOf Qc mc ms free) (vx_Post XC mc ms free) := vx_backW (hh := hh) (bytes := bytes) (maxL := maxL) (ret := ret) hM hp.1 hrc hrs hfr hlo hws hcw (fun a' U hW => word_at hW (Or.inl (by first | rfl | simp [Cond.onTables, Cond.keeps, Cond.steady])) hini)
  obtain ⟨hx, hb, hml, ho, -⟩ := S
  obtain ⟨-, ⟨cellB, hcB, hoB, hclB⟩, hPc⟩ := hp
  intro T hT X
  rcases vx_callVX X hx (C := C) (hh := hh) (bytes := bytes) (maxL := maxL) (ret := ret) ho hl hin hse hcode hy hK (by rw [hT]; exact hcB) hoB hclB hg (hsize.trans hml.symm) (argsL := As) (rest := rest) (fun sig h => hn.trans (hlen sig h)) hstack hW (by rw [hb]; exact hdg)
    (fun vm₁ hW₁ => ⟨hf.1, hf.2, hPc (T.setVm vm₁) hT hW₁⟩) with ⟨v, vm₁, ⟨U', l2, c2, s2⟩, hW₁, X', ⟨g', mk, t, L, e1, e2, hq, h1, hL, h2, h3⟩, st⟩ | ⟨q, vm₁, ⟨U', l2, c2, s2⟩, hW₁, X', ⟨g', mk, t, L, E, ce, e1, e2, hq, hce, hcv, hcl, h1, hL, h2, h3⟩, st⟩
  · dsimp only [Pt.U, Pt.locs, Pt.cells, Pt.slots] at X' e1 e2 h1 h2 h3 st
    subst h1; subst h2; subst h3
    exact Or.inl ⟨v, (T.setVm vm₁).calling g' mk (Value.ref b :: As).toArray, t, U', L, hT, X', hL, e1, e2, hq, st⟩
  · dsimp only [Pt.U, Pt.locs, Pt.cells, Pt.slots] at X' e1 e2 h1 h2 h3 st hcl
    subst h1; subst h2; subst h3
    exact Or.inr ⟨q, (T.setVm vm₁).calling g' mk (Value.ref b :: As).toArray, t, U', L, E, ce, hT, X', hL, e1, e2, hq, hce, hcv, vx_cls hW₁ hcl, st⟩
theorem vx_runSX {hh : List (Nat × Nat × Nat × Nat)} (S : CallFix p m c cc nL s args Ts own) (hM : vx_Met l y ws rm Pc Qc XC mc ms free) (cw : vx_CSW R s args own index y bytes maxL ret hh ws rm mc ms n) (hp : PreS s H Pc As)
    (hg : g.method = m) (hn : As.length = n) (hsize : g.locals.size = nL) (hstack : g.stack = As.reverse ++ rest) (hW : 2 * g.monitorRoom + (rest.map fun v => v.category).sum ≤ 8) (hdg : decode cc g.pc = .ok (.invokestatic index, 3)) (hf : cells + mc ≤ R.cells ∧ slots + ms ≤ R.slots) :
    vx_Run p l e R s m args below meth c H locs cells slots mc ms g rest (Qc As.toArray) XC free := by
  obtain ⟨⟨hrc, hrs, hfr, hlo, hws, hcw⟩, hcode, hini, hy, hlen, hl, hstt⟩ := cw
  have hK : vx_Back l R p e below s args y 3 8 (PreOf R mc ms Pc) (PostOf Qc mc ms free) (vx_Post XC mc ms free) := vx_backW (hh := hh) (bytes := bytes) (maxL := maxL) (ret := ret) hM hp.1 hrc hrs hfr hlo hws hcw (fun a' U hW => word_at hW (Or.inl (by first | rfl | simp [Cond.onTables, Cond.keeps, Cond.steady])) hini)
  obtain ⟨hx, hb, hml, ho, -⟩ := S
  intro T hT X
  rcases vx_callSX X hx (hh := hh) (bytes := bytes) (maxL := maxL) (ret := ret) ho hl hstt hini hcode hy hK hg (hsize.trans hml.symm) (argsL := As) (rest := rest) (fun sig h => hn.trans (hlen sig h)) hstack hW (by rw [hb]; exact hdg)
    (fun vm₁ hW₁ => ⟨hf.1, hf.2, hp.2 (T.setVm vm₁) hT hW₁⟩) with ⟨v, vm₁, ⟨U', l2, c2, s2⟩, hW₁, X', ⟨g', mk, t, L, e1, e2, hq, h1, hL, h2, h3⟩, st⟩ | ⟨q, vm₁, ⟨U', l2, c2, s2⟩, hW₁, X', ⟨g', mk, t, L, E, ce, e1, e2, hq, hce, hcv, hcl, h1, hL, h2, h3⟩, st⟩
  · dsimp only [Pt.U, Pt.locs, Pt.cells, Pt.slots] at X' e1 e2 h1 h2 h3 st
    subst h1; subst h2; subst h3
    exact Or.inl ⟨v, (T.setVm vm₁).calling g' mk As.toArray, t, U', L, hT, X', hL, e1, e2, hq, st⟩
  · dsimp only [Pt.U, Pt.locs, Pt.cells, Pt.slots] at X' e1 e2 h1 h2 h3 st hcl
    subst h1; subst h2; subst h3
    exact Or.inr ⟨q, (T.setVm vm₁).calling g' mk As.toArray, t, U', L, E, ce, hT, X', hL, e1, e2, hq, hce, hcv, vx_cls hW₁ hcl, st⟩
end
end VXH
theorem vx_ofWH {l : Launch} {y : MethodName} {ws ws' : List Cond} {rm : Room} {Pc : Array Value → State → Prop} {Qc : Array Value → State → Outcome → State → Prop} {XC : String → State → State → Prop} {mc ms : Nat} {free : Addr → Prop} {cc : ByteArray} {maxL : Nat} {ret : Option FieldType} {hh : List (Nat × Nat × Nat × Nat)}
    (hy : plainName y.cls = true) (hw : ws = Cond.codeWith y cc maxL ret hh :: ws')
    (body : ∀ p e s m args below meth c s₁, BodyLoose p l y (headSpec ws rm) cc maxL ret e s m args below meth c s₁ → c.maxLocals = maxL → Pc args s →
      W p l e (headSpec ws rm).room s m args below meth c s.heap [] 0 0 (vx_MQ below Qc XC args s mc ms free) (entryFrame m args maxL)) : vx_Met l y ws rm Pc Qc XC mc ms free := by
  refine MetFree.of_bodyS (code := cc) (maxLocals := maxL) (ret := ret) hy ?_ ?_
  · intro args s m h hn
    obtain ⟨m9, meth, c, hn9, h1, h2, h3, h4, -, h5, h6, -⟩ := Cond.codeWith_spec (atoms_spec (ws := ws) h _ (by rw [hw]; exact List.mem_cons_self))
    cases hn.symm.trans hn9
    exact ⟨meth, c, h1, h2, h3, h4, h5, h6⟩
  · intro p e s m args below meth c s₁ B hml hP _
    have hh0 : s₁.heap = s.heap := by rw [B.state]; rfl
    obtain ⟨t, a1, o, b1, b2, b3⟩ := body p e s m args below meth c s₁ B hml hP s₁ hh0 (Stand.of_body B)
    exact ⟨t, o, a1, b1, b2, b3⟩
/-! ===== END ===== -/
end
section
/-! ===== BEGIN printed: names, fields, word lists, decode rows ===== -/
def RX0 : String := "WhistlePosts$Bytes"
def TX0 : u_T := fun k => match k with
  | 0 => ("WhistlePosts$Bytes", "cells", "[I", true)
  | _ => ("WhistlePosts$Bytes", "size", "I", false)
def tyX0 : Nat → FieldType := fun k => match k with
  | 0 => .array .int
  | _ => .int
abbrev wsX00 : List Cond := u_ws RX0 TX0 2
theorem nmX0 : ∀ a, a < 2 → ∀ b, b < 2 → a ≠ b → (TX0 a).2.1 ≠ (TX0 b).2.1 := by decide +kernel
theorem tyX0_ok : ∀ k, k < 2 → parseFieldDescriptor (TX0 k).2.2.1 = some (tyX0 k) := by decide +kernel
abbrev cX0_init : ByteArray := prog_2_method_1_code
def yX0_init : MethodName := ⟨RX0, "<init>", "(I)V"⟩
abbrev cX0_size : ByteArray := prog_2_method_2_code
def yX0_size : MethodName := ⟨RX0, "size", "()I"⟩
abbrev cX0_get : ByteArray := prog_2_method_3_code
def yX0_get : MethodName := ⟨RX0, "get", "(I)I"⟩
abbrev cX0_add : ByteArray := prog_2_method_4_code
def yX0_add : MethodName := ⟨RX0, "add", "(I)V"⟩
abbrev cX0_addText : ByteArray := prog_2_method_5_code
def yX0_addText : MethodName := ⟨RX0, "addText", "(Ljava/lang/String;)V"⟩
abbrev cX0_cutTo : ByteArray := prog_2_method_7_code
def yX0_cutTo : MethodName := ⟨RX0, "cutTo", "(I)Z"⟩
abbrev cX0_clear : ByteArray := prog_2_method_8_code
def yX0_clear : MethodName := ⟨RX0, "clear", "()V"⟩
def RX1 : String := "WhistlePosts$Past"
def TX1 : u_T := fun k => match k with
  | 0 => ("WhistlePosts$Past", "posts", "[LWhistlePosts$Post;", true)
  | 1 => ("WhistlePosts$Past", "first", "I", false)
  | _ => ("WhistlePosts$Past", "kept", "I", false)
def tyX1 : Nat → FieldType := fun k => match k with
  | 0 => .array (.object "WhistlePosts$Post")
  | 1 => .int
  | _ => .int
abbrev wsX10 : List Cond := u_ws RX1 TX1 3
theorem nmX1 : ∀ a, a < 3 → ∀ b, b < 3 → a ≠ b → (TX1 a).2.1 ≠ (TX1 b).2.1 := by decide +kernel
theorem tyX1_ok : ∀ k, k < 3 → parseFieldDescriptor (TX1 k).2.2.1 = some (tyX1 k) := by decide +kernel
abbrev cX1_init : ByteArray := prog_3_method_1_code
def yX1_init : MethodName := ⟨RX1, "<init>", "()V"⟩
abbrev cX1_size : ByteArray := prog_3_method_2_code
def yX1_size : MethodName := ⟨RX1, "size", "()I"⟩
abbrev cX1_forget : ByteArray := prog_3_method_3_code
def yX1_forget : MethodName := ⟨RX1, "forget", "()V"⟩
abbrev cX1_postAt : ByteArray := prog_3_method_4_code
def yX1_postAt : MethodName := ⟨RX1, "postAt", "(I)LWhistlePosts$Post;"⟩
abbrev cX1_keep : ByteArray := prog_3_method_5_code
def yX1_keep : MethodName := ⟨RX1, "keep", "(LWhistlePosts$Post;)V"⟩
def RX2 : String := "WhistlePosts$Post"
def TX2 : u_T := fun k => match k with
  | 0 => ("WhistlePosts$Post", "time", "I", false)
  | 1 => ("WhistlePosts$Post", "roofs", "I", false)
  | 2 => ("WhistlePosts$Post", "ways", "I", false)
  | 3 => ("WhistlePosts$Post", "tunes", "I", false)
  | 4 => ("WhistlePosts$Post", "roofRows", "LWhistlePosts$Table;", true)
  | 5 => ("WhistlePosts$Post", "wayRows", "LWhistlePosts$Table;", true)
  | 6 => ("WhistlePosts$Post", "tuneRows", "LWhistlePosts$Table;", true)
  | 7 => ("WhistlePosts$Post", "settings", "LWhistlePosts$Table;", true)
  | 8 => ("WhistlePosts$Post", "accounts", "LWhistlePosts$Table;", true)
  | _ => ("WhistlePosts$Post", "roads", "LWhistlePosts$Roads;", true)
def tyX2 : Nat → FieldType := fun k => match k with
  | 0 => .int
  | 1 => .int
  | 2 => .int
  | 3 => .int
  | 4 => .object "WhistlePosts$Table"
  | 5 => .object "WhistlePosts$Table"
  | 6 => .object "WhistlePosts$Table"
  | 7 => .object "WhistlePosts$Table"
  | 8 => .object "WhistlePosts$Table"
  | _ => .object "WhistlePosts$Roads"
abbrev wsX20 : List Cond := u_ws RX2 TX2 10
theorem nmX2 : ∀ a, a < 10 → ∀ b, b < 10 → a ≠ b → (TX2 a).2.1 ≠ (TX2 b).2.1 := by decide +kernel
theorem tyX2_ok : ∀ k, k < 10 → parseFieldDescriptor (TX2 k).2.2.1 = some (tyX2 k) := by decide +kernel
abbrev cX2_init : ByteArray := prog_4_method_1_code
def yX2_init : MethodName := ⟨RX2, "<init>", "()V"⟩
abbrev cX2_clear : ByteArray := prog_4_method_2_code
def yX2_clear : MethodName := ⟨RX2, "clear", "()V"⟩
abbrev cX2_copyFrom : ByteArray := prog_4_method_3_code
def yX2_copyFrom : MethodName := ⟨RX2, "copyFrom", "(LWhistlePosts$Post;)V"⟩
abbrev cX2_leastOf : ByteArray := prog_4_method_4_code
def yX2_leastOf : MethodName := ⟨RX2, "leastOf", "(I)I"⟩
abbrev cX2_mostOf : ByteArray := prog_4_method_5_code
def yX2_mostOf : MethodName := ⟨RX2, "mostOf", "(I)I"⟩
abbrev cX2_setting : ByteArray := prog_4_method_6_code
def yX2_setting : MethodName := ⟨RX2, "setting", "(I)I"⟩
abbrev cX2_settle : ByteArray := prog_4_method_7_code
def yX2_settle : MethodName := ⟨RX2, "settle", "(II)V"⟩
abbrev cX2_enter : ByteArray := prog_4_method_8_code
def yX2_enter : MethodName := ⟨RX2, "enter", "(II)V"⟩
abbrev cX2_addRoof : ByteArray := prog_4_method_9_code
def yX2_addRoof : MethodName := ⟨RX2, "addRoof", "(IIIII)V"⟩
abbrev cX2_addWay : ByteArray := prog_4_method_10_code
def yX2_addWay : MethodName := ⟨RX2, "addWay", "(III)V"⟩
abbrev cX2_addTune : ByteArray := prog_4_method_11_code
def yX2_addTune : MethodName := ⟨RX2, "addTune", "(IIIIZZ)I"⟩
abbrev cX2_hasTimeFor : ByteArray := prog_4_method_12_code
def yX2_hasTimeFor : MethodName := ⟨RX2, "hasTimeFor", "(I)Z"⟩
abbrev cX2_hasRoomFor : ByteArray := prog_4_method_13_code
def yX2_hasRoomFor : MethodName := ⟨RX2, "hasRoomFor", "(II)Z"⟩
abbrev cX2_takeCoins : ByteArray := prog_4_method_14_code
def yX2_takeCoins : MethodName := ⟨RX2, "takeCoins", "(II)V"⟩
abbrev cX2_cutWay : ByteArray := prog_4_method_15_code
def yX2_cutWay : MethodName := ⟨RX2, "cutWay", "(II)Z"⟩
abbrev cX2_roofNamed : ByteArray := prog_4_method_16_code
def yX2_roofNamed : MethodName := ⟨RX2, "roofNamed", "(I)I"⟩
abbrev cX2_acrossFrom : ByteArray := prog_4_method_18_code
def yX2_acrossFrom : MethodName := ⟨RX2, "acrossFrom", "(II)I"⟩
abbrev cX2_wayBetween : ByteArray := prog_4_method_19_code
def yX2_wayBetween : MethodName := ⟨RX2, "wayBetween", "(II)I"⟩
abbrev cX2_numberOfAll : ByteArray := prog_4_method_20_code
def yX2_numberOfAll : MethodName := ⟨RX2, "numberOfAll", "(I)I"⟩
abbrev cX2_tunesIn : ByteArray := prog_4_method_21_code
def yX2_tunesIn : MethodName := ⟨RX2, "tunesIn", "(I)I"⟩
abbrev cX2_busyWhistlers : ByteArray := prog_4_method_22_code
def yX2_busyWhistlers : MethodName := ⟨RX2, "busyWhistlers", "()I"⟩
abbrev cX2_isBusy : ByteArray := prog_4_method_23_code
def yX2_isBusy : MethodName := ⟨RX2, "isBusy", "(II)Z"⟩
abbrev cX2_pursesTogether : ByteArray := prog_4_method_24_code
def yX2_pursesTogether : MethodName := ⟨RX2, "pursesTogether", "()I"⟩
abbrev cX2_numberOfRoof : ByteArray := prog_4_method_25_code
def yX2_numberOfRoof : MethodName := ⟨RX2, "numberOfRoof", "(II)I"⟩
abbrev cX2_tunesAt : ByteArray := prog_4_method_26_code
def yX2_tunesAt : MethodName := ⟨RX2, "tunesAt", "(I)I"⟩
abbrev cX2_waysAt : ByteArray := prog_4_method_27_code
def yX2_waysAt : MethodName := ⟨RX2, "waysAt", "(I)I"⟩
abbrev cX2_isWaitingAt : ByteArray := prog_4_method_28_code
def yX2_isWaitingAt : MethodName := ⟨RX2, "isWaitingAt", "(II)Z"⟩
abbrev cX2_numberOfTune : ByteArray := prog_4_method_30_code
def yX2_numberOfTune : MethodName := ⟨RX2, "numberOfTune", "(II)I"⟩
abbrev cX2_barsOf : ByteArray := prog_4_method_31_code
def yX2_barsOf : MethodName := ⟨RX2, "barsOf", "(I)I"⟩
abbrev cX2_barsOfTune : ByteArray := prog_4_method_32_code
def yX2_barsOfTune : MethodName := ⟨RX2, "barsOfTune", "(I)I"⟩
abbrev cX2_notesUnlikeSent : ByteArray := prog_4_method_33_code
def yX2_notesUnlikeSent : MethodName := ⟨RX2, "notesUnlikeSent", "(I)I"⟩
abbrev cX2_nextOf : ByteArray := prog_4_method_34_code
def yX2_nextOf : MethodName := ⟨RX2, "nextOf", "(I)I"⟩
abbrev cX2_lackOf : ByteArray := prog_4_method_35_code
def yX2_lackOf : MethodName := ⟨RX2, "lackOf", "(I)I"⟩
abbrev cX2_firstToGoFrom : ByteArray := prog_4_method_36_code
def yX2_firstToGoFrom : MethodName := ⟨RX2, "firstToGoFrom", "(I)I"⟩
abbrev cX2_wrongOf : ByteArray := prog_4_method_37_code
def yX2_wrongOf : MethodName := ⟨RX2, "wrongOf", "(IIII)I"⟩
def RX3 : String := "WhistlePosts$Roads"
def TX3 : u_T := fun k => match k with
  | 0 => ("WhistlePosts$Roads", "fars", "LWhistlePosts$Table;", true)
  | 1 => ("WhistlePosts$Roads", "sums", "LWhistlePosts$Table;", true)
  | _ => ("WhistlePosts$Roads", "nexts", "LWhistlePosts$Table;", true)
def tyX3 : Nat → FieldType := fun k => match k with
  | 0 => .object "WhistlePosts$Table"
  | 1 => .object "WhistlePosts$Table"
  | _ => .object "WhistlePosts$Table"
abbrev wsX30 : List Cond := u_ws RX3 TX3 3
theorem nmX3 : ∀ a, a < 3 → ∀ b, b < 3 → a ≠ b → (TX3 a).2.1 ≠ (TX3 b).2.1 := by decide +kernel
theorem tyX3_ok : ∀ k, k < 3 → parseFieldDescriptor (TX3 k).2.2.1 = some (tyX3 k) := by decide +kernel
abbrev cX3_init : ByteArray := prog_5_method_1_code
def yX3_init : MethodName := ⟨RX3, "<init>", "()V"⟩
abbrev cX3_copyFrom : ByteArray := prog_5_method_2_code
def yX3_copyFrom : MethodName := ⟨RX3, "copyFrom", "(LWhistlePosts$Roads;)V"⟩
abbrev cX3_lay : ByteArray := prog_5_method_3_code
def yX3_lay : MethodName := ⟨RX3, "lay", "(LWhistlePosts$Post;)V"⟩
abbrev cX3_sumByWays : ByteArray := prog_5_method_4_code
def yX3_sumByWays : MethodName := ⟨RX3, "sumByWays", "(LWhistlePosts$Post;)V"⟩
abbrev cX3_layNone : ByteArray := prog_5_method_5_code
def yX3_layNone : MethodName := ⟨RX3, "layNone", "(LWhistlePosts$Post;)V"⟩
abbrev cX3_layWay : ByteArray := prog_5_method_6_code
def yX3_layWay : MethodName := ⟨RX3, "layWay", "(III)V"⟩
abbrev cX3_shorten : ByteArray := prog_5_method_7_code
def yX3_shorten : MethodName := ⟨RX3, "shorten", "(III)V"⟩
abbrev cX3_pointAll : ByteArray := prog_5_method_8_code
def yX3_pointAll : MethodName := ⟨RX3, "pointAll", "(LWhistlePosts$Post;)V"⟩
abbrev cX3_beginOf : ByteArray := prog_5_method_9_code
def yX3_beginOf : MethodName := ⟨RX3, "beginOf", "(II)I"⟩
abbrev cX3_hasSameSums : ByteArray := prog_5_method_10_code
def yX3_hasSameSums : MethodName := ⟨RX3, "hasSameSums", "(LWhistlePosts$Roads;I)Z"⟩
def RX4 : String := "WhistlePosts$Script"
def TX4 : u_T := fun k => match k with
  | 0 => ("WhistlePosts$Script", "tokens", "LWhistlePosts$Tokens;", true)
  | 1 => ("WhistlePosts$Script", "post", "LWhistlePosts$Post;", true)
  | 2 => ("WhistlePosts$Script", "rows", "LWhistlePosts$Table;", true)
  | _ => ("WhistlePosts$Script", "statements", "I", false)
def tyX4 : Nat → FieldType := fun k => match k with
  | 0 => .object "WhistlePosts$Tokens"
  | 1 => .object "WhistlePosts$Post"
  | 2 => .object "WhistlePosts$Table"
  | _ => .int
abbrev wsX40 : List Cond := u_ws RX4 TX4 4
theorem nmX4 : ∀ a, a < 4 → ∀ b, b < 4 → a ≠ b → (TX4 a).2.1 ≠ (TX4 b).2.1 := by decide +kernel
theorem tyX4_ok : ∀ k, k < 4 → parseFieldDescriptor (TX4 k).2.2.1 = some (tyX4 k) := by decide +kernel
abbrev cX4_init : ByteArray := prog_6_method_1_code
def yX4_init : MethodName := ⟨RX4, "<init>", "(LWhistlePosts$Tokens;LWhistlePosts$Post;)V"⟩
def RX5 : String := "WhistlePosts$Setup"
def TX5 : u_T := fun k => match k with
  | 0 => ("WhistlePosts$Setup", "tokens", "LWhistlePosts$Tokens;", true)
  | _ => ("WhistlePosts$Setup", "draft", "LWhistlePosts$Post;", true)
def tyX5 : Nat → FieldType := fun k => match k with
  | 0 => .object "WhistlePosts$Tokens"
  | _ => .object "WhistlePosts$Post"
abbrev wsX50 : List Cond := u_ws RX5 TX5 2
theorem nmX5 : ∀ a, a < 2 → ∀ b, b < 2 → a ≠ b → (TX5 a).2.1 ≠ (TX5 b).2.1 := by decide +kernel
theorem tyX5_ok : ∀ k, k < 2 → parseFieldDescriptor (TX5 k).2.2.1 = some (tyX5 k) := by decide +kernel
abbrev cX5_init : ByteArray := prog_7_method_1_code
def yX5_init : MethodName := ⟨RX5, "<init>", "(LWhistlePosts$Tokens;LWhistlePosts$Post;)V"⟩
abbrev cX5_isRead : ByteArray := prog_7_method_2_code
def yX5_isRead : MethodName := ⟨RX5, "isRead", "()Z"⟩
abbrev cX5_isStatementRead : ByteArray := prog_7_method_3_code
def yX5_isStatementRead : MethodName := ⟨RX5, "isStatementRead", "()Z"⟩
abbrev cX5_isRoofRead : ByteArray := prog_7_method_4_code
def yX5_isRoofRead : MethodName := ⟨RX5, "isRoofRead", "()Z"⟩
abbrev cX5_isWayRead : ByteArray := prog_7_method_5_code
def yX5_isWayRead : MethodName := ⟨RX5, "isWayRead", "()Z"⟩
abbrev cX5_isSettingRead : ByteArray := prog_7_method_6_code
def yX5_isSettingRead : MethodName := ⟨RX5, "isSettingRead", "(I)Z"⟩
def RX6 : String := "WhistlePosts$Survey"
def TX6 : u_T := fun k => match k with
  | _ => ("", "", "", false)
def tyX6 : Nat → FieldType := fun k => match k with
  | _ => .int
abbrev wsX60 : List Cond := u_ws RX6 TX6 0
theorem nmX6 : ∀ a, a < 0 → ∀ b, b < 0 → a ≠ b → (TX6 a).2.1 ≠ (TX6 b).2.1 := by decide +kernel
theorem tyX6_ok : ∀ k, k < 0 → parseFieldDescriptor (TX6 k).2.2.1 = some (tyX6 k) := by decide +kernel
abbrev cX6_areTunesRight : ByteArray := prog_8_method_8_code
def yX6_areTunesRight : MethodName := ⟨RX6, "areTunesRight", "(LWhistlePosts$Post;)Z"⟩
abbrev cX6_areAccountsRight : ByteArray := prog_8_method_9_code
def yX6_areAccountsRight : MethodName := ⟨RX6, "areAccountsRight", "(LWhistlePosts$Post;)Z"⟩
def RX7 : String := "WhistlePosts$Table"
def TX7 : u_T := fun k => match k with
  | 0 => ("WhistlePosts$Table", "rows", "I", true)
  | 1 => ("WhistlePosts$Table", "columns", "I", true)
  | _ => ("WhistlePosts$Table", "cells", "[I", true)
def tyX7 : Nat → FieldType := fun k => match k with
  | 0 => .int
  | 1 => .int
  | _ => .array .int
abbrev wsX70 : List Cond := u_ws RX7 TX7 3
theorem nmX7 : ∀ a, a < 3 → ∀ b, b < 3 → a ≠ b → (TX7 a).2.1 ≠ (TX7 b).2.1 := by decide +kernel
theorem tyX7_ok : ∀ k, k < 3 → parseFieldDescriptor (TX7 k).2.2.1 = some (tyX7 k) := by decide +kernel
abbrev cX7_init : ByteArray := prog_9_method_1_code
def yX7_init : MethodName := ⟨RX7, "<init>", "(II)V"⟩
abbrev cX7_get : ByteArray := prog_9_method_2_code
def yX7_get : MethodName := ⟨RX7, "get", "(II)I"⟩
abbrev cX7_put : ByteArray := prog_9_method_3_code
def yX7_put : MethodName := ⟨RX7, "put", "(III)V"⟩
abbrev cX7_grow : ByteArray := prog_9_method_4_code
def yX7_grow : MethodName := ⟨RX7, "grow", "(III)V"⟩
abbrev cX7_clearTo : ByteArray := prog_9_method_5_code
def yX7_clearTo : MethodName := ⟨RX7, "clearTo", "(I)V"⟩
abbrev cX7_copyFrom : ByteArray := prog_9_method_6_code
def yX7_copyFrom : MethodName := ⟨RX7, "copyFrom", "(LWhistlePosts$Table;)V"⟩
abbrev cX7_removeRow : ByteArray := prog_9_method_7_code
def yX7_removeRow : MethodName := ⟨RX7, "removeRow", "(I)V"⟩
def RX8 : String := "WhistlePosts$Ticks"
def TX8 : u_T := fun k => match k with
  | _ => ("", "", "", false)
def tyX8 : Nat → FieldType := fun k => match k with
  | _ => .int
abbrev wsX80 : List Cond := u_ws RX8 TX8 0
theorem nmX8 : ∀ a, a < 0 → ∀ b, b < 0 → a ≠ b → (TX8 a).2.1 ≠ (TX8 b).2.1 := by decide +kernel
theorem tyX8_ok : ∀ k, k < 0 → parseFieldDescriptor (TX8 k).2.2.1 = some (tyX8 k) := by decide +kernel
abbrev cX8_run : ByteArray := prog_10_method_2_code
def yX8_run : MethodName := ⟨RX8, "run", "(LWhistlePosts$Post;I)V"⟩
abbrev cX8_landAll : ByteArray := prog_10_method_3_code
def yX8_landAll : MethodName := ⟨RX8, "landAll", "(LWhistlePosts$Post;)V"⟩
abbrev cX8_land : ByteArray := prog_10_method_4_code
def yX8_land : MethodName := ⟨RX8, "land", "(LWhistlePosts$Post;I)V"⟩
abbrev cX8_raised : ByteArray := prog_10_method_5_code
def yX8_raised : MethodName := ⟨RX8, "raised", "(II)I"⟩
abbrev cX8_reachGoal : ByteArray := prog_10_method_6_code
def yX8_reachGoal : MethodName := ⟨RX8, "reachGoal", "(LWhistlePosts$Post;I)V"⟩
abbrev cX8_turned : ByteArray := prog_10_method_7_code
def yX8_turned : MethodName := ⟨RX8, "turned", "(II)I"⟩
abbrev cX8_whistleAll : ByteArray := prog_10_method_8_code
def yX8_whistleAll : MethodName := ⟨RX8, "whistleAll", "(LWhistlePosts$Post;)V"⟩
abbrev cX8_roofsWithTunes : ByteArray := prog_10_method_9_code
def yX8_roofsWithTunes : MethodName := ⟨RX8, "roofsWithTunes", "(LWhistlePosts$Post;)I"⟩
abbrev cX8_whistle : ByteArray := prog_10_method_10_code
def yX8_whistle : MethodName := ⟨RX8, "whistle", "(LWhistlePosts$Post;II)V"⟩
abbrev cX8_breathsFor : ByteArray := prog_10_method_11_code
def yX8_breathsFor : MethodName := ⟨RX8, "breathsFor", "(LWhistlePosts$Post;II)I"⟩
abbrev cX8_loseAll : ByteArray := prog_10_method_12_code
def yX8_loseAll : MethodName := ⟨RX8, "loseAll", "(LWhistlePosts$Post;)V"⟩
def RX9 : String := "WhistlePosts$Tokens"
def TX9 : u_T := fun k => match k with
  | 0 => ("WhistlePosts$Tokens", "text", "LWhistlePosts$Bytes;", true)
  | 1 => ("WhistlePosts$Tokens", "start", "I", false)
  | 2 => ("WhistlePosts$Tokens", "behind", "I", false)
  | 3 => ("WhistlePosts$Tokens", "kind", "I", false)
  | 4 => ("WhistlePosts$Tokens", "number", "I", false)
  | 5 => ("WhistlePosts$Tokens", "error", "I", false)
  | _ => ("WhistlePosts$Tokens", "errorAt", "I", false)
def tyX9 : Nat → FieldType := fun k => match k with
  | 0 => .object "WhistlePosts$Bytes"
  | 1 => .int
  | 2 => .int
  | 3 => .int
  | 4 => .int
  | 5 => .int
  | _ => .int
abbrev wsX90 : List Cond := u_ws RX9 TX9 7
theorem nmX9 : ∀ a, a < 7 → ∀ b, b < 7 → a ≠ b → (TX9 a).2.1 ≠ (TX9 b).2.1 := by decide +kernel
theorem tyX9_ok : ∀ k, k < 7 → parseFieldDescriptor (TX9 k).2.2.1 = some (tyX9 k) := by decide +kernel
abbrev cX9_init : ByteArray := prog_11_method_1_code
def yX9_init : MethodName := ⟨RX9, "<init>", "(LWhistlePosts$Bytes;)V"⟩
abbrev cX9_open : ByteArray := prog_11_method_2_code
def yX9_open : MethodName := ⟨RX9, "open", "()V"⟩
abbrev cX9_fail : ByteArray := prog_11_method_3_code
def yX9_fail : MethodName := ⟨RX9, "fail", "(I)Z"⟩
abbrev cX9_kindOf : ByteArray := prog_11_method_4_code
def yX9_kindOf : MethodName := ⟨RX9, "kindOf", "(I)I"⟩
abbrev cX9_step : ByteArray := prog_11_method_5_code
def yX9_step : MethodName := ⟨RX9, "step", "()V"⟩
abbrev cX9_isWord : ByteArray := prog_11_method_6_code
def yX9_isWord : MethodName := ⟨RX9, "isWord", "(Ljava/lang/String;)Z"⟩
abbrev cX9_settingWord : ByteArray := prog_11_method_7_code
def yX9_settingWord : MethodName := ⟨RX9, "settingWord", "()I"⟩
abbrev cX9_nameHere : ByteArray := prog_11_method_8_code
def yX9_nameHere : MethodName := ⟨RX9, "nameHere", "()I"⟩
abbrev cX9_roofHere : ByteArray := prog_11_method_9_code
def yX9_roofHere : MethodName := ⟨RX9, "roofHere", "(LWhistlePosts$Post;I)I"⟩
abbrev cX9_isNumberHere : ByteArray := prog_11_method_10_code
def yX9_isNumberHere : MethodName := ⟨RX9, "isNumberHere", "(II)Z"⟩
abbrev cX9_takeNumber : ByteArray := prog_11_method_11_code
def yX9_takeNumber : MethodName := ⟨RX9, "takeNumber", "(II)I"⟩
abbrev cX9_isSemicolonTaken : ByteArray := prog_11_method_12_code
def yX9_isSemicolonTaken : MethodName := ⟨RX9, "isSemicolonTaken", "()Z"⟩
def RX10 : String := "WhistlePosts"
def TX10 : u_T := fun k => match k with
  | 0 => ("WhistlePosts", "input", "LWhistlePosts$Bytes;", true)
  | 1 => ("WhistlePosts", "output", "LWhistlePosts$Bytes;", true)
  | 2 => ("WhistlePosts", "tokens", "LWhistlePosts$Tokens;", true)
  | 3 => ("WhistlePosts", "setup", "LWhistlePosts$Setup;", true)
  | 4 => ("WhistlePosts", "script", "LWhistlePosts$Script;", true)
  | 5 => ("WhistlePosts", "now", "LWhistlePosts$Post;", true)
  | 6 => ("WhistlePosts", "saved", "LWhistlePosts$Post;", true)
  | 7 => ("WhistlePosts", "spare", "LWhistlePosts$Post;", true)
  | 8 => ("WhistlePosts", "past", "LWhistlePosts$Past;", true)
  | _ => ("WhistlePosts", "isSaved", "Z", false)
def tyX10 : Nat → FieldType := fun k => match k with
  | 0 => .object "WhistlePosts$Bytes"
  | 1 => .object "WhistlePosts$Bytes"
  | 2 => .object "WhistlePosts$Tokens"
  | 3 => .object "WhistlePosts$Setup"
  | 4 => .object "WhistlePosts$Script"
  | 5 => .object "WhistlePosts$Post"
  | 6 => .object "WhistlePosts$Post"
  | 7 => .object "WhistlePosts$Post"
  | 8 => .object "WhistlePosts$Past"
  | _ => .boolean
abbrev wsX100 : List Cond := u_ws RX10 TX10 10
theorem nmX10 : ∀ a, a < 10 → ∀ b, b < 10 → a ≠ b → (TX10 a).2.1 ≠ (TX10 b).2.1 := by decide +kernel
theorem tyX10_ok : ∀ k, k < 10 → parseFieldDescriptor (TX10 k).2.2.1 = some (tyX10 k) := by decide +kernel
abbrev cX10_init : ByteArray := prog_1_method_1_code
def yX10_init : MethodName := ⟨RX10, "<init>", "()V"⟩
abbrev cX10_appendInput : ByteArray := prog_1_method_2_code
def yX10_appendInput : MethodName := ⟨RX10, "appendInput", "(IIIII)I"⟩
abbrev cX10_appendFour : ByteArray := prog_1_method_3_code
def yX10_appendFour : MethodName := ⟨RX10, "appendFour", "(I)V"⟩
abbrev cX10_truncateInput : ByteArray := prog_1_method_4_code
def yX10_truncateInput : MethodName := ⟨RX10, "truncateInput", "(I)Z"⟩
abbrev cX10_loadPost : ByteArray := prog_1_method_5_code
def yX10_loadPost : MethodName := ⟨RX10, "loadPost", "()I"⟩
abbrev cX10_count : ByteArray := prog_1_method_11_code
def yX10_count : MethodName := ⟨RX10, "count", "(I)I"⟩
abbrev cX10_account : ByteArray := prog_1_method_12_code
def yX10_account : MethodName := ⟨RX10, "account", "(I)I"⟩
abbrev cX10_roof : ByteArray := prog_1_method_14_code
def yX10_roof : MethodName := ⟨RX10, "roof", "(II)I"⟩
abbrev cX10_route : ByteArray := prog_1_method_16_code
def yX10_route : MethodName := ⟨RX10, "route", "(II)I"⟩
abbrev cX10_next : ByteArray := prog_1_method_17_code
def yX10_next : MethodName := ⟨RX10, "next", "(II)I"⟩
abbrev cX10_tune : ByteArray := prog_1_method_18_code
def yX10_tune : MethodName := ⟨RX10, "tune", "(II)I"⟩
abbrev cX10_note : ByteArray := prog_1_method_19_code
def yX10_note : MethodName := ⟨RX10, "note", "(IIZ)I"⟩
abbrev cX10_agree : ByteArray := prog_1_method_28_code
def yX10_agree : MethodName := ⟨RX10, "agree", "()Z"⟩
abbrev cX10_send : ByteArray := prog_1_method_31_code
def yX10_send : MethodName := ⟨RX10, "send", "(IIIZ)I"⟩
abbrev cX10_areDigitsNotes : ByteArray := prog_1_method_32_code
def yX10_areDigitsNotes : MethodName := ⟨RX10, "areDigitsNotes", "(I)Z"⟩
abbrev cX10_digitsOf : ByteArray := prog_1_method_33_code
def yX10_digitsOf : MethodName := ⟨RX10, "digitsOf", "(I)I"⟩
abbrev cX10_notesOfDigits : ByteArray := prog_1_method_34_code
def yX10_notesOfDigits : MethodName := ⟨RX10, "notesOfDigits", "(I)I"⟩
abbrev cX10_noteOf : ByteArray := prog_1_method_35_code
def yX10_noteOf : MethodName := ⟨RX10, "noteOf", "(II)I"⟩
abbrev cX10_tick : ByteArray := prog_1_method_36_code
def yX10_tick : MethodName := ⟨RX10, "tick", "(I)I"⟩
abbrev cX10_give : ByteArray := prog_1_method_37_code
def yX10_give : MethodName := ⟨RX10, "give", "(II)I"⟩
abbrev cX10_cut : ByteArray := prog_1_method_38_code
def yX10_cut : MethodName := ⟨RX10, "cut", "(II)I"⟩
abbrev cX10_set : ByteArray := prog_1_method_39_code
def yX10_set : MethodName := ⟨RX10, "set", "(II)I"⟩
abbrev cX10_needRoof : ByteArray := prog_1_method_47_code
def yX10_needRoof : MethodName := ⟨RX10, "needRoof", "(I)V"⟩
abbrev cX10_needTune : ByteArray := prog_1_method_48_code
def yX10_needTune : MethodName := ⟨RX10, "needTune", "(I)V"⟩
abbrev cX10_needNumber : ByteArray := prog_1_method_49_code
def yX10_needNumber : MethodName := ⟨RX10, "needNumber", "(III)V"⟩
def RX11 : String := "WhistlePostsModel"
def TX11 : u_T := fun k => match k with
  | _ => ("", "", "", false)
def tyX11 : Nat → FieldType := fun k => match k with
  | _ => .int
abbrev wsX110 : List Cond := u_ws RX11 TX11 0
theorem nmX11 : ∀ a, a < 0 → ∀ b, b < 0 → a ≠ b → (TX11 a).2.1 ≠ (TX11 b).2.1 := by decide +kernel
theorem tyX11_ok : ∀ k, k < 0 → parseFieldDescriptor (TX11 k).2.2.1 = some (tyX11 k) := by decide +kernel
def RJx145de : String := "java/io/Serializable"
def TJx145de : u_T := fun k => match k with
  | _ => ("", "", "", false)
def tyJx145de : Nat → FieldType := fun k => match k with
  | _ => .int
abbrev wsJx145de0 : List Cond := u_ws RJx145de TJx145de 0
theorem nmJx145de : ∀ a, a < 0 → ∀ b, b < 0 → a ≠ b → (TJx145de a).2.1 ≠ (TJx145de b).2.1 := by decide +kernel
theorem tyJx145de_ok : ∀ k, k < 0 → parseFieldDescriptor (TJx145de k).2.2.1 = some (tyJx145de k) := by decide +kernel
def RJ5 : String := "java/lang/AbstractStringBuilder"
def TJ5 : u_T := fun k => match k with
  | _ => ("", "", "", false)
def tyJ5 : Nat → FieldType := fun k => match k with
  | _ => .int
abbrev wsJ50 : List Cond := u_ws RJ5 TJ5 0
theorem nmJ5 : ∀ a, a < 0 → ∀ b, b < 0 → a ≠ b → (TJ5 a).2.1 ≠ (TJ5 b).2.1 := by decide +kernel
theorem tyJ5_ok : ∀ k, k < 0 → parseFieldDescriptor (TJ5 k).2.2.1 = some (tyJ5 k) := by decide +kernel
abbrev cJ5_init_d00df : ByteArray := prog_14_method_2_code
def yJ5_init_d00df : MethodName := ⟨RJ5, "<init>", "(I)V"⟩
abbrev cJ5_length_8abf5 : ByteArray := prog_14_method_6_code
def yJ5_length_8abf5 : MethodName := ⟨RJ5, "length", "()I"⟩
abbrev cJ5_ensureCapacityInternal_d00df : ByteArray := prog_14_method_9_code
def yJ5_ensureCapacityInternal_d00df : MethodName := ⟨RJ5, "ensureCapacityInternal", "(I)V"⟩
abbrev cJ5_newCapacity_0f7a4 : ByteArray := prog_14_method_10_code
def yJ5_newCapacity_0f7a4 : MethodName := ⟨RJ5, "newCapacity", "(I)I"⟩
abbrev cJ5_inflate_da8c8 : ByteArray := prog_14_method_11_code
def yJ5_inflate_da8c8 : MethodName := ⟨RJ5, "inflate", "()V"⟩
abbrev cJ5_append_cf1ce : ByteArray := prog_14_method_22_code
def yJ5_append_cf1ce : MethodName := ⟨RJ5, "append", "(Ljava/lang/String;)Ljava/lang/AbstractStringBuilder;"⟩
abbrev cJ5_appendNull_278bc : ByteArray := prog_14_method_26_code
def yJ5_appendNull_278bc : MethodName := ⟨RJ5, "appendNull", "()Ljava/lang/AbstractStringBuilder;"⟩
abbrev cJ5_append_3fe6f : ByteArray := prog_14_method_31_code
def yJ5_append_3fe6f : MethodName := ⟨RJ5, "append", "(C)Ljava/lang/AbstractStringBuilder;"⟩
abbrev cJ5_append_c97b9 : ByteArray := prog_14_method_32_code
def yJ5_append_c97b9 : MethodName := ⟨RJ5, "append", "(I)Ljava/lang/AbstractStringBuilder;"⟩
abbrev cJ5_getValue_6d5f1 : ByteArray := prog_14_method_64_code
def yJ5_getValue_6d5f1 : MethodName := ⟨RJ5, "getValue", "()[B"⟩
abbrev cJ5_isLatin1_aae02 : ByteArray := prog_14_method_68_code
def yJ5_isLatin1_aae02 : MethodName := ⟨RJ5, "isLatin1", "()Z"⟩
abbrev cJ5_inflateIfNeededFor_a7421 : ByteArray := prog_14_method_71_code
def yJ5_inflateIfNeededFor_a7421 : MethodName := ⟨RJ5, "inflateIfNeededFor", "(Ljava/lang/String;)V"⟩
abbrev cJ5_putStringAt_47b60 : ByteArray := prog_14_method_73_code
def yJ5_putStringAt_47b60 : MethodName := ⟨RJ5, "putStringAt", "(ILjava/lang/String;)V"⟩
def RJx2cfe8 : String := "java/lang/Appendable"
def TJx2cfe8 : u_T := fun k => match k with
  | _ => ("", "", "", false)
def tyJx2cfe8 : Nat → FieldType := fun k => match k with
  | _ => .int
abbrev wsJx2cfe80 : List Cond := u_ws RJx2cfe8 TJx2cfe8 0
theorem nmJx2cfe8 : ∀ a, a < 0 → ∀ b, b < 0 → a ≠ b → (TJx2cfe8 a).2.1 ≠ (TJx2cfe8 b).2.1 := by decide +kernel
theorem tyJx2cfe8_ok : ∀ k, k < 0 → parseFieldDescriptor (TJx2cfe8 k).2.2.1 = some (tyJx2cfe8 k) := by decide +kernel
def RJx9f9b0 : String := "java/lang/CharSequence"
def TJx9f9b0 : u_T := fun k => match k with
  | _ => ("", "", "", false)
def tyJx9f9b0 : Nat → FieldType := fun k => match k with
  | _ => .int
abbrev wsJx9f9b00 : List Cond := u_ws RJx9f9b0 TJx9f9b0 0
theorem nmJx9f9b0 : ∀ a, a < 0 → ∀ b, b < 0 → a ≠ b → (TJx9f9b0 a).2.1 ≠ (TJx9f9b0 b).2.1 := by decide +kernel
theorem tyJx9f9b0_ok : ∀ k, k < 0 → parseFieldDescriptor (TJx9f9b0 k).2.2.1 = some (tyJx9f9b0 k) := by decide +kernel
def RJx8e188 : String := "java/lang/Cloneable"
def TJx8e188 : u_T := fun k => match k with
  | _ => ("", "", "", false)
def tyJx8e188 : Nat → FieldType := fun k => match k with
  | _ => .int
abbrev wsJx8e1880 : List Cond := u_ws RJx8e188 TJx8e188 0
theorem nmJx8e188 : ∀ a, a < 0 → ∀ b, b < 0 → a ≠ b → (TJx8e188 a).2.1 ≠ (TJx8e188 b).2.1 := by decide +kernel
theorem tyJx8e188_ok : ∀ k, k < 0 → parseFieldDescriptor (TJx8e188 k).2.2.1 = some (tyJx8e188 k) := by decide +kernel
def RJxb160c : String := "java/lang/Comparable"
def TJxb160c : u_T := fun k => match k with
  | _ => ("", "", "", false)
def tyJxb160c : Nat → FieldType := fun k => match k with
  | _ => .int
abbrev wsJxb160c0 : List Cond := u_ws RJxb160c TJxb160c 0
theorem nmJxb160c : ∀ a, a < 0 → ∀ b, b < 0 → a ≠ b → (TJxb160c a).2.1 ≠ (TJxb160c b).2.1 := by decide +kernel
theorem tyJxb160c_ok : ∀ k, k < 0 → parseFieldDescriptor (TJxb160c k).2.2.1 = some (tyJxb160c k) := by decide +kernel
def RJ6 : String := "java/lang/Integer"
def TJ6 : u_T := fun k => match k with
  | _ => ("", "", "", false)
def tyJ6 : Nat → FieldType := fun k => match k with
  | _ => .int
abbrev wsJ60 : List Cond := u_ws RJ6 TJ6 0
theorem nmJ6 : ∀ a, a < 0 → ∀ b, b < 0 → a ≠ b → (TJ6 a).2.1 ≠ (TJ6 b).2.1 := by decide +kernel
theorem tyJ6_ok : ∀ k, k < 0 → parseFieldDescriptor (TJ6 k).2.2.1 = some (tyJ6 k) := by decide +kernel
abbrev cJ6_getChars_ba4f3 : ByteArray := prog_20_method_12_code
def yJ6_getChars_ba4f3 : MethodName := ⟨RJ6, "getChars", "(II[B)I"⟩
abbrev cJ6_stringSize_0f7a4 : ByteArray := prog_20_method_13_code
def yJ6_stringSize_0f7a4 : MethodName := ⟨RJ6, "stringSize", "(I)I"⟩
def RJ9 : String := "java/lang/Math"
def TJ9 : u_T := fun k => match k with
  | _ => ("", "", "", false)
def tyJ9 : Nat → FieldType := fun k => match k with
  | _ => .int
abbrev wsJ90 : List Cond := u_ws RJ9 TJ9 0
theorem nmJ9 : ∀ a, a < 0 → ∀ b, b < 0 → a ≠ b → (TJ9 a).2.1 ≠ (TJ9 b).2.1 := by decide +kernel
theorem tyJ9_ok : ∀ k, k < 0 → parseFieldDescriptor (TJ9 k).2.2.1 = some (tyJ9 k) := by decide +kernel
abbrev cJ9_max_7cf53 : ByteArray := prog_21_method_65_code
def yJ9_max_7cf53 : MethodName := ⟨RJ9, "max", "(II)I"⟩
abbrev cJ9_min_7cf53 : ByteArray := prog_21_method_69_code
def yJ9_min_7cf53 : MethodName := ⟨RJ9, "min", "(II)I"⟩
def RJxd2413 : String := "java/lang/Number"
def TJxd2413 : u_T := fun k => match k with
  | _ => ("", "", "", false)
def tyJxd2413 : Nat → FieldType := fun k => match k with
  | _ => .int
abbrev wsJxd24130 : List Cond := u_ws RJxd2413 TJxd2413 0
theorem nmJxd2413 : ∀ a, a < 0 → ∀ b, b < 0 → a ≠ b → (TJxd2413 a).2.1 ≠ (TJxd2413 b).2.1 := by decide +kernel
theorem tyJxd2413_ok : ∀ k, k < 0 → parseFieldDescriptor (TJxd2413 k).2.2.1 = some (tyJxd2413 k) := by decide +kernel
def RJ0 : String := "java/lang/String"
def TJ0 : u_T := fun k => match k with
  | 0 => ("java/lang/String", "value", "[B", true)
  | 1 => ("java/lang/String", "coder", "B", true)
  | 2 => ("java/lang/String", "hash", "I", false)
  | _ => ("java/lang/String", "hashIsZero", "Z", false)
def tyJ0 : Nat → FieldType := fun k => match k with
  | 0 => .array .byte
  | 1 => .byte
  | 2 => .int
  | _ => .boolean
abbrev wsJ00 : List Cond := u_ws RJ0 TJ0 4
theorem nmJ0 : ∀ a, a < 4 → ∀ b, b < 4 → a ≠ b → (TJ0 a).2.1 ≠ (TJ0 b).2.1 := by decide +kernel
theorem tyJ0_ok : ∀ k, k < 4 → parseFieldDescriptor (TJ0 k).2.2.1 = some (tyJ0 k) := by decide +kernel
abbrev cJ0_init_81219 : ByteArray := prog_24_method_53_code
def yJ0_init_81219 : MethodName := ⟨RJ0, "<init>", "(Ljava/lang/StringBuilder;)V"⟩
abbrev cJ0_length_8abf5 : ByteArray := prog_24_method_54_code
def yJ0_length_8abf5 : MethodName := ⟨RJ0, "length", "()I"⟩
abbrev cJ0_charAt_5068e : ByteArray := prog_24_method_56_code
def yJ0_charAt_5068e : MethodName := ⟨RJ0, "charAt", "(I)C"⟩
abbrev cJ0_getBytes_840e7 : ByteArray := prog_24_method_147_code
def yJ0_getBytes_840e7 : MethodName := ⟨RJ0, "getBytes", "([BIB)V"⟩
abbrev cJ0_init_db425 : ByteArray := prog_24_method_150_code
def yJ0_init_db425 : MethodName := ⟨RJ0, "<init>", "(Ljava/lang/AbstractStringBuilder;Ljava/lang/Void;)V"⟩
abbrev cJ0_coder_7d493 : ByteArray := prog_24_method_152_code
def yJ0_coder_7d493 : MethodName := ⟨RJ0, "coder", "()B"⟩
abbrev cJ0_isLatin1_aae02 : ByteArray := prog_24_method_154_code
def yJ0_isLatin1_aae02 : MethodName := ⟨RJ0, "isLatin1", "()Z"⟩
abbrev cJ0_checkIndex_df160 : ByteArray := prog_24_method_155_code
def yJ0_checkIndex_df160 : MethodName := ⟨RJ0, "checkIndex", "(II)V"⟩
abbrev cJ0_checkBoundsOffCount_cabcc : ByteArray := prog_24_method_157_code
def yJ0_checkBoundsOffCount_cabcc : MethodName := ⟨RJ0, "checkBoundsOffCount", "(III)I"⟩
abbrev cJ0_checkBoundsBeginEnd_23922 : ByteArray := prog_24_method_158_code
def yJ0_checkBoundsBeginEnd_23922 : MethodName := ⟨RJ0, "checkBoundsBeginEnd", "(III)V"⟩
def RJ4 : String := "java/lang/StringBuilder"
def TJ4 : u_T := fun k => match k with
  | 0 => ("java/lang/AbstractStringBuilder", "value", "[B", false)
  | 1 => ("java/lang/AbstractStringBuilder", "coder", "B", false)
  | 2 => ("java/lang/AbstractStringBuilder", "maybeLatin1", "Z", false)
  | _ => ("java/lang/AbstractStringBuilder", "count", "I", false)
def tyJ4 : Nat → FieldType := fun k => match k with
  | 0 => .array .byte
  | 1 => .byte
  | 2 => .boolean
  | _ => .int
abbrev wsJ40 : List Cond := u_ws RJ4 TJ4 4
theorem nmJ4 : ∀ a, a < 4 → ∀ b, b < 4 → a ≠ b → (TJ4 a).2.1 ≠ (TJ4 b).2.1 := by decide +kernel
theorem tyJ4_ok : ∀ k, k < 4 → parseFieldDescriptor (TJ4 k).2.2.1 = some (tyJ4 k) := by decide +kernel
abbrev cJ4_init_da8c8 : ByteArray := prog_25_method_1_code
def yJ4_init_da8c8 : MethodName := ⟨RJ4, "<init>", "()V"⟩
abbrev cJ4_append_15ec4 : ByteArray := prog_25_method_7_code
def yJ4_append_15ec4 : MethodName := ⟨RJ4, "append", "(Ljava/lang/String;)Ljava/lang/StringBuilder;"⟩
abbrev cJ4_append_cf468 : ByteArray := prog_25_method_14_code
def yJ4_append_cf468 : MethodName := ⟨RJ4, "append", "(C)Ljava/lang/StringBuilder;"⟩
abbrev cJ4_append_bf812 : ByteArray := prog_25_method_15_code
def yJ4_append_bf812 : MethodName := ⟨RJ4, "append", "(I)Ljava/lang/StringBuilder;"⟩
abbrev cJ4_toString_0e30d : ByteArray := prog_25_method_42_code
def yJ4_toString_0e30d : MethodName := ⟨RJ4, "toString", "()Ljava/lang/String;"⟩
abbrev cJ4_length_8abf5 : ByteArray := prog_25_method_93_code
def yJ4_length_8abf5 : MethodName := ⟨RJ4, "length", "()I"⟩
def RJ1 : String := "java/lang/StringLatin1"
def TJ1 : u_T := fun k => match k with
  | _ => ("", "", "", false)
def tyJ1 : Nat → FieldType := fun k => match k with
  | _ => .int
abbrev wsJ10 : List Cond := u_ws RJ1 TJ1 0
theorem nmJ1 : ∀ a, a < 0 → ∀ b, b < 0 → a ≠ b → (TJ1 a).2.1 ≠ (TJ1 b).2.1 := by decide +kernel
theorem tyJ1_ok : ∀ k, k < 0 → parseFieldDescriptor (TJ1 k).2.2.1 = some (tyJ1 k) := by decide +kernel
abbrev cJ1_charAt_3b067 : ByteArray := prog_26_method_2_code
def yJ1_charAt_3b067 : MethodName := ⟨RJ1, "charAt", "([BI)C"⟩
abbrev cJ1_canEncode_fc78d : ByteArray := prog_26_method_3_code
def yJ1_canEncode_fc78d : MethodName := ⟨RJ1, "canEncode", "(C)Z"⟩
abbrev cJ1_inflate_0e8fd : ByteArray := prog_26_method_50_code
def yJ1_inflate_0e8fd : MethodName := ⟨RJ1, "inflate", "([BI[BII)V"⟩
def RJ2 : String := "java/lang/StringUTF16"
def TJ2 : u_T := fun k => match k with
  | _ => ("", "", "", false)
def tyJ2 : Nat → FieldType := fun k => match k with
  | _ => .int
abbrev wsJ20 : List Cond := u_ws RJ2 TJ2 0
theorem nmJ2 : ∀ a, a < 0 → ∀ b, b < 0 → a ≠ b → (TJ2 a).2.1 ≠ (TJ2 b).2.1 := by decide +kernel
theorem tyJ2_ok : ∀ k, k < 0 → parseFieldDescriptor (TJ2 k).2.2.1 = some (tyJ2 k) := by decide +kernel
abbrev cJ2_newBytesFor_77867 : ByteArray := prog_27_method_2_code
def yJ2_newBytesFor_77867 : MethodName := ⟨RJ2, "newBytesFor", "(I)[B"⟩
abbrev cJ2_newBytesLength_0f7a4 : ByteArray := prog_27_method_3_code
def yJ2_newBytesLength_0f7a4 : MethodName := ⟨RJ2, "newBytesLength", "(I)I"⟩
abbrev cJ2_putChar_b72d1 : ByteArray := prog_27_method_4_code
def yJ2_putChar_b72d1 : MethodName := ⟨RJ2, "putChar", "([BII)V"⟩
abbrev cJ2_getChar_3b067 : ByteArray := prog_27_method_5_code
def yJ2_getChar_3b067 : MethodName := ⟨RJ2, "getChar", "([BI)C"⟩
abbrev cJ2_length_9d52b : ByteArray := prog_27_method_6_code
def yJ2_length_9d52b : MethodName := ⟨RJ2, "length", "([B)I"⟩
abbrev cJ2_coderFromArrayLen_85cad : ByteArray := prog_27_method_15_code
def yJ2_coderFromArrayLen_85cad : MethodName := ⟨RJ2, "coderFromArrayLen", "([BI)B"⟩
abbrev cJ2_compress_39247 : ByteArray := prog_27_method_17_code
def yJ2_compress_39247 : MethodName := ⟨RJ2, "compress", "([BII)[B"⟩
abbrev cJ2_compress_5af95 : ByteArray := prog_27_method_22_code
def yJ2_compress_5af95 : MethodName := ⟨RJ2, "compress", "([BI[BII)I"⟩
abbrev cJ2_putCharSB_b72d1 : ByteArray := prog_27_method_71_code
def yJ2_putCharSB_b72d1 : MethodName := ⟨RJ2, "putCharSB", "([BII)V"⟩
abbrev cJ2_getChars_46870 : ByteArray := prog_27_method_77_code
def yJ2_getChars_46870 : MethodName := ⟨RJ2, "getChars", "(III[B)I"⟩
abbrev cJ2_putCharsAt_cd4e5 : ByteArray := prog_27_method_81_code
def yJ2_putCharsAt_cd4e5 : MethodName := ⟨RJ2, "putCharsAt", "([BICCCC)I"⟩
abbrev cJ2_charAt_3b067 : ByteArray := prog_27_method_83_code
def yJ2_charAt_3b067 : MethodName := ⟨RJ2, "charAt", "([BI)C"⟩
abbrev cJ2_inflate_0e8fd : ByteArray := prog_27_method_86_code
def yJ2_inflate_0e8fd : MethodName := ⟨RJ2, "inflate", "([BI[BII)V"⟩
abbrev cJ2_getChars_ba4f3 : ByteArray := prog_27_method_89_code
def yJ2_getChars_ba4f3 : MethodName := ⟨RJ2, "getChars", "(II[B)I"⟩
abbrev cJ2_checkIndex_2214a : ByteArray := prog_27_method_91_code
def yJ2_checkIndex_2214a : MethodName := ⟨RJ2, "checkIndex", "(I[B)V"⟩
abbrev cJ2_checkBoundsBeginEnd_d044e : ByteArray := prog_27_method_93_code
def yJ2_checkBoundsBeginEnd_d044e : MethodName := ⟨RJ2, "checkBoundsBeginEnd", "(II[B)V"⟩
abbrev cJ2_checkBoundsOffCount_d044e : ByteArray := prog_27_method_94_code
def yJ2_checkBoundsOffCount_d044e : MethodName := ⟨RJ2, "checkBoundsOffCount", "(II[B)V"⟩
def RJ10 : String := "java/lang/System"
def TJ10 : u_T := fun k => match k with
  | _ => ("", "", "", false)
def tyJ10 : Nat → FieldType := fun k => match k with
  | _ => .int
abbrev wsJ100 : List Cond := u_ws RJ10 TJ10 0
theorem nmJ10 : ∀ a, a < 0 → ∀ b, b < 0 → a ≠ b → (TJ10 a).2.1 ≠ (TJ10 b).2.1 := by decide +kernel
theorem tyJ10_ok : ∀ k, k < 0 → parseFieldDescriptor (TJ10 k).2.2.1 = some (tyJ10 k) := by decide +kernel
def RJxfd54e : String := "java/lang/constant/Constable"
def TJxfd54e : u_T := fun k => match k with
  | _ => ("", "", "", false)
def tyJxfd54e : Nat → FieldType := fun k => match k with
  | _ => .int
abbrev wsJxfd54e0 : List Cond := u_ws RJxfd54e TJxfd54e 0
theorem nmJxfd54e : ∀ a, a < 0 → ∀ b, b < 0 → a ≠ b → (TJxfd54e a).2.1 ≠ (TJxfd54e b).2.1 := by decide +kernel
theorem tyJxfd54e_ok : ∀ k, k < 0 → parseFieldDescriptor (TJxfd54e k).2.2.1 = some (tyJxfd54e k) := by decide +kernel
def RJx3cf43 : String := "java/lang/constant/ConstantDesc"
def TJx3cf43 : u_T := fun k => match k with
  | _ => ("", "", "", false)
def tyJx3cf43 : Nat → FieldType := fun k => match k with
  | _ => .int
abbrev wsJx3cf430 : List Cond := u_ws RJx3cf43 TJx3cf43 0
theorem nmJx3cf43 : ∀ a, a < 0 → ∀ b, b < 0 → a ≠ b → (TJx3cf43 a).2.1 ≠ (TJx3cf43 b).2.1 := by decide +kernel
theorem tyJx3cf43_ok : ∀ k, k < 0 → parseFieldDescriptor (TJx3cf43 k).2.2.1 = some (tyJx3cf43 k) := by decide +kernel
def RJ7 : String := "java/util/Arrays"
def TJ7 : u_T := fun k => match k with
  | _ => ("", "", "", false)
def tyJ7 : Nat → FieldType := fun k => match k with
  | _ => .int
abbrev wsJ70 : List Cond := u_ws RJ7 TJ7 0
theorem nmJ7 : ∀ a, a < 0 → ∀ b, b < 0 → a ≠ b → (TJ7 a).2.1 ≠ (TJ7 b).2.1 := by decide +kernel
theorem tyJ7_ok : ∀ k, k < 0 → parseFieldDescriptor (TJ7 k).2.2.1 = some (tyJ7 k) := by decide +kernel
abbrev cJ7_copyOf_9075b : ByteArray := prog_30_method_121_code
def yJ7_copyOf_9075b : MethodName := ⟨RJ7, "copyOf", "([BI)[B"⟩
abbrev cJ7_checkLength_df160 : ByteArray := prog_30_method_131_code
def yJ7_checkLength_df160 : MethodName := ⟨RJ7, "checkLength", "(II)V"⟩
abbrev cJ7_copyOfRange_39247 : ByteArray := prog_30_method_132_code
def yJ7_copyOfRange_39247 : MethodName := ⟨RJ7, "copyOfRange", "([BII)[B"⟩
abbrev cJ7_copyOfRangeByte_39247 : ByteArray := prog_30_method_133_code
def yJ7_copyOfRangeByte_39247 : MethodName := ⟨RJ7, "copyOfRangeByte", "([BII)[B"⟩
def RJ8 : String := "jdk/internal/util/ArraysSupport"
def TJ8 : u_T := fun k => match k with
  | _ => ("", "", "", false)
def tyJ8 : Nat → FieldType := fun k => match k with
  | _ => .int
abbrev wsJ80 : List Cond := u_ws RJ8 TJ8 0
theorem nmJ8 : ∀ a, a < 0 → ∀ b, b < 0 → a ≠ b → (TJ8 a).2.1 ≠ (TJ8 b).2.1 := by decide +kernel
theorem tyJ8_ok : ∀ k, k < 0 → parseFieldDescriptor (TJ8 k).2.2.1 = some (tyJ8 k) := by decide +kernel
abbrev cJ8_newLength_cabcc : ByteArray := prog_31_method_27_code
def yJ8_newLength_cabcc : MethodName := ⟨RJ8, "newLength", "(III)I"⟩
abbrev cJ8_hugeLength_7cf53 : ByteArray := prog_31_method_28_code
def yJ8_hugeLength_7cf53 : MethodName := ⟨RJ8, "hugeLength", "(II)I"⟩
def RJ3 : String := "jdk/internal/util/Preconditions"
def TJ3 : u_T := fun k => match k with
  | _ => ("", "", "", false)
def tyJ3 : Nat → FieldType := fun k => match k with
  | _ => .int
abbrev wsJ30 : List Cond := u_ws RJ3 TJ3 0
theorem nmJ3 : ∀ a, a < 0 → ∀ b, b < 0 → a ≠ b → (TJ3 a).2.1 ≠ (TJ3 b).2.1 := by decide +kernel
theorem tyJ3_ok : ∀ k, k < 0 → parseFieldDescriptor (TJ3 k).2.2.1 = some (tyJ3 k) := by decide +kernel
abbrev cJ3_checkIndex_8e157 : ByteArray := prog_32_method_11_code
def yJ3_checkIndex_8e157 : MethodName := ⟨RJ3, "checkIndex", "(IILjava/util/function/BiFunction;)I"⟩
abbrev cJ3_checkFromToIndex_8c36e : ByteArray := prog_32_method_12_code
def yJ3_checkFromToIndex_8c36e : MethodName := ⟨RJ3, "checkFromToIndex", "(IIILjava/util/function/BiFunction;)I"⟩
abbrev cJ3_checkFromIndexSize_8c36e : ByteArray := prog_32_method_13_code
def yJ3_checkFromIndexSize_8c36e : MethodName := ⟨RJ3, "checkFromIndexSize", "(IIILjava/util/function/BiFunction;)I"⟩
def RL : String := "WhistlePostsLaw"
def TL : u_T := fun k => match k with
  | 0 => ("WhistlePostsLaw", "breath", "[I", true)
  | 1 => ("WhistlePostsLaw", "ear", "[I", true)
  | 2 => ("WhistlePostsLaw", "fee", "[I", true)
  | 3 => ("WhistlePostsLaw", "purse", "[I", true)
  | 4 => ("WhistlePostsLaw", "until", "[I", true)
  | 5 => ("WhistlePostsLaw", "whistled", "[I", true)
  | 6 => ("WhistlePostsLaw", "way", "[[I", true)
  | 7 => ("WhistlePostsLaw", "sum", "[[I", true)
  | 8 => ("WhistlePostsLaw", "from", "[I", true)
  | 9 => ("WhistlePostsLaw", "goal", "[I", true)
  | 10 => ("WhistlePostsLaw", "state", "[I", true)
  | 11 => ("WhistlePostsLaw", "at", "[I", true)
  | 12 => ("WhistlePostsLaw", "end", "[I", true)
  | 13 => ("WhistlePostsLaw", "far", "[I", true)
  | 14 => ("WhistlePostsLaw", "tries", "[I", true)
  | 15 => ("WhistlePostsLaw", "hops", "[I", true)
  | 16 => ("WhistlePostsLaw", "wants", "[I", true)
  | 17 => ("WhistlePostsLaw", "reply", "[I", true)
  | 18 => ("WhistlePostsLaw", "sent", "[[I", true)
  | 19 => ("WhistlePostsLaw", "heard", "[[I", true)
  | 20 => ("WhistlePostsLaw", "roofs", "I", false)
  | 21 => ("WhistlePostsLaw", "tunes", "I", false)
  | 22 => ("WhistlePostsLaw", "time", "I", false)
  | 23 => ("WhistlePostsLaw", "wind", "I", false)
  | 24 => ("WhistlePostsLaw", "dusk", "I", false)
  | 25 => ("WhistlePostsLaw", "again", "I", false)
  | 26 => ("WhistlePostsLaw", "replies", "I", false)
  | 27 => ("WhistlePostsLaw", "wrong", "I", false)
  | 28 => ("WhistlePostsLaw", "arrived", "I", false)
  | 29 => ("WhistlePostsLaw", "right", "I", false)
  | 30 => ("WhistlePostsLaw", "anew", "I", false)
  | 31 => ("WhistlePostsLaw", "lost", "I", false)
  | 32 => ("WhistlePostsLaw", "fees", "I", false)
  | _ => ("WhistlePostsLaw", "flown", "I", false)
def tyL : Nat → FieldType := fun k => match k with
  | 0 => .array .int
  | 1 => .array .int
  | 2 => .array .int
  | 3 => .array .int
  | 4 => .array .int
  | 5 => .array .int
  | 6 => .array (.array .int)
  | 7 => .array (.array .int)
  | 8 => .array .int
  | 9 => .array .int
  | 10 => .array .int
  | 11 => .array .int
  | 12 => .array .int
  | 13 => .array .int
  | 14 => .array .int
  | 15 => .array .int
  | 16 => .array .int
  | 17 => .array .int
  | 18 => .array (.array .int)
  | 19 => .array (.array .int)
  | 20 => .int
  | 21 => .int
  | 22 => .int
  | 23 => .int
  | 24 => .int
  | 25 => .int
  | 26 => .int
  | 27 => .int
  | 28 => .int
  | 29 => .int
  | 30 => .int
  | 31 => .int
  | 32 => .int
  | _ => .int
abbrev wsL0 : List Cond := u_ws RL TL 34
theorem nmL : ∀ a, a < 34 → ∀ b, b < 34 → a ≠ b → (TL a).2.1 ≠ (TL b).2.1 := by decide +kernel
theorem tyL_ok : ∀ k, k < 34 → parseFieldDescriptor (TL k).2.2.1 = some (tyL k) := by decide +kernel
abbrev cL_init : ByteArray := method_1_code
def yL_init : MethodName := ⟨RL, "<init>", "()V"⟩
abbrev cL_cell : ByteArray := method_2_code
def yL_cell : MethodName := ⟨RL, "cell", "([II)I"⟩
abbrev cL_bits : ByteArray := method_3_code
def yL_bits : MethodName := ⟨RL, "bits", "(III)I"⟩
abbrev cL_told : ByteArray := method_4_code
def yL_told : MethodName := ⟨RL, "told", "(LWhistlePosts;Ljava/lang/String;)V"⟩
abbrev cL_reckon : ByteArray := method_5_code
def yL_reckon : MethodName := ⟨RL, "reckon", "()V"⟩
abbrev cL_next : ByteArray := method_6_code
def yL_next : MethodName := ⟨RL, "next", "(II)I"⟩
abbrev cL_bars : ByteArray := method_7_code
def yL_bars : MethodName := ⟨RL, "bars", "(I)I"⟩
abbrev cL_isRight : ByteArray := method_8_code
def yL_isRight : MethodName := ⟨RL, "isRight", "(I)Z"⟩
abbrev cL_sends : ByteArray := method_9_code
def yL_sends : MethodName := ⟨RL, "sends", "(II[III)V"⟩
abbrev cL_resets : ByteArray := method_10_code
def yL_resets : MethodName := ⟨RL, "resets", "(I)V"⟩
abbrev cL_lands : ByteArray := method_11_code
def yL_lands : MethodName := ⟨RL, "lands", "(I)V"⟩
abbrev cL_first : ByteArray := method_12_code
def yL_first : MethodName := ⟨RL, "first", "(I)I"⟩
abbrev cL_ticks : ByteArray := method_13_code
def yL_ticks : MethodName := ⟨RL, "ticks", "()V"⟩
abbrev cL_isRefused : ByteArray := method_14_code
def yL_isRefused : MethodName := ⟨RL, "isRefused", "(LWhistlePosts;III)Z"⟩
abbrev cL_acts : ByteArray := method_15_code
def yL_acts : MethodName := ⟨RL, "acts", "(LWhistlePosts;I)Z"⟩
abbrev cL_isLike : ByteArray := method_16_code
def yL_isLike : MethodName := ⟨RL, "isLike", "(LWhistlePosts;)Z"⟩
abbrev cL_law : ByteArray := code
def yL_law : MethodName := ⟨RL, "law", "([I)Z"⟩
abbrev vwCl : List vw_C := [(RJ0, TJ0, 4), (RJ4, TJ4, 4), (RX0, TX0, 2), (RX1, TX1, 3), (RX2, TX2, 10), (RX3, TX3, 3), (RX4, TX4, 4), (RX5, TX5, 2), (RX7, TX7, 3), (RX9, TX9, 7), (RX10, TX10, 10), (RL, TL, 34)]
end
section
theorem dX0_init_0 : decode cX0_init 0 = .ok (.aload_n 0, 1) := by decide +kernel
theorem dX0_init_1 : decode cX0_init 1 = .ok (.invokespecial 3, 3) := by decide +kernel
theorem dX0_init_4 : decode cX0_init 4 = .ok (.aload_n 0, 1) := by decide +kernel
theorem dX0_init_5 : decode cX0_init 5 = .ok (.iload_n 1, 1) := by decide +kernel
theorem dX0_init_6 : decode cX0_init 6 = .ok (.ifCond .le 14, 3) := by decide +kernel
theorem dX0_init_9 : decode cX0_init 9 = .ok (.iload_n 1, 1) := by decide +kernel
theorem dX0_init_10 : decode cX0_init 10 = .ok (.sipush 800, 3) := by decide +kernel
theorem dX0_init_13 : decode cX0_init 13 = .ok (.if_icmp .gt 7, 3) := by decide +kernel
theorem dX0_init_16 : decode cX0_init 16 = .ok (.iload_n 1, 1) := by decide +kernel
theorem dX0_init_17 : decode cX0_init 17 = .ok (.goto 4, 3) := by decide +kernel
theorem dX0_init_20 : decode cX0_init 20 = .ok (.iconst 0, 1) := by decide +kernel
theorem dX0_init_21 : decode cX0_init 21 = .ok (.newarray .int, 2) := by decide +kernel
theorem dX0_init_23 : decode cX0_init 23 = .ok (.putfield 9, 3) := by decide +kernel
theorem dX0_init_26 : decode cX0_init 26 = .ok (.aload_n 0, 1) := by decide +kernel
theorem dX0_init_27 : decode cX0_init 27 = .ok (.iconst 0, 1) := by decide +kernel
theorem dX0_init_28 : decode cX0_init 28 = .ok (.putfield 15, 3) := by decide +kernel
theorem dX0_init_31 : decode cX0_init 31 = .ok (.return_, 1) := by decide +kernel
theorem dX0_size_0 : decode cX0_size 0 = .ok (.aload_n 0, 1) := by decide +kernel
theorem dX0_size_1 : decode cX0_size 1 = .ok (.getfield 15, 3) := by decide +kernel
theorem dX0_size_4 : decode cX0_size 4 = .ok (.ireturn, 1) := by decide +kernel
theorem dX0_get_0 : decode cX0_get 0 = .ok (.iload_n 1, 1) := by decide +kernel
theorem dX0_get_1 : decode cX0_get 1 = .ok (.ifCond .lt 29, 3) := by decide +kernel
theorem dX0_get_4 : decode cX0_get 4 = .ok (.iload_n 1, 1) := by decide +kernel
theorem dX0_get_5 : decode cX0_get 5 = .ok (.aload_n 0, 1) := by decide +kernel
theorem dX0_get_6 : decode cX0_get 6 = .ok (.getfield 15, 3) := by decide +kernel
theorem dX0_get_9 : decode cX0_get 9 = .ok (.if_icmp .ge 21, 3) := by decide +kernel
theorem dX0_get_12 : decode cX0_get 12 = .ok (.iload_n 1, 1) := by decide +kernel
theorem dX0_get_13 : decode cX0_get 13 = .ok (.aload_n 0, 1) := by decide +kernel
theorem dX0_get_14 : decode cX0_get 14 = .ok (.getfield 9, 3) := by decide +kernel
theorem dX0_get_17 : decode cX0_get 17 = .ok (.arraylength, 1) := by decide +kernel
theorem dX0_get_18 : decode cX0_get 18 = .ok (.if_icmp .ge 12, 3) := by decide +kernel
theorem dX0_get_21 : decode cX0_get 21 = .ok (.aload_n 0, 1) := by decide +kernel
theorem dX0_get_22 : decode cX0_get 22 = .ok (.getfield 9, 3) := by decide +kernel
theorem dX0_get_25 : decode cX0_get 25 = .ok (.iload_n 1, 1) := by decide +kernel
theorem dX0_get_26 : decode cX0_get 26 = .ok (.iaload, 1) := by decide +kernel
theorem dX0_get_27 : decode cX0_get 27 = .ok (.goto 4, 3) := by decide +kernel
theorem dX0_get_30 : decode cX0_get 30 = .ok (.iconst (-1), 1) := by decide +kernel
theorem dX0_get_31 : decode cX0_get 31 = .ok (.ireturn, 1) := by decide +kernel
theorem dX0_add_0 : decode cX0_add 0 = .ok (.aload_n 0, 1) := by decide +kernel
theorem dX0_add_1 : decode cX0_add 1 = .ok (.getfield 15, 3) := by decide +kernel
theorem dX0_add_4 : decode cX0_add 4 = .ok (.ifCond .lt 35, 3) := by decide +kernel
theorem dX0_add_7 : decode cX0_add 7 = .ok (.aload_n 0, 1) := by decide +kernel
theorem dX0_add_8 : decode cX0_add 8 = .ok (.getfield 15, 3) := by decide +kernel
theorem dX0_add_11 : decode cX0_add 11 = .ok (.aload_n 0, 1) := by decide +kernel
theorem dX0_add_12 : decode cX0_add 12 = .ok (.getfield 9, 3) := by decide +kernel
theorem dX0_add_15 : decode cX0_add 15 = .ok (.arraylength, 1) := by decide +kernel
theorem dX0_add_16 : decode cX0_add 16 = .ok (.if_icmp .ge 23, 3) := by decide +kernel
theorem dX0_add_19 : decode cX0_add 19 = .ok (.aload_n 0, 1) := by decide +kernel
theorem dX0_add_20 : decode cX0_add 20 = .ok (.getfield 9, 3) := by decide +kernel
theorem dX0_add_23 : decode cX0_add 23 = .ok (.aload_n 0, 1) := by decide +kernel
theorem dX0_add_24 : decode cX0_add 24 = .ok (.getfield 15, 3) := by decide +kernel
theorem dX0_add_27 : decode cX0_add 27 = .ok (.iload_n 1, 1) := by decide +kernel
theorem dX0_add_28 : decode cX0_add 28 = .ok (.iastore, 1) := by decide +kernel
theorem dX0_add_29 : decode cX0_add 29 = .ok (.aload_n 0, 1) := by decide +kernel
theorem dX0_add_30 : decode cX0_add 30 = .ok (.dup, 1) := by decide +kernel
theorem dX0_add_31 : decode cX0_add 31 = .ok (.getfield 15, 3) := by decide +kernel
theorem dX0_add_34 : decode cX0_add 34 = .ok (.iconst 1, 1) := by decide +kernel
theorem dX0_add_35 : decode cX0_add 35 = .ok (.iadd, 1) := by decide +kernel
theorem dX0_add_36 : decode cX0_add 36 = .ok (.putfield 15, 3) := by decide +kernel
theorem dX0_add_39 : decode cX0_add 39 = .ok (.return_, 1) := by decide +kernel
theorem dX0_addText_0 : decode cX0_addText 0 = .ok (.iconst 0, 1) := by decide +kernel
theorem dX0_addText_1 : decode cX0_addText 1 = .ok (.istore_n 2, 1) := by decide +kernel
theorem dX0_addText_2 : decode cX0_addText 2 = .ok (.iload_n 2, 1) := by decide +kernel
theorem dX0_addText_3 : decode cX0_addText 3 = .ok (.aload_n 1, 1) := by decide +kernel
theorem dX0_addText_4 : decode cX0_addText 4 = .ok (.invokevirtual 19, 3) := by decide +kernel
theorem dX0_addText_7 : decode cX0_addText 7 = .ok (.if_icmp .ge 18, 3) := by decide +kernel
theorem dX0_addText_10 : decode cX0_addText 10 = .ok (.aload_n 0, 1) := by decide +kernel
theorem dX0_addText_11 : decode cX0_addText 11 = .ok (.aload_n 1, 1) := by decide +kernel
theorem dX0_addText_12 : decode cX0_addText 12 = .ok (.iload_n 2, 1) := by decide +kernel
theorem dX0_addText_13 : decode cX0_addText 13 = .ok (.invokevirtual 25, 3) := by decide +kernel
theorem dX0_addText_16 : decode cX0_addText 16 = .ok (.invokevirtual 29, 3) := by decide +kernel
theorem dX0_addText_19 : decode cX0_addText 19 = .ok (.iinc 2 1, 3) := by decide +kernel
theorem dX0_addText_22 : decode cX0_addText 22 = .ok (.goto (-20), 3) := by decide +kernel
theorem dX0_addText_25 : decode cX0_addText 25 = .ok (.return_, 1) := by decide +kernel
theorem dX0_cutTo_0 : decode cX0_cutTo 0 = .ok (.iload_n 1, 1) := by decide +kernel
theorem dX0_cutTo_1 : decode cX0_cutTo 1 = .ok (.ifCond .lt 11, 3) := by decide +kernel
theorem dX0_cutTo_4 : decode cX0_cutTo 4 = .ok (.iload_n 1, 1) := by decide +kernel
theorem dX0_cutTo_5 : decode cX0_cutTo 5 = .ok (.aload_n 0, 1) := by decide +kernel
theorem dX0_cutTo_6 : decode cX0_cutTo 6 = .ok (.getfield 15, 3) := by decide +kernel
theorem dX0_cutTo_9 : decode cX0_cutTo 9 = .ok (.if_icmp .le 5, 3) := by decide +kernel
theorem dX0_cutTo_12 : decode cX0_cutTo 12 = .ok (.iconst 0, 1) := by decide +kernel
theorem dX0_cutTo_13 : decode cX0_cutTo 13 = .ok (.ireturn, 1) := by decide +kernel
theorem dX0_cutTo_14 : decode cX0_cutTo 14 = .ok (.aload_n 0, 1) := by decide +kernel
theorem dX0_cutTo_15 : decode cX0_cutTo 15 = .ok (.iload_n 1, 1) := by decide +kernel
theorem dX0_cutTo_16 : decode cX0_cutTo 16 = .ok (.putfield 15, 3) := by decide +kernel
theorem dX0_cutTo_19 : decode cX0_cutTo 19 = .ok (.iconst 1, 1) := by decide +kernel
theorem dX0_cutTo_20 : decode cX0_cutTo 20 = .ok (.ireturn, 1) := by decide +kernel
theorem dX0_clear_0 : decode cX0_clear 0 = .ok (.aload_n 0, 1) := by decide +kernel
theorem dX0_clear_1 : decode cX0_clear 1 = .ok (.iconst 0, 1) := by decide +kernel
theorem dX0_clear_2 : decode cX0_clear 2 = .ok (.putfield 15, 3) := by decide +kernel
theorem dX0_clear_5 : decode cX0_clear 5 = .ok (.return_, 1) := by decide +kernel
theorem dX1_init_0 : decode cX1_init 0 = .ok (.aload_n 0, 1) := by decide +kernel
theorem dX1_init_1 : decode cX1_init 1 = .ok (.invokespecial 3, 3) := by decide +kernel
theorem dX1_init_4 : decode cX1_init 4 = .ok (.aload_n 0, 1) := by decide +kernel
theorem dX1_init_5 : decode cX1_init 5 = .ok (.bipush 8, 2) := by decide +kernel
theorem dX1_init_7 : decode cX1_init 7 = .ok (.anewarray 9, 3) := by decide +kernel
theorem dX1_init_10 : decode cX1_init 10 = .ok (.putfield 11, 3) := by decide +kernel
theorem dX1_init_13 : decode cX1_init 13 = .ok (.iconst 0, 1) := by decide +kernel
theorem dX1_init_14 : decode cX1_init 14 = .ok (.istore_n 1, 1) := by decide +kernel
theorem dX1_init_15 : decode cX1_init 15 = .ok (.iload_n 1, 1) := by decide +kernel
theorem dX1_init_16 : decode cX1_init 16 = .ok (.aload_n 0, 1) := by decide +kernel
theorem dX1_init_17 : decode cX1_init 17 = .ok (.getfield 11, 3) := by decide +kernel
theorem dX1_init_20 : decode cX1_init 20 = .ok (.arraylength, 1) := by decide +kernel
theorem dX1_init_21 : decode cX1_init 21 = .ok (.if_icmp .ge 22, 3) := by decide +kernel
theorem dX1_init_24 : decode cX1_init 24 = .ok (.aload_n 0, 1) := by decide +kernel
theorem dX1_init_25 : decode cX1_init 25 = .ok (.getfield 11, 3) := by decide +kernel
theorem dX1_init_28 : decode cX1_init 28 = .ok (.iload_n 1, 1) := by decide +kernel
theorem dX1_init_29 : decode cX1_init 29 = .ok (.new 9, 3) := by decide +kernel
theorem dX1_init_32 : decode cX1_init 32 = .ok (.dup, 1) := by decide +kernel
theorem dX1_init_33 : decode cX1_init 33 = .ok (.invokespecial 17, 3) := by decide +kernel
theorem dX1_init_36 : decode cX1_init 36 = .ok (.aastore, 1) := by decide +kernel
theorem dX1_init_37 : decode cX1_init 37 = .ok (.iinc 1 1, 3) := by decide +kernel
theorem dX1_init_40 : decode cX1_init 40 = .ok (.goto (-25), 3) := by decide +kernel
theorem dX1_init_43 : decode cX1_init 43 = .ok (.aload_n 0, 1) := by decide +kernel
theorem dX1_init_44 : decode cX1_init 44 = .ok (.iconst 0, 1) := by decide +kernel
theorem dX1_init_45 : decode cX1_init 45 = .ok (.putfield 18, 3) := by decide +kernel
theorem dX1_init_48 : decode cX1_init 48 = .ok (.aload_n 0, 1) := by decide +kernel
theorem dX1_init_49 : decode cX1_init 49 = .ok (.iconst 0, 1) := by decide +kernel
theorem dX1_init_50 : decode cX1_init 50 = .ok (.putfield 22, 3) := by decide +kernel
theorem dX1_init_53 : decode cX1_init 53 = .ok (.return_, 1) := by decide +kernel
theorem dX1_size_0 : decode cX1_size 0 = .ok (.aload_n 0, 1) := by decide +kernel
theorem dX1_size_1 : decode cX1_size 1 = .ok (.getfield 22, 3) := by decide +kernel
theorem dX1_size_4 : decode cX1_size 4 = .ok (.ireturn, 1) := by decide +kernel
theorem dX1_forget_0 : decode cX1_forget 0 = .ok (.aload_n 0, 1) := by decide +kernel
theorem dX1_forget_1 : decode cX1_forget 1 = .ok (.iconst 0, 1) := by decide +kernel
theorem dX1_forget_2 : decode cX1_forget 2 = .ok (.putfield 22, 3) := by decide +kernel
theorem dX1_forget_5 : decode cX1_forget 5 = .ok (.return_, 1) := by decide +kernel
theorem dX1_postAt_0 : decode cX1_postAt 0 = .ok (.aload_n 0, 1) := by decide +kernel
theorem dX1_postAt_1 : decode cX1_postAt 1 = .ok (.getfield 18, 3) := by decide +kernel
theorem dX1_postAt_4 : decode cX1_postAt 4 = .ok (.iload_n 1, 1) := by decide +kernel
theorem dX1_postAt_5 : decode cX1_postAt 5 = .ok (.iadd, 1) := by decide +kernel
theorem dX1_postAt_6 : decode cX1_postAt 6 = .ok (.bipush 8, 2) := by decide +kernel
theorem dX1_postAt_8 : decode cX1_postAt 8 = .ok (.irem, 1) := by decide +kernel
theorem dX1_postAt_9 : decode cX1_postAt 9 = .ok (.istore_n 2, 1) := by decide +kernel
theorem dX1_postAt_10 : decode cX1_postAt 10 = .ok (.iload_n 2, 1) := by decide +kernel
theorem dX1_postAt_11 : decode cX1_postAt 11 = .ok (.ifCond .lt 21, 3) := by decide +kernel
theorem dX1_postAt_14 : decode cX1_postAt 14 = .ok (.iload_n 2, 1) := by decide +kernel
theorem dX1_postAt_15 : decode cX1_postAt 15 = .ok (.aload_n 0, 1) := by decide +kernel
theorem dX1_postAt_16 : decode cX1_postAt 16 = .ok (.getfield 11, 3) := by decide +kernel
theorem dX1_postAt_19 : decode cX1_postAt 19 = .ok (.arraylength, 1) := by decide +kernel
theorem dX1_postAt_20 : decode cX1_postAt 20 = .ok (.if_icmp .ge 12, 3) := by decide +kernel
theorem dX1_postAt_23 : decode cX1_postAt 23 = .ok (.aload_n 0, 1) := by decide +kernel
theorem dX1_postAt_24 : decode cX1_postAt 24 = .ok (.getfield 11, 3) := by decide +kernel
theorem dX1_postAt_27 : decode cX1_postAt 27 = .ok (.iload_n 2, 1) := by decide +kernel
theorem dX1_postAt_28 : decode cX1_postAt 28 = .ok (.aaload, 1) := by decide +kernel
theorem dX1_postAt_29 : decode cX1_postAt 29 = .ok (.goto 4, 3) := by decide +kernel
theorem dX1_postAt_32 : decode cX1_postAt 32 = .ok (.aconst_null, 1) := by decide +kernel
theorem dX1_postAt_33 : decode cX1_postAt 33 = .ok (.areturn, 1) := by decide +kernel
theorem dX1_keep_0 : decode cX1_keep 0 = .ok (.aload_n 0, 1) := by decide +kernel
theorem dX1_keep_1 : decode cX1_keep 1 = .ok (.getfield 22, 3) := by decide +kernel
theorem dX1_keep_4 : decode cX1_keep 4 = .ok (.bipush 8, 2) := by decide +kernel
theorem dX1_keep_6 : decode cX1_keep 6 = .ok (.if_icmp .lt 22, 3) := by decide +kernel
theorem dX1_keep_9 : decode cX1_keep 9 = .ok (.aload_n 0, 1) := by decide +kernel
theorem dX1_keep_10 : decode cX1_keep 10 = .ok (.aload_n 0, 1) := by decide +kernel
theorem dX1_keep_11 : decode cX1_keep 11 = .ok (.getfield 18, 3) := by decide +kernel
theorem dX1_keep_14 : decode cX1_keep 14 = .ok (.iconst 1, 1) := by decide +kernel
theorem dX1_keep_15 : decode cX1_keep 15 = .ok (.iadd, 1) := by decide +kernel
theorem dX1_keep_16 : decode cX1_keep 16 = .ok (.bipush 8, 2) := by decide +kernel
theorem dX1_keep_18 : decode cX1_keep 18 = .ok (.irem, 1) := by decide +kernel
theorem dX1_keep_19 : decode cX1_keep 19 = .ok (.putfield 18, 3) := by decide +kernel
theorem dX1_keep_22 : decode cX1_keep 22 = .ok (.aload_n 0, 1) := by decide +kernel
theorem dX1_keep_23 : decode cX1_keep 23 = .ok (.bipush 7, 2) := by decide +kernel
theorem dX1_keep_25 : decode cX1_keep 25 = .ok (.putfield 22, 3) := by decide +kernel
theorem dX1_keep_28 : decode cX1_keep 28 = .ok (.aload_n 0, 1) := by decide +kernel
theorem dX1_keep_29 : decode cX1_keep 29 = .ok (.aload_n 0, 1) := by decide +kernel
theorem dX1_keep_30 : decode cX1_keep 30 = .ok (.getfield 22, 3) := by decide +kernel
theorem dX1_keep_33 : decode cX1_keep 33 = .ok (.invokevirtual 25, 3) := by decide +kernel
theorem dX1_keep_36 : decode cX1_keep 36 = .ok (.astore_n 2, 1) := by decide +kernel
theorem dX1_keep_37 : decode cX1_keep 37 = .ok (.aload_n 2, 1) := by decide +kernel
theorem dX1_keep_38 : decode cX1_keep 38 = .ok (.ifnull 18, 3) := by decide +kernel
theorem dX1_keep_41 : decode cX1_keep 41 = .ok (.aload_n 2, 1) := by decide +kernel
theorem dX1_keep_42 : decode cX1_keep 42 = .ok (.aload_n 1, 1) := by decide +kernel
theorem dX1_keep_43 : decode cX1_keep 43 = .ok (.invokevirtual 29, 3) := by decide +kernel
theorem dX1_keep_46 : decode cX1_keep 46 = .ok (.aload_n 0, 1) := by decide +kernel
theorem dX1_keep_47 : decode cX1_keep 47 = .ok (.dup, 1) := by decide +kernel
theorem dX1_keep_48 : decode cX1_keep 48 = .ok (.getfield 22, 3) := by decide +kernel
theorem dX1_keep_51 : decode cX1_keep 51 = .ok (.iconst 1, 1) := by decide +kernel
theorem dX1_keep_52 : decode cX1_keep 52 = .ok (.iadd, 1) := by decide +kernel
theorem dX1_keep_53 : decode cX1_keep 53 = .ok (.putfield 22, 3) := by decide +kernel
theorem dX1_keep_56 : decode cX1_keep 56 = .ok (.return_, 1) := by decide +kernel
theorem dX2_init_0 : decode cX2_init 0 = .ok (.aload_n 0, 1) := by decide +kernel
theorem dX2_init_1 : decode cX2_init 1 = .ok (.invokespecial 3, 3) := by decide +kernel
theorem dX2_init_4 : decode cX2_init 4 = .ok (.aload_n 0, 1) := by decide +kernel
theorem dX2_init_5 : decode cX2_init 5 = .ok (.new 9, 3) := by decide +kernel
theorem dX2_init_8 : decode cX2_init 8 = .ok (.dup, 1) := by decide +kernel
theorem dX2_init_9 : decode cX2_init 9 = .ok (.bipush 10, 2) := by decide +kernel
theorem dX2_init_11 : decode cX2_init 11 = .ok (.bipush 8, 2) := by decide +kernel
theorem dX2_init_13 : decode cX2_init 13 = .ok (.invokespecial 13, 3) := by decide +kernel
theorem dX2_init_16 : decode cX2_init 16 = .ok (.putfield 16, 3) := by decide +kernel
theorem dX2_init_19 : decode cX2_init 19 = .ok (.aload_n 0, 1) := by decide +kernel
theorem dX2_init_20 : decode cX2_init 20 = .ok (.new 9, 3) := by decide +kernel
theorem dX2_init_23 : decode cX2_init 23 = .ok (.dup, 1) := by decide +kernel
theorem dX2_init_24 : decode cX2_init 24 = .ok (.bipush 20, 2) := by decide +kernel
theorem dX2_init_26 : decode cX2_init 26 = .ok (.iconst 3, 1) := by decide +kernel
theorem dX2_init_27 : decode cX2_init 27 = .ok (.invokespecial 13, 3) := by decide +kernel
theorem dX2_init_30 : decode cX2_init 30 = .ok (.putfield 20, 3) := by decide +kernel
theorem dX2_init_33 : decode cX2_init 33 = .ok (.aload_n 0, 1) := by decide +kernel
theorem dX2_init_34 : decode cX2_init 34 = .ok (.new 9, 3) := by decide +kernel
theorem dX2_init_37 : decode cX2_init 37 = .ok (.dup, 1) := by decide +kernel
theorem dX2_init_38 : decode cX2_init 38 = .ok (.bipush 30, 2) := by decide +kernel
theorem dX2_init_40 : decode cX2_init 40 = .ok (.bipush 13, 2) := by decide +kernel
theorem dX2_init_42 : decode cX2_init 42 = .ok (.invokespecial 13, 3) := by decide +kernel
theorem dX2_init_45 : decode cX2_init 45 = .ok (.putfield 23, 3) := by decide +kernel
theorem dX2_init_48 : decode cX2_init 48 = .ok (.aload_n 0, 1) := by decide +kernel
theorem dX2_init_49 : decode cX2_init 49 = .ok (.new 9, 3) := by decide +kernel
theorem dX2_init_52 : decode cX2_init 52 = .ok (.dup, 1) := by decide +kernel
theorem dX2_init_53 : decode cX2_init 53 = .ok (.iconst 1, 1) := by decide +kernel
theorem dX2_init_54 : decode cX2_init 54 = .ok (.iconst 3, 1) := by decide +kernel
theorem dX2_init_55 : decode cX2_init 55 = .ok (.invokespecial 13, 3) := by decide +kernel
theorem dX2_init_58 : decode cX2_init 58 = .ok (.putfield 26, 3) := by decide +kernel
theorem dX2_init_61 : decode cX2_init 61 = .ok (.aload_n 0, 1) := by decide +kernel
theorem dX2_init_62 : decode cX2_init 62 = .ok (.new 9, 3) := by decide +kernel
theorem dX2_init_65 : decode cX2_init 65 = .ok (.dup, 1) := by decide +kernel
theorem dX2_init_66 : decode cX2_init 66 = .ok (.iconst 1, 1) := by decide +kernel
theorem dX2_init_67 : decode cX2_init 67 = .ok (.bipush 11, 2) := by decide +kernel
theorem dX2_init_69 : decode cX2_init 69 = .ok (.invokespecial 13, 3) := by decide +kernel
theorem dX2_init_72 : decode cX2_init 72 = .ok (.putfield 29, 3) := by decide +kernel
theorem dX2_init_75 : decode cX2_init 75 = .ok (.aload_n 0, 1) := by decide +kernel
theorem dX2_init_76 : decode cX2_init 76 = .ok (.new 32, 3) := by decide +kernel
theorem dX2_init_79 : decode cX2_init 79 = .ok (.dup, 1) := by decide +kernel
theorem dX2_init_80 : decode cX2_init 80 = .ok (.invokespecial 34, 3) := by decide +kernel
theorem dX2_init_83 : decode cX2_init 83 = .ok (.putfield 35, 3) := by decide +kernel
theorem dX2_init_86 : decode cX2_init 86 = .ok (.return_, 1) := by decide +kernel
theorem dX2_clear_0 : decode cX2_clear 0 = .ok (.aload_n 0, 1) := by decide +kernel
theorem dX2_clear_1 : decode cX2_clear 1 = .ok (.iconst 0, 1) := by decide +kernel
theorem dX2_clear_2 : decode cX2_clear 2 = .ok (.putfield 39, 3) := by decide +kernel
theorem dX2_clear_5 : decode cX2_clear 5 = .ok (.aload_n 0, 1) := by decide +kernel
theorem dX2_clear_6 : decode cX2_clear 6 = .ok (.iconst 0, 1) := by decide +kernel
theorem dX2_clear_7 : decode cX2_clear 7 = .ok (.putfield 43, 3) := by decide +kernel
theorem dX2_clear_10 : decode cX2_clear 10 = .ok (.aload_n 0, 1) := by decide +kernel
theorem dX2_clear_11 : decode cX2_clear 11 = .ok (.iconst 0, 1) := by decide +kernel
theorem dX2_clear_12 : decode cX2_clear 12 = .ok (.putfield 46, 3) := by decide +kernel
theorem dX2_clear_15 : decode cX2_clear 15 = .ok (.aload_n 0, 1) := by decide +kernel
theorem dX2_clear_16 : decode cX2_clear 16 = .ok (.iconst 0, 1) := by decide +kernel
theorem dX2_clear_17 : decode cX2_clear 17 = .ok (.putfield 49, 3) := by decide +kernel
theorem dX2_clear_20 : decode cX2_clear 20 = .ok (.aload_n 0, 1) := by decide +kernel
theorem dX2_clear_21 : decode cX2_clear 21 = .ok (.bipush 8, 2) := by decide +kernel
theorem dX2_clear_23 : decode cX2_clear 23 = .ok (.iconst 3, 1) := by decide +kernel
theorem dX2_clear_24 : decode cX2_clear 24 = .ok (.invokevirtual 52, 3) := by decide +kernel
theorem dX2_clear_27 : decode cX2_clear 27 = .ok (.aload_n 0, 1) := by decide +kernel
theorem dX2_clear_28 : decode cX2_clear 28 = .ok (.bipush 9, 2) := by decide +kernel
theorem dX2_clear_30 : decode cX2_clear 30 = .ok (.bipush 50, 2) := by decide +kernel
theorem dX2_clear_32 : decode cX2_clear 32 = .ok (.invokevirtual 52, 3) := by decide +kernel
theorem dX2_clear_35 : decode cX2_clear 35 = .ok (.aload_n 0, 1) := by decide +kernel
theorem dX2_clear_36 : decode cX2_clear 36 = .ok (.bipush 10, 2) := by decide +kernel
theorem dX2_clear_38 : decode cX2_clear 38 = .ok (.iconst 1, 1) := by decide +kernel
theorem dX2_clear_39 : decode cX2_clear 39 = .ok (.invokevirtual 52, 3) := by decide +kernel
theorem dX2_clear_42 : decode cX2_clear 42 = .ok (.aload_n 0, 1) := by decide +kernel
theorem dX2_clear_43 : decode cX2_clear 43 = .ok (.getfield 29, 3) := by decide +kernel
theorem dX2_clear_46 : decode cX2_clear 46 = .ok (.iconst 0, 1) := by decide +kernel
theorem dX2_clear_47 : decode cX2_clear 47 = .ok (.invokevirtual 55, 3) := by decide +kernel
theorem dX2_clear_50 : decode cX2_clear 50 = .ok (.return_, 1) := by decide +kernel
theorem dX2_copyFrom_0 : decode cX2_copyFrom 0 = .ok (.aload_n 0, 1) := by decide +kernel
theorem dX2_copyFrom_1 : decode cX2_copyFrom 1 = .ok (.aload_n 1, 1) := by decide +kernel
theorem dX2_copyFrom_2 : decode cX2_copyFrom 2 = .ok (.getfield 39, 3) := by decide +kernel
theorem dX2_copyFrom_5 : decode cX2_copyFrom 5 = .ok (.putfield 39, 3) := by decide +kernel
theorem dX2_copyFrom_8 : decode cX2_copyFrom 8 = .ok (.aload_n 0, 1) := by decide +kernel
theorem dX2_copyFrom_9 : decode cX2_copyFrom 9 = .ok (.aload_n 1, 1) := by decide +kernel
theorem dX2_copyFrom_10 : decode cX2_copyFrom 10 = .ok (.getfield 43, 3) := by decide +kernel
theorem dX2_copyFrom_13 : decode cX2_copyFrom 13 = .ok (.putfield 43, 3) := by decide +kernel
theorem dX2_copyFrom_16 : decode cX2_copyFrom 16 = .ok (.aload_n 0, 1) := by decide +kernel
theorem dX2_copyFrom_17 : decode cX2_copyFrom 17 = .ok (.aload_n 1, 1) := by decide +kernel
theorem dX2_copyFrom_18 : decode cX2_copyFrom 18 = .ok (.getfield 46, 3) := by decide +kernel
theorem dX2_copyFrom_21 : decode cX2_copyFrom 21 = .ok (.putfield 46, 3) := by decide +kernel
theorem dX2_copyFrom_24 : decode cX2_copyFrom 24 = .ok (.aload_n 0, 1) := by decide +kernel
theorem dX2_copyFrom_25 : decode cX2_copyFrom 25 = .ok (.aload_n 1, 1) := by decide +kernel
theorem dX2_copyFrom_26 : decode cX2_copyFrom 26 = .ok (.getfield 49, 3) := by decide +kernel
theorem dX2_copyFrom_29 : decode cX2_copyFrom 29 = .ok (.putfield 49, 3) := by decide +kernel
theorem dX2_copyFrom_32 : decode cX2_copyFrom 32 = .ok (.aload_n 0, 1) := by decide +kernel
theorem dX2_copyFrom_33 : decode cX2_copyFrom 33 = .ok (.getfield 16, 3) := by decide +kernel
theorem dX2_copyFrom_36 : decode cX2_copyFrom 36 = .ok (.aload_n 1, 1) := by decide +kernel
theorem dX2_copyFrom_37 : decode cX2_copyFrom 37 = .ok (.getfield 16, 3) := by decide +kernel
theorem dX2_copyFrom_40 : decode cX2_copyFrom 40 = .ok (.invokevirtual 59, 3) := by decide +kernel
theorem dX2_copyFrom_43 : decode cX2_copyFrom 43 = .ok (.aload_n 0, 1) := by decide +kernel
theorem dX2_copyFrom_44 : decode cX2_copyFrom 44 = .ok (.getfield 20, 3) := by decide +kernel
theorem dX2_copyFrom_47 : decode cX2_copyFrom 47 = .ok (.aload_n 1, 1) := by decide +kernel
theorem dX2_copyFrom_48 : decode cX2_copyFrom 48 = .ok (.getfield 20, 3) := by decide +kernel
theorem dX2_copyFrom_51 : decode cX2_copyFrom 51 = .ok (.invokevirtual 59, 3) := by decide +kernel
theorem dX2_copyFrom_54 : decode cX2_copyFrom 54 = .ok (.aload_n 0, 1) := by decide +kernel
theorem dX2_copyFrom_55 : decode cX2_copyFrom 55 = .ok (.getfield 23, 3) := by decide +kernel
theorem dX2_copyFrom_58 : decode cX2_copyFrom 58 = .ok (.aload_n 1, 1) := by decide +kernel
theorem dX2_copyFrom_59 : decode cX2_copyFrom 59 = .ok (.getfield 23, 3) := by decide +kernel
theorem dX2_copyFrom_62 : decode cX2_copyFrom 62 = .ok (.invokevirtual 59, 3) := by decide +kernel
theorem dX2_copyFrom_65 : decode cX2_copyFrom 65 = .ok (.aload_n 0, 1) := by decide +kernel
theorem dX2_copyFrom_66 : decode cX2_copyFrom 66 = .ok (.getfield 26, 3) := by decide +kernel
theorem dX2_copyFrom_69 : decode cX2_copyFrom 69 = .ok (.aload_n 1, 1) := by decide +kernel
theorem dX2_copyFrom_70 : decode cX2_copyFrom 70 = .ok (.getfield 26, 3) := by decide +kernel
theorem dX2_copyFrom_73 : decode cX2_copyFrom 73 = .ok (.invokevirtual 59, 3) := by decide +kernel
theorem dX2_copyFrom_76 : decode cX2_copyFrom 76 = .ok (.aload_n 0, 1) := by decide +kernel
theorem dX2_copyFrom_77 : decode cX2_copyFrom 77 = .ok (.getfield 29, 3) := by decide +kernel
theorem dX2_copyFrom_80 : decode cX2_copyFrom 80 = .ok (.aload_n 1, 1) := by decide +kernel
theorem dX2_copyFrom_81 : decode cX2_copyFrom 81 = .ok (.getfield 29, 3) := by decide +kernel
theorem dX2_copyFrom_84 : decode cX2_copyFrom 84 = .ok (.invokevirtual 59, 3) := by decide +kernel
theorem dX2_copyFrom_87 : decode cX2_copyFrom 87 = .ok (.aload_n 0, 1) := by decide +kernel
theorem dX2_copyFrom_88 : decode cX2_copyFrom 88 = .ok (.getfield 35, 3) := by decide +kernel
theorem dX2_copyFrom_91 : decode cX2_copyFrom 91 = .ok (.aload_n 1, 1) := by decide +kernel
theorem dX2_copyFrom_92 : decode cX2_copyFrom 92 = .ok (.getfield 35, 3) := by decide +kernel
theorem dX2_copyFrom_95 : decode cX2_copyFrom 95 = .ok (.invokevirtual 63, 3) := by decide +kernel
theorem dX2_copyFrom_98 : decode cX2_copyFrom 98 = .ok (.return_, 1) := by decide +kernel
theorem dX2_leastOf_0 : decode cX2_leastOf 0 = .ok (.iload_n 0, 1) := by decide +kernel
theorem dX2_leastOf_1 : decode cX2_leastOf 1 = .ok (.bipush 9, 2) := by decide +kernel
theorem dX2_leastOf_3 : decode cX2_leastOf 3 = .ok (.if_icmp .ne 7, 3) := by decide +kernel
theorem dX2_leastOf_6 : decode cX2_leastOf 6 = .ok (.iconst 1, 1) := by decide +kernel
theorem dX2_leastOf_7 : decode cX2_leastOf 7 = .ok (.goto 4, 3) := by decide +kernel
theorem dX2_leastOf_10 : decode cX2_leastOf 10 = .ok (.iconst 0, 1) := by decide +kernel
theorem dX2_leastOf_11 : decode cX2_leastOf 11 = .ok (.ireturn, 1) := by decide +kernel
theorem dX2_mostOf_0 : decode cX2_mostOf 0 = .ok (.iload_n 0, 1) := by decide +kernel
theorem dX2_mostOf_1 : decode cX2_mostOf 1 = .ok (.bipush 8, 2) := by decide +kernel
theorem dX2_mostOf_3 : decode cX2_mostOf 3 = .ok (.if_icmp .ne 6, 3) := by decide +kernel
theorem dX2_mostOf_6 : decode cX2_mostOf 6 = .ok (.bipush 9, 2) := by decide +kernel
theorem dX2_mostOf_8 : decode cX2_mostOf 8 = .ok (.ireturn, 1) := by decide +kernel
theorem dX2_mostOf_9 : decode cX2_mostOf 9 = .ok (.iload_n 0, 1) := by decide +kernel
theorem dX2_mostOf_10 : decode cX2_mostOf 10 = .ok (.bipush 9, 2) := by decide +kernel
theorem dX2_mostOf_12 : decode cX2_mostOf 12 = .ok (.if_icmp .ne 8, 3) := by decide +kernel
theorem dX2_mostOf_15 : decode cX2_mostOf 15 = .ok (.bipush 60, 2) := by decide +kernel
theorem dX2_mostOf_17 : decode cX2_mostOf 17 = .ok (.goto 4, 3) := by decide +kernel
theorem dX2_mostOf_20 : decode cX2_mostOf 20 = .ok (.iconst 3, 1) := by decide +kernel
theorem dX2_mostOf_21 : decode cX2_mostOf 21 = .ok (.ireturn, 1) := by decide +kernel
theorem dX2_setting_0 : decode cX2_setting 0 = .ok (.aload_n 0, 1) := by decide +kernel
theorem dX2_setting_1 : decode cX2_setting 1 = .ok (.getfield 26, 3) := by decide +kernel
theorem dX2_setting_4 : decode cX2_setting 4 = .ok (.iconst 0, 1) := by decide +kernel
theorem dX2_setting_5 : decode cX2_setting 5 = .ok (.iload_n 1, 1) := by decide +kernel
theorem dX2_setting_6 : decode cX2_setting 6 = .ok (.bipush 8, 2) := by decide +kernel
theorem dX2_setting_8 : decode cX2_setting 8 = .ok (.isub, 1) := by decide +kernel
theorem dX2_setting_9 : decode cX2_setting 9 = .ok (.invokevirtual 66, 3) := by decide +kernel
theorem dX2_setting_12 : decode cX2_setting 12 = .ok (.ireturn, 1) := by decide +kernel
theorem dX2_settle_0 : decode cX2_settle 0 = .ok (.aload_n 0, 1) := by decide +kernel
theorem dX2_settle_1 : decode cX2_settle 1 = .ok (.getfield 26, 3) := by decide +kernel
theorem dX2_settle_4 : decode cX2_settle 4 = .ok (.iconst 0, 1) := by decide +kernel
theorem dX2_settle_5 : decode cX2_settle 5 = .ok (.iload_n 1, 1) := by decide +kernel
theorem dX2_settle_6 : decode cX2_settle 6 = .ok (.bipush 8, 2) := by decide +kernel
theorem dX2_settle_8 : decode cX2_settle 8 = .ok (.isub, 1) := by decide +kernel
theorem dX2_settle_9 : decode cX2_settle 9 = .ok (.iload_n 2, 1) := by decide +kernel
theorem dX2_settle_10 : decode cX2_settle 10 = .ok (.invokevirtual 70, 3) := by decide +kernel
theorem dX2_settle_13 : decode cX2_settle 13 = .ok (.return_, 1) := by decide +kernel
theorem dX2_enter_0 : decode cX2_enter 0 = .ok (.aload_n 0, 1) := by decide +kernel
theorem dX2_enter_1 : decode cX2_enter 1 = .ok (.getfield 29, 3) := by decide +kernel
theorem dX2_enter_4 : decode cX2_enter 4 = .ok (.iconst 0, 1) := by decide +kernel
theorem dX2_enter_5 : decode cX2_enter 5 = .ok (.iload_n 1, 1) := by decide +kernel
theorem dX2_enter_6 : decode cX2_enter 6 = .ok (.iload_n 2, 1) := by decide +kernel
theorem dX2_enter_7 : decode cX2_enter 7 = .ok (.invokevirtual 74, 3) := by decide +kernel
theorem dX2_enter_10 : decode cX2_enter 10 = .ok (.return_, 1) := by decide +kernel
theorem dX2_addRoof_0 : decode cX2_addRoof 0 = .ok (.aload_n 0, 1) := by decide +kernel
theorem dX2_addRoof_1 : decode cX2_addRoof 1 = .ok (.getfield 43, 3) := by decide +kernel
theorem dX2_addRoof_4 : decode cX2_addRoof 4 = .ok (.istore 6, 2) := by decide +kernel
theorem dX2_addRoof_6 : decode cX2_addRoof 6 = .ok (.aload_n 0, 1) := by decide +kernel
theorem dX2_addRoof_7 : decode cX2_addRoof 7 = .ok (.getfield 16, 3) := by decide +kernel
theorem dX2_addRoof_10 : decode cX2_addRoof 10 = .ok (.iload 6, 2) := by decide +kernel
theorem dX2_addRoof_12 : decode cX2_addRoof 12 = .ok (.iconst 5, 1) := by decide +kernel
theorem dX2_addRoof_13 : decode cX2_addRoof 13 = .ok (.iload_n 1, 1) := by decide +kernel
theorem dX2_addRoof_14 : decode cX2_addRoof 14 = .ok (.invokevirtual 70, 3) := by decide +kernel
theorem dX2_addRoof_17 : decode cX2_addRoof 17 = .ok (.aload_n 0, 1) := by decide +kernel
theorem dX2_addRoof_18 : decode cX2_addRoof 18 = .ok (.getfield 16, 3) := by decide +kernel
theorem dX2_addRoof_21 : decode cX2_addRoof 21 = .ok (.iload 6, 2) := by decide +kernel
theorem dX2_addRoof_23 : decode cX2_addRoof 23 = .ok (.iconst 0, 1) := by decide +kernel
theorem dX2_addRoof_24 : decode cX2_addRoof 24 = .ok (.iload_n 2, 1) := by decide +kernel
theorem dX2_addRoof_25 : decode cX2_addRoof 25 = .ok (.invokevirtual 70, 3) := by decide +kernel
theorem dX2_addRoof_28 : decode cX2_addRoof 28 = .ok (.aload_n 0, 1) := by decide +kernel
theorem dX2_addRoof_29 : decode cX2_addRoof 29 = .ok (.getfield 16, 3) := by decide +kernel
theorem dX2_addRoof_32 : decode cX2_addRoof 32 = .ok (.iload 6, 2) := by decide +kernel
theorem dX2_addRoof_34 : decode cX2_addRoof 34 = .ok (.iconst 1, 1) := by decide +kernel
theorem dX2_addRoof_35 : decode cX2_addRoof 35 = .ok (.iload_n 3, 1) := by decide +kernel
theorem dX2_addRoof_36 : decode cX2_addRoof 36 = .ok (.invokevirtual 70, 3) := by decide +kernel
theorem dX2_addRoof_39 : decode cX2_addRoof 39 = .ok (.aload_n 0, 1) := by decide +kernel
theorem dX2_addRoof_40 : decode cX2_addRoof 40 = .ok (.getfield 16, 3) := by decide +kernel
theorem dX2_addRoof_43 : decode cX2_addRoof 43 = .ok (.iload 6, 2) := by decide +kernel
theorem dX2_addRoof_45 : decode cX2_addRoof 45 = .ok (.iconst 2, 1) := by decide +kernel
theorem dX2_addRoof_46 : decode cX2_addRoof 46 = .ok (.iload 4, 2) := by decide +kernel
theorem dX2_addRoof_48 : decode cX2_addRoof 48 = .ok (.invokevirtual 70, 3) := by decide +kernel
theorem dX2_addRoof_51 : decode cX2_addRoof 51 = .ok (.aload_n 0, 1) := by decide +kernel
theorem dX2_addRoof_52 : decode cX2_addRoof 52 = .ok (.getfield 16, 3) := by decide +kernel
theorem dX2_addRoof_55 : decode cX2_addRoof 55 = .ok (.iload 6, 2) := by decide +kernel
theorem dX2_addRoof_57 : decode cX2_addRoof 57 = .ok (.iconst 3, 1) := by decide +kernel
theorem dX2_addRoof_58 : decode cX2_addRoof 58 = .ok (.iload 5, 2) := by decide +kernel
theorem dX2_addRoof_60 : decode cX2_addRoof 60 = .ok (.invokevirtual 70, 3) := by decide +kernel
theorem dX2_addRoof_63 : decode cX2_addRoof 63 = .ok (.aload_n 0, 1) := by decide +kernel
theorem dX2_addRoof_64 : decode cX2_addRoof 64 = .ok (.getfield 16, 3) := by decide +kernel
theorem dX2_addRoof_67 : decode cX2_addRoof 67 = .ok (.iload 6, 2) := by decide +kernel
theorem dX2_addRoof_69 : decode cX2_addRoof 69 = .ok (.bipush 6, 2) := by decide +kernel
theorem dX2_addRoof_71 : decode cX2_addRoof 71 = .ok (.iload 5, 2) := by decide +kernel
theorem dX2_addRoof_73 : decode cX2_addRoof 73 = .ok (.invokevirtual 70, 3) := by decide +kernel
theorem dX2_addRoof_76 : decode cX2_addRoof 76 = .ok (.aload_n 0, 1) := by decide +kernel
theorem dX2_addRoof_77 : decode cX2_addRoof 77 = .ok (.getfield 16, 3) := by decide +kernel
theorem dX2_addRoof_80 : decode cX2_addRoof 80 = .ok (.iload 6, 2) := by decide +kernel
theorem dX2_addRoof_82 : decode cX2_addRoof 82 = .ok (.iconst 4, 1) := by decide +kernel
theorem dX2_addRoof_83 : decode cX2_addRoof 83 = .ok (.iconst 0, 1) := by decide +kernel
theorem dX2_addRoof_84 : decode cX2_addRoof 84 = .ok (.invokevirtual 70, 3) := by decide +kernel
theorem dX2_addRoof_87 : decode cX2_addRoof 87 = .ok (.aload_n 0, 1) := by decide +kernel
theorem dX2_addRoof_88 : decode cX2_addRoof 88 = .ok (.getfield 16, 3) := by decide +kernel
theorem dX2_addRoof_91 : decode cX2_addRoof 91 = .ok (.iload 6, 2) := by decide +kernel
theorem dX2_addRoof_93 : decode cX2_addRoof 93 = .ok (.bipush 7, 2) := by decide +kernel
theorem dX2_addRoof_95 : decode cX2_addRoof 95 = .ok (.iconst 0, 1) := by decide +kernel
theorem dX2_addRoof_96 : decode cX2_addRoof 96 = .ok (.invokevirtual 70, 3) := by decide +kernel
theorem dX2_addRoof_99 : decode cX2_addRoof 99 = .ok (.aload_n 0, 1) := by decide +kernel
theorem dX2_addRoof_100 : decode cX2_addRoof 100 = .ok (.dup, 1) := by decide +kernel
theorem dX2_addRoof_101 : decode cX2_addRoof 101 = .ok (.getfield 43, 3) := by decide +kernel
theorem dX2_addRoof_104 : decode cX2_addRoof 104 = .ok (.iconst 1, 1) := by decide +kernel
theorem dX2_addRoof_105 : decode cX2_addRoof 105 = .ok (.iadd, 1) := by decide +kernel
theorem dX2_addRoof_106 : decode cX2_addRoof 106 = .ok (.putfield 43, 3) := by decide +kernel
theorem dX2_addRoof_109 : decode cX2_addRoof 109 = .ok (.return_, 1) := by decide +kernel
theorem dX2_addWay_0 : decode cX2_addWay 0 = .ok (.aload_n 0, 1) := by decide +kernel
theorem dX2_addWay_1 : decode cX2_addWay 1 = .ok (.getfield 20, 3) := by decide +kernel
theorem dX2_addWay_4 : decode cX2_addWay 4 = .ok (.aload_n 0, 1) := by decide +kernel
theorem dX2_addWay_5 : decode cX2_addWay 5 = .ok (.getfield 46, 3) := by decide +kernel
theorem dX2_addWay_8 : decode cX2_addWay 8 = .ok (.iconst 0, 1) := by decide +kernel
theorem dX2_addWay_9 : decode cX2_addWay 9 = .ok (.iload_n 1, 1) := by decide +kernel
theorem dX2_addWay_10 : decode cX2_addWay 10 = .ok (.invokevirtual 70, 3) := by decide +kernel
theorem dX2_addWay_13 : decode cX2_addWay 13 = .ok (.aload_n 0, 1) := by decide +kernel
theorem dX2_addWay_14 : decode cX2_addWay 14 = .ok (.getfield 20, 3) := by decide +kernel
theorem dX2_addWay_17 : decode cX2_addWay 17 = .ok (.aload_n 0, 1) := by decide +kernel
theorem dX2_addWay_18 : decode cX2_addWay 18 = .ok (.getfield 46, 3) := by decide +kernel
theorem dX2_addWay_21 : decode cX2_addWay 21 = .ok (.iconst 1, 1) := by decide +kernel
theorem dX2_addWay_22 : decode cX2_addWay 22 = .ok (.iload_n 2, 1) := by decide +kernel
theorem dX2_addWay_23 : decode cX2_addWay 23 = .ok (.invokevirtual 70, 3) := by decide +kernel
theorem dX2_addWay_26 : decode cX2_addWay 26 = .ok (.aload_n 0, 1) := by decide +kernel
theorem dX2_addWay_27 : decode cX2_addWay 27 = .ok (.getfield 20, 3) := by decide +kernel
theorem dX2_addWay_30 : decode cX2_addWay 30 = .ok (.aload_n 0, 1) := by decide +kernel
theorem dX2_addWay_31 : decode cX2_addWay 31 = .ok (.getfield 46, 3) := by decide +kernel
theorem dX2_addWay_34 : decode cX2_addWay 34 = .ok (.iconst 2, 1) := by decide +kernel
theorem dX2_addWay_35 : decode cX2_addWay 35 = .ok (.iload_n 3, 1) := by decide +kernel
theorem dX2_addWay_36 : decode cX2_addWay 36 = .ok (.invokevirtual 70, 3) := by decide +kernel
theorem dX2_addWay_39 : decode cX2_addWay 39 = .ok (.aload_n 0, 1) := by decide +kernel
theorem dX2_addWay_40 : decode cX2_addWay 40 = .ok (.dup, 1) := by decide +kernel
theorem dX2_addWay_41 : decode cX2_addWay 41 = .ok (.getfield 46, 3) := by decide +kernel
theorem dX2_addWay_44 : decode cX2_addWay 44 = .ok (.iconst 1, 1) := by decide +kernel
theorem dX2_addWay_45 : decode cX2_addWay 45 = .ok (.iadd, 1) := by decide +kernel
theorem dX2_addWay_46 : decode cX2_addWay 46 = .ok (.putfield 46, 3) := by decide +kernel
theorem dX2_addWay_49 : decode cX2_addWay 49 = .ok (.return_, 1) := by decide +kernel
theorem dX2_addTune_0 : decode cX2_addTune 0 = .ok (.aload_n 0, 1) := by decide +kernel
theorem dX2_addTune_1 : decode cX2_addTune 1 = .ok (.getfield 49, 3) := by decide +kernel
theorem dX2_addTune_4 : decode cX2_addTune 4 = .ok (.istore 7, 2) := by decide +kernel
theorem dX2_addTune_6 : decode cX2_addTune 6 = .ok (.aload_n 0, 1) := by decide +kernel
theorem dX2_addTune_7 : decode cX2_addTune 7 = .ok (.getfield 23, 3) := by decide +kernel
theorem dX2_addTune_10 : decode cX2_addTune 10 = .ok (.iload 7, 2) := by decide +kernel
theorem dX2_addTune_12 : decode cX2_addTune 12 = .ok (.iconst 0, 1) := by decide +kernel
theorem dX2_addTune_13 : decode cX2_addTune 13 = .ok (.iload_n 1, 1) := by decide +kernel
theorem dX2_addTune_14 : decode cX2_addTune 14 = .ok (.invokevirtual 70, 3) := by decide +kernel
theorem dX2_addTune_17 : decode cX2_addTune 17 = .ok (.aload_n 0, 1) := by decide +kernel
theorem dX2_addTune_18 : decode cX2_addTune 18 = .ok (.getfield 23, 3) := by decide +kernel
theorem dX2_addTune_21 : decode cX2_addTune 21 = .ok (.iload 7, 2) := by decide +kernel
theorem dX2_addTune_23 : decode cX2_addTune 23 = .ok (.iconst 1, 1) := by decide +kernel
theorem dX2_addTune_24 : decode cX2_addTune 24 = .ok (.iload_n 2, 1) := by decide +kernel
theorem dX2_addTune_25 : decode cX2_addTune 25 = .ok (.invokevirtual 70, 3) := by decide +kernel
theorem dX2_addTune_28 : decode cX2_addTune 28 = .ok (.aload_n 0, 1) := by decide +kernel
theorem dX2_addTune_29 : decode cX2_addTune 29 = .ok (.getfield 23, 3) := by decide +kernel
theorem dX2_addTune_32 : decode cX2_addTune 32 = .ok (.iload 7, 2) := by decide +kernel
theorem dX2_addTune_34 : decode cX2_addTune 34 = .ok (.iconst 2, 1) := by decide +kernel
theorem dX2_addTune_35 : decode cX2_addTune 35 = .ok (.iload_n 3, 1) := by decide +kernel
theorem dX2_addTune_36 : decode cX2_addTune 36 = .ok (.invokevirtual 70, 3) := by decide +kernel
theorem dX2_addTune_39 : decode cX2_addTune 39 = .ok (.aload_n 0, 1) := by decide +kernel
theorem dX2_addTune_40 : decode cX2_addTune 40 = .ok (.getfield 23, 3) := by decide +kernel
theorem dX2_addTune_43 : decode cX2_addTune 43 = .ok (.iload 7, 2) := by decide +kernel
theorem dX2_addTune_45 : decode cX2_addTune 45 = .ok (.iconst 3, 1) := by decide +kernel
theorem dX2_addTune_46 : decode cX2_addTune 46 = .ok (.iconst 0, 1) := by decide +kernel
theorem dX2_addTune_47 : decode cX2_addTune 47 = .ok (.invokevirtual 70, 3) := by decide +kernel
theorem dX2_addTune_50 : decode cX2_addTune 50 = .ok (.aload_n 0, 1) := by decide +kernel
theorem dX2_addTune_51 : decode cX2_addTune 51 = .ok (.getfield 23, 3) := by decide +kernel
theorem dX2_addTune_54 : decode cX2_addTune 54 = .ok (.iload 7, 2) := by decide +kernel
theorem dX2_addTune_56 : decode cX2_addTune 56 = .ok (.iconst 4, 1) := by decide +kernel
theorem dX2_addTune_57 : decode cX2_addTune 57 = .ok (.iload_n 1, 1) := by decide +kernel
theorem dX2_addTune_58 : decode cX2_addTune 58 = .ok (.invokevirtual 70, 3) := by decide +kernel
theorem dX2_addTune_61 : decode cX2_addTune 61 = .ok (.aload_n 0, 1) := by decide +kernel
theorem dX2_addTune_62 : decode cX2_addTune 62 = .ok (.getfield 23, 3) := by decide +kernel
theorem dX2_addTune_65 : decode cX2_addTune 65 = .ok (.iload 7, 2) := by decide +kernel
theorem dX2_addTune_67 : decode cX2_addTune 67 = .ok (.iconst 5, 1) := by decide +kernel
theorem dX2_addTune_68 : decode cX2_addTune 68 = .ok (.iconst (-1), 1) := by decide +kernel
theorem dX2_addTune_69 : decode cX2_addTune 69 = .ok (.invokevirtual 70, 3) := by decide +kernel
theorem dX2_addTune_72 : decode cX2_addTune 72 = .ok (.aload_n 0, 1) := by decide +kernel
theorem dX2_addTune_73 : decode cX2_addTune 73 = .ok (.getfield 23, 3) := by decide +kernel
theorem dX2_addTune_76 : decode cX2_addTune 76 = .ok (.iload 7, 2) := by decide +kernel
theorem dX2_addTune_78 : decode cX2_addTune 78 = .ok (.bipush 6, 2) := by decide +kernel
theorem dX2_addTune_80 : decode cX2_addTune 80 = .ok (.iload 5, 2) := by decide +kernel
theorem dX2_addTune_82 : decode cX2_addTune 82 = .ok (.ifCond .eq 7, 3) := by decide +kernel
theorem dX2_addTune_85 : decode cX2_addTune 85 = .ok (.iconst 1, 1) := by decide +kernel
theorem dX2_addTune_86 : decode cX2_addTune 86 = .ok (.goto 4, 3) := by decide +kernel
theorem dX2_addTune_89 : decode cX2_addTune 89 = .ok (.iconst 0, 1) := by decide +kernel
theorem dX2_addTune_90 : decode cX2_addTune 90 = .ok (.invokevirtual 70, 3) := by decide +kernel
theorem dX2_addTune_93 : decode cX2_addTune 93 = .ok (.aload_n 0, 1) := by decide +kernel
theorem dX2_addTune_94 : decode cX2_addTune 94 = .ok (.getfield 23, 3) := by decide +kernel
theorem dX2_addTune_97 : decode cX2_addTune 97 = .ok (.iload 7, 2) := by decide +kernel
theorem dX2_addTune_99 : decode cX2_addTune 99 = .ok (.bipush 7, 2) := by decide +kernel
theorem dX2_addTune_101 : decode cX2_addTune 101 = .ok (.iload 6, 2) := by decide +kernel
theorem dX2_addTune_103 : decode cX2_addTune 103 = .ok (.ifCond .eq 7, 3) := by decide +kernel
theorem dX2_addTune_106 : decode cX2_addTune 106 = .ok (.iconst 1, 1) := by decide +kernel
theorem dX2_addTune_107 : decode cX2_addTune 107 = .ok (.goto 4, 3) := by decide +kernel
theorem dX2_addTune_110 : decode cX2_addTune 110 = .ok (.iconst 0, 1) := by decide +kernel
theorem dX2_addTune_111 : decode cX2_addTune 111 = .ok (.invokevirtual 70, 3) := by decide +kernel
theorem dX2_addTune_114 : decode cX2_addTune 114 = .ok (.aload_n 0, 1) := by decide +kernel
theorem dX2_addTune_115 : decode cX2_addTune 115 = .ok (.getfield 23, 3) := by decide +kernel
theorem dX2_addTune_118 : decode cX2_addTune 118 = .ok (.iload 7, 2) := by decide +kernel
theorem dX2_addTune_120 : decode cX2_addTune 120 = .ok (.bipush 8, 2) := by decide +kernel
theorem dX2_addTune_122 : decode cX2_addTune 122 = .ok (.iconst 0, 1) := by decide +kernel
theorem dX2_addTune_123 : decode cX2_addTune 123 = .ok (.invokevirtual 70, 3) := by decide +kernel
theorem dX2_addTune_126 : decode cX2_addTune 126 = .ok (.aload_n 0, 1) := by decide +kernel
theorem dX2_addTune_127 : decode cX2_addTune 127 = .ok (.getfield 23, 3) := by decide +kernel
theorem dX2_addTune_130 : decode cX2_addTune 130 = .ok (.iload 7, 2) := by decide +kernel
theorem dX2_addTune_132 : decode cX2_addTune 132 = .ok (.bipush 9, 2) := by decide +kernel
theorem dX2_addTune_134 : decode cX2_addTune 134 = .ok (.iload 4, 2) := by decide +kernel
theorem dX2_addTune_136 : decode cX2_addTune 136 = .ok (.invokevirtual 70, 3) := by decide +kernel
theorem dX2_addTune_139 : decode cX2_addTune 139 = .ok (.aload_n 0, 1) := by decide +kernel
theorem dX2_addTune_140 : decode cX2_addTune 140 = .ok (.getfield 23, 3) := by decide +kernel
theorem dX2_addTune_143 : decode cX2_addTune 143 = .ok (.iload 7, 2) := by decide +kernel
theorem dX2_addTune_145 : decode cX2_addTune 145 = .ok (.bipush 10, 2) := by decide +kernel
theorem dX2_addTune_147 : decode cX2_addTune 147 = .ok (.iload 4, 2) := by decide +kernel
theorem dX2_addTune_149 : decode cX2_addTune 149 = .ok (.invokevirtual 70, 3) := by decide +kernel
theorem dX2_addTune_152 : decode cX2_addTune 152 = .ok (.aload_n 0, 1) := by decide +kernel
theorem dX2_addTune_153 : decode cX2_addTune 153 = .ok (.getfield 23, 3) := by decide +kernel
theorem dX2_addTune_156 : decode cX2_addTune 156 = .ok (.iload 7, 2) := by decide +kernel
theorem dX2_addTune_158 : decode cX2_addTune 158 = .ok (.bipush 11, 2) := by decide +kernel
theorem dX2_addTune_160 : decode cX2_addTune 160 = .ok (.iconst 0, 1) := by decide +kernel
theorem dX2_addTune_161 : decode cX2_addTune 161 = .ok (.invokevirtual 70, 3) := by decide +kernel
theorem dX2_addTune_164 : decode cX2_addTune 164 = .ok (.aload_n 0, 1) := by decide +kernel
theorem dX2_addTune_165 : decode cX2_addTune 165 = .ok (.getfield 23, 3) := by decide +kernel
theorem dX2_addTune_168 : decode cX2_addTune 168 = .ok (.iload 7, 2) := by decide +kernel
theorem dX2_addTune_170 : decode cX2_addTune 170 = .ok (.bipush 12, 2) := by decide +kernel
theorem dX2_addTune_172 : decode cX2_addTune 172 = .ok (.iconst 0, 1) := by decide +kernel
theorem dX2_addTune_173 : decode cX2_addTune 173 = .ok (.invokevirtual 70, 3) := by decide +kernel
theorem dX2_addTune_176 : decode cX2_addTune 176 = .ok (.aload_n 0, 1) := by decide +kernel
theorem dX2_addTune_177 : decode cX2_addTune 177 = .ok (.dup, 1) := by decide +kernel
theorem dX2_addTune_178 : decode cX2_addTune 178 = .ok (.getfield 49, 3) := by decide +kernel
theorem dX2_addTune_181 : decode cX2_addTune 181 = .ok (.iconst 1, 1) := by decide +kernel
theorem dX2_addTune_182 : decode cX2_addTune 182 = .ok (.iadd, 1) := by decide +kernel
theorem dX2_addTune_183 : decode cX2_addTune 183 = .ok (.putfield 49, 3) := by decide +kernel
theorem dX2_addTune_186 : decode cX2_addTune 186 = .ok (.aload_n 0, 1) := by decide +kernel
theorem dX2_addTune_187 : decode cX2_addTune 187 = .ok (.iconst 1, 1) := by decide +kernel
theorem dX2_addTune_188 : decode cX2_addTune 188 = .ok (.iconst 1, 1) := by decide +kernel
theorem dX2_addTune_189 : decode cX2_addTune 189 = .ok (.invokevirtual 77, 3) := by decide +kernel
theorem dX2_addTune_192 : decode cX2_addTune 192 = .ok (.iload 7, 2) := by decide +kernel
theorem dX2_addTune_194 : decode cX2_addTune 194 = .ok (.ireturn, 1) := by decide +kernel
theorem dX2_hasTimeFor_0 : decode cX2_hasTimeFor 0 = .ok (.aload_n 0, 1) := by decide +kernel
theorem dX2_hasTimeFor_1 : decode cX2_hasTimeFor 1 = .ok (.getfield 39, 3) := by decide +kernel
theorem dX2_hasTimeFor_4 : decode cX2_hasTimeFor 4 = .ok (.iload_n 1, 1) := by decide +kernel
theorem dX2_hasTimeFor_5 : decode cX2_hasTimeFor 5 = .ok (.iadd, 1) := by decide +kernel
theorem dX2_hasTimeFor_6 : decode cX2_hasTimeFor 6 = .ok (.sipush 9999, 3) := by decide +kernel
theorem dX2_hasTimeFor_9 : decode cX2_hasTimeFor 9 = .ok (.if_icmp .gt 7, 3) := by decide +kernel
theorem dX2_hasTimeFor_12 : decode cX2_hasTimeFor 12 = .ok (.iconst 1, 1) := by decide +kernel
theorem dX2_hasTimeFor_13 : decode cX2_hasTimeFor 13 = .ok (.goto 4, 3) := by decide +kernel
theorem dX2_hasTimeFor_16 : decode cX2_hasTimeFor 16 = .ok (.iconst 0, 1) := by decide +kernel
theorem dX2_hasTimeFor_17 : decode cX2_hasTimeFor 17 = .ok (.ireturn, 1) := by decide +kernel
theorem dX2_hasRoomFor_0 : decode cX2_hasRoomFor 0 = .ok (.aload_n 0, 1) := by decide +kernel
theorem dX2_hasRoomFor_1 : decode cX2_hasRoomFor 1 = .ok (.getfield 16, 3) := by decide +kernel
theorem dX2_hasRoomFor_4 : decode cX2_hasRoomFor 4 = .ok (.iload_n 1, 1) := by decide +kernel
theorem dX2_hasRoomFor_5 : decode cX2_hasRoomFor 5 = .ok (.iconst 3, 1) := by decide +kernel
theorem dX2_hasRoomFor_6 : decode cX2_hasRoomFor 6 = .ok (.invokevirtual 66, 3) := by decide +kernel
theorem dX2_hasRoomFor_9 : decode cX2_hasRoomFor 9 = .ok (.iload_n 2, 1) := by decide +kernel
theorem dX2_hasRoomFor_10 : decode cX2_hasRoomFor 10 = .ok (.iadd, 1) := by decide +kernel
theorem dX2_hasRoomFor_11 : decode cX2_hasRoomFor 11 = .ok (.sipush 9999, 3) := by decide +kernel
theorem dX2_hasRoomFor_14 : decode cX2_hasRoomFor 14 = .ok (.if_icmp .gt 7, 3) := by decide +kernel
theorem dX2_hasRoomFor_17 : decode cX2_hasRoomFor 17 = .ok (.iconst 1, 1) := by decide +kernel
theorem dX2_hasRoomFor_18 : decode cX2_hasRoomFor 18 = .ok (.goto 4, 3) := by decide +kernel
theorem dX2_hasRoomFor_21 : decode cX2_hasRoomFor 21 = .ok (.iconst 0, 1) := by decide +kernel
theorem dX2_hasRoomFor_22 : decode cX2_hasRoomFor 22 = .ok (.ireturn, 1) := by decide +kernel
theorem dX2_takeCoins_0 : decode cX2_takeCoins 0 = .ok (.aload_n 0, 1) := by decide +kernel
theorem dX2_takeCoins_1 : decode cX2_takeCoins 1 = .ok (.getfield 16, 3) := by decide +kernel
theorem dX2_takeCoins_4 : decode cX2_takeCoins 4 = .ok (.iload_n 1, 1) := by decide +kernel
theorem dX2_takeCoins_5 : decode cX2_takeCoins 5 = .ok (.iconst 3, 1) := by decide +kernel
theorem dX2_takeCoins_6 : decode cX2_takeCoins 6 = .ok (.iload_n 2, 1) := by decide +kernel
theorem dX2_takeCoins_7 : decode cX2_takeCoins 7 = .ok (.invokevirtual 74, 3) := by decide +kernel
theorem dX2_takeCoins_10 : decode cX2_takeCoins 10 = .ok (.aload_n 0, 1) := by decide +kernel
theorem dX2_takeCoins_11 : decode cX2_takeCoins 11 = .ok (.bipush 10, 2) := by decide +kernel
theorem dX2_takeCoins_13 : decode cX2_takeCoins 13 = .ok (.iload_n 2, 1) := by decide +kernel
theorem dX2_takeCoins_14 : decode cX2_takeCoins 14 = .ok (.invokevirtual 77, 3) := by decide +kernel
theorem dX2_takeCoins_17 : decode cX2_takeCoins 17 = .ok (.return_, 1) := by decide +kernel
theorem dX2_cutWay_0 : decode cX2_cutWay 0 = .ok (.aload_n 0, 1) := by decide +kernel
theorem dX2_cutWay_1 : decode cX2_cutWay 1 = .ok (.iload_n 1, 1) := by decide +kernel
theorem dX2_cutWay_2 : decode cX2_cutWay 2 = .ok (.iload_n 2, 1) := by decide +kernel
theorem dX2_cutWay_3 : decode cX2_cutWay 3 = .ok (.invokevirtual 80, 3) := by decide +kernel
theorem dX2_cutWay_6 : decode cX2_cutWay 6 = .ok (.istore_n 3, 1) := by decide +kernel
theorem dX2_cutWay_7 : decode cX2_cutWay 7 = .ok (.iload_n 3, 1) := by decide +kernel
theorem dX2_cutWay_8 : decode cX2_cutWay 8 = .ok (.iconst (-1), 1) := by decide +kernel
theorem dX2_cutWay_9 : decode cX2_cutWay 9 = .ok (.if_icmp .ne 5, 3) := by decide +kernel
theorem dX2_cutWay_12 : decode cX2_cutWay 12 = .ok (.iconst 0, 1) := by decide +kernel
theorem dX2_cutWay_13 : decode cX2_cutWay 13 = .ok (.ireturn, 1) := by decide +kernel
theorem dX2_cutWay_14 : decode cX2_cutWay 14 = .ok (.aload_n 0, 1) := by decide +kernel
theorem dX2_cutWay_15 : decode cX2_cutWay 15 = .ok (.getfield 20, 3) := by decide +kernel
theorem dX2_cutWay_18 : decode cX2_cutWay 18 = .ok (.iload_n 3, 1) := by decide +kernel
theorem dX2_cutWay_19 : decode cX2_cutWay 19 = .ok (.invokevirtual 83, 3) := by decide +kernel
theorem dX2_cutWay_22 : decode cX2_cutWay 22 = .ok (.aload_n 0, 1) := by decide +kernel
theorem dX2_cutWay_23 : decode cX2_cutWay 23 = .ok (.dup, 1) := by decide +kernel
theorem dX2_cutWay_24 : decode cX2_cutWay 24 = .ok (.getfield 46, 3) := by decide +kernel
theorem dX2_cutWay_27 : decode cX2_cutWay 27 = .ok (.iconst 1, 1) := by decide +kernel
theorem dX2_cutWay_28 : decode cX2_cutWay 28 = .ok (.isub, 1) := by decide +kernel
theorem dX2_cutWay_29 : decode cX2_cutWay 29 = .ok (.putfield 46, 3) := by decide +kernel
theorem dX2_cutWay_32 : decode cX2_cutWay 32 = .ok (.aload_n 0, 1) := by decide +kernel
theorem dX2_cutWay_33 : decode cX2_cutWay 33 = .ok (.getfield 35, 3) := by decide +kernel
theorem dX2_cutWay_36 : decode cX2_cutWay 36 = .ok (.aload_n 0, 1) := by decide +kernel
theorem dX2_cutWay_37 : decode cX2_cutWay 37 = .ok (.invokevirtual 86, 3) := by decide +kernel
theorem dX2_cutWay_40 : decode cX2_cutWay 40 = .ok (.iconst 1, 1) := by decide +kernel
theorem dX2_cutWay_41 : decode cX2_cutWay 41 = .ok (.ireturn, 1) := by decide +kernel
theorem dX2_roofNamed_0 : decode cX2_roofNamed 0 = .ok (.iconst 0, 1) := by decide +kernel
theorem dX2_roofNamed_1 : decode cX2_roofNamed 1 = .ok (.istore_n 2, 1) := by decide +kernel
theorem dX2_roofNamed_2 : decode cX2_roofNamed 2 = .ok (.iload_n 2, 1) := by decide +kernel
theorem dX2_roofNamed_3 : decode cX2_roofNamed 3 = .ok (.aload_n 0, 1) := by decide +kernel
theorem dX2_roofNamed_4 : decode cX2_roofNamed 4 = .ok (.getfield 43, 3) := by decide +kernel
theorem dX2_roofNamed_7 : decode cX2_roofNamed 7 = .ok (.if_icmp .ge 24, 3) := by decide +kernel
theorem dX2_roofNamed_10 : decode cX2_roofNamed 10 = .ok (.aload_n 0, 1) := by decide +kernel
theorem dX2_roofNamed_11 : decode cX2_roofNamed 11 = .ok (.getfield 16, 3) := by decide +kernel
theorem dX2_roofNamed_14 : decode cX2_roofNamed 14 = .ok (.iload_n 2, 1) := by decide +kernel
theorem dX2_roofNamed_15 : decode cX2_roofNamed 15 = .ok (.iconst 5, 1) := by decide +kernel
theorem dX2_roofNamed_16 : decode cX2_roofNamed 16 = .ok (.invokevirtual 66, 3) := by decide +kernel
theorem dX2_roofNamed_19 : decode cX2_roofNamed 19 = .ok (.iload_n 1, 1) := by decide +kernel
theorem dX2_roofNamed_20 : decode cX2_roofNamed 20 = .ok (.if_icmp .ne 5, 3) := by decide +kernel
theorem dX2_roofNamed_23 : decode cX2_roofNamed 23 = .ok (.iload_n 2, 1) := by decide +kernel
theorem dX2_roofNamed_24 : decode cX2_roofNamed 24 = .ok (.ireturn, 1) := by decide +kernel
theorem dX2_roofNamed_25 : decode cX2_roofNamed 25 = .ok (.iinc 2 1, 3) := by decide +kernel
theorem dX2_roofNamed_28 : decode cX2_roofNamed 28 = .ok (.goto (-26), 3) := by decide +kernel
theorem dX2_roofNamed_31 : decode cX2_roofNamed 31 = .ok (.iconst (-1), 1) := by decide +kernel
theorem dX2_roofNamed_32 : decode cX2_roofNamed 32 = .ok (.ireturn, 1) := by decide +kernel
theorem dX2_acrossFrom_0 : decode cX2_acrossFrom 0 = .ok (.aload_n 0, 1) := by decide +kernel
theorem dX2_acrossFrom_1 : decode cX2_acrossFrom 1 = .ok (.getfield 20, 3) := by decide +kernel
theorem dX2_acrossFrom_4 : decode cX2_acrossFrom 4 = .ok (.iload_n 2, 1) := by decide +kernel
theorem dX2_acrossFrom_5 : decode cX2_acrossFrom 5 = .ok (.iconst 0, 1) := by decide +kernel
theorem dX2_acrossFrom_6 : decode cX2_acrossFrom 6 = .ok (.invokevirtual 66, 3) := by decide +kernel
theorem dX2_acrossFrom_9 : decode cX2_acrossFrom 9 = .ok (.istore_n 3, 1) := by decide +kernel
theorem dX2_acrossFrom_10 : decode cX2_acrossFrom 10 = .ok (.aload_n 0, 1) := by decide +kernel
theorem dX2_acrossFrom_11 : decode cX2_acrossFrom 11 = .ok (.getfield 20, 3) := by decide +kernel
theorem dX2_acrossFrom_14 : decode cX2_acrossFrom 14 = .ok (.iload_n 2, 1) := by decide +kernel
theorem dX2_acrossFrom_15 : decode cX2_acrossFrom 15 = .ok (.iconst 1, 1) := by decide +kernel
theorem dX2_acrossFrom_16 : decode cX2_acrossFrom 16 = .ok (.invokevirtual 66, 3) := by decide +kernel
theorem dX2_acrossFrom_19 : decode cX2_acrossFrom 19 = .ok (.istore 4, 2) := by decide +kernel
theorem dX2_acrossFrom_21 : decode cX2_acrossFrom 21 = .ok (.iload_n 3, 1) := by decide +kernel
theorem dX2_acrossFrom_22 : decode cX2_acrossFrom 22 = .ok (.iload_n 1, 1) := by decide +kernel
theorem dX2_acrossFrom_23 : decode cX2_acrossFrom 23 = .ok (.if_icmp .ne 6, 3) := by decide +kernel
theorem dX2_acrossFrom_26 : decode cX2_acrossFrom 26 = .ok (.iload 4, 2) := by decide +kernel
theorem dX2_acrossFrom_28 : decode cX2_acrossFrom 28 = .ok (.ireturn, 1) := by decide +kernel
theorem dX2_acrossFrom_29 : decode cX2_acrossFrom 29 = .ok (.iload 4, 2) := by decide +kernel
theorem dX2_acrossFrom_31 : decode cX2_acrossFrom 31 = .ok (.iload_n 1, 1) := by decide +kernel
theorem dX2_acrossFrom_32 : decode cX2_acrossFrom 32 = .ok (.if_icmp .ne 7, 3) := by decide +kernel
theorem dX2_acrossFrom_35 : decode cX2_acrossFrom 35 = .ok (.iload_n 3, 1) := by decide +kernel
theorem dX2_acrossFrom_36 : decode cX2_acrossFrom 36 = .ok (.goto 4, 3) := by decide +kernel
theorem dX2_acrossFrom_39 : decode cX2_acrossFrom 39 = .ok (.iconst (-1), 1) := by decide +kernel
theorem dX2_acrossFrom_40 : decode cX2_acrossFrom 40 = .ok (.ireturn, 1) := by decide +kernel
theorem dX2_wayBetween_0 : decode cX2_wayBetween 0 = .ok (.iconst 0, 1) := by decide +kernel
theorem dX2_wayBetween_1 : decode cX2_wayBetween 1 = .ok (.istore_n 3, 1) := by decide +kernel
theorem dX2_wayBetween_2 : decode cX2_wayBetween 2 = .ok (.iload_n 3, 1) := by decide +kernel
theorem dX2_wayBetween_3 : decode cX2_wayBetween 3 = .ok (.aload_n 0, 1) := by decide +kernel
theorem dX2_wayBetween_4 : decode cX2_wayBetween 4 = .ok (.getfield 46, 3) := by decide +kernel
theorem dX2_wayBetween_7 : decode cX2_wayBetween 7 = .ok (.if_icmp .ge 21, 3) := by decide +kernel
theorem dX2_wayBetween_10 : decode cX2_wayBetween 10 = .ok (.aload_n 0, 1) := by decide +kernel
theorem dX2_wayBetween_11 : decode cX2_wayBetween 11 = .ok (.iload_n 1, 1) := by decide +kernel
theorem dX2_wayBetween_12 : decode cX2_wayBetween 12 = .ok (.iload_n 3, 1) := by decide +kernel
theorem dX2_wayBetween_13 : decode cX2_wayBetween 13 = .ok (.invokevirtual 92, 3) := by decide +kernel
theorem dX2_wayBetween_16 : decode cX2_wayBetween 16 = .ok (.iload_n 2, 1) := by decide +kernel
theorem dX2_wayBetween_17 : decode cX2_wayBetween 17 = .ok (.if_icmp .ne 5, 3) := by decide +kernel
theorem dX2_wayBetween_20 : decode cX2_wayBetween 20 = .ok (.iload_n 3, 1) := by decide +kernel
theorem dX2_wayBetween_21 : decode cX2_wayBetween 21 = .ok (.ireturn, 1) := by decide +kernel
theorem dX2_wayBetween_22 : decode cX2_wayBetween 22 = .ok (.iinc 3 1, 3) := by decide +kernel
theorem dX2_wayBetween_25 : decode cX2_wayBetween 25 = .ok (.goto (-23), 3) := by decide +kernel
theorem dX2_wayBetween_28 : decode cX2_wayBetween 28 = .ok (.iconst (-1), 1) := by decide +kernel
theorem dX2_wayBetween_29 : decode cX2_wayBetween 29 = .ok (.ireturn, 1) := by decide +kernel
theorem dX2_numberOfAll_0 : decode cX2_numberOfAll 0 = .ok (.iload_n 1, 1) := by decide +kernel
theorem dX2_numberOfAll_1 : decode cX2_numberOfAll 1 = .ok (.tableswitch 105 0 12 #[67, 72, 77, 82, 82, 82, 82, 90, 105, 105, 105, 95, 100], 67) := by decide +kernel
theorem dX2_numberOfAll_68 : decode cX2_numberOfAll 68 = .ok (.aload_n 0, 1) := by decide +kernel
theorem dX2_numberOfAll_69 : decode cX2_numberOfAll 69 = .ok (.getfield 43, 3) := by decide +kernel
theorem dX2_numberOfAll_72 : decode cX2_numberOfAll 72 = .ok (.ireturn, 1) := by decide +kernel
theorem dX2_numberOfAll_73 : decode cX2_numberOfAll 73 = .ok (.aload_n 0, 1) := by decide +kernel
theorem dX2_numberOfAll_74 : decode cX2_numberOfAll 74 = .ok (.getfield 46, 3) := by decide +kernel
theorem dX2_numberOfAll_77 : decode cX2_numberOfAll 77 = .ok (.ireturn, 1) := by decide +kernel
theorem dX2_numberOfAll_78 : decode cX2_numberOfAll 78 = .ok (.aload_n 0, 1) := by decide +kernel
theorem dX2_numberOfAll_79 : decode cX2_numberOfAll 79 = .ok (.getfield 49, 3) := by decide +kernel
theorem dX2_numberOfAll_82 : decode cX2_numberOfAll 82 = .ok (.ireturn, 1) := by decide +kernel
theorem dX2_numberOfAll_83 : decode cX2_numberOfAll 83 = .ok (.aload_n 0, 1) := by decide +kernel
theorem dX2_numberOfAll_84 : decode cX2_numberOfAll 84 = .ok (.iload_n 1, 1) := by decide +kernel
theorem dX2_numberOfAll_85 : decode cX2_numberOfAll 85 = .ok (.iconst 3, 1) := by decide +kernel
theorem dX2_numberOfAll_86 : decode cX2_numberOfAll 86 = .ok (.isub, 1) := by decide +kernel
theorem dX2_numberOfAll_87 : decode cX2_numberOfAll 87 = .ok (.invokevirtual 95, 3) := by decide +kernel
theorem dX2_numberOfAll_90 : decode cX2_numberOfAll 90 = .ok (.ireturn, 1) := by decide +kernel
theorem dX2_numberOfAll_91 : decode cX2_numberOfAll 91 = .ok (.aload_n 0, 1) := by decide +kernel
theorem dX2_numberOfAll_92 : decode cX2_numberOfAll 92 = .ok (.getfield 39, 3) := by decide +kernel
theorem dX2_numberOfAll_95 : decode cX2_numberOfAll 95 = .ok (.ireturn, 1) := by decide +kernel
theorem dX2_numberOfAll_96 : decode cX2_numberOfAll 96 = .ok (.aload_n 0, 1) := by decide +kernel
theorem dX2_numberOfAll_97 : decode cX2_numberOfAll 97 = .ok (.invokevirtual 99, 3) := by decide +kernel
theorem dX2_numberOfAll_100 : decode cX2_numberOfAll 100 = .ok (.ireturn, 1) := by decide +kernel
theorem dX2_numberOfAll_101 : decode cX2_numberOfAll 101 = .ok (.aload_n 0, 1) := by decide +kernel
theorem dX2_numberOfAll_102 : decode cX2_numberOfAll 102 = .ok (.invokevirtual 103, 3) := by decide +kernel
theorem dX2_numberOfAll_105 : decode cX2_numberOfAll 105 = .ok (.ireturn, 1) := by decide +kernel
theorem dX2_numberOfAll_106 : decode cX2_numberOfAll 106 = .ok (.aload_n 0, 1) := by decide +kernel
theorem dX2_numberOfAll_107 : decode cX2_numberOfAll 107 = .ok (.iload_n 1, 1) := by decide +kernel
theorem dX2_numberOfAll_108 : decode cX2_numberOfAll 108 = .ok (.invokevirtual 106, 3) := by decide +kernel
theorem dX2_numberOfAll_111 : decode cX2_numberOfAll 111 = .ok (.ireturn, 1) := by decide +kernel
theorem dX2_tunesIn_0 : decode cX2_tunesIn 0 = .ok (.iconst 0, 1) := by decide +kernel
theorem dX2_tunesIn_1 : decode cX2_tunesIn 1 = .ok (.istore_n 2, 1) := by decide +kernel
theorem dX2_tunesIn_2 : decode cX2_tunesIn 2 = .ok (.iconst 0, 1) := by decide +kernel
theorem dX2_tunesIn_3 : decode cX2_tunesIn 3 = .ok (.istore_n 3, 1) := by decide +kernel
theorem dX2_tunesIn_4 : decode cX2_tunesIn 4 = .ok (.iload_n 3, 1) := by decide +kernel
theorem dX2_tunesIn_5 : decode cX2_tunesIn 5 = .ok (.aload_n 0, 1) := by decide +kernel
theorem dX2_tunesIn_6 : decode cX2_tunesIn 6 = .ok (.getfield 49, 3) := by decide +kernel
theorem dX2_tunesIn_9 : decode cX2_tunesIn 9 = .ok (.if_icmp .ge 25, 3) := by decide +kernel
theorem dX2_tunesIn_12 : decode cX2_tunesIn 12 = .ok (.aload_n 0, 1) := by decide +kernel
theorem dX2_tunesIn_13 : decode cX2_tunesIn 13 = .ok (.getfield 23, 3) := by decide +kernel
theorem dX2_tunesIn_16 : decode cX2_tunesIn 16 = .ok (.iload_n 3, 1) := by decide +kernel
theorem dX2_tunesIn_17 : decode cX2_tunesIn 17 = .ok (.iconst 3, 1) := by decide +kernel
theorem dX2_tunesIn_18 : decode cX2_tunesIn 18 = .ok (.invokevirtual 66, 3) := by decide +kernel
theorem dX2_tunesIn_21 : decode cX2_tunesIn 21 = .ok (.iload_n 1, 1) := by decide +kernel
theorem dX2_tunesIn_22 : decode cX2_tunesIn 22 = .ok (.if_icmp .ne 6, 3) := by decide +kernel
theorem dX2_tunesIn_25 : decode cX2_tunesIn 25 = .ok (.iinc 2 1, 3) := by decide +kernel
theorem dX2_tunesIn_28 : decode cX2_tunesIn 28 = .ok (.iinc 3 1, 3) := by decide +kernel
theorem dX2_tunesIn_31 : decode cX2_tunesIn 31 = .ok (.goto (-27), 3) := by decide +kernel
theorem dX2_tunesIn_34 : decode cX2_tunesIn 34 = .ok (.iload_n 2, 1) := by decide +kernel
theorem dX2_tunesIn_35 : decode cX2_tunesIn 35 = .ok (.ireturn, 1) := by decide +kernel
theorem dX2_busyWhistlers_0 : decode cX2_busyWhistlers 0 = .ok (.iconst 0, 1) := by decide +kernel
theorem dX2_busyWhistlers_1 : decode cX2_busyWhistlers 1 = .ok (.istore_n 1, 1) := by decide +kernel
theorem dX2_busyWhistlers_2 : decode cX2_busyWhistlers 2 = .ok (.iconst 0, 1) := by decide +kernel
theorem dX2_busyWhistlers_3 : decode cX2_busyWhistlers 3 = .ok (.istore_n 2, 1) := by decide +kernel
theorem dX2_busyWhistlers_4 : decode cX2_busyWhistlers 4 = .ok (.iload_n 2, 1) := by decide +kernel
theorem dX2_busyWhistlers_5 : decode cX2_busyWhistlers 5 = .ok (.aload_n 0, 1) := by decide +kernel
theorem dX2_busyWhistlers_6 : decode cX2_busyWhistlers 6 = .ok (.getfield 43, 3) := by decide +kernel
theorem dX2_busyWhistlers_9 : decode cX2_busyWhistlers 9 = .ok (.if_icmp .ge 24, 3) := by decide +kernel
theorem dX2_busyWhistlers_12 : decode cX2_busyWhistlers 12 = .ok (.aload_n 0, 1) := by decide +kernel
theorem dX2_busyWhistlers_13 : decode cX2_busyWhistlers 13 = .ok (.iload_n 2, 1) := by decide +kernel
theorem dX2_busyWhistlers_14 : decode cX2_busyWhistlers 14 = .ok (.aload_n 0, 1) := by decide +kernel
theorem dX2_busyWhistlers_15 : decode cX2_busyWhistlers 15 = .ok (.getfield 39, 3) := by decide +kernel
theorem dX2_busyWhistlers_18 : decode cX2_busyWhistlers 18 = .ok (.invokevirtual 109, 3) := by decide +kernel
theorem dX2_busyWhistlers_21 : decode cX2_busyWhistlers 21 = .ok (.ifCond .eq 6, 3) := by decide +kernel
theorem dX2_busyWhistlers_24 : decode cX2_busyWhistlers 24 = .ok (.iinc 1 1, 3) := by decide +kernel
theorem dX2_busyWhistlers_27 : decode cX2_busyWhistlers 27 = .ok (.iinc 2 1, 3) := by decide +kernel
theorem dX2_busyWhistlers_30 : decode cX2_busyWhistlers 30 = .ok (.goto (-26), 3) := by decide +kernel
theorem dX2_busyWhistlers_33 : decode cX2_busyWhistlers 33 = .ok (.iload_n 1, 1) := by decide +kernel
theorem dX2_busyWhistlers_34 : decode cX2_busyWhistlers 34 = .ok (.ireturn, 1) := by decide +kernel
theorem dX2_isBusy_0 : decode cX2_isBusy 0 = .ok (.aload_n 0, 1) := by decide +kernel
theorem dX2_isBusy_1 : decode cX2_isBusy 1 = .ok (.getfield 16, 3) := by decide +kernel
theorem dX2_isBusy_4 : decode cX2_isBusy 4 = .ok (.iload_n 1, 1) := by decide +kernel
theorem dX2_isBusy_5 : decode cX2_isBusy 5 = .ok (.iconst 4, 1) := by decide +kernel
theorem dX2_isBusy_6 : decode cX2_isBusy 6 = .ok (.invokevirtual 66, 3) := by decide +kernel
theorem dX2_isBusy_9 : decode cX2_isBusy 9 = .ok (.iload_n 2, 1) := by decide +kernel
theorem dX2_isBusy_10 : decode cX2_isBusy 10 = .ok (.if_icmp .le 7, 3) := by decide +kernel
theorem dX2_isBusy_13 : decode cX2_isBusy 13 = .ok (.iconst 1, 1) := by decide +kernel
theorem dX2_isBusy_14 : decode cX2_isBusy 14 = .ok (.goto 4, 3) := by decide +kernel
theorem dX2_isBusy_17 : decode cX2_isBusy 17 = .ok (.iconst 0, 1) := by decide +kernel
theorem dX2_isBusy_18 : decode cX2_isBusy 18 = .ok (.ireturn, 1) := by decide +kernel
theorem dX2_pursesTogether_0 : decode cX2_pursesTogether 0 = .ok (.iconst 0, 1) := by decide +kernel
theorem dX2_pursesTogether_1 : decode cX2_pursesTogether 1 = .ok (.istore_n 1, 1) := by decide +kernel
theorem dX2_pursesTogether_2 : decode cX2_pursesTogether 2 = .ok (.iconst 0, 1) := by decide +kernel
theorem dX2_pursesTogether_3 : decode cX2_pursesTogether 3 = .ok (.istore_n 2, 1) := by decide +kernel
theorem dX2_pursesTogether_4 : decode cX2_pursesTogether 4 = .ok (.iload_n 2, 1) := by decide +kernel
theorem dX2_pursesTogether_5 : decode cX2_pursesTogether 5 = .ok (.aload_n 0, 1) := by decide +kernel
theorem dX2_pursesTogether_6 : decode cX2_pursesTogether 6 = .ok (.getfield 43, 3) := by decide +kernel
theorem dX2_pursesTogether_9 : decode cX2_pursesTogether 9 = .ok (.if_icmp .ge 21, 3) := by decide +kernel
theorem dX2_pursesTogether_12 : decode cX2_pursesTogether 12 = .ok (.iload_n 1, 1) := by decide +kernel
theorem dX2_pursesTogether_13 : decode cX2_pursesTogether 13 = .ok (.aload_n 0, 1) := by decide +kernel
theorem dX2_pursesTogether_14 : decode cX2_pursesTogether 14 = .ok (.getfield 16, 3) := by decide +kernel
theorem dX2_pursesTogether_17 : decode cX2_pursesTogether 17 = .ok (.iload_n 2, 1) := by decide +kernel
theorem dX2_pursesTogether_18 : decode cX2_pursesTogether 18 = .ok (.iconst 3, 1) := by decide +kernel
theorem dX2_pursesTogether_19 : decode cX2_pursesTogether 19 = .ok (.invokevirtual 66, 3) := by decide +kernel
theorem dX2_pursesTogether_22 : decode cX2_pursesTogether 22 = .ok (.iadd, 1) := by decide +kernel
theorem dX2_pursesTogether_23 : decode cX2_pursesTogether 23 = .ok (.istore_n 1, 1) := by decide +kernel
theorem dX2_pursesTogether_24 : decode cX2_pursesTogether 24 = .ok (.iinc 2 1, 3) := by decide +kernel
theorem dX2_pursesTogether_27 : decode cX2_pursesTogether 27 = .ok (.goto (-23), 3) := by decide +kernel
theorem dX2_pursesTogether_30 : decode cX2_pursesTogether 30 = .ok (.iload_n 1, 1) := by decide +kernel
theorem dX2_pursesTogether_31 : decode cX2_pursesTogether 31 = .ok (.ireturn, 1) := by decide +kernel
theorem dX2_numberOfRoof_0 : decode cX2_numberOfRoof 0 = .ok (.iload_n 2, 1) := by decide +kernel
theorem dX2_numberOfRoof_1 : decode cX2_numberOfRoof 1 = .ok (.tableswitch 58 4 6 #[27, 46, 52], 27) := by decide +kernel
theorem dX2_numberOfRoof_28 : decode cX2_numberOfRoof 28 = .ok (.iconst 0, 1) := by decide +kernel
theorem dX2_numberOfRoof_29 : decode cX2_numberOfRoof 29 = .ok (.aload_n 0, 1) := by decide +kernel
theorem dX2_numberOfRoof_30 : decode cX2_numberOfRoof 30 = .ok (.getfield 16, 3) := by decide +kernel
theorem dX2_numberOfRoof_33 : decode cX2_numberOfRoof 33 = .ok (.iload_n 1, 1) := by decide +kernel
theorem dX2_numberOfRoof_34 : decode cX2_numberOfRoof 34 = .ok (.iconst 4, 1) := by decide +kernel
theorem dX2_numberOfRoof_35 : decode cX2_numberOfRoof 35 = .ok (.invokevirtual 66, 3) := by decide +kernel
theorem dX2_numberOfRoof_38 : decode cX2_numberOfRoof 38 = .ok (.aload_n 0, 1) := by decide +kernel
theorem dX2_numberOfRoof_39 : decode cX2_numberOfRoof 39 = .ok (.getfield 39, 3) := by decide +kernel
theorem dX2_numberOfRoof_42 : decode cX2_numberOfRoof 42 = .ok (.isub, 1) := by decide +kernel
theorem dX2_numberOfRoof_43 : decode cX2_numberOfRoof 43 = .ok (.invokestatic 113, 3) := by decide +kernel
theorem dX2_numberOfRoof_46 : decode cX2_numberOfRoof 46 = .ok (.ireturn, 1) := by decide +kernel
theorem dX2_numberOfRoof_47 : decode cX2_numberOfRoof 47 = .ok (.aload_n 0, 1) := by decide +kernel
theorem dX2_numberOfRoof_48 : decode cX2_numberOfRoof 48 = .ok (.iload_n 1, 1) := by decide +kernel
theorem dX2_numberOfRoof_49 : decode cX2_numberOfRoof 49 = .ok (.invokevirtual 118, 3) := by decide +kernel
theorem dX2_numberOfRoof_52 : decode cX2_numberOfRoof 52 = .ok (.ireturn, 1) := by decide +kernel
theorem dX2_numberOfRoof_53 : decode cX2_numberOfRoof 53 = .ok (.aload_n 0, 1) := by decide +kernel
theorem dX2_numberOfRoof_54 : decode cX2_numberOfRoof 54 = .ok (.iload_n 1, 1) := by decide +kernel
theorem dX2_numberOfRoof_55 : decode cX2_numberOfRoof 55 = .ok (.invokevirtual 121, 3) := by decide +kernel
theorem dX2_numberOfRoof_58 : decode cX2_numberOfRoof 58 = .ok (.ireturn, 1) := by decide +kernel
theorem dX2_numberOfRoof_59 : decode cX2_numberOfRoof 59 = .ok (.aload_n 0, 1) := by decide +kernel
theorem dX2_numberOfRoof_60 : decode cX2_numberOfRoof 60 = .ok (.getfield 16, 3) := by decide +kernel
theorem dX2_numberOfRoof_63 : decode cX2_numberOfRoof 63 = .ok (.iload_n 1, 1) := by decide +kernel
theorem dX2_numberOfRoof_64 : decode cX2_numberOfRoof 64 = .ok (.iload_n 2, 1) := by decide +kernel
theorem dX2_numberOfRoof_65 : decode cX2_numberOfRoof 65 = .ok (.invokevirtual 66, 3) := by decide +kernel
theorem dX2_numberOfRoof_68 : decode cX2_numberOfRoof 68 = .ok (.ireturn, 1) := by decide +kernel
theorem dX2_tunesAt_0 : decode cX2_tunesAt 0 = .ok (.iconst 0, 1) := by decide +kernel
theorem dX2_tunesAt_1 : decode cX2_tunesAt 1 = .ok (.istore_n 2, 1) := by decide +kernel
theorem dX2_tunesAt_2 : decode cX2_tunesAt 2 = .ok (.iconst 0, 1) := by decide +kernel
theorem dX2_tunesAt_3 : decode cX2_tunesAt 3 = .ok (.istore_n 3, 1) := by decide +kernel
theorem dX2_tunesAt_4 : decode cX2_tunesAt 4 = .ok (.iload_n 3, 1) := by decide +kernel
theorem dX2_tunesAt_5 : decode cX2_tunesAt 5 = .ok (.aload_n 0, 1) := by decide +kernel
theorem dX2_tunesAt_6 : decode cX2_tunesAt 6 = .ok (.getfield 49, 3) := by decide +kernel
theorem dX2_tunesAt_9 : decode cX2_tunesAt 9 = .ok (.if_icmp .ge 21, 3) := by decide +kernel
theorem dX2_tunesAt_12 : decode cX2_tunesAt 12 = .ok (.aload_n 0, 1) := by decide +kernel
theorem dX2_tunesAt_13 : decode cX2_tunesAt 13 = .ok (.iload_n 3, 1) := by decide +kernel
theorem dX2_tunesAt_14 : decode cX2_tunesAt 14 = .ok (.iload_n 1, 1) := by decide +kernel
theorem dX2_tunesAt_15 : decode cX2_tunesAt 15 = .ok (.invokevirtual 124, 3) := by decide +kernel
theorem dX2_tunesAt_18 : decode cX2_tunesAt 18 = .ok (.ifCond .eq 6, 3) := by decide +kernel
theorem dX2_tunesAt_21 : decode cX2_tunesAt 21 = .ok (.iinc 2 1, 3) := by decide +kernel
theorem dX2_tunesAt_24 : decode cX2_tunesAt 24 = .ok (.iinc 3 1, 3) := by decide +kernel
theorem dX2_tunesAt_27 : decode cX2_tunesAt 27 = .ok (.goto (-23), 3) := by decide +kernel
theorem dX2_tunesAt_30 : decode cX2_tunesAt 30 = .ok (.iload_n 2, 1) := by decide +kernel
theorem dX2_tunesAt_31 : decode cX2_tunesAt 31 = .ok (.ireturn, 1) := by decide +kernel
theorem dX2_waysAt_0 : decode cX2_waysAt 0 = .ok (.iconst 0, 1) := by decide +kernel
theorem dX2_waysAt_1 : decode cX2_waysAt 1 = .ok (.istore_n 2, 1) := by decide +kernel
theorem dX2_waysAt_2 : decode cX2_waysAt 2 = .ok (.iconst 0, 1) := by decide +kernel
theorem dX2_waysAt_3 : decode cX2_waysAt 3 = .ok (.istore_n 3, 1) := by decide +kernel
theorem dX2_waysAt_4 : decode cX2_waysAt 4 = .ok (.iload_n 3, 1) := by decide +kernel
theorem dX2_waysAt_5 : decode cX2_waysAt 5 = .ok (.aload_n 0, 1) := by decide +kernel
theorem dX2_waysAt_6 : decode cX2_waysAt 6 = .ok (.getfield 46, 3) := by decide +kernel
theorem dX2_waysAt_9 : decode cX2_waysAt 9 = .ok (.if_icmp .ge 22, 3) := by decide +kernel
theorem dX2_waysAt_12 : decode cX2_waysAt 12 = .ok (.aload_n 0, 1) := by decide +kernel
theorem dX2_waysAt_13 : decode cX2_waysAt 13 = .ok (.iload_n 1, 1) := by decide +kernel
theorem dX2_waysAt_14 : decode cX2_waysAt 14 = .ok (.iload_n 3, 1) := by decide +kernel
theorem dX2_waysAt_15 : decode cX2_waysAt 15 = .ok (.invokevirtual 92, 3) := by decide +kernel
theorem dX2_waysAt_18 : decode cX2_waysAt 18 = .ok (.iconst (-1), 1) := by decide +kernel
theorem dX2_waysAt_19 : decode cX2_waysAt 19 = .ok (.if_icmp .eq 6, 3) := by decide +kernel
theorem dX2_waysAt_22 : decode cX2_waysAt 22 = .ok (.iinc 2 1, 3) := by decide +kernel
theorem dX2_waysAt_25 : decode cX2_waysAt 25 = .ok (.iinc 3 1, 3) := by decide +kernel
theorem dX2_waysAt_28 : decode cX2_waysAt 28 = .ok (.goto (-24), 3) := by decide +kernel
theorem dX2_waysAt_31 : decode cX2_waysAt 31 = .ok (.iload_n 2, 1) := by decide +kernel
theorem dX2_waysAt_32 : decode cX2_waysAt 32 = .ok (.ireturn, 1) := by decide +kernel
theorem dX2_isWaitingAt_0 : decode cX2_isWaitingAt 0 = .ok (.aload_n 0, 1) := by decide +kernel
theorem dX2_isWaitingAt_1 : decode cX2_isWaitingAt 1 = .ok (.getfield 23, 3) := by decide +kernel
theorem dX2_isWaitingAt_4 : decode cX2_isWaitingAt 4 = .ok (.iload_n 1, 1) := by decide +kernel
theorem dX2_isWaitingAt_5 : decode cX2_isWaitingAt 5 = .ok (.iconst 3, 1) := by decide +kernel
theorem dX2_isWaitingAt_6 : decode cX2_isWaitingAt 6 = .ok (.invokevirtual 66, 3) := by decide +kernel
theorem dX2_isWaitingAt_9 : decode cX2_isWaitingAt 9 = .ok (.ifCond .ne 20, 3) := by decide +kernel
theorem dX2_isWaitingAt_12 : decode cX2_isWaitingAt 12 = .ok (.aload_n 0, 1) := by decide +kernel
theorem dX2_isWaitingAt_13 : decode cX2_isWaitingAt 13 = .ok (.getfield 23, 3) := by decide +kernel
theorem dX2_isWaitingAt_16 : decode cX2_isWaitingAt 16 = .ok (.iload_n 1, 1) := by decide +kernel
theorem dX2_isWaitingAt_17 : decode cX2_isWaitingAt 17 = .ok (.iconst 4, 1) := by decide +kernel
theorem dX2_isWaitingAt_18 : decode cX2_isWaitingAt 18 = .ok (.invokevirtual 66, 3) := by decide +kernel
theorem dX2_isWaitingAt_21 : decode cX2_isWaitingAt 21 = .ok (.iload_n 2, 1) := by decide +kernel
theorem dX2_isWaitingAt_22 : decode cX2_isWaitingAt 22 = .ok (.if_icmp .ne 7, 3) := by decide +kernel
theorem dX2_isWaitingAt_25 : decode cX2_isWaitingAt 25 = .ok (.iconst 1, 1) := by decide +kernel
theorem dX2_isWaitingAt_26 : decode cX2_isWaitingAt 26 = .ok (.goto 4, 3) := by decide +kernel
theorem dX2_isWaitingAt_29 : decode cX2_isWaitingAt 29 = .ok (.iconst 0, 1) := by decide +kernel
theorem dX2_isWaitingAt_30 : decode cX2_isWaitingAt 30 = .ok (.ireturn, 1) := by decide +kernel
theorem dX2_numberOfTune_0 : decode cX2_numberOfTune 0 = .ok (.iload_n 2, 1) := by decide +kernel
theorem dX2_numberOfTune_1 : decode cX2_numberOfTune 1 = .ok (.lookupswitch 39 #[(9, 27), (10, 33)], 27) := by decide +kernel
theorem dX2_numberOfTune_28 : decode cX2_numberOfTune 28 = .ok (.aload_n 0, 1) := by decide +kernel
theorem dX2_numberOfTune_29 : decode cX2_numberOfTune 29 = .ok (.iload_n 1, 1) := by decide +kernel
theorem dX2_numberOfTune_30 : decode cX2_numberOfTune 30 = .ok (.invokevirtual 127, 3) := by decide +kernel
theorem dX2_numberOfTune_33 : decode cX2_numberOfTune 33 = .ok (.ireturn, 1) := by decide +kernel
theorem dX2_numberOfTune_34 : decode cX2_numberOfTune 34 = .ok (.aload_n 0, 1) := by decide +kernel
theorem dX2_numberOfTune_35 : decode cX2_numberOfTune 35 = .ok (.iload_n 1, 1) := by decide +kernel
theorem dX2_numberOfTune_36 : decode cX2_numberOfTune 36 = .ok (.invokevirtual 130, 3) := by decide +kernel
theorem dX2_numberOfTune_39 : decode cX2_numberOfTune 39 = .ok (.ireturn, 1) := by decide +kernel
theorem dX2_numberOfTune_40 : decode cX2_numberOfTune 40 = .ok (.aload_n 0, 1) := by decide +kernel
theorem dX2_numberOfTune_41 : decode cX2_numberOfTune 41 = .ok (.getfield 23, 3) := by decide +kernel
theorem dX2_numberOfTune_44 : decode cX2_numberOfTune 44 = .ok (.iload_n 1, 1) := by decide +kernel
theorem dX2_numberOfTune_45 : decode cX2_numberOfTune 45 = .ok (.iload_n 2, 1) := by decide +kernel
theorem dX2_numberOfTune_46 : decode cX2_numberOfTune 46 = .ok (.invokevirtual 66, 3) := by decide +kernel
theorem dX2_numberOfTune_49 : decode cX2_numberOfTune 49 = .ok (.ireturn, 1) := by decide +kernel
theorem dX2_barsOf_0 : decode cX2_barsOf 0 = .ok (.iload_n 0, 1) := by decide +kernel
theorem dX2_barsOf_1 : decode cX2_barsOf 1 = .ok (.iconst 3, 1) := by decide +kernel
theorem dX2_barsOf_2 : decode cX2_barsOf 2 = .ok (.iadd, 1) := by decide +kernel
theorem dX2_barsOf_3 : decode cX2_barsOf 3 = .ok (.iconst 4, 1) := by decide +kernel
theorem dX2_barsOf_4 : decode cX2_barsOf 4 = .ok (.idiv, 1) := by decide +kernel
theorem dX2_barsOf_5 : decode cX2_barsOf 5 = .ok (.ireturn, 1) := by decide +kernel
theorem dX2_barsOfTune_0 : decode cX2_barsOfTune 0 = .ok (.aload_n 0, 1) := by decide +kernel
theorem dX2_barsOfTune_1 : decode cX2_barsOfTune 1 = .ok (.getfield 23, 3) := by decide +kernel
theorem dX2_barsOfTune_4 : decode cX2_barsOfTune 4 = .ok (.iload_n 1, 1) := by decide +kernel
theorem dX2_barsOfTune_5 : decode cX2_barsOfTune 5 = .ok (.iconst 2, 1) := by decide +kernel
theorem dX2_barsOfTune_6 : decode cX2_barsOfTune 6 = .ok (.invokevirtual 66, 3) := by decide +kernel
theorem dX2_barsOfTune_9 : decode cX2_barsOfTune 9 = .ok (.invokestatic 133, 3) := by decide +kernel
theorem dX2_barsOfTune_12 : decode cX2_barsOfTune 12 = .ok (.ireturn, 1) := by decide +kernel
theorem dX2_notesUnlikeSent_0 : decode cX2_notesUnlikeSent 0 = .ok (.iconst 0, 1) := by decide +kernel
theorem dX2_notesUnlikeSent_1 : decode cX2_notesUnlikeSent 1 = .ok (.istore_n 2, 1) := by decide +kernel
theorem dX2_notesUnlikeSent_2 : decode cX2_notesUnlikeSent 2 = .ok (.aload_n 0, 1) := by decide +kernel
theorem dX2_notesUnlikeSent_3 : decode cX2_notesUnlikeSent 3 = .ok (.getfield 23, 3) := by decide +kernel
theorem dX2_notesUnlikeSent_6 : decode cX2_notesUnlikeSent 6 = .ok (.iload_n 1, 1) := by decide +kernel
theorem dX2_notesUnlikeSent_7 : decode cX2_notesUnlikeSent 7 = .ok (.bipush 9, 2) := by decide +kernel
theorem dX2_notesUnlikeSent_9 : decode cX2_notesUnlikeSent 9 = .ok (.invokevirtual 66, 3) := by decide +kernel
theorem dX2_notesUnlikeSent_12 : decode cX2_notesUnlikeSent 12 = .ok (.istore_n 3, 1) := by decide +kernel
theorem dX2_notesUnlikeSent_13 : decode cX2_notesUnlikeSent 13 = .ok (.aload_n 0, 1) := by decide +kernel
theorem dX2_notesUnlikeSent_14 : decode cX2_notesUnlikeSent 14 = .ok (.getfield 23, 3) := by decide +kernel
theorem dX2_notesUnlikeSent_17 : decode cX2_notesUnlikeSent 17 = .ok (.iload_n 1, 1) := by decide +kernel
theorem dX2_notesUnlikeSent_18 : decode cX2_notesUnlikeSent 18 = .ok (.bipush 10, 2) := by decide +kernel
theorem dX2_notesUnlikeSent_20 : decode cX2_notesUnlikeSent 20 = .ok (.invokevirtual 66, 3) := by decide +kernel
theorem dX2_notesUnlikeSent_23 : decode cX2_notesUnlikeSent 23 = .ok (.istore 4, 2) := by decide +kernel
theorem dX2_notesUnlikeSent_25 : decode cX2_notesUnlikeSent 25 = .ok (.iconst 0, 1) := by decide +kernel
theorem dX2_notesUnlikeSent_26 : decode cX2_notesUnlikeSent 26 = .ok (.istore 5, 2) := by decide +kernel
theorem dX2_notesUnlikeSent_28 : decode cX2_notesUnlikeSent 28 = .ok (.iload 5, 2) := by decide +kernel
theorem dX2_notesUnlikeSent_30 : decode cX2_notesUnlikeSent 30 = .ok (.bipush 8, 2) := by decide +kernel
theorem dX2_notesUnlikeSent_32 : decode cX2_notesUnlikeSent 32 = .ok (.if_icmp .ge 28, 3) := by decide +kernel
theorem dX2_notesUnlikeSent_35 : decode cX2_notesUnlikeSent 35 = .ok (.iload_n 3, 1) := by decide +kernel
theorem dX2_notesUnlikeSent_36 : decode cX2_notesUnlikeSent 36 = .ok (.iload 5, 2) := by decide +kernel
theorem dX2_notesUnlikeSent_38 : decode cX2_notesUnlikeSent 38 = .ok (.invokestatic 136, 3) := by decide +kernel
theorem dX2_notesUnlikeSent_41 : decode cX2_notesUnlikeSent 41 = .ok (.iload 4, 2) := by decide +kernel
theorem dX2_notesUnlikeSent_43 : decode cX2_notesUnlikeSent 43 = .ok (.iload 5, 2) := by decide +kernel
theorem dX2_notesUnlikeSent_45 : decode cX2_notesUnlikeSent 45 = .ok (.invokestatic 136, 3) := by decide +kernel
theorem dX2_notesUnlikeSent_48 : decode cX2_notesUnlikeSent 48 = .ok (.if_icmp .eq 6, 3) := by decide +kernel
theorem dX2_notesUnlikeSent_51 : decode cX2_notesUnlikeSent 51 = .ok (.iinc 2 1, 3) := by decide +kernel
theorem dX2_notesUnlikeSent_54 : decode cX2_notesUnlikeSent 54 = .ok (.iinc 5 1, 3) := by decide +kernel
theorem dX2_notesUnlikeSent_57 : decode cX2_notesUnlikeSent 57 = .ok (.goto (-29), 3) := by decide +kernel
theorem dX2_notesUnlikeSent_60 : decode cX2_notesUnlikeSent 60 = .ok (.iload_n 2, 1) := by decide +kernel
theorem dX2_notesUnlikeSent_61 : decode cX2_notesUnlikeSent 61 = .ok (.ireturn, 1) := by decide +kernel
theorem dX2_nextOf_0 : decode cX2_nextOf 0 = .ok (.aload_n 0, 1) := by decide +kernel
theorem dX2_nextOf_1 : decode cX2_nextOf 1 = .ok (.getfield 35, 3) := by decide +kernel
theorem dX2_nextOf_4 : decode cX2_nextOf 4 = .ok (.getfield 139, 3) := by decide +kernel
theorem dX2_nextOf_7 : decode cX2_nextOf 7 = .ok (.aload_n 0, 1) := by decide +kernel
theorem dX2_nextOf_8 : decode cX2_nextOf 8 = .ok (.getfield 23, 3) := by decide +kernel
theorem dX2_nextOf_11 : decode cX2_nextOf 11 = .ok (.iload_n 1, 1) := by decide +kernel
theorem dX2_nextOf_12 : decode cX2_nextOf 12 = .ok (.iconst 4, 1) := by decide +kernel
theorem dX2_nextOf_13 : decode cX2_nextOf 13 = .ok (.invokevirtual 66, 3) := by decide +kernel
theorem dX2_nextOf_16 : decode cX2_nextOf 16 = .ok (.aload_n 0, 1) := by decide +kernel
theorem dX2_nextOf_17 : decode cX2_nextOf 17 = .ok (.getfield 23, 3) := by decide +kernel
theorem dX2_nextOf_20 : decode cX2_nextOf 20 = .ok (.iload_n 1, 1) := by decide +kernel
theorem dX2_nextOf_21 : decode cX2_nextOf 21 = .ok (.iconst 1, 1) := by decide +kernel
theorem dX2_nextOf_22 : decode cX2_nextOf 22 = .ok (.invokevirtual 66, 3) := by decide +kernel
theorem dX2_nextOf_25 : decode cX2_nextOf 25 = .ok (.invokevirtual 66, 3) := by decide +kernel
theorem dX2_nextOf_28 : decode cX2_nextOf 28 = .ok (.ireturn, 1) := by decide +kernel
theorem dX2_lackOf_0 : decode cX2_lackOf 0 = .ok (.aload_n 0, 1) := by decide +kernel
theorem dX2_lackOf_1 : decode cX2_lackOf 1 = .ok (.getfield 16, 3) := by decide +kernel
theorem dX2_lackOf_4 : decode cX2_lackOf 4 = .ok (.aload_n 0, 1) := by decide +kernel
theorem dX2_lackOf_5 : decode cX2_lackOf 5 = .ok (.getfield 23, 3) := by decide +kernel
theorem dX2_lackOf_8 : decode cX2_lackOf 8 = .ok (.iload_n 1, 1) := by decide +kernel
theorem dX2_lackOf_9 : decode cX2_lackOf 9 = .ok (.iconst 4, 1) := by decide +kernel
theorem dX2_lackOf_10 : decode cX2_lackOf 10 = .ok (.invokevirtual 66, 3) := by decide +kernel
theorem dX2_lackOf_13 : decode cX2_lackOf 13 = .ok (.iconst 2, 1) := by decide +kernel
theorem dX2_lackOf_14 : decode cX2_lackOf 14 = .ok (.invokevirtual 66, 3) := by decide +kernel
theorem dX2_lackOf_17 : decode cX2_lackOf 17 = .ok (.aload_n 0, 1) := by decide +kernel
theorem dX2_lackOf_18 : decode cX2_lackOf 18 = .ok (.getfield 23, 3) := by decide +kernel
theorem dX2_lackOf_21 : decode cX2_lackOf 21 = .ok (.iload_n 1, 1) := by decide +kernel
theorem dX2_lackOf_22 : decode cX2_lackOf 22 = .ok (.iconst 2, 1) := by decide +kernel
theorem dX2_lackOf_23 : decode cX2_lackOf 23 = .ok (.invokevirtual 66, 3) := by decide +kernel
theorem dX2_lackOf_26 : decode cX2_lackOf 26 = .ok (.invokestatic 133, 3) := by decide +kernel
theorem dX2_lackOf_29 : decode cX2_lackOf 29 = .ok (.imul, 1) := by decide +kernel
theorem dX2_lackOf_30 : decode cX2_lackOf 30 = .ok (.istore_n 2, 1) := by decide +kernel
theorem dX2_lackOf_31 : decode cX2_lackOf 31 = .ok (.iload_n 2, 1) := by decide +kernel
theorem dX2_lackOf_32 : decode cX2_lackOf 32 = .ok (.aload_n 0, 1) := by decide +kernel
theorem dX2_lackOf_33 : decode cX2_lackOf 33 = .ok (.getfield 16, 3) := by decide +kernel
theorem dX2_lackOf_36 : decode cX2_lackOf 36 = .ok (.aload_n 0, 1) := by decide +kernel
theorem dX2_lackOf_37 : decode cX2_lackOf 37 = .ok (.getfield 23, 3) := by decide +kernel
theorem dX2_lackOf_40 : decode cX2_lackOf 40 = .ok (.iload_n 1, 1) := by decide +kernel
theorem dX2_lackOf_41 : decode cX2_lackOf 41 = .ok (.iconst 0, 1) := by decide +kernel
theorem dX2_lackOf_42 : decode cX2_lackOf 42 = .ok (.invokevirtual 66, 3) := by decide +kernel
theorem dX2_lackOf_45 : decode cX2_lackOf 45 = .ok (.iconst 3, 1) := by decide +kernel
theorem dX2_lackOf_46 : decode cX2_lackOf 46 = .ok (.invokevirtual 66, 3) := by decide +kernel
theorem dX2_lackOf_49 : decode cX2_lackOf 49 = .ok (.isub, 1) := by decide +kernel
theorem dX2_lackOf_50 : decode cX2_lackOf 50 = .ok (.ireturn, 1) := by decide +kernel
theorem dX2_firstToGoFrom_0 : decode cX2_firstToGoFrom 0 = .ok (.iconst (-1), 1) := by decide +kernel
theorem dX2_firstToGoFrom_1 : decode cX2_firstToGoFrom 1 = .ok (.istore_n 2, 1) := by decide +kernel
theorem dX2_firstToGoFrom_2 : decode cX2_firstToGoFrom 2 = .ok (.iconst 0, 1) := by decide +kernel
theorem dX2_firstToGoFrom_3 : decode cX2_firstToGoFrom 3 = .ok (.istore_n 3, 1) := by decide +kernel
theorem dX2_firstToGoFrom_4 : decode cX2_firstToGoFrom 4 = .ok (.iload_n 3, 1) := by decide +kernel
theorem dX2_firstToGoFrom_5 : decode cX2_firstToGoFrom 5 = .ok (.aload_n 0, 1) := by decide +kernel
theorem dX2_firstToGoFrom_6 : decode cX2_firstToGoFrom 6 = .ok (.getfield 49, 3) := by decide +kernel
theorem dX2_firstToGoFrom_9 : decode cX2_firstToGoFrom 9 = .ok (.if_icmp .ge 55, 3) := by decide +kernel
theorem dX2_firstToGoFrom_12 : decode cX2_firstToGoFrom 12 = .ok (.aload_n 0, 1) := by decide +kernel
theorem dX2_firstToGoFrom_13 : decode cX2_firstToGoFrom 13 = .ok (.iload_n 3, 1) := by decide +kernel
theorem dX2_firstToGoFrom_14 : decode cX2_firstToGoFrom 14 = .ok (.iload_n 1, 1) := by decide +kernel
theorem dX2_firstToGoFrom_15 : decode cX2_firstToGoFrom 15 = .ok (.invokevirtual 124, 3) := by decide +kernel
theorem dX2_firstToGoFrom_18 : decode cX2_firstToGoFrom 18 = .ok (.ifCond .eq 40, 3) := by decide +kernel
theorem dX2_firstToGoFrom_21 : decode cX2_firstToGoFrom 21 = .ok (.aload_n 0, 1) := by decide +kernel
theorem dX2_firstToGoFrom_22 : decode cX2_firstToGoFrom 22 = .ok (.iload_n 3, 1) := by decide +kernel
theorem dX2_firstToGoFrom_23 : decode cX2_firstToGoFrom 23 = .ok (.invokevirtual 142, 3) := by decide +kernel
theorem dX2_firstToGoFrom_26 : decode cX2_firstToGoFrom 26 = .ok (.iconst (-1), 1) := by decide +kernel
theorem dX2_firstToGoFrom_27 : decode cX2_firstToGoFrom 27 = .ok (.if_icmp .eq 31, 3) := by decide +kernel
theorem dX2_firstToGoFrom_30 : decode cX2_firstToGoFrom 30 = .ok (.aload_n 0, 1) := by decide +kernel
theorem dX2_firstToGoFrom_31 : decode cX2_firstToGoFrom 31 = .ok (.iload_n 3, 1) := by decide +kernel
theorem dX2_firstToGoFrom_32 : decode cX2_firstToGoFrom 32 = .ok (.invokevirtual 145, 3) := by decide +kernel
theorem dX2_firstToGoFrom_35 : decode cX2_firstToGoFrom 35 = .ok (.ifCond .gt 23, 3) := by decide +kernel
theorem dX2_firstToGoFrom_38 : decode cX2_firstToGoFrom 38 = .ok (.iload_n 2, 1) := by decide +kernel
theorem dX2_firstToGoFrom_39 : decode cX2_firstToGoFrom 39 = .ok (.iconst (-1), 1) := by decide +kernel
theorem dX2_firstToGoFrom_40 : decode cX2_firstToGoFrom 40 = .ok (.if_icmp .eq 16, 3) := by decide +kernel
theorem dX2_firstToGoFrom_43 : decode cX2_firstToGoFrom 43 = .ok (.aload_n 0, 1) := by decide +kernel
theorem dX2_firstToGoFrom_44 : decode cX2_firstToGoFrom 44 = .ok (.iload_n 3, 1) := by decide +kernel
theorem dX2_firstToGoFrom_45 : decode cX2_firstToGoFrom 45 = .ok (.invokevirtual 127, 3) := by decide +kernel
theorem dX2_firstToGoFrom_48 : decode cX2_firstToGoFrom 48 = .ok (.aload_n 0, 1) := by decide +kernel
theorem dX2_firstToGoFrom_49 : decode cX2_firstToGoFrom 49 = .ok (.iload_n 2, 1) := by decide +kernel
theorem dX2_firstToGoFrom_50 : decode cX2_firstToGoFrom 50 = .ok (.invokevirtual 127, 3) := by decide +kernel
theorem dX2_firstToGoFrom_53 : decode cX2_firstToGoFrom 53 = .ok (.if_icmp .le 5, 3) := by decide +kernel
theorem dX2_firstToGoFrom_56 : decode cX2_firstToGoFrom 56 = .ok (.iload_n 3, 1) := by decide +kernel
theorem dX2_firstToGoFrom_57 : decode cX2_firstToGoFrom 57 = .ok (.istore_n 2, 1) := by decide +kernel
theorem dX2_firstToGoFrom_58 : decode cX2_firstToGoFrom 58 = .ok (.iinc 3 1, 3) := by decide +kernel
theorem dX2_firstToGoFrom_61 : decode cX2_firstToGoFrom 61 = .ok (.goto (-57), 3) := by decide +kernel
theorem dX2_firstToGoFrom_64 : decode cX2_firstToGoFrom 64 = .ok (.iload_n 2, 1) := by decide +kernel
theorem dX2_firstToGoFrom_65 : decode cX2_firstToGoFrom 65 = .ok (.ireturn, 1) := by decide +kernel
theorem dX2_wrongOf_0 : decode cX2_wrongOf 0 = .ok (.iconst 0, 1) := by decide +kernel
theorem dX2_wrongOf_1 : decode cX2_wrongOf 1 = .ok (.iload 4, 2) := by decide +kernel
theorem dX2_wrongOf_3 : decode cX2_wrongOf 3 = .ok (.iload_n 1, 1) := by decide +kernel
theorem dX2_wrongOf_4 : decode cX2_wrongOf 4 = .ok (.imul, 1) := by decide +kernel
theorem dX2_wrongOf_5 : decode cX2_wrongOf 5 = .ok (.iconst 3, 1) := by decide +kernel
theorem dX2_wrongOf_6 : decode cX2_wrongOf 6 = .ok (.aload_n 0, 1) := by decide +kernel
theorem dX2_wrongOf_7 : decode cX2_wrongOf 7 = .ok (.getfield 16, 3) := by decide +kernel
theorem dX2_wrongOf_10 : decode cX2_wrongOf 10 = .ok (.iload_n 2, 1) := by decide +kernel
theorem dX2_wrongOf_11 : decode cX2_wrongOf 11 = .ok (.iconst 1, 1) := by decide +kernel
theorem dX2_wrongOf_12 : decode cX2_wrongOf 12 = .ok (.invokevirtual 66, 3) := by decide +kernel
theorem dX2_wrongOf_15 : decode cX2_wrongOf 15 = .ok (.imul, 1) := by decide +kernel
theorem dX2_wrongOf_16 : decode cX2_wrongOf 16 = .ok (.isub, 1) := by decide +kernel
theorem dX2_wrongOf_17 : decode cX2_wrongOf 17 = .ok (.invokestatic 113, 3) := by decide +kernel
theorem dX2_wrongOf_20 : decode cX2_wrongOf 20 = .ok (.istore 5, 2) := by decide +kernel
theorem dX2_wrongOf_22 : decode cX2_wrongOf 22 = .ok (.iload 5, 2) := by decide +kernel
theorem dX2_wrongOf_24 : decode cX2_wrongOf 24 = .ok (.bipush 10, 2) := by decide +kernel
theorem dX2_wrongOf_26 : decode cX2_wrongOf 26 = .ok (.idiv, 1) := by decide +kernel
theorem dX2_wrongOf_27 : decode cX2_wrongOf 27 = .ok (.iload_n 3, 1) := by decide +kernel
theorem dX2_wrongOf_28 : decode cX2_wrongOf 28 = .ok (.invokestatic 148, 3) := by decide +kernel
theorem dX2_wrongOf_31 : decode cX2_wrongOf 31 = .ok (.ireturn, 1) := by decide +kernel
theorem dX3_init_0 : decode cX3_init 0 = .ok (.aload_n 0, 1) := by decide +kernel
theorem dX3_init_1 : decode cX3_init 1 = .ok (.invokespecial 3, 3) := by decide +kernel
theorem dX3_init_4 : decode cX3_init 4 = .ok (.aload_n 0, 1) := by decide +kernel
theorem dX3_init_5 : decode cX3_init 5 = .ok (.new 9, 3) := by decide +kernel
theorem dX3_init_8 : decode cX3_init 8 = .ok (.dup, 1) := by decide +kernel
theorem dX3_init_9 : decode cX3_init 9 = .ok (.bipush 10, 2) := by decide +kernel
theorem dX3_init_11 : decode cX3_init 11 = .ok (.bipush 10, 2) := by decide +kernel
theorem dX3_init_13 : decode cX3_init 13 = .ok (.invokespecial 11, 3) := by decide +kernel
theorem dX3_init_16 : decode cX3_init 16 = .ok (.putfield 14, 3) := by decide +kernel
theorem dX3_init_19 : decode cX3_init 19 = .ok (.aload_n 0, 1) := by decide +kernel
theorem dX3_init_20 : decode cX3_init 20 = .ok (.new 9, 3) := by decide +kernel
theorem dX3_init_23 : decode cX3_init 23 = .ok (.dup, 1) := by decide +kernel
theorem dX3_init_24 : decode cX3_init 24 = .ok (.bipush 10, 2) := by decide +kernel
theorem dX3_init_26 : decode cX3_init 26 = .ok (.bipush 10, 2) := by decide +kernel
theorem dX3_init_28 : decode cX3_init 28 = .ok (.invokespecial 11, 3) := by decide +kernel
theorem dX3_init_31 : decode cX3_init 31 = .ok (.putfield 20, 3) := by decide +kernel
theorem dX3_init_34 : decode cX3_init 34 = .ok (.aload_n 0, 1) := by decide +kernel
theorem dX3_init_35 : decode cX3_init 35 = .ok (.new 9, 3) := by decide +kernel
theorem dX3_init_38 : decode cX3_init 38 = .ok (.dup, 1) := by decide +kernel
theorem dX3_init_39 : decode cX3_init 39 = .ok (.bipush 10, 2) := by decide +kernel
theorem dX3_init_41 : decode cX3_init 41 = .ok (.bipush 10, 2) := by decide +kernel
theorem dX3_init_43 : decode cX3_init 43 = .ok (.invokespecial 11, 3) := by decide +kernel
theorem dX3_init_46 : decode cX3_init 46 = .ok (.putfield 23, 3) := by decide +kernel
theorem dX3_init_49 : decode cX3_init 49 = .ok (.return_, 1) := by decide +kernel
theorem dX3_copyFrom_0 : decode cX3_copyFrom 0 = .ok (.aload_n 0, 1) := by decide +kernel
theorem dX3_copyFrom_1 : decode cX3_copyFrom 1 = .ok (.getfield 14, 3) := by decide +kernel
theorem dX3_copyFrom_4 : decode cX3_copyFrom 4 = .ok (.aload_n 1, 1) := by decide +kernel
theorem dX3_copyFrom_5 : decode cX3_copyFrom 5 = .ok (.getfield 14, 3) := by decide +kernel
theorem dX3_copyFrom_8 : decode cX3_copyFrom 8 = .ok (.invokevirtual 26, 3) := by decide +kernel
theorem dX3_copyFrom_11 : decode cX3_copyFrom 11 = .ok (.aload_n 0, 1) := by decide +kernel
theorem dX3_copyFrom_12 : decode cX3_copyFrom 12 = .ok (.getfield 20, 3) := by decide +kernel
theorem dX3_copyFrom_15 : decode cX3_copyFrom 15 = .ok (.aload_n 1, 1) := by decide +kernel
theorem dX3_copyFrom_16 : decode cX3_copyFrom 16 = .ok (.getfield 20, 3) := by decide +kernel
theorem dX3_copyFrom_19 : decode cX3_copyFrom 19 = .ok (.invokevirtual 26, 3) := by decide +kernel
theorem dX3_copyFrom_22 : decode cX3_copyFrom 22 = .ok (.aload_n 0, 1) := by decide +kernel
theorem dX3_copyFrom_23 : decode cX3_copyFrom 23 = .ok (.getfield 23, 3) := by decide +kernel
theorem dX3_copyFrom_26 : decode cX3_copyFrom 26 = .ok (.aload_n 1, 1) := by decide +kernel
theorem dX3_copyFrom_27 : decode cX3_copyFrom 27 = .ok (.getfield 23, 3) := by decide +kernel
theorem dX3_copyFrom_30 : decode cX3_copyFrom 30 = .ok (.invokevirtual 26, 3) := by decide +kernel
theorem dX3_copyFrom_33 : decode cX3_copyFrom 33 = .ok (.return_, 1) := by decide +kernel
theorem dX3_lay_0 : decode cX3_lay 0 = .ok (.aload_n 0, 1) := by decide +kernel
theorem dX3_lay_1 : decode cX3_lay 1 = .ok (.aload_n 1, 1) := by decide +kernel
theorem dX3_lay_2 : decode cX3_lay 2 = .ok (.invokevirtual 30, 3) := by decide +kernel
theorem dX3_lay_5 : decode cX3_lay 5 = .ok (.iconst 0, 1) := by decide +kernel
theorem dX3_lay_6 : decode cX3_lay 6 = .ok (.istore_n 2, 1) := by decide +kernel
theorem dX3_lay_7 : decode cX3_lay 7 = .ok (.iload_n 2, 1) := by decide +kernel
theorem dX3_lay_8 : decode cX3_lay 8 = .ok (.aload_n 1, 1) := by decide +kernel
theorem dX3_lay_9 : decode cX3_lay 9 = .ok (.getfield 34, 3) := by decide +kernel
theorem dX3_lay_12 : decode cX3_lay 12 = .ok (.if_icmp .ge 40, 3) := by decide +kernel
theorem dX3_lay_15 : decode cX3_lay 15 = .ok (.aload_n 0, 1) := by decide +kernel
theorem dX3_lay_16 : decode cX3_lay 16 = .ok (.aload_n 1, 1) := by decide +kernel
theorem dX3_lay_17 : decode cX3_lay 17 = .ok (.getfield 40, 3) := by decide +kernel
theorem dX3_lay_20 : decode cX3_lay 20 = .ok (.iload_n 2, 1) := by decide +kernel
theorem dX3_lay_21 : decode cX3_lay 21 = .ok (.iconst 0, 1) := by decide +kernel
theorem dX3_lay_22 : decode cX3_lay 22 = .ok (.invokevirtual 43, 3) := by decide +kernel
theorem dX3_lay_25 : decode cX3_lay 25 = .ok (.aload_n 1, 1) := by decide +kernel
theorem dX3_lay_26 : decode cX3_lay 26 = .ok (.getfield 40, 3) := by decide +kernel
theorem dX3_lay_29 : decode cX3_lay 29 = .ok (.iload_n 2, 1) := by decide +kernel
theorem dX3_lay_30 : decode cX3_lay 30 = .ok (.iconst 1, 1) := by decide +kernel
theorem dX3_lay_31 : decode cX3_lay 31 = .ok (.invokevirtual 43, 3) := by decide +kernel
theorem dX3_lay_34 : decode cX3_lay 34 = .ok (.aload_n 1, 1) := by decide +kernel
theorem dX3_lay_35 : decode cX3_lay 35 = .ok (.getfield 40, 3) := by decide +kernel
theorem dX3_lay_38 : decode cX3_lay 38 = .ok (.iload_n 2, 1) := by decide +kernel
theorem dX3_lay_39 : decode cX3_lay 39 = .ok (.iconst 2, 1) := by decide +kernel
theorem dX3_lay_40 : decode cX3_lay 40 = .ok (.invokevirtual 43, 3) := by decide +kernel
theorem dX3_lay_43 : decode cX3_lay 43 = .ok (.invokevirtual 47, 3) := by decide +kernel
theorem dX3_lay_46 : decode cX3_lay 46 = .ok (.iinc 2 1, 3) := by decide +kernel
theorem dX3_lay_49 : decode cX3_lay 49 = .ok (.goto (-42), 3) := by decide +kernel
theorem dX3_lay_52 : decode cX3_lay 52 = .ok (.iconst 0, 1) := by decide +kernel
theorem dX3_lay_53 : decode cX3_lay 53 = .ok (.istore_n 2, 1) := by decide +kernel
theorem dX3_lay_54 : decode cX3_lay 54 = .ok (.iload_n 2, 1) := by decide +kernel
theorem dX3_lay_55 : decode cX3_lay 55 = .ok (.aload_n 1, 1) := by decide +kernel
theorem dX3_lay_56 : decode cX3_lay 56 = .ok (.getfield 51, 3) := by decide +kernel
theorem dX3_lay_59 : decode cX3_lay 59 = .ok (.if_icmp .ge 70, 3) := by decide +kernel
theorem dX3_lay_62 : decode cX3_lay 62 = .ok (.iconst 0, 1) := by decide +kernel
theorem dX3_lay_63 : decode cX3_lay 63 = .ok (.istore_n 3, 1) := by decide +kernel
theorem dX3_lay_64 : decode cX3_lay 64 = .ok (.iload_n 3, 1) := by decide +kernel
theorem dX3_lay_65 : decode cX3_lay 65 = .ok (.aload_n 1, 1) := by decide +kernel
theorem dX3_lay_66 : decode cX3_lay 66 = .ok (.getfield 51, 3) := by decide +kernel
theorem dX3_lay_69 : decode cX3_lay 69 = .ok (.if_icmp .ge 54, 3) := by decide +kernel
theorem dX3_lay_72 : decode cX3_lay 72 = .ok (.iconst 0, 1) := by decide +kernel
theorem dX3_lay_73 : decode cX3_lay 73 = .ok (.istore 4, 2) := by decide +kernel
theorem dX3_lay_75 : decode cX3_lay 75 = .ok (.iload 4, 2) := by decide +kernel
theorem dX3_lay_77 : decode cX3_lay 77 = .ok (.aload_n 1, 1) := by decide +kernel
theorem dX3_lay_78 : decode cX3_lay 78 = .ok (.getfield 51, 3) := by decide +kernel
theorem dX3_lay_81 : decode cX3_lay 81 = .ok (.if_icmp .ge 36, 3) := by decide +kernel
theorem dX3_lay_84 : decode cX3_lay 84 = .ok (.aload_n 0, 1) := by decide +kernel
theorem dX3_lay_85 : decode cX3_lay 85 = .ok (.iload_n 3, 1) := by decide +kernel
theorem dX3_lay_86 : decode cX3_lay 86 = .ok (.iload 4, 2) := by decide +kernel
theorem dX3_lay_88 : decode cX3_lay 88 = .ok (.aload_n 0, 1) := by decide +kernel
theorem dX3_lay_89 : decode cX3_lay 89 = .ok (.getfield 20, 3) := by decide +kernel
theorem dX3_lay_92 : decode cX3_lay 92 = .ok (.iload_n 3, 1) := by decide +kernel
theorem dX3_lay_93 : decode cX3_lay 93 = .ok (.iload_n 2, 1) := by decide +kernel
theorem dX3_lay_94 : decode cX3_lay 94 = .ok (.invokevirtual 43, 3) := by decide +kernel
theorem dX3_lay_97 : decode cX3_lay 97 = .ok (.aload_n 0, 1) := by decide +kernel
theorem dX3_lay_98 : decode cX3_lay 98 = .ok (.getfield 20, 3) := by decide +kernel
theorem dX3_lay_101 : decode cX3_lay 101 = .ok (.iload_n 2, 1) := by decide +kernel
theorem dX3_lay_102 : decode cX3_lay 102 = .ok (.iload 4, 2) := by decide +kernel
theorem dX3_lay_104 : decode cX3_lay 104 = .ok (.invokevirtual 43, 3) := by decide +kernel
theorem dX3_lay_107 : decode cX3_lay 107 = .ok (.iadd, 1) := by decide +kernel
theorem dX3_lay_108 : decode cX3_lay 108 = .ok (.invokevirtual 54, 3) := by decide +kernel
theorem dX3_lay_111 : decode cX3_lay 111 = .ok (.iinc 4 1, 3) := by decide +kernel
theorem dX3_lay_114 : decode cX3_lay 114 = .ok (.goto (-39), 3) := by decide +kernel
theorem dX3_lay_117 : decode cX3_lay 117 = .ok (.iinc 3 1, 3) := by decide +kernel
theorem dX3_lay_120 : decode cX3_lay 120 = .ok (.goto (-56), 3) := by decide +kernel
theorem dX3_lay_123 : decode cX3_lay 123 = .ok (.iinc 2 1, 3) := by decide +kernel
theorem dX3_lay_126 : decode cX3_lay 126 = .ok (.goto (-72), 3) := by decide +kernel
theorem dX3_lay_129 : decode cX3_lay 129 = .ok (.aload_n 0, 1) := by decide +kernel
theorem dX3_lay_130 : decode cX3_lay 130 = .ok (.aload_n 1, 1) := by decide +kernel
theorem dX3_lay_131 : decode cX3_lay 131 = .ok (.invokevirtual 57, 3) := by decide +kernel
theorem dX3_lay_134 : decode cX3_lay 134 = .ok (.return_, 1) := by decide +kernel
theorem dX3_sumByWays_0 : decode cX3_sumByWays 0 = .ok (.aload_n 0, 1) := by decide +kernel
theorem dX3_sumByWays_1 : decode cX3_sumByWays 1 = .ok (.aload_n 1, 1) := by decide +kernel
theorem dX3_sumByWays_2 : decode cX3_sumByWays 2 = .ok (.invokevirtual 30, 3) := by decide +kernel
theorem dX3_sumByWays_5 : decode cX3_sumByWays 5 = .ok (.iconst 1, 1) := by decide +kernel
theorem dX3_sumByWays_6 : decode cX3_sumByWays 6 = .ok (.istore_n 2, 1) := by decide +kernel
theorem dX3_sumByWays_7 : decode cX3_sumByWays 7 = .ok (.iload_n 2, 1) := by decide +kernel
theorem dX3_sumByWays_8 : decode cX3_sumByWays 8 = .ok (.aload_n 1, 1) := by decide +kernel
theorem dX3_sumByWays_9 : decode cX3_sumByWays 9 = .ok (.getfield 51, 3) := by decide +kernel
theorem dX3_sumByWays_12 : decode cX3_sumByWays 12 = .ok (.if_icmp .ge 120, 3) := by decide +kernel
theorem dX3_sumByWays_15 : decode cX3_sumByWays 15 = .ok (.iconst 0, 1) := by decide +kernel
theorem dX3_sumByWays_16 : decode cX3_sumByWays 16 = .ok (.istore_n 3, 1) := by decide +kernel
theorem dX3_sumByWays_17 : decode cX3_sumByWays 17 = .ok (.iload_n 3, 1) := by decide +kernel
theorem dX3_sumByWays_18 : decode cX3_sumByWays 18 = .ok (.aload_n 1, 1) := by decide +kernel
theorem dX3_sumByWays_19 : decode cX3_sumByWays 19 = .ok (.getfield 34, 3) := by decide +kernel
theorem dX3_sumByWays_22 : decode cX3_sumByWays 22 = .ok (.if_icmp .ge 104, 3) := by decide +kernel
theorem dX3_sumByWays_25 : decode cX3_sumByWays 25 = .ok (.aload_n 1, 1) := by decide +kernel
theorem dX3_sumByWays_26 : decode cX3_sumByWays 26 = .ok (.getfield 40, 3) := by decide +kernel
theorem dX3_sumByWays_29 : decode cX3_sumByWays 29 = .ok (.iload_n 3, 1) := by decide +kernel
theorem dX3_sumByWays_30 : decode cX3_sumByWays 30 = .ok (.iconst 0, 1) := by decide +kernel
theorem dX3_sumByWays_31 : decode cX3_sumByWays 31 = .ok (.invokevirtual 43, 3) := by decide +kernel
theorem dX3_sumByWays_34 : decode cX3_sumByWays 34 = .ok (.istore 4, 2) := by decide +kernel
theorem dX3_sumByWays_36 : decode cX3_sumByWays 36 = .ok (.aload_n 1, 1) := by decide +kernel
theorem dX3_sumByWays_37 : decode cX3_sumByWays 37 = .ok (.getfield 40, 3) := by decide +kernel
theorem dX3_sumByWays_40 : decode cX3_sumByWays 40 = .ok (.iload_n 3, 1) := by decide +kernel
theorem dX3_sumByWays_41 : decode cX3_sumByWays 41 = .ok (.iconst 1, 1) := by decide +kernel
theorem dX3_sumByWays_42 : decode cX3_sumByWays 42 = .ok (.invokevirtual 43, 3) := by decide +kernel
theorem dX3_sumByWays_45 : decode cX3_sumByWays 45 = .ok (.istore 5, 2) := by decide +kernel
theorem dX3_sumByWays_47 : decode cX3_sumByWays 47 = .ok (.aload_n 1, 1) := by decide +kernel
theorem dX3_sumByWays_48 : decode cX3_sumByWays 48 = .ok (.getfield 40, 3) := by decide +kernel
theorem dX3_sumByWays_51 : decode cX3_sumByWays 51 = .ok (.iload_n 3, 1) := by decide +kernel
theorem dX3_sumByWays_52 : decode cX3_sumByWays 52 = .ok (.iconst 2, 1) := by decide +kernel
theorem dX3_sumByWays_53 : decode cX3_sumByWays 53 = .ok (.invokevirtual 43, 3) := by decide +kernel
theorem dX3_sumByWays_56 : decode cX3_sumByWays 56 = .ok (.istore 6, 2) := by decide +kernel
theorem dX3_sumByWays_58 : decode cX3_sumByWays 58 = .ok (.iconst 0, 1) := by decide +kernel
theorem dX3_sumByWays_59 : decode cX3_sumByWays 59 = .ok (.istore 7, 2) := by decide +kernel
theorem dX3_sumByWays_61 : decode cX3_sumByWays 61 = .ok (.iload 7, 2) := by decide +kernel
theorem dX3_sumByWays_63 : decode cX3_sumByWays 63 = .ok (.aload_n 1, 1) := by decide +kernel
theorem dX3_sumByWays_64 : decode cX3_sumByWays 64 = .ok (.getfield 51, 3) := by decide +kernel
theorem dX3_sumByWays_67 : decode cX3_sumByWays 67 = .ok (.if_icmp .ge 53, 3) := by decide +kernel
theorem dX3_sumByWays_70 : decode cX3_sumByWays 70 = .ok (.aload_n 0, 1) := by decide +kernel
theorem dX3_sumByWays_71 : decode cX3_sumByWays 71 = .ok (.iload 7, 2) := by decide +kernel
theorem dX3_sumByWays_73 : decode cX3_sumByWays 73 = .ok (.iload 4, 2) := by decide +kernel
theorem dX3_sumByWays_75 : decode cX3_sumByWays 75 = .ok (.aload_n 0, 1) := by decide +kernel
theorem dX3_sumByWays_76 : decode cX3_sumByWays 76 = .ok (.getfield 20, 3) := by decide +kernel
theorem dX3_sumByWays_79 : decode cX3_sumByWays 79 = .ok (.iload 7, 2) := by decide +kernel
theorem dX3_sumByWays_81 : decode cX3_sumByWays 81 = .ok (.iload 5, 2) := by decide +kernel
theorem dX3_sumByWays_83 : decode cX3_sumByWays 83 = .ok (.invokevirtual 43, 3) := by decide +kernel
theorem dX3_sumByWays_86 : decode cX3_sumByWays 86 = .ok (.iload 6, 2) := by decide +kernel
theorem dX3_sumByWays_88 : decode cX3_sumByWays 88 = .ok (.iadd, 1) := by decide +kernel
theorem dX3_sumByWays_89 : decode cX3_sumByWays 89 = .ok (.invokevirtual 54, 3) := by decide +kernel
theorem dX3_sumByWays_92 : decode cX3_sumByWays 92 = .ok (.aload_n 0, 1) := by decide +kernel
theorem dX3_sumByWays_93 : decode cX3_sumByWays 93 = .ok (.iload 7, 2) := by decide +kernel
theorem dX3_sumByWays_95 : decode cX3_sumByWays 95 = .ok (.iload 5, 2) := by decide +kernel
theorem dX3_sumByWays_97 : decode cX3_sumByWays 97 = .ok (.aload_n 0, 1) := by decide +kernel
theorem dX3_sumByWays_98 : decode cX3_sumByWays 98 = .ok (.getfield 20, 3) := by decide +kernel
theorem dX3_sumByWays_101 : decode cX3_sumByWays 101 = .ok (.iload 7, 2) := by decide +kernel
theorem dX3_sumByWays_103 : decode cX3_sumByWays 103 = .ok (.iload 4, 2) := by decide +kernel
theorem dX3_sumByWays_105 : decode cX3_sumByWays 105 = .ok (.invokevirtual 43, 3) := by decide +kernel
theorem dX3_sumByWays_108 : decode cX3_sumByWays 108 = .ok (.iload 6, 2) := by decide +kernel
theorem dX3_sumByWays_110 : decode cX3_sumByWays 110 = .ok (.iadd, 1) := by decide +kernel
theorem dX3_sumByWays_111 : decode cX3_sumByWays 111 = .ok (.invokevirtual 54, 3) := by decide +kernel
theorem dX3_sumByWays_114 : decode cX3_sumByWays 114 = .ok (.iinc 7 1, 3) := by decide +kernel
theorem dX3_sumByWays_117 : decode cX3_sumByWays 117 = .ok (.goto (-56), 3) := by decide +kernel
theorem dX3_sumByWays_120 : decode cX3_sumByWays 120 = .ok (.iinc 3 1, 3) := by decide +kernel
theorem dX3_sumByWays_123 : decode cX3_sumByWays 123 = .ok (.goto (-106), 3) := by decide +kernel
theorem dX3_sumByWays_126 : decode cX3_sumByWays 126 = .ok (.iinc 2 1, 3) := by decide +kernel
theorem dX3_sumByWays_129 : decode cX3_sumByWays 129 = .ok (.goto (-122), 3) := by decide +kernel
theorem dX3_sumByWays_132 : decode cX3_sumByWays 132 = .ok (.return_, 1) := by decide +kernel
theorem dX3_layNone_0 : decode cX3_layNone 0 = .ok (.aload_n 0, 1) := by decide +kernel
theorem dX3_layNone_1 : decode cX3_layNone 1 = .ok (.getfield 14, 3) := by decide +kernel
theorem dX3_layNone_4 : decode cX3_layNone 4 = .ok (.iconst (-1), 1) := by decide +kernel
theorem dX3_layNone_5 : decode cX3_layNone 5 = .ok (.invokevirtual 60, 3) := by decide +kernel
theorem dX3_layNone_8 : decode cX3_layNone 8 = .ok (.aload_n 0, 1) := by decide +kernel
theorem dX3_layNone_9 : decode cX3_layNone 9 = .ok (.getfield 20, 3) := by decide +kernel
theorem dX3_layNone_12 : decode cX3_layNone 12 = .ok (.sipush 9999, 3) := by decide +kernel
theorem dX3_layNone_15 : decode cX3_layNone 15 = .ok (.invokevirtual 60, 3) := by decide +kernel
theorem dX3_layNone_18 : decode cX3_layNone 18 = .ok (.aload_n 0, 1) := by decide +kernel
theorem dX3_layNone_19 : decode cX3_layNone 19 = .ok (.getfield 23, 3) := by decide +kernel
theorem dX3_layNone_22 : decode cX3_layNone 22 = .ok (.iconst (-1), 1) := by decide +kernel
theorem dX3_layNone_23 : decode cX3_layNone 23 = .ok (.invokevirtual 60, 3) := by decide +kernel
theorem dX3_layNone_26 : decode cX3_layNone 26 = .ok (.iconst 0, 1) := by decide +kernel
theorem dX3_layNone_27 : decode cX3_layNone 27 = .ok (.istore_n 2, 1) := by decide +kernel
theorem dX3_layNone_28 : decode cX3_layNone 28 = .ok (.iload_n 2, 1) := by decide +kernel
theorem dX3_layNone_29 : decode cX3_layNone 29 = .ok (.aload_n 1, 1) := by decide +kernel
theorem dX3_layNone_30 : decode cX3_layNone 30 = .ok (.getfield 51, 3) := by decide +kernel
theorem dX3_layNone_33 : decode cX3_layNone 33 = .ok (.if_icmp .ge 19, 3) := by decide +kernel
theorem dX3_layNone_36 : decode cX3_layNone 36 = .ok (.aload_n 0, 1) := by decide +kernel
theorem dX3_layNone_37 : decode cX3_layNone 37 = .ok (.getfield 20, 3) := by decide +kernel
theorem dX3_layNone_40 : decode cX3_layNone 40 = .ok (.iload_n 2, 1) := by decide +kernel
theorem dX3_layNone_41 : decode cX3_layNone 41 = .ok (.iload_n 2, 1) := by decide +kernel
theorem dX3_layNone_42 : decode cX3_layNone 42 = .ok (.iconst 0, 1) := by decide +kernel
theorem dX3_layNone_43 : decode cX3_layNone 43 = .ok (.invokevirtual 64, 3) := by decide +kernel
theorem dX3_layNone_46 : decode cX3_layNone 46 = .ok (.iinc 2 1, 3) := by decide +kernel
theorem dX3_layNone_49 : decode cX3_layNone 49 = .ok (.goto (-21), 3) := by decide +kernel
theorem dX3_layNone_52 : decode cX3_layNone 52 = .ok (.return_, 1) := by decide +kernel
theorem dX3_layWay_0 : decode cX3_layWay 0 = .ok (.aload_n 0, 1) := by decide +kernel
theorem dX3_layWay_1 : decode cX3_layWay 1 = .ok (.getfield 14, 3) := by decide +kernel
theorem dX3_layWay_4 : decode cX3_layWay 4 = .ok (.iload_n 1, 1) := by decide +kernel
theorem dX3_layWay_5 : decode cX3_layWay 5 = .ok (.iload_n 2, 1) := by decide +kernel
theorem dX3_layWay_6 : decode cX3_layWay 6 = .ok (.iload_n 3, 1) := by decide +kernel
theorem dX3_layWay_7 : decode cX3_layWay 7 = .ok (.invokevirtual 64, 3) := by decide +kernel
theorem dX3_layWay_10 : decode cX3_layWay 10 = .ok (.aload_n 0, 1) := by decide +kernel
theorem dX3_layWay_11 : decode cX3_layWay 11 = .ok (.getfield 14, 3) := by decide +kernel
theorem dX3_layWay_14 : decode cX3_layWay 14 = .ok (.iload_n 2, 1) := by decide +kernel
theorem dX3_layWay_15 : decode cX3_layWay 15 = .ok (.iload_n 1, 1) := by decide +kernel
theorem dX3_layWay_16 : decode cX3_layWay 16 = .ok (.iload_n 3, 1) := by decide +kernel
theorem dX3_layWay_17 : decode cX3_layWay 17 = .ok (.invokevirtual 64, 3) := by decide +kernel
theorem dX3_layWay_20 : decode cX3_layWay 20 = .ok (.aload_n 0, 1) := by decide +kernel
theorem dX3_layWay_21 : decode cX3_layWay 21 = .ok (.getfield 20, 3) := by decide +kernel
theorem dX3_layWay_24 : decode cX3_layWay 24 = .ok (.iload_n 1, 1) := by decide +kernel
theorem dX3_layWay_25 : decode cX3_layWay 25 = .ok (.iload_n 2, 1) := by decide +kernel
theorem dX3_layWay_26 : decode cX3_layWay 26 = .ok (.iload_n 3, 1) := by decide +kernel
theorem dX3_layWay_27 : decode cX3_layWay 27 = .ok (.invokevirtual 64, 3) := by decide +kernel
theorem dX3_layWay_30 : decode cX3_layWay 30 = .ok (.aload_n 0, 1) := by decide +kernel
theorem dX3_layWay_31 : decode cX3_layWay 31 = .ok (.getfield 20, 3) := by decide +kernel
theorem dX3_layWay_34 : decode cX3_layWay 34 = .ok (.iload_n 2, 1) := by decide +kernel
theorem dX3_layWay_35 : decode cX3_layWay 35 = .ok (.iload_n 1, 1) := by decide +kernel
theorem dX3_layWay_36 : decode cX3_layWay 36 = .ok (.iload_n 3, 1) := by decide +kernel
theorem dX3_layWay_37 : decode cX3_layWay 37 = .ok (.invokevirtual 64, 3) := by decide +kernel
theorem dX3_layWay_40 : decode cX3_layWay 40 = .ok (.return_, 1) := by decide +kernel
theorem dX3_shorten_0 : decode cX3_shorten 0 = .ok (.iload_n 3, 1) := by decide +kernel
theorem dX3_shorten_1 : decode cX3_shorten 1 = .ok (.aload_n 0, 1) := by decide +kernel
theorem dX3_shorten_2 : decode cX3_shorten 2 = .ok (.getfield 20, 3) := by decide +kernel
theorem dX3_shorten_5 : decode cX3_shorten 5 = .ok (.iload_n 1, 1) := by decide +kernel
theorem dX3_shorten_6 : decode cX3_shorten 6 = .ok (.iload_n 2, 1) := by decide +kernel
theorem dX3_shorten_7 : decode cX3_shorten 7 = .ok (.invokevirtual 43, 3) := by decide +kernel
theorem dX3_shorten_10 : decode cX3_shorten 10 = .ok (.if_icmp .ge 13, 3) := by decide +kernel
theorem dX3_shorten_13 : decode cX3_shorten 13 = .ok (.aload_n 0, 1) := by decide +kernel
theorem dX3_shorten_14 : decode cX3_shorten 14 = .ok (.getfield 20, 3) := by decide +kernel
theorem dX3_shorten_17 : decode cX3_shorten 17 = .ok (.iload_n 1, 1) := by decide +kernel
theorem dX3_shorten_18 : decode cX3_shorten 18 = .ok (.iload_n 2, 1) := by decide +kernel
theorem dX3_shorten_19 : decode cX3_shorten 19 = .ok (.iload_n 3, 1) := by decide +kernel
theorem dX3_shorten_20 : decode cX3_shorten 20 = .ok (.invokevirtual 64, 3) := by decide +kernel
theorem dX3_shorten_23 : decode cX3_shorten 23 = .ok (.return_, 1) := by decide +kernel
theorem dX3_pointAll_0 : decode cX3_pointAll 0 = .ok (.iconst 0, 1) := by decide +kernel
theorem dX3_pointAll_1 : decode cX3_pointAll 1 = .ok (.istore_n 2, 1) := by decide +kernel
theorem dX3_pointAll_2 : decode cX3_pointAll 2 = .ok (.iload_n 2, 1) := by decide +kernel
theorem dX3_pointAll_3 : decode cX3_pointAll 3 = .ok (.aload_n 1, 1) := by decide +kernel
theorem dX3_pointAll_4 : decode cX3_pointAll 4 = .ok (.getfield 51, 3) := by decide +kernel
theorem dX3_pointAll_7 : decode cX3_pointAll 7 = .ok (.if_icmp .ge 60, 3) := by decide +kernel
theorem dX3_pointAll_10 : decode cX3_pointAll 10 = .ok (.iconst 0, 1) := by decide +kernel
theorem dX3_pointAll_11 : decode cX3_pointAll 11 = .ok (.istore_n 3, 1) := by decide +kernel
theorem dX3_pointAll_12 : decode cX3_pointAll 12 = .ok (.iload_n 3, 1) := by decide +kernel
theorem dX3_pointAll_13 : decode cX3_pointAll 13 = .ok (.aload_n 1, 1) := by decide +kernel
theorem dX3_pointAll_14 : decode cX3_pointAll 14 = .ok (.getfield 51, 3) := by decide +kernel
theorem dX3_pointAll_17 : decode cX3_pointAll 17 = .ok (.if_icmp .ge 44, 3) := by decide +kernel
theorem dX3_pointAll_20 : decode cX3_pointAll 20 = .ok (.iload_n 2, 1) := by decide +kernel
theorem dX3_pointAll_21 : decode cX3_pointAll 21 = .ok (.iload_n 3, 1) := by decide +kernel
theorem dX3_pointAll_22 : decode cX3_pointAll 22 = .ok (.if_icmp .eq 33, 3) := by decide +kernel
theorem dX3_pointAll_25 : decode cX3_pointAll 25 = .ok (.aload_n 0, 1) := by decide +kernel
theorem dX3_pointAll_26 : decode cX3_pointAll 26 = .ok (.getfield 20, 3) := by decide +kernel
theorem dX3_pointAll_29 : decode cX3_pointAll 29 = .ok (.iload_n 2, 1) := by decide +kernel
theorem dX3_pointAll_30 : decode cX3_pointAll 30 = .ok (.iload_n 3, 1) := by decide +kernel
theorem dX3_pointAll_31 : decode cX3_pointAll 31 = .ok (.invokevirtual 43, 3) := by decide +kernel
theorem dX3_pointAll_34 : decode cX3_pointAll 34 = .ok (.sipush 9999, 3) := by decide +kernel
theorem dX3_pointAll_37 : decode cX3_pointAll 37 = .ok (.if_icmp .ge 18, 3) := by decide +kernel
theorem dX3_pointAll_40 : decode cX3_pointAll 40 = .ok (.aload_n 0, 1) := by decide +kernel
theorem dX3_pointAll_41 : decode cX3_pointAll 41 = .ok (.getfield 23, 3) := by decide +kernel
theorem dX3_pointAll_44 : decode cX3_pointAll 44 = .ok (.iload_n 2, 1) := by decide +kernel
theorem dX3_pointAll_45 : decode cX3_pointAll 45 = .ok (.iload_n 3, 1) := by decide +kernel
theorem dX3_pointAll_46 : decode cX3_pointAll 46 = .ok (.aload_n 0, 1) := by decide +kernel
theorem dX3_pointAll_47 : decode cX3_pointAll 47 = .ok (.iload_n 2, 1) := by decide +kernel
theorem dX3_pointAll_48 : decode cX3_pointAll 48 = .ok (.iload_n 3, 1) := by decide +kernel
theorem dX3_pointAll_49 : decode cX3_pointAll 49 = .ok (.invokevirtual 67, 3) := by decide +kernel
theorem dX3_pointAll_52 : decode cX3_pointAll 52 = .ok (.invokevirtual 64, 3) := by decide +kernel
theorem dX3_pointAll_55 : decode cX3_pointAll 55 = .ok (.iinc 3 1, 3) := by decide +kernel
theorem dX3_pointAll_58 : decode cX3_pointAll 58 = .ok (.goto (-46), 3) := by decide +kernel
theorem dX3_pointAll_61 : decode cX3_pointAll 61 = .ok (.iinc 2 1, 3) := by decide +kernel
theorem dX3_pointAll_64 : decode cX3_pointAll 64 = .ok (.goto (-62), 3) := by decide +kernel
theorem dX3_pointAll_67 : decode cX3_pointAll 67 = .ok (.return_, 1) := by decide +kernel
theorem dX3_beginOf_0 : decode cX3_beginOf 0 = .ok (.iconst 0, 1) := by decide +kernel
theorem dX3_beginOf_1 : decode cX3_beginOf 1 = .ok (.istore_n 3, 1) := by decide +kernel
theorem dX3_beginOf_2 : decode cX3_beginOf 2 = .ok (.iload_n 3, 1) := by decide +kernel
theorem dX3_beginOf_3 : decode cX3_beginOf 3 = .ok (.bipush 10, 2) := by decide +kernel
theorem dX3_beginOf_5 : decode cX3_beginOf 5 = .ok (.if_icmp .ge 52, 3) := by decide +kernel
theorem dX3_beginOf_8 : decode cX3_beginOf 8 = .ok (.aload_n 0, 1) := by decide +kernel
theorem dX3_beginOf_9 : decode cX3_beginOf 9 = .ok (.getfield 14, 3) := by decide +kernel
theorem dX3_beginOf_12 : decode cX3_beginOf 12 = .ok (.iload_n 1, 1) := by decide +kernel
theorem dX3_beginOf_13 : decode cX3_beginOf 13 = .ok (.iload_n 3, 1) := by decide +kernel
theorem dX3_beginOf_14 : decode cX3_beginOf 14 = .ok (.invokevirtual 43, 3) := by decide +kernel
theorem dX3_beginOf_17 : decode cX3_beginOf 17 = .ok (.istore 4, 2) := by decide +kernel
theorem dX3_beginOf_19 : decode cX3_beginOf 19 = .ok (.iload 4, 2) := by decide +kernel
theorem dX3_beginOf_21 : decode cX3_beginOf 21 = .ok (.iconst (-1), 1) := by decide +kernel
theorem dX3_beginOf_22 : decode cX3_beginOf 22 = .ok (.if_icmp .eq 29, 3) := by decide +kernel
theorem dX3_beginOf_25 : decode cX3_beginOf 25 = .ok (.iload 4, 2) := by decide +kernel
theorem dX3_beginOf_27 : decode cX3_beginOf 27 = .ok (.aload_n 0, 1) := by decide +kernel
theorem dX3_beginOf_28 : decode cX3_beginOf 28 = .ok (.getfield 20, 3) := by decide +kernel
theorem dX3_beginOf_31 : decode cX3_beginOf 31 = .ok (.iload_n 3, 1) := by decide +kernel
theorem dX3_beginOf_32 : decode cX3_beginOf 32 = .ok (.iload_n 2, 1) := by decide +kernel
theorem dX3_beginOf_33 : decode cX3_beginOf 33 = .ok (.invokevirtual 43, 3) := by decide +kernel
theorem dX3_beginOf_36 : decode cX3_beginOf 36 = .ok (.iadd, 1) := by decide +kernel
theorem dX3_beginOf_37 : decode cX3_beginOf 37 = .ok (.aload_n 0, 1) := by decide +kernel
theorem dX3_beginOf_38 : decode cX3_beginOf 38 = .ok (.getfield 20, 3) := by decide +kernel
theorem dX3_beginOf_41 : decode cX3_beginOf 41 = .ok (.iload_n 1, 1) := by decide +kernel
theorem dX3_beginOf_42 : decode cX3_beginOf 42 = .ok (.iload_n 2, 1) := by decide +kernel
theorem dX3_beginOf_43 : decode cX3_beginOf 43 = .ok (.invokevirtual 43, 3) := by decide +kernel
theorem dX3_beginOf_46 : decode cX3_beginOf 46 = .ok (.if_icmp .ne 5, 3) := by decide +kernel
theorem dX3_beginOf_49 : decode cX3_beginOf 49 = .ok (.iload_n 3, 1) := by decide +kernel
theorem dX3_beginOf_50 : decode cX3_beginOf 50 = .ok (.ireturn, 1) := by decide +kernel
theorem dX3_beginOf_51 : decode cX3_beginOf 51 = .ok (.iinc 3 1, 3) := by decide +kernel
theorem dX3_beginOf_54 : decode cX3_beginOf 54 = .ok (.goto (-52), 3) := by decide +kernel
theorem dX3_beginOf_57 : decode cX3_beginOf 57 = .ok (.iconst (-1), 1) := by decide +kernel
theorem dX3_beginOf_58 : decode cX3_beginOf 58 = .ok (.ireturn, 1) := by decide +kernel
theorem dX3_hasSameSums_0 : decode cX3_hasSameSums 0 = .ok (.iconst 0, 1) := by decide +kernel
theorem dX3_hasSameSums_1 : decode cX3_hasSameSums 1 = .ok (.istore_n 3, 1) := by decide +kernel
theorem dX3_hasSameSums_2 : decode cX3_hasSameSums 2 = .ok (.iload_n 3, 1) := by decide +kernel
theorem dX3_hasSameSums_3 : decode cX3_hasSameSums 3 = .ok (.iload_n 2, 1) := by decide +kernel
theorem dX3_hasSameSums_4 : decode cX3_hasSameSums 4 = .ok (.if_icmp .ge 49, 3) := by decide +kernel
theorem dX3_hasSameSums_7 : decode cX3_hasSameSums 7 = .ok (.iconst 0, 1) := by decide +kernel
theorem dX3_hasSameSums_8 : decode cX3_hasSameSums 8 = .ok (.istore 4, 2) := by decide +kernel
theorem dX3_hasSameSums_10 : decode cX3_hasSameSums 10 = .ok (.iload 4, 2) := by decide +kernel
theorem dX3_hasSameSums_12 : decode cX3_hasSameSums 12 = .ok (.iload_n 2, 1) := by decide +kernel
theorem dX3_hasSameSums_13 : decode cX3_hasSameSums 13 = .ok (.if_icmp .ge 34, 3) := by decide +kernel
theorem dX3_hasSameSums_16 : decode cX3_hasSameSums 16 = .ok (.aload_n 0, 1) := by decide +kernel
theorem dX3_hasSameSums_17 : decode cX3_hasSameSums 17 = .ok (.getfield 20, 3) := by decide +kernel
theorem dX3_hasSameSums_20 : decode cX3_hasSameSums 20 = .ok (.iload_n 3, 1) := by decide +kernel
theorem dX3_hasSameSums_21 : decode cX3_hasSameSums 21 = .ok (.iload 4, 2) := by decide +kernel
theorem dX3_hasSameSums_23 : decode cX3_hasSameSums 23 = .ok (.invokevirtual 43, 3) := by decide +kernel
theorem dX3_hasSameSums_26 : decode cX3_hasSameSums 26 = .ok (.aload_n 1, 1) := by decide +kernel
theorem dX3_hasSameSums_27 : decode cX3_hasSameSums 27 = .ok (.getfield 20, 3) := by decide +kernel
theorem dX3_hasSameSums_30 : decode cX3_hasSameSums 30 = .ok (.iload_n 3, 1) := by decide +kernel
theorem dX3_hasSameSums_31 : decode cX3_hasSameSums 31 = .ok (.iload 4, 2) := by decide +kernel
theorem dX3_hasSameSums_33 : decode cX3_hasSameSums 33 = .ok (.invokevirtual 43, 3) := by decide +kernel
theorem dX3_hasSameSums_36 : decode cX3_hasSameSums 36 = .ok (.if_icmp .eq 5, 3) := by decide +kernel
theorem dX3_hasSameSums_39 : decode cX3_hasSameSums 39 = .ok (.iconst 0, 1) := by decide +kernel
theorem dX3_hasSameSums_40 : decode cX3_hasSameSums 40 = .ok (.ireturn, 1) := by decide +kernel
theorem dX3_hasSameSums_41 : decode cX3_hasSameSums 41 = .ok (.iinc 4 1, 3) := by decide +kernel
theorem dX3_hasSameSums_44 : decode cX3_hasSameSums 44 = .ok (.goto (-34), 3) := by decide +kernel
theorem dX3_hasSameSums_47 : decode cX3_hasSameSums 47 = .ok (.iinc 3 1, 3) := by decide +kernel
theorem dX3_hasSameSums_50 : decode cX3_hasSameSums 50 = .ok (.goto (-48), 3) := by decide +kernel
theorem dX3_hasSameSums_53 : decode cX3_hasSameSums 53 = .ok (.iconst 1, 1) := by decide +kernel
theorem dX3_hasSameSums_54 : decode cX3_hasSameSums 54 = .ok (.ireturn, 1) := by decide +kernel
theorem dX4_init_0 : decode cX4_init 0 = .ok (.aload_n 0, 1) := by decide +kernel
theorem dX4_init_1 : decode cX4_init 1 = .ok (.invokespecial 3, 3) := by decide +kernel
theorem dX4_init_4 : decode cX4_init 4 = .ok (.aload_n 0, 1) := by decide +kernel
theorem dX4_init_5 : decode cX4_init 5 = .ok (.aload_n 1, 1) := by decide +kernel
theorem dX4_init_6 : decode cX4_init 6 = .ok (.putfield 9, 3) := by decide +kernel
theorem dX4_init_9 : decode cX4_init 9 = .ok (.aload_n 0, 1) := by decide +kernel
theorem dX4_init_10 : decode cX4_init 10 = .ok (.aload_n 2, 1) := by decide +kernel
theorem dX4_init_11 : decode cX4_init 11 = .ok (.putfield 15, 3) := by decide +kernel
theorem dX4_init_14 : decode cX4_init 14 = .ok (.aload_n 0, 1) := by decide +kernel
theorem dX4_init_15 : decode cX4_init 15 = .ok (.new 19, 3) := by decide +kernel
theorem dX4_init_18 : decode cX4_init 18 = .ok (.dup, 1) := by decide +kernel
theorem dX4_init_19 : decode cX4_init 19 = .ok (.bipush 30, 2) := by decide +kernel
theorem dX4_init_21 : decode cX4_init 21 = .ok (.iconst 5, 1) := by decide +kernel
theorem dX4_init_22 : decode cX4_init 22 = .ok (.invokespecial 21, 3) := by decide +kernel
theorem dX4_init_25 : decode cX4_init 25 = .ok (.putfield 24, 3) := by decide +kernel
theorem dX4_init_28 : decode cX4_init 28 = .ok (.aload_n 0, 1) := by decide +kernel
theorem dX4_init_29 : decode cX4_init 29 = .ok (.iconst 0, 1) := by decide +kernel
theorem dX4_init_30 : decode cX4_init 30 = .ok (.putfield 28, 3) := by decide +kernel
theorem dX4_init_33 : decode cX4_init 33 = .ok (.return_, 1) := by decide +kernel
theorem dX5_init_0 : decode cX5_init 0 = .ok (.aload_n 0, 1) := by decide +kernel
theorem dX5_init_1 : decode cX5_init 1 = .ok (.invokespecial 3, 3) := by decide +kernel
theorem dX5_init_4 : decode cX5_init 4 = .ok (.aload_n 0, 1) := by decide +kernel
theorem dX5_init_5 : decode cX5_init 5 = .ok (.aload_n 1, 1) := by decide +kernel
theorem dX5_init_6 : decode cX5_init 6 = .ok (.putfield 9, 3) := by decide +kernel
theorem dX5_init_9 : decode cX5_init 9 = .ok (.aload_n 0, 1) := by decide +kernel
theorem dX5_init_10 : decode cX5_init 10 = .ok (.aload_n 2, 1) := by decide +kernel
theorem dX5_init_11 : decode cX5_init 11 = .ok (.putfield 15, 3) := by decide +kernel
theorem dX5_init_14 : decode cX5_init 14 = .ok (.return_, 1) := by decide +kernel
theorem dX5_isRead_0 : decode cX5_isRead 0 = .ok (.aload_n 0, 1) := by decide +kernel
theorem dX5_isRead_1 : decode cX5_isRead 1 = .ok (.getfield 15, 3) := by decide +kernel
theorem dX5_isRead_4 : decode cX5_isRead 4 = .ok (.invokevirtual 19, 3) := by decide +kernel
theorem dX5_isRead_7 : decode cX5_isRead 7 = .ok (.aload_n 0, 1) := by decide +kernel
theorem dX5_isRead_8 : decode cX5_isRead 8 = .ok (.getfield 9, 3) := by decide +kernel
theorem dX5_isRead_11 : decode cX5_isRead 11 = .ok (.invokevirtual 24, 3) := by decide +kernel
theorem dX5_isRead_14 : decode cX5_isRead 14 = .ok (.iconst 0, 1) := by decide +kernel
theorem dX5_isRead_15 : decode cX5_isRead 15 = .ok (.istore_n 1, 1) := by decide +kernel
theorem dX5_isRead_16 : decode cX5_isRead 16 = .ok (.iload_n 1, 1) := by decide +kernel
theorem dX5_isRead_17 : decode cX5_isRead 17 = .ok (.sipush 800, 3) := by decide +kernel
theorem dX5_isRead_20 : decode cX5_isRead 20 = .ok (.if_icmp .ge 28, 3) := by decide +kernel
theorem dX5_isRead_23 : decode cX5_isRead 23 = .ok (.aload_n 0, 1) := by decide +kernel
theorem dX5_isRead_24 : decode cX5_isRead 24 = .ok (.getfield 9, 3) := by decide +kernel
theorem dX5_isRead_27 : decode cX5_isRead 27 = .ok (.getfield 29, 3) := by decide +kernel
theorem dX5_isRead_30 : decode cX5_isRead 30 = .ok (.ifCond .eq 18, 3) := by decide +kernel
theorem dX5_isRead_33 : decode cX5_isRead 33 = .ok (.aload_n 0, 1) := by decide +kernel
theorem dX5_isRead_34 : decode cX5_isRead 34 = .ok (.invokevirtual 33, 3) := by decide +kernel
theorem dX5_isRead_37 : decode cX5_isRead 37 = .ok (.ifCond .ne 5, 3) := by decide +kernel
theorem dX5_isRead_40 : decode cX5_isRead 40 = .ok (.iconst 0, 1) := by decide +kernel
theorem dX5_isRead_41 : decode cX5_isRead 41 = .ok (.ireturn, 1) := by decide +kernel
theorem dX5_isRead_42 : decode cX5_isRead 42 = .ok (.iinc 1 1, 3) := by decide +kernel
theorem dX5_isRead_45 : decode cX5_isRead 45 = .ok (.goto (-29), 3) := by decide +kernel
theorem dX5_isRead_48 : decode cX5_isRead 48 = .ok (.aload_n 0, 1) := by decide +kernel
theorem dX5_isRead_49 : decode cX5_isRead 49 = .ok (.getfield 15, 3) := by decide +kernel
theorem dX5_isRead_52 : decode cX5_isRead 52 = .ok (.getfield 37, 3) := by decide +kernel
theorem dX5_isRead_55 : decode cX5_isRead 55 = .ok (.iconst 2, 1) := by decide +kernel
theorem dX5_isRead_56 : decode cX5_isRead 56 = .ok (.if_icmp .ge 13, 3) := by decide +kernel
theorem dX5_isRead_59 : decode cX5_isRead 59 = .ok (.aload_n 0, 1) := by decide +kernel
theorem dX5_isRead_60 : decode cX5_isRead 60 = .ok (.getfield 9, 3) := by decide +kernel
theorem dX5_isRead_63 : decode cX5_isRead 63 = .ok (.bipush 6, 2) := by decide +kernel
theorem dX5_isRead_65 : decode cX5_isRead 65 = .ok (.invokevirtual 40, 3) := by decide +kernel
theorem dX5_isRead_68 : decode cX5_isRead 68 = .ok (.ireturn, 1) := by decide +kernel
theorem dX5_isRead_69 : decode cX5_isRead 69 = .ok (.aload_n 0, 1) := by decide +kernel
theorem dX5_isRead_70 : decode cX5_isRead 70 = .ok (.getfield 15, 3) := by decide +kernel
theorem dX5_isRead_73 : decode cX5_isRead 73 = .ok (.getfield 44, 3) := by decide +kernel
theorem dX5_isRead_76 : decode cX5_isRead 76 = .ok (.aload_n 0, 1) := by decide +kernel
theorem dX5_isRead_77 : decode cX5_isRead 77 = .ok (.getfield 15, 3) := by decide +kernel
theorem dX5_isRead_80 : decode cX5_isRead 80 = .ok (.invokevirtual 48, 3) := by decide +kernel
theorem dX5_isRead_83 : decode cX5_isRead 83 = .ok (.iconst 1, 1) := by decide +kernel
theorem dX5_isRead_84 : decode cX5_isRead 84 = .ok (.ireturn, 1) := by decide +kernel
theorem dX5_isStatementRead_0 : decode cX5_isStatementRead 0 = .ok (.aload_n 0, 1) := by decide +kernel
theorem dX5_isStatementRead_1 : decode cX5_isStatementRead 1 = .ok (.getfield 9, 3) := by decide +kernel
theorem dX5_isStatementRead_4 : decode cX5_isStatementRead 4 = .ok (.ldc 54, 2) := by decide +kernel
theorem dX5_isStatementRead_6 : decode cX5_isStatementRead 6 = .ok (.invokevirtual 56, 3) := by decide +kernel
theorem dX5_isStatementRead_9 : decode cX5_isStatementRead 9 = .ok (.ifCond .eq 8, 3) := by decide +kernel
theorem dX5_isStatementRead_12 : decode cX5_isStatementRead 12 = .ok (.aload_n 0, 1) := by decide +kernel
theorem dX5_isStatementRead_13 : decode cX5_isStatementRead 13 = .ok (.invokevirtual 60, 3) := by decide +kernel
theorem dX5_isStatementRead_16 : decode cX5_isStatementRead 16 = .ok (.ireturn, 1) := by decide +kernel
theorem dX5_isStatementRead_17 : decode cX5_isStatementRead 17 = .ok (.aload_n 0, 1) := by decide +kernel
theorem dX5_isStatementRead_18 : decode cX5_isStatementRead 18 = .ok (.getfield 9, 3) := by decide +kernel
theorem dX5_isStatementRead_21 : decode cX5_isStatementRead 21 = .ok (.ldc 63, 2) := by decide +kernel
theorem dX5_isStatementRead_23 : decode cX5_isStatementRead 23 = .ok (.invokevirtual 56, 3) := by decide +kernel
theorem dX5_isStatementRead_26 : decode cX5_isStatementRead 26 = .ok (.ifCond .eq 8, 3) := by decide +kernel
theorem dX5_isStatementRead_29 : decode cX5_isStatementRead 29 = .ok (.aload_n 0, 1) := by decide +kernel
theorem dX5_isStatementRead_30 : decode cX5_isStatementRead 30 = .ok (.invokevirtual 65, 3) := by decide +kernel
theorem dX5_isStatementRead_33 : decode cX5_isStatementRead 33 = .ok (.ireturn, 1) := by decide +kernel
theorem dX5_isStatementRead_34 : decode cX5_isStatementRead 34 = .ok (.aload_n 0, 1) := by decide +kernel
theorem dX5_isStatementRead_35 : decode cX5_isStatementRead 35 = .ok (.getfield 9, 3) := by decide +kernel
theorem dX5_isStatementRead_38 : decode cX5_isStatementRead 38 = .ok (.invokevirtual 68, 3) := by decide +kernel
theorem dX5_isStatementRead_41 : decode cX5_isStatementRead 41 = .ok (.istore_n 1, 1) := by decide +kernel
theorem dX5_isStatementRead_42 : decode cX5_isStatementRead 42 = .ok (.iload_n 1, 1) := by decide +kernel
theorem dX5_isStatementRead_43 : decode cX5_isStatementRead 43 = .ok (.iconst (-1), 1) := by decide +kernel
theorem dX5_isStatementRead_44 : decode cX5_isStatementRead 44 = .ok (.if_icmp .ne 14, 3) := by decide +kernel
theorem dX5_isStatementRead_47 : decode cX5_isStatementRead 47 = .ok (.aload_n 0, 1) := by decide +kernel
theorem dX5_isStatementRead_48 : decode cX5_isStatementRead 48 = .ok (.getfield 9, 3) := by decide +kernel
theorem dX5_isStatementRead_51 : decode cX5_isStatementRead 51 = .ok (.iconst 1, 1) := by decide +kernel
theorem dX5_isStatementRead_52 : decode cX5_isStatementRead 52 = .ok (.invokevirtual 40, 3) := by decide +kernel
theorem dX5_isStatementRead_55 : decode cX5_isStatementRead 55 = .ok (.goto 8, 3) := by decide +kernel
theorem dX5_isStatementRead_58 : decode cX5_isStatementRead 58 = .ok (.aload_n 0, 1) := by decide +kernel
theorem dX5_isStatementRead_59 : decode cX5_isStatementRead 59 = .ok (.iload_n 1, 1) := by decide +kernel
theorem dX5_isStatementRead_60 : decode cX5_isStatementRead 60 = .ok (.invokevirtual 72, 3) := by decide +kernel
theorem dX5_isStatementRead_63 : decode cX5_isStatementRead 63 = .ok (.ireturn, 1) := by decide +kernel
theorem dX5_isRoofRead_0 : decode cX5_isRoofRead 0 = .ok (.aload_n 0, 1) := by decide +kernel
theorem dX5_isRoofRead_1 : decode cX5_isRoofRead 1 = .ok (.getfield 15, 3) := by decide +kernel
theorem dX5_isRoofRead_4 : decode cX5_isRoofRead 4 = .ok (.getfield 37, 3) := by decide +kernel
theorem dX5_isRoofRead_7 : decode cX5_isRoofRead 7 = .ok (.bipush 10, 2) := by decide +kernel
theorem dX5_isRoofRead_9 : decode cX5_isRoofRead 9 = .ok (.if_icmp .lt 12, 3) := by decide +kernel
theorem dX5_isRoofRead_12 : decode cX5_isRoofRead 12 = .ok (.aload_n 0, 1) := by decide +kernel
theorem dX5_isRoofRead_13 : decode cX5_isRoofRead 13 = .ok (.getfield 9, 3) := by decide +kernel
theorem dX5_isRoofRead_16 : decode cX5_isRoofRead 16 = .ok (.iconst 5, 1) := by decide +kernel
theorem dX5_isRoofRead_17 : decode cX5_isRoofRead 17 = .ok (.invokevirtual 40, 3) := by decide +kernel
theorem dX5_isRoofRead_20 : decode cX5_isRoofRead 20 = .ok (.ireturn, 1) := by decide +kernel
theorem dX5_isRoofRead_21 : decode cX5_isRoofRead 21 = .ok (.aload_n 0, 1) := by decide +kernel
theorem dX5_isRoofRead_22 : decode cX5_isRoofRead 22 = .ok (.getfield 9, 3) := by decide +kernel
theorem dX5_isRoofRead_25 : decode cX5_isRoofRead 25 = .ok (.invokevirtual 75, 3) := by decide +kernel
theorem dX5_isRoofRead_28 : decode cX5_isRoofRead 28 = .ok (.aload_n 0, 1) := by decide +kernel
theorem dX5_isRoofRead_29 : decode cX5_isRoofRead 29 = .ok (.getfield 9, 3) := by decide +kernel
theorem dX5_isRoofRead_32 : decode cX5_isRoofRead 32 = .ok (.invokevirtual 78, 3) := by decide +kernel
theorem dX5_isRoofRead_35 : decode cX5_isRoofRead 35 = .ok (.istore_n 1, 1) := by decide +kernel
theorem dX5_isRoofRead_36 : decode cX5_isRoofRead 36 = .ok (.iload_n 1, 1) := by decide +kernel
theorem dX5_isRoofRead_37 : decode cX5_isRoofRead 37 = .ok (.iconst (-1), 1) := by decide +kernel
theorem dX5_isRoofRead_38 : decode cX5_isRoofRead 38 = .ok (.if_icmp .ne 5, 3) := by decide +kernel
theorem dX5_isRoofRead_41 : decode cX5_isRoofRead 41 = .ok (.iconst 0, 1) := by decide +kernel
theorem dX5_isRoofRead_42 : decode cX5_isRoofRead 42 = .ok (.ireturn, 1) := by decide +kernel
theorem dX5_isRoofRead_43 : decode cX5_isRoofRead 43 = .ok (.aload_n 0, 1) := by decide +kernel
theorem dX5_isRoofRead_44 : decode cX5_isRoofRead 44 = .ok (.getfield 15, 3) := by decide +kernel
theorem dX5_isRoofRead_47 : decode cX5_isRoofRead 47 = .ok (.iload_n 1, 1) := by decide +kernel
theorem dX5_isRoofRead_48 : decode cX5_isRoofRead 48 = .ok (.invokevirtual 81, 3) := by decide +kernel
theorem dX5_isRoofRead_51 : decode cX5_isRoofRead 51 = .ok (.iconst (-1), 1) := by decide +kernel
theorem dX5_isRoofRead_52 : decode cX5_isRoofRead 52 = .ok (.if_icmp .eq 12, 3) := by decide +kernel
theorem dX5_isRoofRead_55 : decode cX5_isRoofRead 55 = .ok (.aload_n 0, 1) := by decide +kernel
theorem dX5_isRoofRead_56 : decode cX5_isRoofRead 56 = .ok (.getfield 9, 3) := by decide +kernel
theorem dX5_isRoofRead_59 : decode cX5_isRoofRead 59 = .ok (.iconst 3, 1) := by decide +kernel
theorem dX5_isRoofRead_60 : decode cX5_isRoofRead 60 = .ok (.invokevirtual 40, 3) := by decide +kernel
theorem dX5_isRoofRead_63 : decode cX5_isRoofRead 63 = .ok (.ireturn, 1) := by decide +kernel
theorem dX5_isRoofRead_64 : decode cX5_isRoofRead 64 = .ok (.aload_n 0, 1) := by decide +kernel
theorem dX5_isRoofRead_65 : decode cX5_isRoofRead 65 = .ok (.getfield 9, 3) := by decide +kernel
theorem dX5_isRoofRead_68 : decode cX5_isRoofRead 68 = .ok (.invokevirtual 75, 3) := by decide +kernel
theorem dX5_isRoofRead_71 : decode cX5_isRoofRead 71 = .ok (.aload_n 0, 1) := by decide +kernel
theorem dX5_isRoofRead_72 : decode cX5_isRoofRead 72 = .ok (.getfield 9, 3) := by decide +kernel
theorem dX5_isRoofRead_75 : decode cX5_isRoofRead 75 = .ok (.iconst 1, 1) := by decide +kernel
theorem dX5_isRoofRead_76 : decode cX5_isRoofRead 76 = .ok (.bipush 8, 2) := by decide +kernel
theorem dX5_isRoofRead_78 : decode cX5_isRoofRead 78 = .ok (.invokevirtual 85, 3) := by decide +kernel
theorem dX5_isRoofRead_81 : decode cX5_isRoofRead 81 = .ok (.istore_n 2, 1) := by decide +kernel
theorem dX5_isRoofRead_82 : decode cX5_isRoofRead 82 = .ok (.iload_n 2, 1) := by decide +kernel
theorem dX5_isRoofRead_83 : decode cX5_isRoofRead 83 = .ok (.iconst (-1), 1) := by decide +kernel
theorem dX5_isRoofRead_84 : decode cX5_isRoofRead 84 = .ok (.if_icmp .ne 7, 3) := by decide +kernel
theorem dX5_isRoofRead_87 : decode cX5_isRoofRead 87 = .ok (.iconst (-1), 1) := by decide +kernel
theorem dX5_isRoofRead_88 : decode cX5_isRoofRead 88 = .ok (.goto 13, 3) := by decide +kernel
theorem dX5_isRoofRead_91 : decode cX5_isRoofRead 91 = .ok (.aload_n 0, 1) := by decide +kernel
theorem dX5_isRoofRead_92 : decode cX5_isRoofRead 92 = .ok (.getfield 9, 3) := by decide +kernel
theorem dX5_isRoofRead_95 : decode cX5_isRoofRead 95 = .ok (.iconst 0, 1) := by decide +kernel
theorem dX5_isRoofRead_96 : decode cX5_isRoofRead 96 = .ok (.bipush 9, 2) := by decide +kernel
theorem dX5_isRoofRead_98 : decode cX5_isRoofRead 98 = .ok (.invokevirtual 85, 3) := by decide +kernel
theorem dX5_isRoofRead_101 : decode cX5_isRoofRead 101 = .ok (.istore_n 3, 1) := by decide +kernel
theorem dX5_isRoofRead_102 : decode cX5_isRoofRead 102 = .ok (.iload_n 3, 1) := by decide +kernel
theorem dX5_isRoofRead_103 : decode cX5_isRoofRead 103 = .ok (.iconst (-1), 1) := by decide +kernel
theorem dX5_isRoofRead_104 : decode cX5_isRoofRead 104 = .ok (.if_icmp .ne 7, 3) := by decide +kernel
theorem dX5_isRoofRead_107 : decode cX5_isRoofRead 107 = .ok (.iconst (-1), 1) := by decide +kernel
theorem dX5_isRoofRead_108 : decode cX5_isRoofRead 108 = .ok (.goto 13, 3) := by decide +kernel
theorem dX5_isRoofRead_111 : decode cX5_isRoofRead 111 = .ok (.aload_n 0, 1) := by decide +kernel
theorem dX5_isRoofRead_112 : decode cX5_isRoofRead 112 = .ok (.getfield 9, 3) := by decide +kernel
theorem dX5_isRoofRead_115 : decode cX5_isRoofRead 115 = .ok (.iconst 0, 1) := by decide +kernel
theorem dX5_isRoofRead_116 : decode cX5_isRoofRead 116 = .ok (.bipush 9, 2) := by decide +kernel
theorem dX5_isRoofRead_118 : decode cX5_isRoofRead 118 = .ok (.invokevirtual 85, 3) := by decide +kernel
theorem dX5_isRoofRead_121 : decode cX5_isRoofRead 121 = .ok (.istore 4, 2) := by decide +kernel
theorem dX5_isRoofRead_123 : decode cX5_isRoofRead 123 = .ok (.iload 4, 2) := by decide +kernel
theorem dX5_isRoofRead_125 : decode cX5_isRoofRead 125 = .ok (.iconst (-1), 1) := by decide +kernel
theorem dX5_isRoofRead_126 : decode cX5_isRoofRead 126 = .ok (.if_icmp .ne 7, 3) := by decide +kernel
theorem dX5_isRoofRead_129 : decode cX5_isRoofRead 129 = .ok (.iconst (-1), 1) := by decide +kernel
theorem dX5_isRoofRead_130 : decode cX5_isRoofRead 130 = .ok (.goto 14, 3) := by decide +kernel
theorem dX5_isRoofRead_133 : decode cX5_isRoofRead 133 = .ok (.aload_n 0, 1) := by decide +kernel
theorem dX5_isRoofRead_134 : decode cX5_isRoofRead 134 = .ok (.getfield 9, 3) := by decide +kernel
theorem dX5_isRoofRead_137 : decode cX5_isRoofRead 137 = .ok (.iconst 0, 1) := by decide +kernel
theorem dX5_isRoofRead_138 : decode cX5_isRoofRead 138 = .ok (.sipush 999, 3) := by decide +kernel
theorem dX5_isRoofRead_141 : decode cX5_isRoofRead 141 = .ok (.invokevirtual 85, 3) := by decide +kernel
theorem dX5_isRoofRead_144 : decode cX5_isRoofRead 144 = .ok (.istore 5, 2) := by decide +kernel
theorem dX5_isRoofRead_146 : decode cX5_isRoofRead 146 = .ok (.iload 5, 2) := by decide +kernel
theorem dX5_isRoofRead_148 : decode cX5_isRoofRead 148 = .ok (.iconst (-1), 1) := by decide +kernel
theorem dX5_isRoofRead_149 : decode cX5_isRoofRead 149 = .ok (.if_icmp .eq 13, 3) := by decide +kernel
theorem dX5_isRoofRead_152 : decode cX5_isRoofRead 152 = .ok (.aload_n 0, 1) := by decide +kernel
theorem dX5_isRoofRead_153 : decode cX5_isRoofRead 153 = .ok (.getfield 9, 3) := by decide +kernel
theorem dX5_isRoofRead_156 : decode cX5_isRoofRead 156 = .ok (.invokevirtual 89, 3) := by decide +kernel
theorem dX5_isRoofRead_159 : decode cX5_isRoofRead 159 = .ok (.ifCond .ne 5, 3) := by decide +kernel
theorem dX5_isRoofRead_162 : decode cX5_isRoofRead 162 = .ok (.iconst 0, 1) := by decide +kernel
theorem dX5_isRoofRead_163 : decode cX5_isRoofRead 163 = .ok (.ireturn, 1) := by decide +kernel
theorem dX5_isRoofRead_164 : decode cX5_isRoofRead 164 = .ok (.aload_n 0, 1) := by decide +kernel
theorem dX5_isRoofRead_165 : decode cX5_isRoofRead 165 = .ok (.getfield 15, 3) := by decide +kernel
theorem dX5_isRoofRead_168 : decode cX5_isRoofRead 168 = .ok (.iload_n 1, 1) := by decide +kernel
theorem dX5_isRoofRead_169 : decode cX5_isRoofRead 169 = .ok (.iload_n 2, 1) := by decide +kernel
theorem dX5_isRoofRead_170 : decode cX5_isRoofRead 170 = .ok (.iload_n 3, 1) := by decide +kernel
theorem dX5_isRoofRead_171 : decode cX5_isRoofRead 171 = .ok (.iload 4, 2) := by decide +kernel
theorem dX5_isRoofRead_173 : decode cX5_isRoofRead 173 = .ok (.iload 5, 2) := by decide +kernel
theorem dX5_isRoofRead_175 : decode cX5_isRoofRead 175 = .ok (.invokevirtual 92, 3) := by decide +kernel
theorem dX5_isRoofRead_178 : decode cX5_isRoofRead 178 = .ok (.iconst 1, 1) := by decide +kernel
theorem dX5_isRoofRead_179 : decode cX5_isRoofRead 179 = .ok (.ireturn, 1) := by decide +kernel
theorem dX5_isWayRead_0 : decode cX5_isWayRead 0 = .ok (.aload_n 0, 1) := by decide +kernel
theorem dX5_isWayRead_1 : decode cX5_isWayRead 1 = .ok (.getfield 15, 3) := by decide +kernel
theorem dX5_isWayRead_4 : decode cX5_isWayRead 4 = .ok (.getfield 96, 3) := by decide +kernel
theorem dX5_isWayRead_7 : decode cX5_isWayRead 7 = .ok (.bipush 20, 2) := by decide +kernel
theorem dX5_isWayRead_9 : decode cX5_isWayRead 9 = .ok (.if_icmp .lt 12, 3) := by decide +kernel
theorem dX5_isWayRead_12 : decode cX5_isWayRead 12 = .ok (.aload_n 0, 1) := by decide +kernel
theorem dX5_isWayRead_13 : decode cX5_isWayRead 13 = .ok (.getfield 9, 3) := by decide +kernel
theorem dX5_isWayRead_16 : decode cX5_isWayRead 16 = .ok (.iconst 5, 1) := by decide +kernel
theorem dX5_isWayRead_17 : decode cX5_isWayRead 17 = .ok (.invokevirtual 40, 3) := by decide +kernel
theorem dX5_isWayRead_20 : decode cX5_isWayRead 20 = .ok (.ireturn, 1) := by decide +kernel
theorem dX5_isWayRead_21 : decode cX5_isWayRead 21 = .ok (.aload_n 0, 1) := by decide +kernel
theorem dX5_isWayRead_22 : decode cX5_isWayRead 22 = .ok (.getfield 9, 3) := by decide +kernel
theorem dX5_isWayRead_25 : decode cX5_isWayRead 25 = .ok (.invokevirtual 75, 3) := by decide +kernel
theorem dX5_isWayRead_28 : decode cX5_isWayRead 28 = .ok (.aload_n 0, 1) := by decide +kernel
theorem dX5_isWayRead_29 : decode cX5_isWayRead 29 = .ok (.getfield 9, 3) := by decide +kernel
theorem dX5_isWayRead_32 : decode cX5_isWayRead 32 = .ok (.aload_n 0, 1) := by decide +kernel
theorem dX5_isWayRead_33 : decode cX5_isWayRead 33 = .ok (.getfield 15, 3) := by decide +kernel
theorem dX5_isWayRead_36 : decode cX5_isWayRead 36 = .ok (.iconst (-1), 1) := by decide +kernel
theorem dX5_isWayRead_37 : decode cX5_isWayRead 37 = .ok (.invokevirtual 99, 3) := by decide +kernel
theorem dX5_isWayRead_40 : decode cX5_isWayRead 40 = .ok (.istore_n 1, 1) := by decide +kernel
theorem dX5_isWayRead_41 : decode cX5_isWayRead 41 = .ok (.iload_n 1, 1) := by decide +kernel
theorem dX5_isWayRead_42 : decode cX5_isWayRead 42 = .ok (.iconst (-1), 1) := by decide +kernel
theorem dX5_isWayRead_43 : decode cX5_isWayRead 43 = .ok (.if_icmp .ne 5, 3) := by decide +kernel
theorem dX5_isWayRead_46 : decode cX5_isWayRead 46 = .ok (.iconst 0, 1) := by decide +kernel
theorem dX5_isWayRead_47 : decode cX5_isWayRead 47 = .ok (.ireturn, 1) := by decide +kernel
theorem dX5_isWayRead_48 : decode cX5_isWayRead 48 = .ok (.aload_n 0, 1) := by decide +kernel
theorem dX5_isWayRead_49 : decode cX5_isWayRead 49 = .ok (.getfield 9, 3) := by decide +kernel
theorem dX5_isWayRead_52 : decode cX5_isWayRead 52 = .ok (.invokevirtual 75, 3) := by decide +kernel
theorem dX5_isWayRead_55 : decode cX5_isWayRead 55 = .ok (.aload_n 0, 1) := by decide +kernel
theorem dX5_isWayRead_56 : decode cX5_isWayRead 56 = .ok (.getfield 9, 3) := by decide +kernel
theorem dX5_isWayRead_59 : decode cX5_isWayRead 59 = .ok (.aload_n 0, 1) := by decide +kernel
theorem dX5_isWayRead_60 : decode cX5_isWayRead 60 = .ok (.getfield 15, 3) := by decide +kernel
theorem dX5_isWayRead_63 : decode cX5_isWayRead 63 = .ok (.iload_n 1, 1) := by decide +kernel
theorem dX5_isWayRead_64 : decode cX5_isWayRead 64 = .ok (.invokevirtual 99, 3) := by decide +kernel
theorem dX5_isWayRead_67 : decode cX5_isWayRead 67 = .ok (.istore_n 2, 1) := by decide +kernel
theorem dX5_isWayRead_68 : decode cX5_isWayRead 68 = .ok (.iload_n 2, 1) := by decide +kernel
theorem dX5_isWayRead_69 : decode cX5_isWayRead 69 = .ok (.iconst (-1), 1) := by decide +kernel
theorem dX5_isWayRead_70 : decode cX5_isWayRead 70 = .ok (.if_icmp .ne 5, 3) := by decide +kernel
theorem dX5_isWayRead_73 : decode cX5_isWayRead 73 = .ok (.iconst 0, 1) := by decide +kernel
theorem dX5_isWayRead_74 : decode cX5_isWayRead 74 = .ok (.ireturn, 1) := by decide +kernel
theorem dX5_isWayRead_75 : decode cX5_isWayRead 75 = .ok (.aload_n 0, 1) := by decide +kernel
theorem dX5_isWayRead_76 : decode cX5_isWayRead 76 = .ok (.getfield 15, 3) := by decide +kernel
theorem dX5_isWayRead_79 : decode cX5_isWayRead 79 = .ok (.iload_n 1, 1) := by decide +kernel
theorem dX5_isWayRead_80 : decode cX5_isWayRead 80 = .ok (.iload_n 2, 1) := by decide +kernel
theorem dX5_isWayRead_81 : decode cX5_isWayRead 81 = .ok (.invokevirtual 103, 3) := by decide +kernel
theorem dX5_isWayRead_84 : decode cX5_isWayRead 84 = .ok (.iconst (-1), 1) := by decide +kernel
theorem dX5_isWayRead_85 : decode cX5_isWayRead 85 = .ok (.if_icmp .eq 12, 3) := by decide +kernel
theorem dX5_isWayRead_88 : decode cX5_isWayRead 88 = .ok (.aload_n 0, 1) := by decide +kernel
theorem dX5_isWayRead_89 : decode cX5_isWayRead 89 = .ok (.getfield 9, 3) := by decide +kernel
theorem dX5_isWayRead_92 : decode cX5_isWayRead 92 = .ok (.iconst 4, 1) := by decide +kernel
theorem dX5_isWayRead_93 : decode cX5_isWayRead 93 = .ok (.invokevirtual 40, 3) := by decide +kernel
theorem dX5_isWayRead_96 : decode cX5_isWayRead 96 = .ok (.ireturn, 1) := by decide +kernel
theorem dX5_isWayRead_97 : decode cX5_isWayRead 97 = .ok (.aload_n 0, 1) := by decide +kernel
theorem dX5_isWayRead_98 : decode cX5_isWayRead 98 = .ok (.getfield 9, 3) := by decide +kernel
theorem dX5_isWayRead_101 : decode cX5_isWayRead 101 = .ok (.invokevirtual 75, 3) := by decide +kernel
theorem dX5_isWayRead_104 : decode cX5_isWayRead 104 = .ok (.aload_n 0, 1) := by decide +kernel
theorem dX5_isWayRead_105 : decode cX5_isWayRead 105 = .ok (.getfield 9, 3) := by decide +kernel
theorem dX5_isWayRead_108 : decode cX5_isWayRead 108 = .ok (.iconst 1, 1) := by decide +kernel
theorem dX5_isWayRead_109 : decode cX5_isWayRead 109 = .ok (.bipush 9, 2) := by decide +kernel
theorem dX5_isWayRead_111 : decode cX5_isWayRead 111 = .ok (.invokevirtual 85, 3) := by decide +kernel
theorem dX5_isWayRead_114 : decode cX5_isWayRead 114 = .ok (.istore_n 3, 1) := by decide +kernel
theorem dX5_isWayRead_115 : decode cX5_isWayRead 115 = .ok (.iload_n 3, 1) := by decide +kernel
theorem dX5_isWayRead_116 : decode cX5_isWayRead 116 = .ok (.iconst (-1), 1) := by decide +kernel
theorem dX5_isWayRead_117 : decode cX5_isWayRead 117 = .ok (.if_icmp .eq 13, 3) := by decide +kernel
theorem dX5_isWayRead_120 : decode cX5_isWayRead 120 = .ok (.aload_n 0, 1) := by decide +kernel
theorem dX5_isWayRead_121 : decode cX5_isWayRead 121 = .ok (.getfield 9, 3) := by decide +kernel
theorem dX5_isWayRead_124 : decode cX5_isWayRead 124 = .ok (.invokevirtual 89, 3) := by decide +kernel
theorem dX5_isWayRead_127 : decode cX5_isWayRead 127 = .ok (.ifCond .ne 5, 3) := by decide +kernel
theorem dX5_isWayRead_130 : decode cX5_isWayRead 130 = .ok (.iconst 0, 1) := by decide +kernel
theorem dX5_isWayRead_131 : decode cX5_isWayRead 131 = .ok (.ireturn, 1) := by decide +kernel
theorem dX5_isWayRead_132 : decode cX5_isWayRead 132 = .ok (.aload_n 0, 1) := by decide +kernel
theorem dX5_isWayRead_133 : decode cX5_isWayRead 133 = .ok (.getfield 15, 3) := by decide +kernel
theorem dX5_isWayRead_136 : decode cX5_isWayRead 136 = .ok (.iload_n 1, 1) := by decide +kernel
theorem dX5_isWayRead_137 : decode cX5_isWayRead 137 = .ok (.iload_n 2, 1) := by decide +kernel
theorem dX5_isWayRead_138 : decode cX5_isWayRead 138 = .ok (.iload_n 3, 1) := by decide +kernel
theorem dX5_isWayRead_139 : decode cX5_isWayRead 139 = .ok (.invokevirtual 106, 3) := by decide +kernel
theorem dX5_isWayRead_142 : decode cX5_isWayRead 142 = .ok (.iconst 1, 1) := by decide +kernel
theorem dX5_isWayRead_143 : decode cX5_isWayRead 143 = .ok (.ireturn, 1) := by decide +kernel
theorem dX5_isSettingRead_0 : decode cX5_isSettingRead 0 = .ok (.aload_n 0, 1) := by decide +kernel
theorem dX5_isSettingRead_1 : decode cX5_isSettingRead 1 = .ok (.getfield 9, 3) := by decide +kernel
theorem dX5_isSettingRead_4 : decode cX5_isSettingRead 4 = .ok (.invokevirtual 75, 3) := by decide +kernel
theorem dX5_isSettingRead_7 : decode cX5_isSettingRead 7 = .ok (.aload_n 0, 1) := by decide +kernel
theorem dX5_isSettingRead_8 : decode cX5_isSettingRead 8 = .ok (.getfield 9, 3) := by decide +kernel
theorem dX5_isSettingRead_11 : decode cX5_isSettingRead 11 = .ok (.iload_n 1, 1) := by decide +kernel
theorem dX5_isSettingRead_12 : decode cX5_isSettingRead 12 = .ok (.invokestatic 110, 3) := by decide +kernel
theorem dX5_isSettingRead_15 : decode cX5_isSettingRead 15 = .ok (.iload_n 1, 1) := by decide +kernel
theorem dX5_isSettingRead_16 : decode cX5_isSettingRead 16 = .ok (.invokestatic 113, 3) := by decide +kernel
theorem dX5_isSettingRead_19 : decode cX5_isSettingRead 19 = .ok (.invokevirtual 85, 3) := by decide +kernel
theorem dX5_isSettingRead_22 : decode cX5_isSettingRead 22 = .ok (.istore_n 2, 1) := by decide +kernel
theorem dX5_isSettingRead_23 : decode cX5_isSettingRead 23 = .ok (.iload_n 2, 1) := by decide +kernel
theorem dX5_isSettingRead_24 : decode cX5_isSettingRead 24 = .ok (.iconst (-1), 1) := by decide +kernel
theorem dX5_isSettingRead_25 : decode cX5_isSettingRead 25 = .ok (.if_icmp .eq 13, 3) := by decide +kernel
theorem dX5_isSettingRead_28 : decode cX5_isSettingRead 28 = .ok (.aload_n 0, 1) := by decide +kernel
theorem dX5_isSettingRead_29 : decode cX5_isSettingRead 29 = .ok (.getfield 9, 3) := by decide +kernel
theorem dX5_isSettingRead_32 : decode cX5_isSettingRead 32 = .ok (.invokevirtual 89, 3) := by decide +kernel
theorem dX5_isSettingRead_35 : decode cX5_isSettingRead 35 = .ok (.ifCond .ne 5, 3) := by decide +kernel
theorem dX5_isSettingRead_38 : decode cX5_isSettingRead 38 = .ok (.iconst 0, 1) := by decide +kernel
theorem dX5_isSettingRead_39 : decode cX5_isSettingRead 39 = .ok (.ireturn, 1) := by decide +kernel
theorem dX5_isSettingRead_40 : decode cX5_isSettingRead 40 = .ok (.aload_n 0, 1) := by decide +kernel
theorem dX5_isSettingRead_41 : decode cX5_isSettingRead 41 = .ok (.getfield 15, 3) := by decide +kernel
theorem dX5_isSettingRead_44 : decode cX5_isSettingRead 44 = .ok (.iload_n 1, 1) := by decide +kernel
theorem dX5_isSettingRead_45 : decode cX5_isSettingRead 45 = .ok (.iload_n 2, 1) := by decide +kernel
theorem dX5_isSettingRead_46 : decode cX5_isSettingRead 46 = .ok (.invokevirtual 116, 3) := by decide +kernel
theorem dX5_isSettingRead_49 : decode cX5_isSettingRead 49 = .ok (.iconst 1, 1) := by decide +kernel
theorem dX5_isSettingRead_50 : decode cX5_isSettingRead 50 = .ok (.ireturn, 1) := by decide +kernel
theorem dX6_areTunesRight_0 : decode cX6_areTunesRight 0 = .ok (.iconst 0, 1) := by decide +kernel
theorem dX6_areTunesRight_1 : decode cX6_areTunesRight 1 = .ok (.istore_n 1, 1) := by decide +kernel
theorem dX6_areTunesRight_2 : decode cX6_areTunesRight 2 = .ok (.iload_n 1, 1) := by decide +kernel
theorem dX6_areTunesRight_3 : decode cX6_areTunesRight 3 = .ok (.aload_n 0, 1) := by decide +kernel
theorem dX6_areTunesRight_4 : decode cX6_areTunesRight 4 = .ok (.getfield 88, 3) := by decide +kernel
theorem dX6_areTunesRight_7 : decode cX6_areTunesRight 7 = .ok (.if_icmp .ge 72, 3) := by decide +kernel
theorem dX6_areTunesRight_10 : decode cX6_areTunesRight 10 = .ok (.aload_n 0, 1) := by decide +kernel
theorem dX6_areTunesRight_11 : decode cX6_areTunesRight 11 = .ok (.getfield 9, 3) := by decide +kernel
theorem dX6_areTunesRight_14 : decode cX6_areTunesRight 14 = .ok (.iload_n 1, 1) := by decide +kernel
theorem dX6_areTunesRight_15 : decode cX6_areTunesRight 15 = .ok (.iconst 3, 1) := by decide +kernel
theorem dX6_areTunesRight_16 : decode cX6_areTunesRight 16 = .ok (.invokevirtual 15, 3) := by decide +kernel
theorem dX6_areTunesRight_19 : decode cX6_areTunesRight 19 = .ok (.istore_n 2, 1) := by decide +kernel
theorem dX6_areTunesRight_20 : decode cX6_areTunesRight 20 = .ok (.aload_n 0, 1) := by decide +kernel
theorem dX6_areTunesRight_21 : decode cX6_areTunesRight 21 = .ok (.getfield 9, 3) := by decide +kernel
theorem dX6_areTunesRight_24 : decode cX6_areTunesRight 24 = .ok (.iload_n 1, 1) := by decide +kernel
theorem dX6_areTunesRight_25 : decode cX6_areTunesRight 25 = .ok (.iconst 4, 1) := by decide +kernel
theorem dX6_areTunesRight_26 : decode cX6_areTunesRight 26 = .ok (.invokevirtual 15, 3) := by decide +kernel
theorem dX6_areTunesRight_29 : decode cX6_areTunesRight 29 = .ok (.istore_n 3, 1) := by decide +kernel
theorem dX6_areTunesRight_30 : decode cX6_areTunesRight 30 = .ok (.iload_n 2, 1) := by decide +kernel
theorem dX6_areTunesRight_31 : decode cX6_areTunesRight 31 = .ok (.ifCond .lt 20, 3) := by decide +kernel
theorem dX6_areTunesRight_34 : decode cX6_areTunesRight 34 = .ok (.iload_n 2, 1) := by decide +kernel
theorem dX6_areTunesRight_35 : decode cX6_areTunesRight 35 = .ok (.iconst 3, 1) := by decide +kernel
theorem dX6_areTunesRight_36 : decode cX6_areTunesRight 36 = .ok (.if_icmp .gt 15, 3) := by decide +kernel
theorem dX6_areTunesRight_39 : decode cX6_areTunesRight 39 = .ok (.iload_n 3, 1) := by decide +kernel
theorem dX6_areTunesRight_40 : decode cX6_areTunesRight 40 = .ok (.ifCond .lt 11, 3) := by decide +kernel
theorem dX6_areTunesRight_43 : decode cX6_areTunesRight 43 = .ok (.iload_n 3, 1) := by decide +kernel
theorem dX6_areTunesRight_44 : decode cX6_areTunesRight 44 = .ok (.aload_n 0, 1) := by decide +kernel
theorem dX6_areTunesRight_45 : decode cX6_areTunesRight 45 = .ok (.getfield 73, 3) := by decide +kernel
theorem dX6_areTunesRight_48 : decode cX6_areTunesRight 48 = .ok (.if_icmp .lt 5, 3) := by decide +kernel
theorem dX6_areTunesRight_51 : decode cX6_areTunesRight 51 = .ok (.iconst 0, 1) := by decide +kernel
theorem dX6_areTunesRight_52 : decode cX6_areTunesRight 52 = .ok (.ireturn, 1) := by decide +kernel
theorem dX6_areTunesRight_53 : decode cX6_areTunesRight 53 = .ok (.iload_n 2, 1) := by decide +kernel
theorem dX6_areTunesRight_54 : decode cX6_areTunesRight 54 = .ok (.iconst 2, 1) := by decide +kernel
theorem dX6_areTunesRight_55 : decode cX6_areTunesRight 55 = .ok (.if_icmp .ne 18, 3) := by decide +kernel
theorem dX6_areTunesRight_58 : decode cX6_areTunesRight 58 = .ok (.iload_n 3, 1) := by decide +kernel
theorem dX6_areTunesRight_59 : decode cX6_areTunesRight 59 = .ok (.aload_n 0, 1) := by decide +kernel
theorem dX6_areTunesRight_60 : decode cX6_areTunesRight 60 = .ok (.getfield 9, 3) := by decide +kernel
theorem dX6_areTunesRight_63 : decode cX6_areTunesRight 63 = .ok (.iload_n 1, 1) := by decide +kernel
theorem dX6_areTunesRight_64 : decode cX6_areTunesRight 64 = .ok (.iconst 1, 1) := by decide +kernel
theorem dX6_areTunesRight_65 : decode cX6_areTunesRight 65 = .ok (.invokevirtual 15, 3) := by decide +kernel
theorem dX6_areTunesRight_68 : decode cX6_areTunesRight 68 = .ok (.if_icmp .eq 5, 3) := by decide +kernel
theorem dX6_areTunesRight_71 : decode cX6_areTunesRight 71 = .ok (.iconst 0, 1) := by decide +kernel
theorem dX6_areTunesRight_72 : decode cX6_areTunesRight 72 = .ok (.ireturn, 1) := by decide +kernel
theorem dX6_areTunesRight_73 : decode cX6_areTunesRight 73 = .ok (.iinc 1 1, 3) := by decide +kernel
theorem dX6_areTunesRight_76 : decode cX6_areTunesRight 76 = .ok (.goto (-74), 3) := by decide +kernel
theorem dX6_areTunesRight_79 : decode cX6_areTunesRight 79 = .ok (.iconst 1, 1) := by decide +kernel
theorem dX6_areTunesRight_80 : decode cX6_areTunesRight 80 = .ok (.ireturn, 1) := by decide +kernel
theorem dX6_areAccountsRight_0 : decode cX6_areAccountsRight 0 = .ok (.iconst 0, 1) := by decide +kernel
theorem dX6_areAccountsRight_1 : decode cX6_areAccountsRight 1 = .ok (.istore_n 1, 1) := by decide +kernel
theorem dX6_areAccountsRight_2 : decode cX6_areAccountsRight 2 = .ok (.iconst 0, 1) := by decide +kernel
theorem dX6_areAccountsRight_3 : decode cX6_areAccountsRight 3 = .ok (.istore_n 2, 1) := by decide +kernel
theorem dX6_areAccountsRight_4 : decode cX6_areAccountsRight 4 = .ok (.iload_n 2, 1) := by decide +kernel
theorem dX6_areAccountsRight_5 : decode cX6_areAccountsRight 5 = .ok (.aload_n 0, 1) := by decide +kernel
theorem dX6_areAccountsRight_6 : decode cX6_areAccountsRight 6 = .ok (.getfield 73, 3) := by decide +kernel
theorem dX6_areAccountsRight_9 : decode cX6_areAccountsRight 9 = .ok (.if_icmp .ge 22, 3) := by decide +kernel
theorem dX6_areAccountsRight_12 : decode cX6_areAccountsRight 12 = .ok (.iload_n 1, 1) := by decide +kernel
theorem dX6_areAccountsRight_13 : decode cX6_areAccountsRight 13 = .ok (.aload_n 0, 1) := by decide +kernel
theorem dX6_areAccountsRight_14 : decode cX6_areAccountsRight 14 = .ok (.getfield 36, 3) := by decide +kernel
theorem dX6_areAccountsRight_17 : decode cX6_areAccountsRight 17 = .ok (.iload_n 2, 1) := by decide +kernel
theorem dX6_areAccountsRight_18 : decode cX6_areAccountsRight 18 = .ok (.bipush 6, 2) := by decide +kernel
theorem dX6_areAccountsRight_20 : decode cX6_areAccountsRight 20 = .ok (.invokevirtual 15, 3) := by decide +kernel
theorem dX6_areAccountsRight_23 : decode cX6_areAccountsRight 23 = .ok (.iadd, 1) := by decide +kernel
theorem dX6_areAccountsRight_24 : decode cX6_areAccountsRight 24 = .ok (.istore_n 1, 1) := by decide +kernel
theorem dX6_areAccountsRight_25 : decode cX6_areAccountsRight 25 = .ok (.iinc 2 1, 3) := by decide +kernel
theorem dX6_areAccountsRight_28 : decode cX6_areAccountsRight 28 = .ok (.goto (-24), 3) := by decide +kernel
theorem dX6_areAccountsRight_31 : decode cX6_areAccountsRight 31 = .ok (.iconst 0, 1) := by decide +kernel
theorem dX6_areAccountsRight_32 : decode cX6_areAccountsRight 32 = .ok (.istore_n 2, 1) := by decide +kernel
theorem dX6_areAccountsRight_33 : decode cX6_areAccountsRight 33 = .ok (.iconst 0, 1) := by decide +kernel
theorem dX6_areAccountsRight_34 : decode cX6_areAccountsRight 34 = .ok (.istore_n 3, 1) := by decide +kernel
theorem dX6_areAccountsRight_35 : decode cX6_areAccountsRight 35 = .ok (.iload_n 3, 1) := by decide +kernel
theorem dX6_areAccountsRight_36 : decode cX6_areAccountsRight 36 = .ok (.aload_n 0, 1) := by decide +kernel
theorem dX6_areAccountsRight_37 : decode cX6_areAccountsRight 37 = .ok (.getfield 88, 3) := by decide +kernel
theorem dX6_areAccountsRight_40 : decode cX6_areAccountsRight 40 = .ok (.if_icmp .ge 22, 3) := by decide +kernel
theorem dX6_areAccountsRight_43 : decode cX6_areAccountsRight 43 = .ok (.iload_n 2, 1) := by decide +kernel
theorem dX6_areAccountsRight_44 : decode cX6_areAccountsRight 44 = .ok (.aload_n 0, 1) := by decide +kernel
theorem dX6_areAccountsRight_45 : decode cX6_areAccountsRight 45 = .ok (.getfield 9, 3) := by decide +kernel
theorem dX6_areAccountsRight_48 : decode cX6_areAccountsRight 48 = .ok (.iload_n 3, 1) := by decide +kernel
theorem dX6_areAccountsRight_49 : decode cX6_areAccountsRight 49 = .ok (.bipush 11, 2) := by decide +kernel
theorem dX6_areAccountsRight_51 : decode cX6_areAccountsRight 51 = .ok (.invokevirtual 15, 3) := by decide +kernel
theorem dX6_areAccountsRight_54 : decode cX6_areAccountsRight 54 = .ok (.iadd, 1) := by decide +kernel
theorem dX6_areAccountsRight_55 : decode cX6_areAccountsRight 55 = .ok (.istore_n 2, 1) := by decide +kernel
theorem dX6_areAccountsRight_56 : decode cX6_areAccountsRight 56 = .ok (.iinc 3 1, 3) := by decide +kernel
theorem dX6_areAccountsRight_59 : decode cX6_areAccountsRight 59 = .ok (.goto (-24), 3) := by decide +kernel
theorem dX6_areAccountsRight_62 : decode cX6_areAccountsRight 62 = .ok (.aload_n 0, 1) := by decide +kernel
theorem dX6_areAccountsRight_63 : decode cX6_areAccountsRight 63 = .ok (.getfield 91, 3) := by decide +kernel
theorem dX6_areAccountsRight_66 : decode cX6_areAccountsRight 66 = .ok (.iconst 0, 1) := by decide +kernel
theorem dX6_areAccountsRight_67 : decode cX6_areAccountsRight 67 = .ok (.iconst 1, 1) := by decide +kernel
theorem dX6_areAccountsRight_68 : decode cX6_areAccountsRight 68 = .ok (.invokevirtual 15, 3) := by decide +kernel
theorem dX6_areAccountsRight_71 : decode cX6_areAccountsRight 71 = .ok (.aload_n 0, 1) := by decide +kernel
theorem dX6_areAccountsRight_72 : decode cX6_areAccountsRight 72 = .ok (.getfield 88, 3) := by decide +kernel
theorem dX6_areAccountsRight_75 : decode cX6_areAccountsRight 75 = .ok (.if_icmp .ne 96, 3) := by decide +kernel
theorem dX6_areAccountsRight_78 : decode cX6_areAccountsRight 78 = .ok (.aload_n 0, 1) := by decide +kernel
theorem dX6_areAccountsRight_79 : decode cX6_areAccountsRight 79 = .ok (.getfield 91, 3) := by decide +kernel
theorem dX6_areAccountsRight_82 : decode cX6_areAccountsRight 82 = .ok (.iconst 0, 1) := by decide +kernel
theorem dX6_areAccountsRight_83 : decode cX6_areAccountsRight 83 = .ok (.iconst 5, 1) := by decide +kernel
theorem dX6_areAccountsRight_84 : decode cX6_areAccountsRight 84 = .ok (.invokevirtual 15, 3) := by decide +kernel
theorem dX6_areAccountsRight_87 : decode cX6_areAccountsRight 87 = .ok (.aload_n 0, 1) := by decide +kernel
theorem dX6_areAccountsRight_88 : decode cX6_areAccountsRight 88 = .ok (.iconst 2, 1) := by decide +kernel
theorem dX6_areAccountsRight_89 : decode cX6_areAccountsRight 89 = .ok (.invokevirtual 94, 3) := by decide +kernel
theorem dX6_areAccountsRight_92 : decode cX6_areAccountsRight 92 = .ok (.if_icmp .ne 79, 3) := by decide +kernel
theorem dX6_areAccountsRight_95 : decode cX6_areAccountsRight 95 = .ok (.aload_n 0, 1) := by decide +kernel
theorem dX6_areAccountsRight_96 : decode cX6_areAccountsRight 96 = .ok (.getfield 91, 3) := by decide +kernel
theorem dX6_areAccountsRight_99 : decode cX6_areAccountsRight 99 = .ok (.iconst 0, 1) := by decide +kernel
theorem dX6_areAccountsRight_100 : decode cX6_areAccountsRight 100 = .ok (.bipush 8, 2) := by decide +kernel
theorem dX6_areAccountsRight_102 : decode cX6_areAccountsRight 102 = .ok (.invokevirtual 15, 3) := by decide +kernel
theorem dX6_areAccountsRight_105 : decode cX6_areAccountsRight 105 = .ok (.aload_n 0, 1) := by decide +kernel
theorem dX6_areAccountsRight_106 : decode cX6_areAccountsRight 106 = .ok (.iconst 3, 1) := by decide +kernel
theorem dX6_areAccountsRight_107 : decode cX6_areAccountsRight 107 = .ok (.invokevirtual 94, 3) := by decide +kernel
theorem dX6_areAccountsRight_110 : decode cX6_areAccountsRight 110 = .ok (.if_icmp .ne 61, 3) := by decide +kernel
theorem dX6_areAccountsRight_113 : decode cX6_areAccountsRight 113 = .ok (.aload_n 0, 1) := by decide +kernel
theorem dX6_areAccountsRight_114 : decode cX6_areAccountsRight 114 = .ok (.invokevirtual 97, 3) := by decide +kernel
theorem dX6_areAccountsRight_117 : decode cX6_areAccountsRight 117 = .ok (.iload_n 1, 1) := by decide +kernel
theorem dX6_areAccountsRight_118 : decode cX6_areAccountsRight 118 = .ok (.aload_n 0, 1) := by decide +kernel
theorem dX6_areAccountsRight_119 : decode cX6_areAccountsRight 119 = .ok (.getfield 91, 3) := by decide +kernel
theorem dX6_areAccountsRight_122 : decode cX6_areAccountsRight 122 = .ok (.iconst 0, 1) := by decide +kernel
theorem dX6_areAccountsRight_123 : decode cX6_areAccountsRight 123 = .ok (.bipush 10, 2) := by decide +kernel
theorem dX6_areAccountsRight_125 : decode cX6_areAccountsRight 125 = .ok (.invokevirtual 15, 3) := by decide +kernel
theorem dX6_areAccountsRight_128 : decode cX6_areAccountsRight 128 = .ok (.iadd, 1) := by decide +kernel
theorem dX6_areAccountsRight_129 : decode cX6_areAccountsRight 129 = .ok (.if_icmp .ne 42, 3) := by decide +kernel
theorem dX6_areAccountsRight_132 : decode cX6_areAccountsRight 132 = .ok (.aload_n 0, 1) := by decide +kernel
theorem dX6_areAccountsRight_133 : decode cX6_areAccountsRight 133 = .ok (.getfield 91, 3) := by decide +kernel
theorem dX6_areAccountsRight_136 : decode cX6_areAccountsRight 136 = .ok (.iconst 0, 1) := by decide +kernel
theorem dX6_areAccountsRight_137 : decode cX6_areAccountsRight 137 = .ok (.iconst 3, 1) := by decide +kernel
theorem dX6_areAccountsRight_138 : decode cX6_areAccountsRight 138 = .ok (.invokevirtual 15, 3) := by decide +kernel
theorem dX6_areAccountsRight_141 : decode cX6_areAccountsRight 141 = .ok (.iload_n 2, 1) := by decide +kernel
theorem dX6_areAccountsRight_142 : decode cX6_areAccountsRight 142 = .ok (.if_icmp .ne 29, 3) := by decide +kernel
theorem dX6_areAccountsRight_145 : decode cX6_areAccountsRight 145 = .ok (.aload_n 0, 1) := by decide +kernel
theorem dX6_areAccountsRight_146 : decode cX6_areAccountsRight 146 = .ok (.getfield 91, 3) := by decide +kernel
theorem dX6_areAccountsRight_149 : decode cX6_areAccountsRight 149 = .ok (.iconst 0, 1) := by decide +kernel
theorem dX6_areAccountsRight_150 : decode cX6_areAccountsRight 150 = .ok (.bipush 6, 2) := by decide +kernel
theorem dX6_areAccountsRight_152 : decode cX6_areAccountsRight 152 = .ok (.invokevirtual 15, 3) := by decide +kernel
theorem dX6_areAccountsRight_155 : decode cX6_areAccountsRight 155 = .ok (.aload_n 0, 1) := by decide +kernel
theorem dX6_areAccountsRight_156 : decode cX6_areAccountsRight 156 = .ok (.getfield 91, 3) := by decide +kernel
theorem dX6_areAccountsRight_159 : decode cX6_areAccountsRight 159 = .ok (.iconst 0, 1) := by decide +kernel
theorem dX6_areAccountsRight_160 : decode cX6_areAccountsRight 160 = .ok (.iconst 5, 1) := by decide +kernel
theorem dX6_areAccountsRight_161 : decode cX6_areAccountsRight 161 = .ok (.invokevirtual 15, 3) := by decide +kernel
theorem dX6_areAccountsRight_164 : decode cX6_areAccountsRight 164 = .ok (.if_icmp .gt 7, 3) := by decide +kernel
theorem dX6_areAccountsRight_167 : decode cX6_areAccountsRight 167 = .ok (.iconst 1, 1) := by decide +kernel
theorem dX6_areAccountsRight_168 : decode cX6_areAccountsRight 168 = .ok (.goto 4, 3) := by decide +kernel
theorem dX6_areAccountsRight_171 : decode cX6_areAccountsRight 171 = .ok (.iconst 0, 1) := by decide +kernel
theorem dX6_areAccountsRight_172 : decode cX6_areAccountsRight 172 = .ok (.ireturn, 1) := by decide +kernel
theorem dX7_init_0 : decode cX7_init 0 = .ok (.aload_n 0, 1) := by decide +kernel
theorem dX7_init_1 : decode cX7_init 1 = .ok (.invokespecial 3, 3) := by decide +kernel
theorem dX7_init_4 : decode cX7_init 4 = .ok (.iload_n 1, 1) := by decide +kernel
theorem dX7_init_5 : decode cX7_init 5 = .ok (.ifCond .le 23, 3) := by decide +kernel
theorem dX7_init_8 : decode cX7_init 8 = .ok (.iload_n 1, 1) := by decide +kernel
theorem dX7_init_9 : decode cX7_init 9 = .ok (.bipush 64, 2) := by decide +kernel
theorem dX7_init_11 : decode cX7_init 11 = .ok (.if_icmp .gt 17, 3) := by decide +kernel
theorem dX7_init_14 : decode cX7_init 14 = .ok (.iload_n 2, 1) := by decide +kernel
theorem dX7_init_15 : decode cX7_init 15 = .ok (.ifCond .le 13, 3) := by decide +kernel
theorem dX7_init_18 : decode cX7_init 18 = .ok (.iload_n 2, 1) := by decide +kernel
theorem dX7_init_19 : decode cX7_init 19 = .ok (.bipush 64, 2) := by decide +kernel
theorem dX7_init_21 : decode cX7_init 21 = .ok (.if_icmp .gt 7, 3) := by decide +kernel
theorem dX7_init_24 : decode cX7_init 24 = .ok (.iconst 1, 1) := by decide +kernel
theorem dX7_init_25 : decode cX7_init 25 = .ok (.goto 4, 3) := by decide +kernel
theorem dX7_init_28 : decode cX7_init 28 = .ok (.iconst 0, 1) := by decide +kernel
theorem dX7_init_29 : decode cX7_init 29 = .ok (.istore_n 3, 1) := by decide +kernel
theorem dX7_init_30 : decode cX7_init 30 = .ok (.aload_n 0, 1) := by decide +kernel
theorem dX7_init_31 : decode cX7_init 31 = .ok (.iload_n 3, 1) := by decide +kernel
theorem dX7_init_32 : decode cX7_init 32 = .ok (.ifCond .eq 7, 3) := by decide +kernel
theorem dX7_init_35 : decode cX7_init 35 = .ok (.iload_n 1, 1) := by decide +kernel
theorem dX7_init_36 : decode cX7_init 36 = .ok (.goto 4, 3) := by decide +kernel
theorem dX7_init_39 : decode cX7_init 39 = .ok (.iconst 0, 1) := by decide +kernel
theorem dX7_init_40 : decode cX7_init 40 = .ok (.putfield 11, 3) := by decide +kernel
theorem dX7_init_43 : decode cX7_init 43 = .ok (.aload_n 0, 1) := by decide +kernel
theorem dX7_init_44 : decode cX7_init 44 = .ok (.iload_n 3, 1) := by decide +kernel
theorem dX7_init_45 : decode cX7_init 45 = .ok (.ifCond .eq 7, 3) := by decide +kernel
theorem dX7_init_48 : decode cX7_init 48 = .ok (.iload_n 2, 1) := by decide +kernel
theorem dX7_init_49 : decode cX7_init 49 = .ok (.goto 4, 3) := by decide +kernel
theorem dX7_init_52 : decode cX7_init 52 = .ok (.iconst 0, 1) := by decide +kernel
theorem dX7_init_53 : decode cX7_init 53 = .ok (.putfield 15, 3) := by decide +kernel
theorem dX7_init_56 : decode cX7_init 56 = .ok (.aload_n 0, 1) := by decide +kernel
theorem dX7_init_57 : decode cX7_init 57 = .ok (.iload_n 3, 1) := by decide +kernel
theorem dX7_init_58 : decode cX7_init 58 = .ok (.ifCond .eq 11, 3) := by decide +kernel
theorem dX7_init_61 : decode cX7_init 61 = .ok (.iload_n 1, 1) := by decide +kernel
theorem dX7_init_62 : decode cX7_init 62 = .ok (.iload_n 2, 1) := by decide +kernel
theorem dX7_init_63 : decode cX7_init 63 = .ok (.imul, 1) := by decide +kernel
theorem dX7_init_64 : decode cX7_init 64 = .ok (.newarray .int, 2) := by decide +kernel
theorem dX7_init_66 : decode cX7_init 66 = .ok (.goto 6, 3) := by decide +kernel
theorem dX7_init_69 : decode cX7_init 69 = .ok (.iconst 0, 1) := by decide +kernel
theorem dX7_init_70 : decode cX7_init 70 = .ok (.newarray .int, 2) := by decide +kernel
theorem dX7_init_72 : decode cX7_init 72 = .ok (.putfield 18, 3) := by decide +kernel
theorem dX7_init_75 : decode cX7_init 75 = .ok (.return_, 1) := by decide +kernel
theorem dX7_get_0 : decode cX7_get 0 = .ok (.iload_n 1, 1) := by decide +kernel
theorem dX7_get_1 : decode cX7_get 1 = .ok (.ifCond .lt 23, 3) := by decide +kernel
theorem dX7_get_4 : decode cX7_get 4 = .ok (.iload_n 1, 1) := by decide +kernel
theorem dX7_get_5 : decode cX7_get 5 = .ok (.aload_n 0, 1) := by decide +kernel
theorem dX7_get_6 : decode cX7_get 6 = .ok (.getfield 11, 3) := by decide +kernel
theorem dX7_get_9 : decode cX7_get 9 = .ok (.if_icmp .ge 15, 3) := by decide +kernel
theorem dX7_get_12 : decode cX7_get 12 = .ok (.iload_n 2, 1) := by decide +kernel
theorem dX7_get_13 : decode cX7_get 13 = .ok (.ifCond .lt 11, 3) := by decide +kernel
theorem dX7_get_16 : decode cX7_get 16 = .ok (.iload_n 2, 1) := by decide +kernel
theorem dX7_get_17 : decode cX7_get 17 = .ok (.aload_n 0, 1) := by decide +kernel
theorem dX7_get_18 : decode cX7_get 18 = .ok (.getfield 15, 3) := by decide +kernel
theorem dX7_get_21 : decode cX7_get 21 = .ok (.if_icmp .lt 5, 3) := by decide +kernel
theorem dX7_get_24 : decode cX7_get 24 = .ok (.iconst (-1), 1) := by decide +kernel
theorem dX7_get_25 : decode cX7_get 25 = .ok (.ireturn, 1) := by decide +kernel
theorem dX7_get_26 : decode cX7_get 26 = .ok (.iload_n 1, 1) := by decide +kernel
theorem dX7_get_27 : decode cX7_get 27 = .ok (.aload_n 0, 1) := by decide +kernel
theorem dX7_get_28 : decode cX7_get 28 = .ok (.getfield 15, 3) := by decide +kernel
theorem dX7_get_31 : decode cX7_get 31 = .ok (.imul, 1) := by decide +kernel
theorem dX7_get_32 : decode cX7_get 32 = .ok (.iload_n 2, 1) := by decide +kernel
theorem dX7_get_33 : decode cX7_get 33 = .ok (.iadd, 1) := by decide +kernel
theorem dX7_get_34 : decode cX7_get 34 = .ok (.istore_n 3, 1) := by decide +kernel
theorem dX7_get_35 : decode cX7_get 35 = .ok (.iload_n 3, 1) := by decide +kernel
theorem dX7_get_36 : decode cX7_get 36 = .ok (.aload_n 0, 1) := by decide +kernel
theorem dX7_get_37 : decode cX7_get 37 = .ok (.getfield 18, 3) := by decide +kernel
theorem dX7_get_40 : decode cX7_get 40 = .ok (.arraylength, 1) := by decide +kernel
theorem dX7_get_41 : decode cX7_get 41 = .ok (.if_icmp .ge 12, 3) := by decide +kernel
theorem dX7_get_44 : decode cX7_get 44 = .ok (.aload_n 0, 1) := by decide +kernel
theorem dX7_get_45 : decode cX7_get 45 = .ok (.getfield 18, 3) := by decide +kernel
theorem dX7_get_48 : decode cX7_get 48 = .ok (.iload_n 3, 1) := by decide +kernel
theorem dX7_get_49 : decode cX7_get 49 = .ok (.iaload, 1) := by decide +kernel
theorem dX7_get_50 : decode cX7_get 50 = .ok (.goto 4, 3) := by decide +kernel
theorem dX7_get_53 : decode cX7_get 53 = .ok (.iconst (-1), 1) := by decide +kernel
theorem dX7_get_54 : decode cX7_get 54 = .ok (.ireturn, 1) := by decide +kernel
theorem dX7_put_0 : decode cX7_put 0 = .ok (.iload_n 1, 1) := by decide +kernel
theorem dX7_put_1 : decode cX7_put 1 = .ok (.ifCond .lt 23, 3) := by decide +kernel
theorem dX7_put_4 : decode cX7_put 4 = .ok (.iload_n 1, 1) := by decide +kernel
theorem dX7_put_5 : decode cX7_put 5 = .ok (.aload_n 0, 1) := by decide +kernel
theorem dX7_put_6 : decode cX7_put 6 = .ok (.getfield 11, 3) := by decide +kernel
theorem dX7_put_9 : decode cX7_put 9 = .ok (.if_icmp .ge 15, 3) := by decide +kernel
theorem dX7_put_12 : decode cX7_put 12 = .ok (.iload_n 2, 1) := by decide +kernel
theorem dX7_put_13 : decode cX7_put 13 = .ok (.ifCond .lt 11, 3) := by decide +kernel
theorem dX7_put_16 : decode cX7_put 16 = .ok (.iload_n 2, 1) := by decide +kernel
theorem dX7_put_17 : decode cX7_put 17 = .ok (.aload_n 0, 1) := by decide +kernel
theorem dX7_put_18 : decode cX7_put 18 = .ok (.getfield 15, 3) := by decide +kernel
theorem dX7_put_21 : decode cX7_put 21 = .ok (.if_icmp .lt 4, 3) := by decide +kernel
theorem dX7_put_24 : decode cX7_put 24 = .ok (.return_, 1) := by decide +kernel
theorem dX7_put_25 : decode cX7_put 25 = .ok (.iload_n 1, 1) := by decide +kernel
theorem dX7_put_26 : decode cX7_put 26 = .ok (.aload_n 0, 1) := by decide +kernel
theorem dX7_put_27 : decode cX7_put 27 = .ok (.getfield 15, 3) := by decide +kernel
theorem dX7_put_30 : decode cX7_put 30 = .ok (.imul, 1) := by decide +kernel
theorem dX7_put_31 : decode cX7_put 31 = .ok (.iload_n 2, 1) := by decide +kernel
theorem dX7_put_32 : decode cX7_put 32 = .ok (.iadd, 1) := by decide +kernel
theorem dX7_put_33 : decode cX7_put 33 = .ok (.istore 4, 2) := by decide +kernel
theorem dX7_put_35 : decode cX7_put 35 = .ok (.iload 4, 2) := by decide +kernel
theorem dX7_put_37 : decode cX7_put 37 = .ok (.aload_n 0, 1) := by decide +kernel
theorem dX7_put_38 : decode cX7_put 38 = .ok (.getfield 18, 3) := by decide +kernel
theorem dX7_put_41 : decode cX7_put 41 = .ok (.arraylength, 1) := by decide +kernel
theorem dX7_put_42 : decode cX7_put 42 = .ok (.if_icmp .ge 11, 3) := by decide +kernel
theorem dX7_put_45 : decode cX7_put 45 = .ok (.aload_n 0, 1) := by decide +kernel
theorem dX7_put_46 : decode cX7_put 46 = .ok (.getfield 18, 3) := by decide +kernel
theorem dX7_put_49 : decode cX7_put 49 = .ok (.iload 4, 2) := by decide +kernel
theorem dX7_put_51 : decode cX7_put 51 = .ok (.iload_n 3, 1) := by decide +kernel
theorem dX7_put_52 : decode cX7_put 52 = .ok (.iastore, 1) := by decide +kernel
theorem dX7_put_53 : decode cX7_put 53 = .ok (.return_, 1) := by decide +kernel
theorem dX7_grow_0 : decode cX7_grow 0 = .ok (.iload_n 1, 1) := by decide +kernel
theorem dX7_grow_1 : decode cX7_grow 1 = .ok (.ifCond .lt 23, 3) := by decide +kernel
theorem dX7_grow_4 : decode cX7_grow 4 = .ok (.iload_n 1, 1) := by decide +kernel
theorem dX7_grow_5 : decode cX7_grow 5 = .ok (.aload_n 0, 1) := by decide +kernel
theorem dX7_grow_6 : decode cX7_grow 6 = .ok (.getfield 11, 3) := by decide +kernel
theorem dX7_grow_9 : decode cX7_grow 9 = .ok (.if_icmp .ge 15, 3) := by decide +kernel
theorem dX7_grow_12 : decode cX7_grow 12 = .ok (.iload_n 2, 1) := by decide +kernel
theorem dX7_grow_13 : decode cX7_grow 13 = .ok (.ifCond .lt 11, 3) := by decide +kernel
theorem dX7_grow_16 : decode cX7_grow 16 = .ok (.iload_n 2, 1) := by decide +kernel
theorem dX7_grow_17 : decode cX7_grow 17 = .ok (.aload_n 0, 1) := by decide +kernel
theorem dX7_grow_18 : decode cX7_grow 18 = .ok (.getfield 15, 3) := by decide +kernel
theorem dX7_grow_21 : decode cX7_grow 21 = .ok (.if_icmp .lt 4, 3) := by decide +kernel
theorem dX7_grow_24 : decode cX7_grow 24 = .ok (.return_, 1) := by decide +kernel
theorem dX7_grow_25 : decode cX7_grow 25 = .ok (.iload_n 1, 1) := by decide +kernel
theorem dX7_grow_26 : decode cX7_grow 26 = .ok (.aload_n 0, 1) := by decide +kernel
theorem dX7_grow_27 : decode cX7_grow 27 = .ok (.getfield 15, 3) := by decide +kernel
theorem dX7_grow_30 : decode cX7_grow 30 = .ok (.imul, 1) := by decide +kernel
theorem dX7_grow_31 : decode cX7_grow 31 = .ok (.iload_n 2, 1) := by decide +kernel
theorem dX7_grow_32 : decode cX7_grow 32 = .ok (.iadd, 1) := by decide +kernel
theorem dX7_grow_33 : decode cX7_grow 33 = .ok (.istore 4, 2) := by decide +kernel
theorem dX7_grow_35 : decode cX7_grow 35 = .ok (.iload 4, 2) := by decide +kernel
theorem dX7_grow_37 : decode cX7_grow 37 = .ok (.aload_n 0, 1) := by decide +kernel
theorem dX7_grow_38 : decode cX7_grow 38 = .ok (.getfield 18, 3) := by decide +kernel
theorem dX7_grow_41 : decode cX7_grow 41 = .ok (.arraylength, 1) := by decide +kernel
theorem dX7_grow_42 : decode cX7_grow 42 = .ok (.if_icmp .ge 14, 3) := by decide +kernel
theorem dX7_grow_45 : decode cX7_grow 45 = .ok (.aload_n 0, 1) := by decide +kernel
theorem dX7_grow_46 : decode cX7_grow 46 = .ok (.getfield 18, 3) := by decide +kernel
theorem dX7_grow_49 : decode cX7_grow 49 = .ok (.iload 4, 2) := by decide +kernel
theorem dX7_grow_51 : decode cX7_grow 51 = .ok (.dup2, 1) := by decide +kernel
theorem dX7_grow_52 : decode cX7_grow 52 = .ok (.iaload, 1) := by decide +kernel
theorem dX7_grow_53 : decode cX7_grow 53 = .ok (.iload_n 3, 1) := by decide +kernel
theorem dX7_grow_54 : decode cX7_grow 54 = .ok (.iadd, 1) := by decide +kernel
theorem dX7_grow_55 : decode cX7_grow 55 = .ok (.iastore, 1) := by decide +kernel
theorem dX7_grow_56 : decode cX7_grow 56 = .ok (.return_, 1) := by decide +kernel
theorem dX7_clearTo_0 : decode cX7_clearTo 0 = .ok (.iconst 0, 1) := by decide +kernel
theorem dX7_clearTo_1 : decode cX7_clearTo 1 = .ok (.istore_n 2, 1) := by decide +kernel
theorem dX7_clearTo_2 : decode cX7_clearTo 2 = .ok (.iload_n 2, 1) := by decide +kernel
theorem dX7_clearTo_3 : decode cX7_clearTo 3 = .ok (.aload_n 0, 1) := by decide +kernel
theorem dX7_clearTo_4 : decode cX7_clearTo 4 = .ok (.getfield 18, 3) := by decide +kernel
theorem dX7_clearTo_7 : decode cX7_clearTo 7 = .ok (.arraylength, 1) := by decide +kernel
theorem dX7_clearTo_8 : decode cX7_clearTo 8 = .ok (.if_icmp .ge 16, 3) := by decide +kernel
theorem dX7_clearTo_11 : decode cX7_clearTo 11 = .ok (.aload_n 0, 1) := by decide +kernel
theorem dX7_clearTo_12 : decode cX7_clearTo 12 = .ok (.getfield 18, 3) := by decide +kernel
theorem dX7_clearTo_15 : decode cX7_clearTo 15 = .ok (.iload_n 2, 1) := by decide +kernel
theorem dX7_clearTo_16 : decode cX7_clearTo 16 = .ok (.iload_n 1, 1) := by decide +kernel
theorem dX7_clearTo_17 : decode cX7_clearTo 17 = .ok (.iastore, 1) := by decide +kernel
theorem dX7_clearTo_18 : decode cX7_clearTo 18 = .ok (.iinc 2 1, 3) := by decide +kernel
theorem dX7_clearTo_21 : decode cX7_clearTo 21 = .ok (.goto (-19), 3) := by decide +kernel
theorem dX7_clearTo_24 : decode cX7_clearTo 24 = .ok (.return_, 1) := by decide +kernel
theorem dX7_copyFrom_0 : decode cX7_copyFrom 0 = .ok (.aload_n 1, 1) := by decide +kernel
theorem dX7_copyFrom_1 : decode cX7_copyFrom 1 = .ok (.getfield 18, 3) := by decide +kernel
theorem dX7_copyFrom_4 : decode cX7_copyFrom 4 = .ok (.iconst 0, 1) := by decide +kernel
theorem dX7_copyFrom_5 : decode cX7_copyFrom 5 = .ok (.aload_n 0, 1) := by decide +kernel
theorem dX7_copyFrom_6 : decode cX7_copyFrom 6 = .ok (.getfield 18, 3) := by decide +kernel
theorem dX7_copyFrom_9 : decode cX7_copyFrom 9 = .ok (.iconst 0, 1) := by decide +kernel
theorem dX7_copyFrom_10 : decode cX7_copyFrom 10 = .ok (.aload_n 0, 1) := by decide +kernel
theorem dX7_copyFrom_11 : decode cX7_copyFrom 11 = .ok (.getfield 18, 3) := by decide +kernel
theorem dX7_copyFrom_14 : decode cX7_copyFrom 14 = .ok (.arraylength, 1) := by decide +kernel
theorem dX7_copyFrom_15 : decode cX7_copyFrom 15 = .ok (.aload_n 1, 1) := by decide +kernel
theorem dX7_copyFrom_16 : decode cX7_copyFrom 16 = .ok (.getfield 18, 3) := by decide +kernel
theorem dX7_copyFrom_19 : decode cX7_copyFrom 19 = .ok (.arraylength, 1) := by decide +kernel
theorem dX7_copyFrom_20 : decode cX7_copyFrom 20 = .ok (.invokestatic 22, 3) := by decide +kernel
theorem dX7_copyFrom_23 : decode cX7_copyFrom 23 = .ok (.invokestatic 28, 3) := by decide +kernel
theorem dX7_copyFrom_26 : decode cX7_copyFrom 26 = .ok (.return_, 1) := by decide +kernel
theorem dX7_removeRow_0 : decode cX7_removeRow 0 = .ok (.iload_n 1, 1) := by decide +kernel
theorem dX7_removeRow_1 : decode cX7_removeRow 1 = .ok (.iconst 1, 1) := by decide +kernel
theorem dX7_removeRow_2 : decode cX7_removeRow 2 = .ok (.iadd, 1) := by decide +kernel
theorem dX7_removeRow_3 : decode cX7_removeRow 3 = .ok (.istore_n 2, 1) := by decide +kernel
theorem dX7_removeRow_4 : decode cX7_removeRow 4 = .ok (.iload_n 2, 1) := by decide +kernel
theorem dX7_removeRow_5 : decode cX7_removeRow 5 = .ok (.aload_n 0, 1) := by decide +kernel
theorem dX7_removeRow_6 : decode cX7_removeRow 6 = .ok (.getfield 11, 3) := by decide +kernel
theorem dX7_removeRow_9 : decode cX7_removeRow 9 = .ok (.if_icmp .ge 39, 3) := by decide +kernel
theorem dX7_removeRow_12 : decode cX7_removeRow 12 = .ok (.iconst 0, 1) := by decide +kernel
theorem dX7_removeRow_13 : decode cX7_removeRow 13 = .ok (.istore_n 3, 1) := by decide +kernel
theorem dX7_removeRow_14 : decode cX7_removeRow 14 = .ok (.iload_n 3, 1) := by decide +kernel
theorem dX7_removeRow_15 : decode cX7_removeRow 15 = .ok (.aload_n 0, 1) := by decide +kernel
theorem dX7_removeRow_16 : decode cX7_removeRow 16 = .ok (.getfield 15, 3) := by decide +kernel
theorem dX7_removeRow_19 : decode cX7_removeRow 19 = .ok (.if_icmp .ge 23, 3) := by decide +kernel
theorem dX7_removeRow_22 : decode cX7_removeRow 22 = .ok (.aload_n 0, 1) := by decide +kernel
theorem dX7_removeRow_23 : decode cX7_removeRow 23 = .ok (.iload_n 2, 1) := by decide +kernel
theorem dX7_removeRow_24 : decode cX7_removeRow 24 = .ok (.iconst 1, 1) := by decide +kernel
theorem dX7_removeRow_25 : decode cX7_removeRow 25 = .ok (.isub, 1) := by decide +kernel
theorem dX7_removeRow_26 : decode cX7_removeRow 26 = .ok (.iload_n 3, 1) := by decide +kernel
theorem dX7_removeRow_27 : decode cX7_removeRow 27 = .ok (.aload_n 0, 1) := by decide +kernel
theorem dX7_removeRow_28 : decode cX7_removeRow 28 = .ok (.iload_n 2, 1) := by decide +kernel
theorem dX7_removeRow_29 : decode cX7_removeRow 29 = .ok (.iload_n 3, 1) := by decide +kernel
theorem dX7_removeRow_30 : decode cX7_removeRow 30 = .ok (.invokevirtual 34, 3) := by decide +kernel
theorem dX7_removeRow_33 : decode cX7_removeRow 33 = .ok (.invokevirtual 37, 3) := by decide +kernel
theorem dX7_removeRow_36 : decode cX7_removeRow 36 = .ok (.iinc 3 1, 3) := by decide +kernel
theorem dX7_removeRow_39 : decode cX7_removeRow 39 = .ok (.goto (-25), 3) := by decide +kernel
theorem dX7_removeRow_42 : decode cX7_removeRow 42 = .ok (.iinc 2 1, 3) := by decide +kernel
theorem dX7_removeRow_45 : decode cX7_removeRow 45 = .ok (.goto (-41), 3) := by decide +kernel
theorem dX7_removeRow_48 : decode cX7_removeRow 48 = .ok (.return_, 1) := by decide +kernel
theorem dX8_run_0 : decode cX8_run 0 = .ok (.iconst 0, 1) := by decide +kernel
theorem dX8_run_1 : decode cX8_run 1 = .ok (.istore_n 2, 1) := by decide +kernel
theorem dX8_run_2 : decode cX8_run 2 = .ok (.iload_n 2, 1) := by decide +kernel
theorem dX8_run_3 : decode cX8_run 3 = .ok (.iload_n 1, 1) := by decide +kernel
theorem dX8_run_4 : decode cX8_run 4 = .ok (.if_icmp .ge 53, 3) := by decide +kernel
theorem dX8_run_7 : decode cX8_run 7 = .ok (.aload_n 0, 1) := by decide +kernel
theorem dX8_run_8 : decode cX8_run 8 = .ok (.dup, 1) := by decide +kernel
theorem dX8_run_9 : decode cX8_run 9 = .ok (.getfield 9, 3) := by decide +kernel
theorem dX8_run_12 : decode cX8_run 12 = .ok (.iconst 1, 1) := by decide +kernel
theorem dX8_run_13 : decode cX8_run 13 = .ok (.iadd, 1) := by decide +kernel
theorem dX8_run_14 : decode cX8_run 14 = .ok (.putfield 9, 3) := by decide +kernel
theorem dX8_run_17 : decode cX8_run 17 = .ok (.aload_n 0, 1) := by decide +kernel
theorem dX8_run_18 : decode cX8_run 18 = .ok (.iconst 0, 1) := by decide +kernel
theorem dX8_run_19 : decode cX8_run 19 = .ok (.iconst 1, 1) := by decide +kernel
theorem dX8_run_20 : decode cX8_run 20 = .ok (.invokevirtual 15, 3) := by decide +kernel
theorem dX8_run_23 : decode cX8_run 23 = .ok (.aload_n 0, 1) := by decide +kernel
theorem dX8_run_24 : decode cX8_run 24 = .ok (.invokestatic 19, 3) := by decide +kernel
theorem dX8_run_27 : decode cX8_run 27 = .ok (.aload_n 0, 1) := by decide +kernel
theorem dX8_run_28 : decode cX8_run 28 = .ok (.getfield 9, 3) := by decide +kernel
theorem dX8_run_31 : decode cX8_run 31 = .ok (.bipush 60, 2) := by decide +kernel
theorem dX8_run_33 : decode cX8_run 33 = .ok (.irem, 1) := by decide +kernel
theorem dX8_run_34 : decode cX8_run 34 = .ok (.aload_n 0, 1) := by decide +kernel
theorem dX8_run_35 : decode cX8_run 35 = .ok (.bipush 9, 2) := by decide +kernel
theorem dX8_run_37 : decode cX8_run 37 = .ok (.invokevirtual 25, 3) := by decide +kernel
theorem dX8_run_40 : decode cX8_run 40 = .ok (.if_icmp .ge 7, 3) := by decide +kernel
theorem dX8_run_43 : decode cX8_run 43 = .ok (.aload_n 0, 1) := by decide +kernel
theorem dX8_run_44 : decode cX8_run 44 = .ok (.invokestatic 29, 3) := by decide +kernel
theorem dX8_run_47 : decode cX8_run 47 = .ok (.aload_n 0, 1) := by decide +kernel
theorem dX8_run_48 : decode cX8_run 48 = .ok (.invokestatic 32, 3) := by decide +kernel
theorem dX8_run_51 : decode cX8_run 51 = .ok (.iinc 2 1, 3) := by decide +kernel
theorem dX8_run_54 : decode cX8_run 54 = .ok (.goto (-52), 3) := by decide +kernel
theorem dX8_run_57 : decode cX8_run 57 = .ok (.return_, 1) := by decide +kernel
theorem dX8_landAll_0 : decode cX8_landAll 0 = .ok (.aload_n 0, 1) := by decide +kernel
theorem dX8_landAll_1 : decode cX8_landAll 1 = .ok (.getfield 35, 3) := by decide +kernel
theorem dX8_landAll_4 : decode cX8_landAll 4 = .ok (.istore_n 1, 1) := by decide +kernel
theorem dX8_landAll_5 : decode cX8_landAll 5 = .ok (.iconst 0, 1) := by decide +kernel
theorem dX8_landAll_6 : decode cX8_landAll 6 = .ok (.istore_n 2, 1) := by decide +kernel
theorem dX8_landAll_7 : decode cX8_landAll 7 = .ok (.iload_n 2, 1) := by decide +kernel
theorem dX8_landAll_8 : decode cX8_landAll 8 = .ok (.iload_n 1, 1) := by decide +kernel
theorem dX8_landAll_9 : decode cX8_landAll 9 = .ok (.if_icmp .ge 69, 3) := by decide +kernel
theorem dX8_landAll_12 : decode cX8_landAll 12 = .ok (.aload_n 0, 1) := by decide +kernel
theorem dX8_landAll_13 : decode cX8_landAll 13 = .ok (.getfield 38, 3) := by decide +kernel
theorem dX8_landAll_16 : decode cX8_landAll 16 = .ok (.iload_n 2, 1) := by decide +kernel
theorem dX8_landAll_17 : decode cX8_landAll 17 = .ok (.iconst 3, 1) := by decide +kernel
theorem dX8_landAll_18 : decode cX8_landAll 18 = .ok (.invokevirtual 42, 3) := by decide +kernel
theorem dX8_landAll_21 : decode cX8_landAll 21 = .ok (.iconst 1, 1) := by decide +kernel
theorem dX8_landAll_22 : decode cX8_landAll 22 = .ok (.if_icmp .ne 50, 3) := by decide +kernel
theorem dX8_landAll_25 : decode cX8_landAll 25 = .ok (.aload_n 0, 1) := by decide +kernel
theorem dX8_landAll_26 : decode cX8_landAll 26 = .ok (.getfield 38, 3) := by decide +kernel
theorem dX8_landAll_29 : decode cX8_landAll 29 = .ok (.iload_n 2, 1) := by decide +kernel
theorem dX8_landAll_30 : decode cX8_landAll 30 = .ok (.iconst 5, 1) := by decide +kernel
theorem dX8_landAll_31 : decode cX8_landAll 31 = .ok (.invokevirtual 42, 3) := by decide +kernel
theorem dX8_landAll_34 : decode cX8_landAll 34 = .ok (.aload_n 0, 1) := by decide +kernel
theorem dX8_landAll_35 : decode cX8_landAll 35 = .ok (.getfield 9, 3) := by decide +kernel
theorem dX8_landAll_38 : decode cX8_landAll 38 = .ok (.if_icmp .ne 34, 3) := by decide +kernel
theorem dX8_landAll_41 : decode cX8_landAll 41 = .ok (.aload_n 0, 1) := by decide +kernel
theorem dX8_landAll_42 : decode cX8_landAll 42 = .ok (.iload_n 2, 1) := by decide +kernel
theorem dX8_landAll_43 : decode cX8_landAll 43 = .ok (.invokestatic 48, 3) := by decide +kernel
theorem dX8_landAll_46 : decode cX8_landAll 46 = .ok (.aload_n 0, 1) := by decide +kernel
theorem dX8_landAll_47 : decode cX8_landAll 47 = .ok (.getfield 38, 3) := by decide +kernel
theorem dX8_landAll_50 : decode cX8_landAll 50 = .ok (.iload_n 2, 1) := by decide +kernel
theorem dX8_landAll_51 : decode cX8_landAll 51 = .ok (.iconst 4, 1) := by decide +kernel
theorem dX8_landAll_52 : decode cX8_landAll 52 = .ok (.invokevirtual 42, 3) := by decide +kernel
theorem dX8_landAll_55 : decode cX8_landAll 55 = .ok (.aload_n 0, 1) := by decide +kernel
theorem dX8_landAll_56 : decode cX8_landAll 56 = .ok (.getfield 38, 3) := by decide +kernel
theorem dX8_landAll_59 : decode cX8_landAll 59 = .ok (.iload_n 2, 1) := by decide +kernel
theorem dX8_landAll_60 : decode cX8_landAll 60 = .ok (.iconst 1, 1) := by decide +kernel
theorem dX8_landAll_61 : decode cX8_landAll 61 = .ok (.invokevirtual 42, 3) := by decide +kernel
theorem dX8_landAll_64 : decode cX8_landAll 64 = .ok (.if_icmp .ne 8, 3) := by decide +kernel
theorem dX8_landAll_67 : decode cX8_landAll 67 = .ok (.aload_n 0, 1) := by decide +kernel
theorem dX8_landAll_68 : decode cX8_landAll 68 = .ok (.iload_n 2, 1) := by decide +kernel
theorem dX8_landAll_69 : decode cX8_landAll 69 = .ok (.invokestatic 52, 3) := by decide +kernel
theorem dX8_landAll_72 : decode cX8_landAll 72 = .ok (.iinc 2 1, 3) := by decide +kernel
theorem dX8_landAll_75 : decode cX8_landAll 75 = .ok (.goto (-68), 3) := by decide +kernel
theorem dX8_landAll_78 : decode cX8_landAll 78 = .ok (.return_, 1) := by decide +kernel
theorem dX8_land_0 : decode cX8_land 0 = .ok (.aload_n 0, 1) := by decide +kernel
theorem dX8_land_1 : decode cX8_land 1 = .ok (.getfield 38, 3) := by decide +kernel
theorem dX8_land_4 : decode cX8_land 4 = .ok (.iload_n 1, 1) := by decide +kernel
theorem dX8_land_5 : decode cX8_land 5 = .ok (.iconst 2, 1) := by decide +kernel
theorem dX8_land_6 : decode cX8_land 6 = .ok (.invokevirtual 42, 3) := by decide +kernel
theorem dX8_land_9 : decode cX8_land 9 = .ok (.istore_n 2, 1) := by decide +kernel
theorem dX8_land_10 : decode cX8_land 10 = .ok (.aload_n 0, 1) := by decide +kernel
theorem dX8_land_11 : decode cX8_land 11 = .ok (.aload_n 0, 1) := by decide +kernel
theorem dX8_land_12 : decode cX8_land 12 = .ok (.getfield 38, 3) := by decide +kernel
theorem dX8_land_15 : decode cX8_land 15 = .ok (.iload_n 1, 1) := by decide +kernel
theorem dX8_land_16 : decode cX8_land 16 = .ok (.bipush 12, 2) := by decide +kernel
theorem dX8_land_18 : decode cX8_land 18 = .ok (.invokevirtual 42, 3) := by decide +kernel
theorem dX8_land_21 : decode cX8_land 21 = .ok (.aload_n 0, 1) := by decide +kernel
theorem dX8_land_22 : decode cX8_land 22 = .ok (.getfield 38, 3) := by decide +kernel
theorem dX8_land_25 : decode cX8_land 25 = .ok (.iload_n 1, 1) := by decide +kernel
theorem dX8_land_26 : decode cX8_land 26 = .ok (.iconst 4, 1) := by decide +kernel
theorem dX8_land_27 : decode cX8_land 27 = .ok (.invokevirtual 42, 3) := by decide +kernel
theorem dX8_land_30 : decode cX8_land 30 = .ok (.iload_n 2, 1) := by decide +kernel
theorem dX8_land_31 : decode cX8_land 31 = .ok (.aload_n 0, 1) := by decide +kernel
theorem dX8_land_32 : decode cX8_land 32 = .ok (.bipush 8, 2) := by decide +kernel
theorem dX8_land_34 : decode cX8_land 34 = .ok (.invokevirtual 25, 3) := by decide +kernel
theorem dX8_land_37 : decode cX8_land 37 = .ok (.invokevirtual 55, 3) := by decide +kernel
theorem dX8_land_40 : decode cX8_land 40 = .ok (.istore_n 3, 1) := by decide +kernel
theorem dX8_land_41 : decode cX8_land 41 = .ok (.aload_n 0, 1) := by decide +kernel
theorem dX8_land_42 : decode cX8_land 42 = .ok (.getfield 38, 3) := by decide +kernel
theorem dX8_land_45 : decode cX8_land 45 = .ok (.iload_n 1, 1) := by decide +kernel
theorem dX8_land_46 : decode cX8_land 46 = .ok (.bipush 10, 2) := by decide +kernel
theorem dX8_land_48 : decode cX8_land 48 = .ok (.invokevirtual 42, 3) := by decide +kernel
theorem dX8_land_51 : decode cX8_land 51 = .ok (.istore 4, 2) := by decide +kernel
theorem dX8_land_53 : decode cX8_land 53 = .ok (.iconst 0, 1) := by decide +kernel
theorem dX8_land_54 : decode cX8_land 54 = .ok (.istore 5, 2) := by decide +kernel
theorem dX8_land_56 : decode cX8_land 56 = .ok (.iload 5, 2) := by decide +kernel
theorem dX8_land_58 : decode cX8_land 58 = .ok (.iload_n 3, 1) := by decide +kernel
theorem dX8_land_59 : decode cX8_land 59 = .ok (.if_icmp .ge 26, 3) := by decide +kernel
theorem dX8_land_62 : decode cX8_land 62 = .ok (.iload_n 2, 1) := by decide +kernel
theorem dX8_land_63 : decode cX8_land 63 = .ok (.ifCond .le 22, 3) := by decide +kernel
theorem dX8_land_66 : decode cX8_land 66 = .ok (.iload 4, 2) := by decide +kernel
theorem dX8_land_68 : decode cX8_land 68 = .ok (.iload_n 1, 1) := by decide +kernel
theorem dX8_land_69 : decode cX8_land 69 = .ok (.iload 5, 2) := by decide +kernel
theorem dX8_land_71 : decode cX8_land 71 = .ok (.iadd, 1) := by decide +kernel
theorem dX8_land_72 : decode cX8_land 72 = .ok (.iload_n 2, 1) := by decide +kernel
theorem dX8_land_73 : decode cX8_land 73 = .ok (.irem, 1) := by decide +kernel
theorem dX8_land_74 : decode cX8_land 74 = .ok (.invokestatic 59, 3) := by decide +kernel
theorem dX8_land_77 : decode cX8_land 77 = .ok (.istore 4, 2) := by decide +kernel
theorem dX8_land_79 : decode cX8_land 79 = .ok (.iinc 5 1, 3) := by decide +kernel
theorem dX8_land_82 : decode cX8_land 82 = .ok (.goto (-26), 3) := by decide +kernel
theorem dX8_land_85 : decode cX8_land 85 = .ok (.aload_n 0, 1) := by decide +kernel
theorem dX8_land_86 : decode cX8_land 86 = .ok (.getfield 38, 3) := by decide +kernel
theorem dX8_land_89 : decode cX8_land 89 = .ok (.iload_n 1, 1) := by decide +kernel
theorem dX8_land_90 : decode cX8_land 90 = .ok (.bipush 10, 2) := by decide +kernel
theorem dX8_land_92 : decode cX8_land 92 = .ok (.iload 4, 2) := by decide +kernel
theorem dX8_land_94 : decode cX8_land 94 = .ok (.invokevirtual 62, 3) := by decide +kernel
theorem dX8_land_97 : decode cX8_land 97 = .ok (.aload_n 0, 1) := by decide +kernel
theorem dX8_land_98 : decode cX8_land 98 = .ok (.getfield 38, 3) := by decide +kernel
theorem dX8_land_101 : decode cX8_land 101 = .ok (.iload_n 1, 1) := by decide +kernel
theorem dX8_land_102 : decode cX8_land 102 = .ok (.iconst 3, 1) := by decide +kernel
theorem dX8_land_103 : decode cX8_land 103 = .ok (.iconst 0, 1) := by decide +kernel
theorem dX8_land_104 : decode cX8_land 104 = .ok (.invokevirtual 62, 3) := by decide +kernel
theorem dX8_land_107 : decode cX8_land 107 = .ok (.aload_n 0, 1) := by decide +kernel
theorem dX8_land_108 : decode cX8_land 108 = .ok (.getfield 38, 3) := by decide +kernel
theorem dX8_land_111 : decode cX8_land 111 = .ok (.iload_n 1, 1) := by decide +kernel
theorem dX8_land_112 : decode cX8_land 112 = .ok (.iconst 5, 1) := by decide +kernel
theorem dX8_land_113 : decode cX8_land 113 = .ok (.iconst (-1), 1) := by decide +kernel
theorem dX8_land_114 : decode cX8_land 114 = .ok (.invokevirtual 62, 3) := by decide +kernel
theorem dX8_land_117 : decode cX8_land 117 = .ok (.aload_n 0, 1) := by decide +kernel
theorem dX8_land_118 : decode cX8_land 118 = .ok (.iconst 4, 1) := by decide +kernel
theorem dX8_land_119 : decode cX8_land 119 = .ok (.iload_n 3, 1) := by decide +kernel
theorem dX8_land_120 : decode cX8_land 120 = .ok (.invokevirtual 15, 3) := by decide +kernel
theorem dX8_land_123 : decode cX8_land 123 = .ok (.return_, 1) := by decide +kernel
theorem dX8_raised_0 : decode cX8_raised 0 = .ok (.iconst 3, 1) := by decide +kernel
theorem dX8_raised_1 : decode cX8_raised 1 = .ok (.iload_n 1, 1) := by decide +kernel
theorem dX8_raised_2 : decode cX8_raised 2 = .ok (.imul, 1) := by decide +kernel
theorem dX8_raised_3 : decode cX8_raised 3 = .ok (.istore_n 2, 1) := by decide +kernel
theorem dX8_raised_4 : decode cX8_raised 4 = .ok (.iload_n 0, 1) := by decide +kernel
theorem dX8_raised_5 : decode cX8_raised 5 = .ok (.iload_n 1, 1) := by decide +kernel
theorem dX8_raised_6 : decode cX8_raised 6 = .ok (.invokestatic 66, 3) := by decide +kernel
theorem dX8_raised_9 : decode cX8_raised 9 = .ok (.iconst 1, 1) := by decide +kernel
theorem dX8_raised_10 : decode cX8_raised 10 = .ok (.iadd, 1) := by decide +kernel
theorem dX8_raised_11 : decode cX8_raised 11 = .ok (.bipush 7, 2) := by decide +kernel
theorem dX8_raised_13 : decode cX8_raised 13 = .ok (.iand, 1) := by decide +kernel
theorem dX8_raised_14 : decode cX8_raised 14 = .ok (.istore_n 3, 1) := by decide +kernel
theorem dX8_raised_15 : decode cX8_raised 15 = .ok (.iload_n 0, 1) := by decide +kernel
theorem dX8_raised_16 : decode cX8_raised 16 = .ok (.bipush 7, 2) := by decide +kernel
theorem dX8_raised_18 : decode cX8_raised 18 = .ok (.iload_n 2, 1) := by decide +kernel
theorem dX8_raised_19 : decode cX8_raised 19 = .ok (.ishl, 1) := by decide +kernel
theorem dX8_raised_20 : decode cX8_raised 20 = .ok (.iconst (-1), 1) := by decide +kernel
theorem dX8_raised_21 : decode cX8_raised 21 = .ok (.ixor, 1) := by decide +kernel
theorem dX8_raised_22 : decode cX8_raised 22 = .ok (.iand, 1) := by decide +kernel
theorem dX8_raised_23 : decode cX8_raised 23 = .ok (.iload_n 3, 1) := by decide +kernel
theorem dX8_raised_24 : decode cX8_raised 24 = .ok (.iload_n 2, 1) := by decide +kernel
theorem dX8_raised_25 : decode cX8_raised 25 = .ok (.ishl, 1) := by decide +kernel
theorem dX8_raised_26 : decode cX8_raised 26 = .ok (.ior, 1) := by decide +kernel
theorem dX8_raised_27 : decode cX8_raised 27 = .ok (.ireturn, 1) := by decide +kernel
theorem dX8_reachGoal_0 : decode cX8_reachGoal 0 = .ok (.aload_n 0, 1) := by decide +kernel
theorem dX8_reachGoal_1 : decode cX8_reachGoal 1 = .ok (.getfield 38, 3) := by decide +kernel
theorem dX8_reachGoal_4 : decode cX8_reachGoal 4 = .ok (.iload_n 1, 1) := by decide +kernel
theorem dX8_reachGoal_5 : decode cX8_reachGoal 5 = .ok (.bipush 9, 2) := by decide +kernel
theorem dX8_reachGoal_7 : decode cX8_reachGoal 7 = .ok (.invokevirtual 42, 3) := by decide +kernel
theorem dX8_reachGoal_10 : decode cX8_reachGoal 10 = .ok (.istore_n 2, 1) := by decide +kernel
theorem dX8_reachGoal_11 : decode cX8_reachGoal 11 = .ok (.aload_n 0, 1) := by decide +kernel
theorem dX8_reachGoal_12 : decode cX8_reachGoal 12 = .ok (.getfield 38, 3) := by decide +kernel
theorem dX8_reachGoal_15 : decode cX8_reachGoal 15 = .ok (.iload_n 1, 1) := by decide +kernel
theorem dX8_reachGoal_16 : decode cX8_reachGoal 16 = .ok (.bipush 10, 2) := by decide +kernel
theorem dX8_reachGoal_18 : decode cX8_reachGoal 18 = .ok (.invokevirtual 42, 3) := by decide +kernel
theorem dX8_reachGoal_21 : decode cX8_reachGoal 21 = .ok (.iload_n 2, 1) := by decide +kernel
theorem dX8_reachGoal_22 : decode cX8_reachGoal 22 = .ok (.if_icmp .ne 7, 3) := by decide +kernel
theorem dX8_reachGoal_25 : decode cX8_reachGoal 25 = .ok (.iconst 1, 1) := by decide +kernel
theorem dX8_reachGoal_26 : decode cX8_reachGoal 26 = .ok (.goto 4, 3) := by decide +kernel
theorem dX8_reachGoal_29 : decode cX8_reachGoal 29 = .ok (.iconst 0, 1) := by decide +kernel
theorem dX8_reachGoal_30 : decode cX8_reachGoal 30 = .ok (.istore_n 3, 1) := by decide +kernel
theorem dX8_reachGoal_31 : decode cX8_reachGoal 31 = .ok (.iload_n 3, 1) := by decide +kernel
theorem dX8_reachGoal_32 : decode cX8_reachGoal 32 = .ok (.ifCond .ne 70, 3) := by decide +kernel
theorem dX8_reachGoal_35 : decode cX8_reachGoal 35 = .ok (.aload_n 0, 1) := by decide +kernel
theorem dX8_reachGoal_36 : decode cX8_reachGoal 36 = .ok (.getfield 38, 3) := by decide +kernel
theorem dX8_reachGoal_39 : decode cX8_reachGoal 39 = .ok (.iload_n 1, 1) := by decide +kernel
theorem dX8_reachGoal_40 : decode cX8_reachGoal 40 = .ok (.bipush 8, 2) := by decide +kernel
theorem dX8_reachGoal_42 : decode cX8_reachGoal 42 = .ok (.invokevirtual 42, 3) := by decide +kernel
theorem dX8_reachGoal_45 : decode cX8_reachGoal 45 = .ok (.aload_n 0, 1) := by decide +kernel
theorem dX8_reachGoal_46 : decode cX8_reachGoal 46 = .ok (.bipush 10, 2) := by decide +kernel
theorem dX8_reachGoal_48 : decode cX8_reachGoal 48 = .ok (.invokevirtual 25, 3) := by decide +kernel
theorem dX8_reachGoal_51 : decode cX8_reachGoal 51 = .ok (.if_icmp .ge 51, 3) := by decide +kernel
theorem dX8_reachGoal_54 : decode cX8_reachGoal 54 = .ok (.aload_n 0, 1) := by decide +kernel
theorem dX8_reachGoal_55 : decode cX8_reachGoal 55 = .ok (.getfield 38, 3) := by decide +kernel
theorem dX8_reachGoal_58 : decode cX8_reachGoal 58 = .ok (.iload_n 1, 1) := by decide +kernel
theorem dX8_reachGoal_59 : decode cX8_reachGoal 59 = .ok (.bipush 8, 2) := by decide +kernel
theorem dX8_reachGoal_61 : decode cX8_reachGoal 61 = .ok (.iconst 1, 1) := by decide +kernel
theorem dX8_reachGoal_62 : decode cX8_reachGoal 62 = .ok (.invokevirtual 69, 3) := by decide +kernel
theorem dX8_reachGoal_65 : decode cX8_reachGoal 65 = .ok (.aload_n 0, 1) := by decide +kernel
theorem dX8_reachGoal_66 : decode cX8_reachGoal 66 = .ok (.getfield 38, 3) := by decide +kernel
theorem dX8_reachGoal_69 : decode cX8_reachGoal 69 = .ok (.iload_n 1, 1) := by decide +kernel
theorem dX8_reachGoal_70 : decode cX8_reachGoal 70 = .ok (.bipush 10, 2) := by decide +kernel
theorem dX8_reachGoal_72 : decode cX8_reachGoal 72 = .ok (.iload_n 2, 1) := by decide +kernel
theorem dX8_reachGoal_73 : decode cX8_reachGoal 73 = .ok (.invokevirtual 62, 3) := by decide +kernel
theorem dX8_reachGoal_76 : decode cX8_reachGoal 76 = .ok (.aload_n 0, 1) := by decide +kernel
theorem dX8_reachGoal_77 : decode cX8_reachGoal 77 = .ok (.getfield 38, 3) := by decide +kernel
theorem dX8_reachGoal_80 : decode cX8_reachGoal 80 = .ok (.iload_n 1, 1) := by decide +kernel
theorem dX8_reachGoal_81 : decode cX8_reachGoal 81 = .ok (.iconst 4, 1) := by decide +kernel
theorem dX8_reachGoal_82 : decode cX8_reachGoal 82 = .ok (.aload_n 0, 1) := by decide +kernel
theorem dX8_reachGoal_83 : decode cX8_reachGoal 83 = .ok (.getfield 38, 3) := by decide +kernel
theorem dX8_reachGoal_86 : decode cX8_reachGoal 86 = .ok (.iload_n 1, 1) := by decide +kernel
theorem dX8_reachGoal_87 : decode cX8_reachGoal 87 = .ok (.iconst 0, 1) := by decide +kernel
theorem dX8_reachGoal_88 : decode cX8_reachGoal 88 = .ok (.invokevirtual 42, 3) := by decide +kernel
theorem dX8_reachGoal_91 : decode cX8_reachGoal 91 = .ok (.invokevirtual 62, 3) := by decide +kernel
theorem dX8_reachGoal_94 : decode cX8_reachGoal 94 = .ok (.aload_n 0, 1) := by decide +kernel
theorem dX8_reachGoal_95 : decode cX8_reachGoal 95 = .ok (.bipush 7, 2) := by decide +kernel
theorem dX8_reachGoal_97 : decode cX8_reachGoal 97 = .ok (.iconst 1, 1) := by decide +kernel
theorem dX8_reachGoal_98 : decode cX8_reachGoal 98 = .ok (.invokevirtual 15, 3) := by decide +kernel
theorem dX8_reachGoal_101 : decode cX8_reachGoal 101 = .ok (.return_, 1) := by decide +kernel
theorem dX8_reachGoal_102 : decode cX8_reachGoal 102 = .ok (.aload_n 0, 1) := by decide +kernel
theorem dX8_reachGoal_103 : decode cX8_reachGoal 103 = .ok (.getfield 38, 3) := by decide +kernel
theorem dX8_reachGoal_106 : decode cX8_reachGoal 106 = .ok (.iload_n 1, 1) := by decide +kernel
theorem dX8_reachGoal_107 : decode cX8_reachGoal 107 = .ok (.iconst 3, 1) := by decide +kernel
theorem dX8_reachGoal_108 : decode cX8_reachGoal 108 = .ok (.iconst 2, 1) := by decide +kernel
theorem dX8_reachGoal_109 : decode cX8_reachGoal 109 = .ok (.invokevirtual 62, 3) := by decide +kernel
theorem dX8_reachGoal_112 : decode cX8_reachGoal 112 = .ok (.aload_n 0, 1) := by decide +kernel
theorem dX8_reachGoal_113 : decode cX8_reachGoal 113 = .ok (.iconst 5, 1) := by decide +kernel
theorem dX8_reachGoal_114 : decode cX8_reachGoal 114 = .ok (.iconst 1, 1) := by decide +kernel
theorem dX8_reachGoal_115 : decode cX8_reachGoal 115 = .ok (.invokevirtual 15, 3) := by decide +kernel
theorem dX8_reachGoal_118 : decode cX8_reachGoal 118 = .ok (.iload_n 3, 1) := by decide +kernel
theorem dX8_reachGoal_119 : decode cX8_reachGoal 119 = .ok (.ifCond .ne 4, 3) := by decide +kernel
theorem dX8_reachGoal_122 : decode cX8_reachGoal 122 = .ok (.return_, 1) := by decide +kernel
theorem dX8_reachGoal_123 : decode cX8_reachGoal 123 = .ok (.aload_n 0, 1) := by decide +kernel
theorem dX8_reachGoal_124 : decode cX8_reachGoal 124 = .ok (.bipush 6, 2) := by decide +kernel
theorem dX8_reachGoal_126 : decode cX8_reachGoal 126 = .ok (.iconst 1, 1) := by decide +kernel
theorem dX8_reachGoal_127 : decode cX8_reachGoal 127 = .ok (.invokevirtual 15, 3) := by decide +kernel
theorem dX8_reachGoal_130 : decode cX8_reachGoal 130 = .ok (.aload_n 0, 1) := by decide +kernel
theorem dX8_reachGoal_131 : decode cX8_reachGoal 131 = .ok (.getfield 38, 3) := by decide +kernel
theorem dX8_reachGoal_134 : decode cX8_reachGoal 134 = .ok (.iload_n 1, 1) := by decide +kernel
theorem dX8_reachGoal_135 : decode cX8_reachGoal 135 = .ok (.bipush 7, 2) := by decide +kernel
theorem dX8_reachGoal_137 : decode cX8_reachGoal 137 = .ok (.invokevirtual 42, 3) := by decide +kernel
theorem dX8_reachGoal_140 : decode cX8_reachGoal 140 = .ok (.iconst 1, 1) := by decide +kernel
theorem dX8_reachGoal_141 : decode cX8_reachGoal 141 = .ok (.if_icmp .ne 62, 3) := by decide +kernel
theorem dX8_reachGoal_144 : decode cX8_reachGoal 144 = .ok (.aload_n 0, 1) := by decide +kernel
theorem dX8_reachGoal_145 : decode cX8_reachGoal 145 = .ok (.getfield 35, 3) := by decide +kernel
theorem dX8_reachGoal_148 : decode cX8_reachGoal 148 = .ok (.bipush 30, 2) := by decide +kernel
theorem dX8_reachGoal_150 : decode cX8_reachGoal 150 = .ok (.if_icmp .ge 53, 3) := by decide +kernel
theorem dX8_reachGoal_153 : decode cX8_reachGoal 153 = .ok (.aload_n 0, 1) := by decide +kernel
theorem dX8_reachGoal_154 : decode cX8_reachGoal 154 = .ok (.getfield 38, 3) := by decide +kernel
theorem dX8_reachGoal_157 : decode cX8_reachGoal 157 = .ok (.iload_n 1, 1) := by decide +kernel
theorem dX8_reachGoal_158 : decode cX8_reachGoal 158 = .ok (.iconst 2, 1) := by decide +kernel
theorem dX8_reachGoal_159 : decode cX8_reachGoal 159 = .ok (.invokevirtual 42, 3) := by decide +kernel
theorem dX8_reachGoal_162 : decode cX8_reachGoal 162 = .ok (.istore 4, 2) := by decide +kernel
theorem dX8_reachGoal_164 : decode cX8_reachGoal 164 = .ok (.aload_n 0, 1) := by decide +kernel
theorem dX8_reachGoal_165 : decode cX8_reachGoal 165 = .ok (.aload_n 0, 1) := by decide +kernel
theorem dX8_reachGoal_166 : decode cX8_reachGoal 166 = .ok (.getfield 38, 3) := by decide +kernel
theorem dX8_reachGoal_169 : decode cX8_reachGoal 169 = .ok (.iload_n 1, 1) := by decide +kernel
theorem dX8_reachGoal_170 : decode cX8_reachGoal 170 = .ok (.iconst 1, 1) := by decide +kernel
theorem dX8_reachGoal_171 : decode cX8_reachGoal 171 = .ok (.invokevirtual 42, 3) := by decide +kernel
theorem dX8_reachGoal_174 : decode cX8_reachGoal 174 = .ok (.aload_n 0, 1) := by decide +kernel
theorem dX8_reachGoal_175 : decode cX8_reachGoal 175 = .ok (.getfield 38, 3) := by decide +kernel
theorem dX8_reachGoal_178 : decode cX8_reachGoal 178 = .ok (.iload_n 1, 1) := by decide +kernel
theorem dX8_reachGoal_179 : decode cX8_reachGoal 179 = .ok (.iconst 0, 1) := by decide +kernel
theorem dX8_reachGoal_180 : decode cX8_reachGoal 180 = .ok (.invokevirtual 42, 3) := by decide +kernel
theorem dX8_reachGoal_183 : decode cX8_reachGoal 183 = .ok (.iload 4, 2) := by decide +kernel
theorem dX8_reachGoal_185 : decode cX8_reachGoal 185 = .ok (.iload_n 2, 1) := by decide +kernel
theorem dX8_reachGoal_186 : decode cX8_reachGoal 186 = .ok (.iload 4, 2) := by decide +kernel
theorem dX8_reachGoal_188 : decode cX8_reachGoal 188 = .ok (.invokestatic 72, 3) := by decide +kernel
theorem dX8_reachGoal_191 : decode cX8_reachGoal 191 = .ok (.iconst 1, 1) := by decide +kernel
theorem dX8_reachGoal_192 : decode cX8_reachGoal 192 = .ok (.iconst 0, 1) := by decide +kernel
theorem dX8_reachGoal_193 : decode cX8_reachGoal 193 = .ok (.invokevirtual 75, 3) := by decide +kernel
theorem dX8_reachGoal_196 : decode cX8_reachGoal 196 = .ok (.pop, 1) := by decide +kernel
theorem dX8_reachGoal_197 : decode cX8_reachGoal 197 = .ok (.aload_n 0, 1) := by decide +kernel
theorem dX8_reachGoal_198 : decode cX8_reachGoal 198 = .ok (.iconst 2, 1) := by decide +kernel
theorem dX8_reachGoal_199 : decode cX8_reachGoal 199 = .ok (.iconst 1, 1) := by decide +kernel
theorem dX8_reachGoal_200 : decode cX8_reachGoal 200 = .ok (.invokevirtual 15, 3) := by decide +kernel
theorem dX8_reachGoal_203 : decode cX8_reachGoal 203 = .ok (.return_, 1) := by decide +kernel
theorem dX8_turned_0 : decode cX8_turned 0 = .ok (.iconst 0, 1) := by decide +kernel
theorem dX8_turned_1 : decode cX8_turned 1 = .ok (.istore_n 2, 1) := by decide +kernel
theorem dX8_turned_2 : decode cX8_turned 2 = .ok (.iconst 0, 1) := by decide +kernel
theorem dX8_turned_3 : decode cX8_turned 3 = .ok (.istore_n 3, 1) := by decide +kernel
theorem dX8_turned_4 : decode cX8_turned 4 = .ok (.iload_n 3, 1) := by decide +kernel
theorem dX8_turned_5 : decode cX8_turned 5 = .ok (.iload_n 1, 1) := by decide +kernel
theorem dX8_turned_6 : decode cX8_turned 6 = .ok (.if_icmp .ge 19, 3) := by decide +kernel
theorem dX8_turned_9 : decode cX8_turned 9 = .ok (.iload_n 2, 1) := by decide +kernel
theorem dX8_turned_10 : decode cX8_turned 10 = .ok (.iconst 3, 1) := by decide +kernel
theorem dX8_turned_11 : decode cX8_turned 11 = .ok (.ishl, 1) := by decide +kernel
theorem dX8_turned_12 : decode cX8_turned 12 = .ok (.iload_n 0, 1) := by decide +kernel
theorem dX8_turned_13 : decode cX8_turned 13 = .ok (.iload_n 3, 1) := by decide +kernel
theorem dX8_turned_14 : decode cX8_turned 14 = .ok (.invokestatic 66, 3) := by decide +kernel
theorem dX8_turned_17 : decode cX8_turned 17 = .ok (.ior, 1) := by decide +kernel
theorem dX8_turned_18 : decode cX8_turned 18 = .ok (.istore_n 2, 1) := by decide +kernel
theorem dX8_turned_19 : decode cX8_turned 19 = .ok (.iinc 3 1, 3) := by decide +kernel
theorem dX8_turned_22 : decode cX8_turned 22 = .ok (.goto (-18), 3) := by decide +kernel
theorem dX8_turned_25 : decode cX8_turned 25 = .ok (.iload_n 2, 1) := by decide +kernel
theorem dX8_turned_26 : decode cX8_turned 26 = .ok (.ireturn, 1) := by decide +kernel
theorem dX8_whistleAll_0 : decode cX8_whistleAll 0 = .ok (.aload_n 0, 1) := by decide +kernel
theorem dX8_whistleAll_1 : decode cX8_whistleAll 1 = .ok (.invokestatic 79, 3) := by decide +kernel
theorem dX8_whistleAll_4 : decode cX8_whistleAll 4 = .ok (.istore_n 1, 1) := by decide +kernel
theorem dX8_whistleAll_5 : decode cX8_whistleAll 5 = .ok (.iconst 0, 1) := by decide +kernel
theorem dX8_whistleAll_6 : decode cX8_whistleAll 6 = .ok (.istore_n 2, 1) := by decide +kernel
theorem dX8_whistleAll_7 : decode cX8_whistleAll 7 = .ok (.iload_n 2, 1) := by decide +kernel
theorem dX8_whistleAll_8 : decode cX8_whistleAll 8 = .ok (.aload_n 0, 1) := by decide +kernel
theorem dX8_whistleAll_9 : decode cX8_whistleAll 9 = .ok (.getfield 83, 3) := by decide +kernel
theorem dX8_whistleAll_12 : decode cX8_whistleAll 12 = .ok (.if_icmp .ge 47, 3) := by decide +kernel
theorem dX8_whistleAll_15 : decode cX8_whistleAll 15 = .ok (.iload_n 1, 1) := by decide +kernel
theorem dX8_whistleAll_16 : decode cX8_whistleAll 16 = .ok (.iload_n 2, 1) := by decide +kernel
theorem dX8_whistleAll_17 : decode cX8_whistleAll 17 = .ok (.ishr, 1) := by decide +kernel
theorem dX8_whistleAll_18 : decode cX8_whistleAll 18 = .ok (.iconst 1, 1) := by decide +kernel
theorem dX8_whistleAll_19 : decode cX8_whistleAll 19 = .ok (.iand, 1) := by decide +kernel
theorem dX8_whistleAll_20 : decode cX8_whistleAll 20 = .ok (.iconst 1, 1) := by decide +kernel
theorem dX8_whistleAll_21 : decode cX8_whistleAll 21 = .ok (.if_icmp .ne 32, 3) := by decide +kernel
theorem dX8_whistleAll_24 : decode cX8_whistleAll 24 = .ok (.aload_n 0, 1) := by decide +kernel
theorem dX8_whistleAll_25 : decode cX8_whistleAll 25 = .ok (.iload_n 2, 1) := by decide +kernel
theorem dX8_whistleAll_26 : decode cX8_whistleAll 26 = .ok (.aload_n 0, 1) := by decide +kernel
theorem dX8_whistleAll_27 : decode cX8_whistleAll 27 = .ok (.getfield 9, 3) := by decide +kernel
theorem dX8_whistleAll_30 : decode cX8_whistleAll 30 = .ok (.invokevirtual 86, 3) := by decide +kernel
theorem dX8_whistleAll_33 : decode cX8_whistleAll 33 = .ok (.ifCond .ne 20, 3) := by decide +kernel
theorem dX8_whistleAll_36 : decode cX8_whistleAll 36 = .ok (.aload_n 0, 1) := by decide +kernel
theorem dX8_whistleAll_37 : decode cX8_whistleAll 37 = .ok (.iload_n 2, 1) := by decide +kernel
theorem dX8_whistleAll_38 : decode cX8_whistleAll 38 = .ok (.invokevirtual 90, 3) := by decide +kernel
theorem dX8_whistleAll_41 : decode cX8_whistleAll 41 = .ok (.istore_n 3, 1) := by decide +kernel
theorem dX8_whistleAll_42 : decode cX8_whistleAll 42 = .ok (.iload_n 3, 1) := by decide +kernel
theorem dX8_whistleAll_43 : decode cX8_whistleAll 43 = .ok (.iconst (-1), 1) := by decide +kernel
theorem dX8_whistleAll_44 : decode cX8_whistleAll 44 = .ok (.if_icmp .eq 9, 3) := by decide +kernel
theorem dX8_whistleAll_47 : decode cX8_whistleAll 47 = .ok (.aload_n 0, 1) := by decide +kernel
theorem dX8_whistleAll_48 : decode cX8_whistleAll 48 = .ok (.iload_n 2, 1) := by decide +kernel
theorem dX8_whistleAll_49 : decode cX8_whistleAll 49 = .ok (.iload_n 3, 1) := by decide +kernel
theorem dX8_whistleAll_50 : decode cX8_whistleAll 50 = .ok (.invokestatic 93, 3) := by decide +kernel
theorem dX8_whistleAll_53 : decode cX8_whistleAll 53 = .ok (.iinc 2 1, 3) := by decide +kernel
theorem dX8_whistleAll_56 : decode cX8_whistleAll 56 = .ok (.goto (-49), 3) := by decide +kernel
theorem dX8_whistleAll_59 : decode cX8_whistleAll 59 = .ok (.return_, 1) := by decide +kernel
theorem dX8_roofsWithTunes_0 : decode cX8_roofsWithTunes 0 = .ok (.iconst 0, 1) := by decide +kernel
theorem dX8_roofsWithTunes_1 : decode cX8_roofsWithTunes 1 = .ok (.istore_n 1, 1) := by decide +kernel
theorem dX8_roofsWithTunes_2 : decode cX8_roofsWithTunes 2 = .ok (.iconst 0, 1) := by decide +kernel
theorem dX8_roofsWithTunes_3 : decode cX8_roofsWithTunes 3 = .ok (.istore_n 2, 1) := by decide +kernel
theorem dX8_roofsWithTunes_4 : decode cX8_roofsWithTunes 4 = .ok (.iload_n 2, 1) := by decide +kernel
theorem dX8_roofsWithTunes_5 : decode cX8_roofsWithTunes 5 = .ok (.aload_n 0, 1) := by decide +kernel
theorem dX8_roofsWithTunes_6 : decode cX8_roofsWithTunes 6 = .ok (.getfield 35, 3) := by decide +kernel
theorem dX8_roofsWithTunes_9 : decode cX8_roofsWithTunes 9 = .ok (.if_icmp .ge 35, 3) := by decide +kernel
theorem dX8_roofsWithTunes_12 : decode cX8_roofsWithTunes 12 = .ok (.aload_n 0, 1) := by decide +kernel
theorem dX8_roofsWithTunes_13 : decode cX8_roofsWithTunes 13 = .ok (.getfield 38, 3) := by decide +kernel
theorem dX8_roofsWithTunes_16 : decode cX8_roofsWithTunes 16 = .ok (.iload_n 2, 1) := by decide +kernel
theorem dX8_roofsWithTunes_17 : decode cX8_roofsWithTunes 17 = .ok (.iconst 3, 1) := by decide +kernel
theorem dX8_roofsWithTunes_18 : decode cX8_roofsWithTunes 18 = .ok (.invokevirtual 42, 3) := by decide +kernel
theorem dX8_roofsWithTunes_21 : decode cX8_roofsWithTunes 21 = .ok (.ifCond .ne 17, 3) := by decide +kernel
theorem dX8_roofsWithTunes_24 : decode cX8_roofsWithTunes 24 = .ok (.iload_n 1, 1) := by decide +kernel
theorem dX8_roofsWithTunes_25 : decode cX8_roofsWithTunes 25 = .ok (.iconst 1, 1) := by decide +kernel
theorem dX8_roofsWithTunes_26 : decode cX8_roofsWithTunes 26 = .ok (.aload_n 0, 1) := by decide +kernel
theorem dX8_roofsWithTunes_27 : decode cX8_roofsWithTunes 27 = .ok (.getfield 38, 3) := by decide +kernel
theorem dX8_roofsWithTunes_30 : decode cX8_roofsWithTunes 30 = .ok (.iload_n 2, 1) := by decide +kernel
theorem dX8_roofsWithTunes_31 : decode cX8_roofsWithTunes 31 = .ok (.iconst 4, 1) := by decide +kernel
theorem dX8_roofsWithTunes_32 : decode cX8_roofsWithTunes 32 = .ok (.invokevirtual 42, 3) := by decide +kernel
theorem dX8_roofsWithTunes_35 : decode cX8_roofsWithTunes 35 = .ok (.ishl, 1) := by decide +kernel
theorem dX8_roofsWithTunes_36 : decode cX8_roofsWithTunes 36 = .ok (.ior, 1) := by decide +kernel
theorem dX8_roofsWithTunes_37 : decode cX8_roofsWithTunes 37 = .ok (.istore_n 1, 1) := by decide +kernel
theorem dX8_roofsWithTunes_38 : decode cX8_roofsWithTunes 38 = .ok (.iinc 2 1, 3) := by decide +kernel
theorem dX8_roofsWithTunes_41 : decode cX8_roofsWithTunes 41 = .ok (.goto (-37), 3) := by decide +kernel
theorem dX8_roofsWithTunes_44 : decode cX8_roofsWithTunes 44 = .ok (.iload_n 1, 1) := by decide +kernel
theorem dX8_roofsWithTunes_45 : decode cX8_roofsWithTunes 45 = .ok (.ireturn, 1) := by decide +kernel
theorem dX8_whistle_0 : decode cX8_whistle 0 = .ok (.aload_n 0, 1) := by decide +kernel
theorem dX8_whistle_1 : decode cX8_whistle 1 = .ok (.getfield 97, 3) := by decide +kernel
theorem dX8_whistle_4 : decode cX8_whistle 4 = .ok (.iload_n 1, 1) := by decide +kernel
theorem dX8_whistle_5 : decode cX8_whistle 5 = .ok (.iconst 2, 1) := by decide +kernel
theorem dX8_whistle_6 : decode cX8_whistle 6 = .ok (.invokevirtual 42, 3) := by decide +kernel
theorem dX8_whistle_9 : decode cX8_whistle 9 = .ok (.aload_n 0, 1) := by decide +kernel
theorem dX8_whistle_10 : decode cX8_whistle 10 = .ok (.iload_n 2, 1) := by decide +kernel
theorem dX8_whistle_11 : decode cX8_whistle 11 = .ok (.invokevirtual 100, 3) := by decide +kernel
theorem dX8_whistle_14 : decode cX8_whistle 14 = .ok (.imul, 1) := by decide +kernel
theorem dX8_whistle_15 : decode cX8_whistle 15 = .ok (.istore_n 3, 1) := by decide +kernel
theorem dX8_whistle_16 : decode cX8_whistle 16 = .ok (.aload_n 0, 1) := by decide +kernel
theorem dX8_whistle_17 : decode cX8_whistle 17 = .ok (.getfield 97, 3) := by decide +kernel
theorem dX8_whistle_20 : decode cX8_whistle 20 = .ok (.aload_n 0, 1) := by decide +kernel
theorem dX8_whistle_21 : decode cX8_whistle 21 = .ok (.getfield 38, 3) := by decide +kernel
theorem dX8_whistle_24 : decode cX8_whistle 24 = .ok (.iload_n 2, 1) := by decide +kernel
theorem dX8_whistle_25 : decode cX8_whistle 25 = .ok (.iconst 0, 1) := by decide +kernel
theorem dX8_whistle_26 : decode cX8_whistle 26 = .ok (.invokevirtual 42, 3) := by decide +kernel
theorem dX8_whistle_29 : decode cX8_whistle 29 = .ok (.iconst 3, 1) := by decide +kernel
theorem dX8_whistle_30 : decode cX8_whistle 30 = .ok (.iload_n 3, 1) := by decide +kernel
theorem dX8_whistle_31 : decode cX8_whistle 31 = .ok (.ineg, 1) := by decide +kernel
theorem dX8_whistle_32 : decode cX8_whistle 32 = .ok (.invokevirtual 69, 3) := by decide +kernel
theorem dX8_whistle_35 : decode cX8_whistle 35 = .ok (.aload_n 0, 1) := by decide +kernel
theorem dX8_whistle_36 : decode cX8_whistle 36 = .ok (.getfield 97, 3) := by decide +kernel
theorem dX8_whistle_39 : decode cX8_whistle 39 = .ok (.iload_n 1, 1) := by decide +kernel
theorem dX8_whistle_40 : decode cX8_whistle 40 = .ok (.iconst 3, 1) := by decide +kernel
theorem dX8_whistle_41 : decode cX8_whistle 41 = .ok (.iload_n 3, 1) := by decide +kernel
theorem dX8_whistle_42 : decode cX8_whistle 42 = .ok (.invokevirtual 69, 3) := by decide +kernel
theorem dX8_whistle_45 : decode cX8_whistle 45 = .ok (.aload_n 0, 1) := by decide +kernel
theorem dX8_whistle_46 : decode cX8_whistle 46 = .ok (.bipush 9, 2) := by decide +kernel
theorem dX8_whistle_48 : decode cX8_whistle 48 = .ok (.iload_n 3, 1) := by decide +kernel
theorem dX8_whistle_49 : decode cX8_whistle 49 = .ok (.invokevirtual 15, 3) := by decide +kernel
theorem dX8_whistle_52 : decode cX8_whistle 52 = .ok (.aload_n 0, 1) := by decide +kernel
theorem dX8_whistle_53 : decode cX8_whistle 53 = .ok (.iload_n 2, 1) := by decide +kernel
theorem dX8_whistle_54 : decode cX8_whistle 54 = .ok (.invokevirtual 103, 3) := by decide +kernel
theorem dX8_whistle_57 : decode cX8_whistle 57 = .ok (.istore 4, 2) := by decide +kernel
theorem dX8_whistle_59 : decode cX8_whistle 59 = .ok (.aload_n 0, 1) := by decide +kernel
theorem dX8_whistle_60 : decode cX8_whistle 60 = .ok (.getfield 106, 3) := by decide +kernel
theorem dX8_whistle_63 : decode cX8_whistle 63 = .ok (.getfield 110, 3) := by decide +kernel
theorem dX8_whistle_66 : decode cX8_whistle 66 = .ok (.iload_n 1, 1) := by decide +kernel
theorem dX8_whistle_67 : decode cX8_whistle 67 = .ok (.iload 4, 2) := by decide +kernel
theorem dX8_whistle_69 : decode cX8_whistle 69 = .ok (.invokevirtual 42, 3) := by decide +kernel
theorem dX8_whistle_72 : decode cX8_whistle 72 = .ok (.istore 5, 2) := by decide +kernel
theorem dX8_whistle_74 : decode cX8_whistle 74 = .ok (.aload_n 0, 1) := by decide +kernel
theorem dX8_whistle_75 : decode cX8_whistle 75 = .ok (.getfield 9, 3) := by decide +kernel
theorem dX8_whistle_78 : decode cX8_whistle 78 = .ok (.aload_n 0, 1) := by decide +kernel
theorem dX8_whistle_79 : decode cX8_whistle 79 = .ok (.iload_n 1, 1) := by decide +kernel
theorem dX8_whistle_80 : decode cX8_whistle 80 = .ok (.iload_n 2, 1) := by decide +kernel
theorem dX8_whistle_81 : decode cX8_whistle 81 = .ok (.invokestatic 115, 3) := by decide +kernel
theorem dX8_whistle_84 : decode cX8_whistle 84 = .ok (.iadd, 1) := by decide +kernel
theorem dX8_whistle_85 : decode cX8_whistle 85 = .ok (.istore 6, 2) := by decide +kernel
theorem dX8_whistle_87 : decode cX8_whistle 87 = .ok (.aload_n 0, 1) := by decide +kernel
theorem dX8_whistle_88 : decode cX8_whistle 88 = .ok (.getfield 97, 3) := by decide +kernel
theorem dX8_whistle_91 : decode cX8_whistle 91 = .ok (.iload_n 1, 1) := by decide +kernel
theorem dX8_whistle_92 : decode cX8_whistle 92 = .ok (.iconst 4, 1) := by decide +kernel
theorem dX8_whistle_93 : decode cX8_whistle 93 = .ok (.iload 6, 2) := by decide +kernel
theorem dX8_whistle_95 : decode cX8_whistle 95 = .ok (.invokevirtual 62, 3) := by decide +kernel
theorem dX8_whistle_98 : decode cX8_whistle 98 = .ok (.aload_n 0, 1) := by decide +kernel
theorem dX8_whistle_99 : decode cX8_whistle 99 = .ok (.getfield 97, 3) := by decide +kernel
theorem dX8_whistle_102 : decode cX8_whistle 102 = .ok (.iload_n 1, 1) := by decide +kernel
theorem dX8_whistle_103 : decode cX8_whistle 103 = .ok (.bipush 7, 2) := by decide +kernel
theorem dX8_whistle_105 : decode cX8_whistle 105 = .ok (.iconst 1, 1) := by decide +kernel
theorem dX8_whistle_106 : decode cX8_whistle 106 = .ok (.invokevirtual 69, 3) := by decide +kernel
theorem dX8_whistle_109 : decode cX8_whistle 109 = .ok (.aload_n 0, 1) := by decide +kernel
theorem dX8_whistle_110 : decode cX8_whistle 110 = .ok (.getfield 38, 3) := by decide +kernel
theorem dX8_whistle_113 : decode cX8_whistle 113 = .ok (.iload_n 2, 1) := by decide +kernel
theorem dX8_whistle_114 : decode cX8_whistle 114 = .ok (.iconst 3, 1) := by decide +kernel
theorem dX8_whistle_115 : decode cX8_whistle 115 = .ok (.iconst 1, 1) := by decide +kernel
theorem dX8_whistle_116 : decode cX8_whistle 116 = .ok (.invokevirtual 62, 3) := by decide +kernel
theorem dX8_whistle_119 : decode cX8_whistle 119 = .ok (.aload_n 0, 1) := by decide +kernel
theorem dX8_whistle_120 : decode cX8_whistle 120 = .ok (.getfield 38, 3) := by decide +kernel
theorem dX8_whistle_123 : decode cX8_whistle 123 = .ok (.iload_n 2, 1) := by decide +kernel
theorem dX8_whistle_124 : decode cX8_whistle 124 = .ok (.iconst 4, 1) := by decide +kernel
theorem dX8_whistle_125 : decode cX8_whistle 125 = .ok (.iload 4, 2) := by decide +kernel
theorem dX8_whistle_127 : decode cX8_whistle 127 = .ok (.invokevirtual 62, 3) := by decide +kernel
theorem dX8_whistle_130 : decode cX8_whistle 130 = .ok (.aload_n 0, 1) := by decide +kernel
theorem dX8_whistle_131 : decode cX8_whistle 131 = .ok (.getfield 38, 3) := by decide +kernel
theorem dX8_whistle_134 : decode cX8_whistle 134 = .ok (.iload_n 2, 1) := by decide +kernel
theorem dX8_whistle_135 : decode cX8_whistle 135 = .ok (.iconst 5, 1) := by decide +kernel
theorem dX8_whistle_136 : decode cX8_whistle 136 = .ok (.iload 6, 2) := by decide +kernel
theorem dX8_whistle_138 : decode cX8_whistle 138 = .ok (.iload 5, 2) := by decide +kernel
theorem dX8_whistle_140 : decode cX8_whistle 140 = .ok (.iadd, 1) := by decide +kernel
theorem dX8_whistle_141 : decode cX8_whistle 141 = .ok (.invokevirtual 62, 3) := by decide +kernel
theorem dX8_whistle_144 : decode cX8_whistle 144 = .ok (.aload_n 0, 1) := by decide +kernel
theorem dX8_whistle_145 : decode cX8_whistle 145 = .ok (.getfield 38, 3) := by decide +kernel
theorem dX8_whistle_148 : decode cX8_whistle 148 = .ok (.iload_n 2, 1) := by decide +kernel
theorem dX8_whistle_149 : decode cX8_whistle 149 = .ok (.bipush 12, 2) := by decide +kernel
theorem dX8_whistle_151 : decode cX8_whistle 151 = .ok (.iload 5, 2) := by decide +kernel
theorem dX8_whistle_153 : decode cX8_whistle 153 = .ok (.invokevirtual 62, 3) := by decide +kernel
theorem dX8_whistle_156 : decode cX8_whistle 156 = .ok (.aload_n 0, 1) := by decide +kernel
theorem dX8_whistle_157 : decode cX8_whistle 157 = .ok (.getfield 38, 3) := by decide +kernel
theorem dX8_whistle_160 : decode cX8_whistle 160 = .ok (.iload_n 2, 1) := by decide +kernel
theorem dX8_whistle_161 : decode cX8_whistle 161 = .ok (.bipush 11, 2) := by decide +kernel
theorem dX8_whistle_163 : decode cX8_whistle 163 = .ok (.iconst 1, 1) := by decide +kernel
theorem dX8_whistle_164 : decode cX8_whistle 164 = .ok (.invokevirtual 69, 3) := by decide +kernel
theorem dX8_whistle_167 : decode cX8_whistle 167 = .ok (.aload_n 0, 1) := by decide +kernel
theorem dX8_whistle_168 : decode cX8_whistle 168 = .ok (.iconst 3, 1) := by decide +kernel
theorem dX8_whistle_169 : decode cX8_whistle 169 = .ok (.iconst 1, 1) := by decide +kernel
theorem dX8_whistle_170 : decode cX8_whistle 170 = .ok (.invokevirtual 15, 3) := by decide +kernel
theorem dX8_whistle_173 : decode cX8_whistle 173 = .ok (.return_, 1) := by decide +kernel
theorem dX8_breathsFor_0 : decode cX8_breathsFor 0 = .ok (.iconst 1, 1) := by decide +kernel
theorem dX8_breathsFor_1 : decode cX8_breathsFor 1 = .ok (.aload_n 0, 1) := by decide +kernel
theorem dX8_breathsFor_2 : decode cX8_breathsFor 2 = .ok (.getfield 97, 3) := by decide +kernel
theorem dX8_breathsFor_5 : decode cX8_breathsFor 5 = .ok (.iload_n 1, 1) := by decide +kernel
theorem dX8_breathsFor_6 : decode cX8_breathsFor 6 = .ok (.iconst 0, 1) := by decide +kernel
theorem dX8_breathsFor_7 : decode cX8_breathsFor 7 = .ok (.invokevirtual 42, 3) := by decide +kernel
theorem dX8_breathsFor_10 : decode cX8_breathsFor 10 = .ok (.invokestatic 119, 3) := by decide +kernel
theorem dX8_breathsFor_13 : decode cX8_breathsFor 13 = .ok (.istore_n 3, 1) := by decide +kernel
theorem dX8_breathsFor_14 : decode cX8_breathsFor 14 = .ok (.aload_n 0, 1) := by decide +kernel
theorem dX8_breathsFor_15 : decode cX8_breathsFor 15 = .ok (.getfield 38, 3) := by decide +kernel
theorem dX8_breathsFor_18 : decode cX8_breathsFor 18 = .ok (.iload_n 2, 1) := by decide +kernel
theorem dX8_breathsFor_19 : decode cX8_breathsFor 19 = .ok (.iconst 2, 1) := by decide +kernel
theorem dX8_breathsFor_20 : decode cX8_breathsFor 20 = .ok (.invokevirtual 42, 3) := by decide +kernel
theorem dX8_breathsFor_23 : decode cX8_breathsFor 23 = .ok (.iload_n 3, 1) := by decide +kernel
theorem dX8_breathsFor_24 : decode cX8_breathsFor 24 = .ok (.iadd, 1) := by decide +kernel
theorem dX8_breathsFor_25 : decode cX8_breathsFor 25 = .ok (.iconst 1, 1) := by decide +kernel
theorem dX8_breathsFor_26 : decode cX8_breathsFor 26 = .ok (.isub, 1) := by decide +kernel
theorem dX8_breathsFor_27 : decode cX8_breathsFor 27 = .ok (.iload_n 3, 1) := by decide +kernel
theorem dX8_breathsFor_28 : decode cX8_breathsFor 28 = .ok (.idiv, 1) := by decide +kernel
theorem dX8_breathsFor_29 : decode cX8_breathsFor 29 = .ok (.ireturn, 1) := by decide +kernel
theorem dX8_loseAll_0 : decode cX8_loseAll 0 = .ok (.iconst 0, 1) := by decide +kernel
theorem dX8_loseAll_1 : decode cX8_loseAll 1 = .ok (.istore_n 1, 1) := by decide +kernel
theorem dX8_loseAll_2 : decode cX8_loseAll 2 = .ok (.iload_n 1, 1) := by decide +kernel
theorem dX8_loseAll_3 : decode cX8_loseAll 3 = .ok (.aload_n 0, 1) := by decide +kernel
theorem dX8_loseAll_4 : decode cX8_loseAll 4 = .ok (.getfield 35, 3) := by decide +kernel
theorem dX8_loseAll_7 : decode cX8_loseAll 7 = .ok (.if_icmp .ge 47, 3) := by decide +kernel
theorem dX8_loseAll_10 : decode cX8_loseAll 10 = .ok (.aload_n 0, 1) := by decide +kernel
theorem dX8_loseAll_11 : decode cX8_loseAll 11 = .ok (.getfield 38, 3) := by decide +kernel
theorem dX8_loseAll_14 : decode cX8_loseAll 14 = .ok (.iload_n 1, 1) := by decide +kernel
theorem dX8_loseAll_15 : decode cX8_loseAll 15 = .ok (.iconst 3, 1) := by decide +kernel
theorem dX8_loseAll_16 : decode cX8_loseAll 16 = .ok (.invokevirtual 42, 3) := by decide +kernel
theorem dX8_loseAll_19 : decode cX8_loseAll 19 = .ok (.ifCond .ne 29, 3) := by decide +kernel
theorem dX8_loseAll_22 : decode cX8_loseAll 22 = .ok (.aload_n 0, 1) := by decide +kernel
theorem dX8_loseAll_23 : decode cX8_loseAll 23 = .ok (.iload_n 1, 1) := by decide +kernel
theorem dX8_loseAll_24 : decode cX8_loseAll 24 = .ok (.invokevirtual 103, 3) := by decide +kernel
theorem dX8_loseAll_27 : decode cX8_loseAll 27 = .ok (.iconst (-1), 1) := by decide +kernel
theorem dX8_loseAll_28 : decode cX8_loseAll 28 = .ok (.if_icmp .ne 20, 3) := by decide +kernel
theorem dX8_loseAll_31 : decode cX8_loseAll 31 = .ok (.aload_n 0, 1) := by decide +kernel
theorem dX8_loseAll_32 : decode cX8_loseAll 32 = .ok (.getfield 38, 3) := by decide +kernel
theorem dX8_loseAll_35 : decode cX8_loseAll 35 = .ok (.iload_n 1, 1) := by decide +kernel
theorem dX8_loseAll_36 : decode cX8_loseAll 36 = .ok (.iconst 3, 1) := by decide +kernel
theorem dX8_loseAll_37 : decode cX8_loseAll 37 = .ok (.iconst 3, 1) := by decide +kernel
theorem dX8_loseAll_38 : decode cX8_loseAll 38 = .ok (.invokevirtual 62, 3) := by decide +kernel
theorem dX8_loseAll_41 : decode cX8_loseAll 41 = .ok (.aload_n 0, 1) := by decide +kernel
theorem dX8_loseAll_42 : decode cX8_loseAll 42 = .ok (.bipush 8, 2) := by decide +kernel
theorem dX8_loseAll_44 : decode cX8_loseAll 44 = .ok (.iconst 1, 1) := by decide +kernel
theorem dX8_loseAll_45 : decode cX8_loseAll 45 = .ok (.invokevirtual 15, 3) := by decide +kernel
theorem dX8_loseAll_48 : decode cX8_loseAll 48 = .ok (.iinc 1 1, 3) := by decide +kernel
theorem dX8_loseAll_51 : decode cX8_loseAll 51 = .ok (.goto (-49), 3) := by decide +kernel
theorem dX8_loseAll_54 : decode cX8_loseAll 54 = .ok (.return_, 1) := by decide +kernel
theorem dX9_init_0 : decode cX9_init 0 = .ok (.aload_n 0, 1) := by decide +kernel
theorem dX9_init_1 : decode cX9_init 1 = .ok (.invokespecial 3, 3) := by decide +kernel
theorem dX9_init_4 : decode cX9_init 4 = .ok (.aload_n 0, 1) := by decide +kernel
theorem dX9_init_5 : decode cX9_init 5 = .ok (.aload_n 1, 1) := by decide +kernel
theorem dX9_init_6 : decode cX9_init 6 = .ok (.putfield 9, 3) := by decide +kernel
theorem dX9_init_9 : decode cX9_init 9 = .ok (.aload_n 0, 1) := by decide +kernel
theorem dX9_init_10 : decode cX9_init 10 = .ok (.iconst 0, 1) := by decide +kernel
theorem dX9_init_11 : decode cX9_init 11 = .ok (.putfield 15, 3) := by decide +kernel
theorem dX9_init_14 : decode cX9_init 14 = .ok (.aload_n 0, 1) := by decide +kernel
theorem dX9_init_15 : decode cX9_init 15 = .ok (.iconst (-1), 1) := by decide +kernel
theorem dX9_init_16 : decode cX9_init 16 = .ok (.putfield 19, 3) := by decide +kernel
theorem dX9_init_19 : decode cX9_init 19 = .ok (.return_, 1) := by decide +kernel
theorem dX9_open_0 : decode cX9_open 0 = .ok (.aload_n 0, 1) := by decide +kernel
theorem dX9_open_1 : decode cX9_open 1 = .ok (.iconst 0, 1) := by decide +kernel
theorem dX9_open_2 : decode cX9_open 2 = .ok (.putfield 15, 3) := by decide +kernel
theorem dX9_open_5 : decode cX9_open 5 = .ok (.aload_n 0, 1) := by decide +kernel
theorem dX9_open_6 : decode cX9_open 6 = .ok (.iconst (-1), 1) := by decide +kernel
theorem dX9_open_7 : decode cX9_open 7 = .ok (.putfield 19, 3) := by decide +kernel
theorem dX9_open_10 : decode cX9_open 10 = .ok (.aload_n 0, 1) := by decide +kernel
theorem dX9_open_11 : decode cX9_open 11 = .ok (.iconst 0, 1) := by decide +kernel
theorem dX9_open_12 : decode cX9_open 12 = .ok (.putfield 22, 3) := by decide +kernel
theorem dX9_open_15 : decode cX9_open 15 = .ok (.aload_n 0, 1) := by decide +kernel
theorem dX9_open_16 : decode cX9_open 16 = .ok (.invokevirtual 25, 3) := by decide +kernel
theorem dX9_open_19 : decode cX9_open 19 = .ok (.return_, 1) := by decide +kernel
theorem dX9_fail_0 : decode cX9_fail 0 = .ok (.aload_n 0, 1) := by decide +kernel
theorem dX9_fail_1 : decode cX9_fail 1 = .ok (.iload_n 1, 1) := by decide +kernel
theorem dX9_fail_2 : decode cX9_fail 2 = .ok (.putfield 15, 3) := by decide +kernel
theorem dX9_fail_5 : decode cX9_fail 5 = .ok (.aload_n 0, 1) := by decide +kernel
theorem dX9_fail_6 : decode cX9_fail 6 = .ok (.aload_n 0, 1) := by decide +kernel
theorem dX9_fail_7 : decode cX9_fail 7 = .ok (.getfield 28, 3) := by decide +kernel
theorem dX9_fail_10 : decode cX9_fail 10 = .ok (.putfield 19, 3) := by decide +kernel
theorem dX9_fail_13 : decode cX9_fail 13 = .ok (.iconst 0, 1) := by decide +kernel
theorem dX9_fail_14 : decode cX9_fail 14 = .ok (.ireturn, 1) := by decide +kernel
theorem dX9_kindOf_0 : decode cX9_kindOf 0 = .ok (.iload_n 0, 1) := by decide +kernel
theorem dX9_kindOf_1 : decode cX9_kindOf 1 = .ok (.bipush 97, 2) := by decide +kernel
theorem dX9_kindOf_3 : decode cX9_kindOf 3 = .ok (.if_icmp .lt 11, 3) := by decide +kernel
theorem dX9_kindOf_6 : decode cX9_kindOf 6 = .ok (.iload_n 0, 1) := by decide +kernel
theorem dX9_kindOf_7 : decode cX9_kindOf 7 = .ok (.bipush 122, 2) := by decide +kernel
theorem dX9_kindOf_9 : decode cX9_kindOf 9 = .ok (.if_icmp .gt 5, 3) := by decide +kernel
theorem dX9_kindOf_12 : decode cX9_kindOf 12 = .ok (.iconst 1, 1) := by decide +kernel
theorem dX9_kindOf_13 : decode cX9_kindOf 13 = .ok (.ireturn, 1) := by decide +kernel
theorem dX9_kindOf_14 : decode cX9_kindOf 14 = .ok (.iload_n 0, 1) := by decide +kernel
theorem dX9_kindOf_15 : decode cX9_kindOf 15 = .ok (.bipush 48, 2) := by decide +kernel
theorem dX9_kindOf_17 : decode cX9_kindOf 17 = .ok (.if_icmp .lt 11, 3) := by decide +kernel
theorem dX9_kindOf_20 : decode cX9_kindOf 20 = .ok (.iload_n 0, 1) := by decide +kernel
theorem dX9_kindOf_21 : decode cX9_kindOf 21 = .ok (.bipush 57, 2) := by decide +kernel
theorem dX9_kindOf_23 : decode cX9_kindOf 23 = .ok (.if_icmp .gt 5, 3) := by decide +kernel
theorem dX9_kindOf_26 : decode cX9_kindOf 26 = .ok (.iconst 2, 1) := by decide +kernel
theorem dX9_kindOf_27 : decode cX9_kindOf 27 = .ok (.ireturn, 1) := by decide +kernel
theorem dX9_kindOf_28 : decode cX9_kindOf 28 = .ok (.iload_n 0, 1) := by decide +kernel
theorem dX9_kindOf_29 : decode cX9_kindOf 29 = .ok (.lookupswitch 49 #[(-1, 47), (10, 45), (32, 45), (59, 43)], 43) := by decide +kernel
theorem dX9_kindOf_72 : decode cX9_kindOf 72 = .ok (.iconst 3, 1) := by decide +kernel
theorem dX9_kindOf_73 : decode cX9_kindOf 73 = .ok (.ireturn, 1) := by decide +kernel
theorem dX9_kindOf_74 : decode cX9_kindOf 74 = .ok (.iconst 5, 1) := by decide +kernel
theorem dX9_kindOf_75 : decode cX9_kindOf 75 = .ok (.ireturn, 1) := by decide +kernel
theorem dX9_kindOf_76 : decode cX9_kindOf 76 = .ok (.iconst 0, 1) := by decide +kernel
theorem dX9_kindOf_77 : decode cX9_kindOf 77 = .ok (.ireturn, 1) := by decide +kernel
theorem dX9_kindOf_78 : decode cX9_kindOf 78 = .ok (.iconst 4, 1) := by decide +kernel
theorem dX9_kindOf_79 : decode cX9_kindOf 79 = .ok (.ireturn, 1) := by decide +kernel
theorem dX9_step_0 : decode cX9_step 0 = .ok (.aload_n 0, 1) := by decide +kernel
theorem dX9_step_1 : decode cX9_step 1 = .ok (.aload_n 0, 1) := by decide +kernel
theorem dX9_step_2 : decode cX9_step 2 = .ok (.getfield 22, 3) := by decide +kernel
theorem dX9_step_5 : decode cX9_step 5 = .ok (.putfield 28, 3) := by decide +kernel
theorem dX9_step_8 : decode cX9_step 8 = .ok (.aload_n 0, 1) := by decide +kernel
theorem dX9_step_9 : decode cX9_step 9 = .ok (.getfield 28, 3) := by decide +kernel
theorem dX9_step_12 : decode cX9_step 12 = .ok (.aload_n 0, 1) := by decide +kernel
theorem dX9_step_13 : decode cX9_step 13 = .ok (.getfield 9, 3) := by decide +kernel
theorem dX9_step_16 : decode cX9_step 16 = .ok (.invokevirtual 31, 3) := by decide +kernel
theorem dX9_step_19 : decode cX9_step 19 = .ok (.if_icmp .ge 34, 3) := by decide +kernel
theorem dX9_step_22 : decode cX9_step 22 = .ok (.aload_n 0, 1) := by decide +kernel
theorem dX9_step_23 : decode cX9_step 23 = .ok (.getfield 9, 3) := by decide +kernel
theorem dX9_step_26 : decode cX9_step 26 = .ok (.aload_n 0, 1) := by decide +kernel
theorem dX9_step_27 : decode cX9_step 27 = .ok (.getfield 28, 3) := by decide +kernel
theorem dX9_step_30 : decode cX9_step 30 = .ok (.invokevirtual 37, 3) := by decide +kernel
theorem dX9_step_33 : decode cX9_step 33 = .ok (.invokestatic 41, 3) := by decide +kernel
theorem dX9_step_36 : decode cX9_step 36 = .ok (.iconst 5, 1) := by decide +kernel
theorem dX9_step_37 : decode cX9_step 37 = .ok (.if_icmp .ne 16, 3) := by decide +kernel
theorem dX9_step_40 : decode cX9_step 40 = .ok (.aload_n 0, 1) := by decide +kernel
theorem dX9_step_41 : decode cX9_step 41 = .ok (.dup, 1) := by decide +kernel
theorem dX9_step_42 : decode cX9_step 42 = .ok (.getfield 28, 3) := by decide +kernel
theorem dX9_step_45 : decode cX9_step 45 = .ok (.iconst 1, 1) := by decide +kernel
theorem dX9_step_46 : decode cX9_step 46 = .ok (.iadd, 1) := by decide +kernel
theorem dX9_step_47 : decode cX9_step 47 = .ok (.putfield 28, 3) := by decide +kernel
theorem dX9_step_50 : decode cX9_step 50 = .ok (.goto (-42), 3) := by decide +kernel
theorem dX9_step_53 : decode cX9_step 53 = .ok (.aload_n 0, 1) := by decide +kernel
theorem dX9_step_54 : decode cX9_step 54 = .ok (.aload_n 0, 1) := by decide +kernel
theorem dX9_step_55 : decode cX9_step 55 = .ok (.getfield 9, 3) := by decide +kernel
theorem dX9_step_58 : decode cX9_step 58 = .ok (.aload_n 0, 1) := by decide +kernel
theorem dX9_step_59 : decode cX9_step 59 = .ok (.getfield 28, 3) := by decide +kernel
theorem dX9_step_62 : decode cX9_step 62 = .ok (.invokevirtual 37, 3) := by decide +kernel
theorem dX9_step_65 : decode cX9_step 65 = .ok (.invokestatic 41, 3) := by decide +kernel
theorem dX9_step_68 : decode cX9_step 68 = .ok (.putfield 44, 3) := by decide +kernel
theorem dX9_step_71 : decode cX9_step 71 = .ok (.aload_n 0, 1) := by decide +kernel
theorem dX9_step_72 : decode cX9_step 72 = .ok (.aload_n 0, 1) := by decide +kernel
theorem dX9_step_73 : decode cX9_step 73 = .ok (.getfield 44, 3) := by decide +kernel
theorem dX9_step_76 : decode cX9_step 76 = .ok (.ifCond .ne 10, 3) := by decide +kernel
theorem dX9_step_79 : decode cX9_step 79 = .ok (.aload_n 0, 1) := by decide +kernel
theorem dX9_step_80 : decode cX9_step 80 = .ok (.getfield 28, 3) := by decide +kernel
theorem dX9_step_83 : decode cX9_step 83 = .ok (.goto 9, 3) := by decide +kernel
theorem dX9_step_86 : decode cX9_step 86 = .ok (.aload_n 0, 1) := by decide +kernel
theorem dX9_step_87 : decode cX9_step 87 = .ok (.getfield 28, 3) := by decide +kernel
theorem dX9_step_90 : decode cX9_step 90 = .ok (.iconst 1, 1) := by decide +kernel
theorem dX9_step_91 : decode cX9_step 91 = .ok (.iadd, 1) := by decide +kernel
theorem dX9_step_92 : decode cX9_step 92 = .ok (.putfield 22, 3) := by decide +kernel
theorem dX9_step_95 : decode cX9_step 95 = .ok (.aload_n 0, 1) := by decide +kernel
theorem dX9_step_96 : decode cX9_step 96 = .ok (.getfield 44, 3) := by decide +kernel
theorem dX9_step_99 : decode cX9_step 99 = .ok (.iconst 1, 1) := by decide +kernel
theorem dX9_step_100 : decode cX9_step 100 = .ok (.if_icmp .eq 11, 3) := by decide +kernel
theorem dX9_step_103 : decode cX9_step 103 = .ok (.aload_n 0, 1) := by decide +kernel
theorem dX9_step_104 : decode cX9_step 104 = .ok (.getfield 44, 3) := by decide +kernel
theorem dX9_step_107 : decode cX9_step 107 = .ok (.iconst 2, 1) := by decide +kernel
theorem dX9_step_108 : decode cX9_step 108 = .ok (.if_icmp .ne 7, 3) := by decide +kernel
theorem dX9_step_111 : decode cX9_step 111 = .ok (.iconst 1, 1) := by decide +kernel
theorem dX9_step_112 : decode cX9_step 112 = .ok (.goto 4, 3) := by decide +kernel
theorem dX9_step_115 : decode cX9_step 115 = .ok (.iconst 0, 1) := by decide +kernel
theorem dX9_step_116 : decode cX9_step 116 = .ok (.istore_n 1, 1) := by decide +kernel
theorem dX9_step_117 : decode cX9_step 117 = .ok (.iload_n 1, 1) := by decide +kernel
theorem dX9_step_118 : decode cX9_step 118 = .ok (.ifCond .eq 51, 3) := by decide +kernel
theorem dX9_step_121 : decode cX9_step 121 = .ok (.aload_n 0, 1) := by decide +kernel
theorem dX9_step_122 : decode cX9_step 122 = .ok (.getfield 22, 3) := by decide +kernel
theorem dX9_step_125 : decode cX9_step 125 = .ok (.aload_n 0, 1) := by decide +kernel
theorem dX9_step_126 : decode cX9_step 126 = .ok (.getfield 9, 3) := by decide +kernel
theorem dX9_step_129 : decode cX9_step 129 = .ok (.invokevirtual 31, 3) := by decide +kernel
theorem dX9_step_132 : decode cX9_step 132 = .ok (.if_icmp .ge 37, 3) := by decide +kernel
theorem dX9_step_135 : decode cX9_step 135 = .ok (.aload_n 0, 1) := by decide +kernel
theorem dX9_step_136 : decode cX9_step 136 = .ok (.getfield 9, 3) := by decide +kernel
theorem dX9_step_139 : decode cX9_step 139 = .ok (.aload_n 0, 1) := by decide +kernel
theorem dX9_step_140 : decode cX9_step 140 = .ok (.getfield 22, 3) := by decide +kernel
theorem dX9_step_143 : decode cX9_step 143 = .ok (.invokevirtual 37, 3) := by decide +kernel
theorem dX9_step_146 : decode cX9_step 146 = .ok (.invokestatic 41, 3) := by decide +kernel
theorem dX9_step_149 : decode cX9_step 149 = .ok (.aload_n 0, 1) := by decide +kernel
theorem dX9_step_150 : decode cX9_step 150 = .ok (.getfield 44, 3) := by decide +kernel
theorem dX9_step_153 : decode cX9_step 153 = .ok (.if_icmp .ne 16, 3) := by decide +kernel
theorem dX9_step_156 : decode cX9_step 156 = .ok (.aload_n 0, 1) := by decide +kernel
theorem dX9_step_157 : decode cX9_step 157 = .ok (.dup, 1) := by decide +kernel
theorem dX9_step_158 : decode cX9_step 158 = .ok (.getfield 22, 3) := by decide +kernel
theorem dX9_step_161 : decode cX9_step 161 = .ok (.iconst 1, 1) := by decide +kernel
theorem dX9_step_162 : decode cX9_step 162 = .ok (.iadd, 1) := by decide +kernel
theorem dX9_step_163 : decode cX9_step 163 = .ok (.putfield 22, 3) := by decide +kernel
theorem dX9_step_166 : decode cX9_step 166 = .ok (.goto (-49), 3) := by decide +kernel
theorem dX9_step_169 : decode cX9_step 169 = .ok (.iload_n 1, 1) := by decide +kernel
theorem dX9_step_170 : decode cX9_step 170 = .ok (.ifCond .eq 34, 3) := by decide +kernel
theorem dX9_step_173 : decode cX9_step 173 = .ok (.aload_n 0, 1) := by decide +kernel
theorem dX9_step_174 : decode cX9_step 174 = .ok (.getfield 22, 3) := by decide +kernel
theorem dX9_step_177 : decode cX9_step 177 = .ok (.aload_n 0, 1) := by decide +kernel
theorem dX9_step_178 : decode cX9_step 178 = .ok (.getfield 28, 3) := by decide +kernel
theorem dX9_step_181 : decode cX9_step 181 = .ok (.isub, 1) := by decide +kernel
theorem dX9_step_182 : decode cX9_step 182 = .ok (.aload_n 0, 1) := by decide +kernel
theorem dX9_step_183 : decode cX9_step 183 = .ok (.getfield 44, 3) := by decide +kernel
theorem dX9_step_186 : decode cX9_step 186 = .ok (.iconst 1, 1) := by decide +kernel
theorem dX9_step_187 : decode cX9_step 187 = .ok (.if_icmp .ne 8, 3) := by decide +kernel
theorem dX9_step_190 : decode cX9_step 190 = .ok (.bipush 8, 2) := by decide +kernel
theorem dX9_step_192 : decode cX9_step 192 = .ok (.goto 4, 3) := by decide +kernel
theorem dX9_step_195 : decode cX9_step 195 = .ok (.iconst 3, 1) := by decide +kernel
theorem dX9_step_196 : decode cX9_step 196 = .ok (.if_icmp .le 8, 3) := by decide +kernel
theorem dX9_step_199 : decode cX9_step 199 = .ok (.aload_n 0, 1) := by decide +kernel
theorem dX9_step_200 : decode cX9_step 200 = .ok (.iconst 4, 1) := by decide +kernel
theorem dX9_step_201 : decode cX9_step 201 = .ok (.putfield 44, 3) := by decide +kernel
theorem dX9_step_204 : decode cX9_step 204 = .ok (.aload_n 0, 1) := by decide +kernel
theorem dX9_step_205 : decode cX9_step 205 = .ok (.iconst 0, 1) := by decide +kernel
theorem dX9_step_206 : decode cX9_step 206 = .ok (.putfield 47, 3) := by decide +kernel
theorem dX9_step_209 : decode cX9_step 209 = .ok (.aload_n 0, 1) := by decide +kernel
theorem dX9_step_210 : decode cX9_step 210 = .ok (.getfield 28, 3) := by decide +kernel
theorem dX9_step_213 : decode cX9_step 213 = .ok (.istore_n 2, 1) := by decide +kernel
theorem dX9_step_214 : decode cX9_step 214 = .ok (.iload_n 2, 1) := by decide +kernel
theorem dX9_step_215 : decode cX9_step 215 = .ok (.aload_n 0, 1) := by decide +kernel
theorem dX9_step_216 : decode cX9_step 216 = .ok (.getfield 22, 3) := by decide +kernel
theorem dX9_step_219 : decode cX9_step 219 = .ok (.if_icmp .ge 40, 3) := by decide +kernel
theorem dX9_step_222 : decode cX9_step 222 = .ok (.aload_n 0, 1) := by decide +kernel
theorem dX9_step_223 : decode cX9_step 223 = .ok (.getfield 44, 3) := by decide +kernel
theorem dX9_step_226 : decode cX9_step 226 = .ok (.iconst 2, 1) := by decide +kernel
theorem dX9_step_227 : decode cX9_step 227 = .ok (.if_icmp .ne 32, 3) := by decide +kernel
theorem dX9_step_230 : decode cX9_step 230 = .ok (.aload_n 0, 1) := by decide +kernel
theorem dX9_step_231 : decode cX9_step 231 = .ok (.aload_n 0, 1) := by decide +kernel
theorem dX9_step_232 : decode cX9_step 232 = .ok (.getfield 47, 3) := by decide +kernel
theorem dX9_step_235 : decode cX9_step 235 = .ok (.bipush 10, 2) := by decide +kernel
theorem dX9_step_237 : decode cX9_step 237 = .ok (.imul, 1) := by decide +kernel
theorem dX9_step_238 : decode cX9_step 238 = .ok (.aload_n 0, 1) := by decide +kernel
theorem dX9_step_239 : decode cX9_step 239 = .ok (.getfield 9, 3) := by decide +kernel
theorem dX9_step_242 : decode cX9_step 242 = .ok (.iload_n 2, 1) := by decide +kernel
theorem dX9_step_243 : decode cX9_step 243 = .ok (.invokevirtual 37, 3) := by decide +kernel
theorem dX9_step_246 : decode cX9_step 246 = .ok (.iadd, 1) := by decide +kernel
theorem dX9_step_247 : decode cX9_step 247 = .ok (.bipush 48, 2) := by decide +kernel
theorem dX9_step_249 : decode cX9_step 249 = .ok (.isub, 1) := by decide +kernel
theorem dX9_step_250 : decode cX9_step 250 = .ok (.putfield 47, 3) := by decide +kernel
theorem dX9_step_253 : decode cX9_step 253 = .ok (.iinc 2 1, 3) := by decide +kernel
theorem dX9_step_256 : decode cX9_step 256 = .ok (.goto (-42), 3) := by decide +kernel
theorem dX9_step_259 : decode cX9_step 259 = .ok (.return_, 1) := by decide +kernel
theorem dX9_isWord_0 : decode cX9_isWord 0 = .ok (.aload_n 0, 1) := by decide +kernel
theorem dX9_isWord_1 : decode cX9_isWord 1 = .ok (.getfield 44, 3) := by decide +kernel
theorem dX9_isWord_4 : decode cX9_isWord 4 = .ok (.iconst 1, 1) := by decide +kernel
theorem dX9_isWord_5 : decode cX9_isWord 5 = .ok (.if_icmp .ne 19, 3) := by decide +kernel
theorem dX9_isWord_8 : decode cX9_isWord 8 = .ok (.aload_n 0, 1) := by decide +kernel
theorem dX9_isWord_9 : decode cX9_isWord 9 = .ok (.getfield 22, 3) := by decide +kernel
theorem dX9_isWord_12 : decode cX9_isWord 12 = .ok (.aload_n 0, 1) := by decide +kernel
theorem dX9_isWord_13 : decode cX9_isWord 13 = .ok (.getfield 28, 3) := by decide +kernel
theorem dX9_isWord_16 : decode cX9_isWord 16 = .ok (.isub, 1) := by decide +kernel
theorem dX9_isWord_17 : decode cX9_isWord 17 = .ok (.aload_n 1, 1) := by decide +kernel
theorem dX9_isWord_18 : decode cX9_isWord 18 = .ok (.invokevirtual 50, 3) := by decide +kernel
theorem dX9_isWord_21 : decode cX9_isWord 21 = .ok (.if_icmp .eq 5, 3) := by decide +kernel
theorem dX9_isWord_24 : decode cX9_isWord 24 = .ok (.iconst 0, 1) := by decide +kernel
theorem dX9_isWord_25 : decode cX9_isWord 25 = .ok (.ireturn, 1) := by decide +kernel
theorem dX9_isWord_26 : decode cX9_isWord 26 = .ok (.iconst 0, 1) := by decide +kernel
theorem dX9_isWord_27 : decode cX9_isWord 27 = .ok (.istore_n 2, 1) := by decide +kernel
theorem dX9_isWord_28 : decode cX9_isWord 28 = .ok (.iload_n 2, 1) := by decide +kernel
theorem dX9_isWord_29 : decode cX9_isWord 29 = .ok (.aload_n 1, 1) := by decide +kernel
theorem dX9_isWord_30 : decode cX9_isWord 30 = .ok (.invokevirtual 50, 3) := by decide +kernel
theorem dX9_isWord_33 : decode cX9_isWord 33 = .ok (.if_icmp .ge 32, 3) := by decide +kernel
theorem dX9_isWord_36 : decode cX9_isWord 36 = .ok (.aload_n 0, 1) := by decide +kernel
theorem dX9_isWord_37 : decode cX9_isWord 37 = .ok (.getfield 9, 3) := by decide +kernel
theorem dX9_isWord_40 : decode cX9_isWord 40 = .ok (.aload_n 0, 1) := by decide +kernel
theorem dX9_isWord_41 : decode cX9_isWord 41 = .ok (.getfield 28, 3) := by decide +kernel
theorem dX9_isWord_44 : decode cX9_isWord 44 = .ok (.iload_n 2, 1) := by decide +kernel
theorem dX9_isWord_45 : decode cX9_isWord 45 = .ok (.iadd, 1) := by decide +kernel
theorem dX9_isWord_46 : decode cX9_isWord 46 = .ok (.invokevirtual 37, 3) := by decide +kernel
theorem dX9_isWord_49 : decode cX9_isWord 49 = .ok (.aload_n 1, 1) := by decide +kernel
theorem dX9_isWord_50 : decode cX9_isWord 50 = .ok (.iload_n 2, 1) := by decide +kernel
theorem dX9_isWord_51 : decode cX9_isWord 51 = .ok (.invokevirtual 55, 3) := by decide +kernel
theorem dX9_isWord_54 : decode cX9_isWord 54 = .ok (.if_icmp .eq 5, 3) := by decide +kernel
theorem dX9_isWord_57 : decode cX9_isWord 57 = .ok (.iconst 0, 1) := by decide +kernel
theorem dX9_isWord_58 : decode cX9_isWord 58 = .ok (.ireturn, 1) := by decide +kernel
theorem dX9_isWord_59 : decode cX9_isWord 59 = .ok (.iinc 2 1, 3) := by decide +kernel
theorem dX9_isWord_62 : decode cX9_isWord 62 = .ok (.goto (-34), 3) := by decide +kernel
theorem dX9_isWord_65 : decode cX9_isWord 65 = .ok (.iconst 1, 1) := by decide +kernel
theorem dX9_isWord_66 : decode cX9_isWord 66 = .ok (.ireturn, 1) := by decide +kernel
theorem dX9_settingWord_0 : decode cX9_settingWord 0 = .ok (.aload_n 0, 1) := by decide +kernel
theorem dX9_settingWord_1 : decode cX9_settingWord 1 = .ok (.ldc 59, 2) := by decide +kernel
theorem dX9_settingWord_3 : decode cX9_settingWord 3 = .ok (.invokevirtual 61, 3) := by decide +kernel
theorem dX9_settingWord_6 : decode cX9_settingWord 6 = .ok (.ifCond .eq 6, 3) := by decide +kernel
theorem dX9_settingWord_9 : decode cX9_settingWord 9 = .ok (.bipush 8, 2) := by decide +kernel
theorem dX9_settingWord_11 : decode cX9_settingWord 11 = .ok (.ireturn, 1) := by decide +kernel
theorem dX9_settingWord_12 : decode cX9_settingWord 12 = .ok (.aload_n 0, 1) := by decide +kernel
theorem dX9_settingWord_13 : decode cX9_settingWord 13 = .ok (.ldc 65, 2) := by decide +kernel
theorem dX9_settingWord_15 : decode cX9_settingWord 15 = .ok (.invokevirtual 61, 3) := by decide +kernel
theorem dX9_settingWord_18 : decode cX9_settingWord 18 = .ok (.ifCond .eq 6, 3) := by decide +kernel
theorem dX9_settingWord_21 : decode cX9_settingWord 21 = .ok (.bipush 9, 2) := by decide +kernel
theorem dX9_settingWord_23 : decode cX9_settingWord 23 = .ok (.ireturn, 1) := by decide +kernel
theorem dX9_settingWord_24 : decode cX9_settingWord 24 = .ok (.aload_n 0, 1) := by decide +kernel
theorem dX9_settingWord_25 : decode cX9_settingWord 25 = .ok (.ldc 67, 2) := by decide +kernel
theorem dX9_settingWord_27 : decode cX9_settingWord 27 = .ok (.invokevirtual 61, 3) := by decide +kernel
theorem dX9_settingWord_30 : decode cX9_settingWord 30 = .ok (.ifCond .eq 8, 3) := by decide +kernel
theorem dX9_settingWord_33 : decode cX9_settingWord 33 = .ok (.bipush 10, 2) := by decide +kernel
theorem dX9_settingWord_35 : decode cX9_settingWord 35 = .ok (.goto 4, 3) := by decide +kernel
theorem dX9_settingWord_38 : decode cX9_settingWord 38 = .ok (.iconst (-1), 1) := by decide +kernel
theorem dX9_settingWord_39 : decode cX9_settingWord 39 = .ok (.ireturn, 1) := by decide +kernel
theorem dX9_nameHere_0 : decode cX9_nameHere 0 = .ok (.aload_n 0, 1) := by decide +kernel
theorem dX9_nameHere_1 : decode cX9_nameHere 1 = .ok (.getfield 44, 3) := by decide +kernel
theorem dX9_nameHere_4 : decode cX9_nameHere 4 = .ok (.iconst 1, 1) := by decide +kernel
theorem dX9_nameHere_5 : decode cX9_nameHere 5 = .ok (.if_icmp .ne 17, 3) := by decide +kernel
theorem dX9_nameHere_8 : decode cX9_nameHere 8 = .ok (.aload_n 0, 1) := by decide +kernel
theorem dX9_nameHere_9 : decode cX9_nameHere 9 = .ok (.getfield 22, 3) := by decide +kernel
theorem dX9_nameHere_12 : decode cX9_nameHere 12 = .ok (.aload_n 0, 1) := by decide +kernel
theorem dX9_nameHere_13 : decode cX9_nameHere 13 = .ok (.getfield 28, 3) := by decide +kernel
theorem dX9_nameHere_16 : decode cX9_nameHere 16 = .ok (.isub, 1) := by decide +kernel
theorem dX9_nameHere_17 : decode cX9_nameHere 17 = .ok (.bipush 6, 2) := by decide +kernel
theorem dX9_nameHere_19 : decode cX9_nameHere 19 = .ok (.if_icmp .le 11, 3) := by decide +kernel
theorem dX9_nameHere_22 : decode cX9_nameHere 22 = .ok (.aload_n 0, 1) := by decide +kernel
theorem dX9_nameHere_23 : decode cX9_nameHere 23 = .ok (.iconst 1, 1) := by decide +kernel
theorem dX9_nameHere_24 : decode cX9_nameHere 24 = .ok (.invokevirtual 69, 3) := by decide +kernel
theorem dX9_nameHere_27 : decode cX9_nameHere 27 = .ok (.pop, 1) := by decide +kernel
theorem dX9_nameHere_28 : decode cX9_nameHere 28 = .ok (.iconst (-1), 1) := by decide +kernel
theorem dX9_nameHere_29 : decode cX9_nameHere 29 = .ok (.ireturn, 1) := by decide +kernel
theorem dX9_nameHere_30 : decode cX9_nameHere 30 = .ok (.iconst 0, 1) := by decide +kernel
theorem dX9_nameHere_31 : decode cX9_nameHere 31 = .ok (.istore_n 1, 1) := by decide +kernel
theorem dX9_nameHere_32 : decode cX9_nameHere 32 = .ok (.aload_n 0, 1) := by decide +kernel
theorem dX9_nameHere_33 : decode cX9_nameHere 33 = .ok (.getfield 22, 3) := by decide +kernel
theorem dX9_nameHere_36 : decode cX9_nameHere 36 = .ok (.iconst 1, 1) := by decide +kernel
theorem dX9_nameHere_37 : decode cX9_nameHere 37 = .ok (.isub, 1) := by decide +kernel
theorem dX9_nameHere_38 : decode cX9_nameHere 38 = .ok (.istore_n 2, 1) := by decide +kernel
theorem dX9_nameHere_39 : decode cX9_nameHere 39 = .ok (.iload_n 2, 1) := by decide +kernel
theorem dX9_nameHere_40 : decode cX9_nameHere 40 = .ok (.aload_n 0, 1) := by decide +kernel
theorem dX9_nameHere_41 : decode cX9_nameHere 41 = .ok (.getfield 28, 3) := by decide +kernel
theorem dX9_nameHere_44 : decode cX9_nameHere 44 = .ok (.if_icmp .lt 27, 3) := by decide +kernel
theorem dX9_nameHere_47 : decode cX9_nameHere 47 = .ok (.iload_n 1, 1) := by decide +kernel
theorem dX9_nameHere_48 : decode cX9_nameHere 48 = .ok (.iconst 5, 1) := by decide +kernel
theorem dX9_nameHere_49 : decode cX9_nameHere 49 = .ok (.ishl, 1) := by decide +kernel
theorem dX9_nameHere_50 : decode cX9_nameHere 50 = .ok (.aload_n 0, 1) := by decide +kernel
theorem dX9_nameHere_51 : decode cX9_nameHere 51 = .ok (.getfield 9, 3) := by decide +kernel
theorem dX9_nameHere_54 : decode cX9_nameHere 54 = .ok (.iload_n 2, 1) := by decide +kernel
theorem dX9_nameHere_55 : decode cX9_nameHere 55 = .ok (.invokevirtual 37, 3) := by decide +kernel
theorem dX9_nameHere_58 : decode cX9_nameHere 58 = .ok (.bipush 97, 2) := by decide +kernel
theorem dX9_nameHere_60 : decode cX9_nameHere 60 = .ok (.isub, 1) := by decide +kernel
theorem dX9_nameHere_61 : decode cX9_nameHere 61 = .ok (.iconst 1, 1) := by decide +kernel
theorem dX9_nameHere_62 : decode cX9_nameHere 62 = .ok (.iadd, 1) := by decide +kernel
theorem dX9_nameHere_63 : decode cX9_nameHere 63 = .ok (.ior, 1) := by decide +kernel
theorem dX9_nameHere_64 : decode cX9_nameHere 64 = .ok (.istore_n 1, 1) := by decide +kernel
theorem dX9_nameHere_65 : decode cX9_nameHere 65 = .ok (.iinc 2 (-1), 3) := by decide +kernel
theorem dX9_nameHere_68 : decode cX9_nameHere 68 = .ok (.goto (-29), 3) := by decide +kernel
theorem dX9_nameHere_71 : decode cX9_nameHere 71 = .ok (.iload_n 1, 1) := by decide +kernel
theorem dX9_nameHere_72 : decode cX9_nameHere 72 = .ok (.ireturn, 1) := by decide +kernel
theorem dX9_roofHere_0 : decode cX9_roofHere 0 = .ok (.aload_n 0, 1) := by decide +kernel
theorem dX9_roofHere_1 : decode cX9_roofHere 1 = .ok (.invokevirtual 73, 3) := by decide +kernel
theorem dX9_roofHere_4 : decode cX9_roofHere 4 = .ok (.istore_n 3, 1) := by decide +kernel
theorem dX9_roofHere_5 : decode cX9_roofHere 5 = .ok (.iload_n 3, 1) := by decide +kernel
theorem dX9_roofHere_6 : decode cX9_roofHere 6 = .ok (.iconst (-1), 1) := by decide +kernel
theorem dX9_roofHere_7 : decode cX9_roofHere 7 = .ok (.if_icmp .ne 5, 3) := by decide +kernel
theorem dX9_roofHere_10 : decode cX9_roofHere 10 = .ok (.iconst (-1), 1) := by decide +kernel
theorem dX9_roofHere_11 : decode cX9_roofHere 11 = .ok (.ireturn, 1) := by decide +kernel
theorem dX9_roofHere_12 : decode cX9_roofHere 12 = .ok (.aload_n 1, 1) := by decide +kernel
theorem dX9_roofHere_13 : decode cX9_roofHere 13 = .ok (.iload_n 3, 1) := by decide +kernel
theorem dX9_roofHere_14 : decode cX9_roofHere 14 = .ok (.invokevirtual 76, 3) := by decide +kernel
theorem dX9_roofHere_17 : decode cX9_roofHere 17 = .ok (.istore 4, 2) := by decide +kernel
theorem dX9_roofHere_19 : decode cX9_roofHere 19 = .ok (.iload 4, 2) := by decide +kernel
theorem dX9_roofHere_21 : decode cX9_roofHere 21 = .ok (.iconst (-1), 1) := by decide +kernel
theorem dX9_roofHere_22 : decode cX9_roofHere 22 = .ok (.if_icmp .eq 9, 3) := by decide +kernel
theorem dX9_roofHere_25 : decode cX9_roofHere 25 = .ok (.iload 4, 2) := by decide +kernel
theorem dX9_roofHere_27 : decode cX9_roofHere 27 = .ok (.iload_n 2, 1) := by decide +kernel
theorem dX9_roofHere_28 : decode cX9_roofHere 28 = .ok (.if_icmp .ne 11, 3) := by decide +kernel
theorem dX9_roofHere_31 : decode cX9_roofHere 31 = .ok (.aload_n 0, 1) := by decide +kernel
theorem dX9_roofHere_32 : decode cX9_roofHere 32 = .ok (.iconst 3, 1) := by decide +kernel
theorem dX9_roofHere_33 : decode cX9_roofHere 33 = .ok (.invokevirtual 69, 3) := by decide +kernel
theorem dX9_roofHere_36 : decode cX9_roofHere 36 = .ok (.pop, 1) := by decide +kernel
theorem dX9_roofHere_37 : decode cX9_roofHere 37 = .ok (.iconst (-1), 1) := by decide +kernel
theorem dX9_roofHere_38 : decode cX9_roofHere 38 = .ok (.ireturn, 1) := by decide +kernel
theorem dX9_roofHere_39 : decode cX9_roofHere 39 = .ok (.iload 4, 2) := by decide +kernel
theorem dX9_roofHere_41 : decode cX9_roofHere 41 = .ok (.ireturn, 1) := by decide +kernel
theorem dX9_isNumberHere_0 : decode cX9_isNumberHere 0 = .ok (.aload_n 0, 1) := by decide +kernel
theorem dX9_isNumberHere_1 : decode cX9_isNumberHere 1 = .ok (.getfield 44, 3) := by decide +kernel
theorem dX9_isNumberHere_4 : decode cX9_isNumberHere 4 = .ok (.iconst 2, 1) := by decide +kernel
theorem dX9_isNumberHere_5 : decode cX9_isNumberHere 5 = .ok (.if_icmp .eq 9, 3) := by decide +kernel
theorem dX9_isNumberHere_8 : decode cX9_isNumberHere 8 = .ok (.aload_n 0, 1) := by decide +kernel
theorem dX9_isNumberHere_9 : decode cX9_isNumberHere 9 = .ok (.iconst 1, 1) := by decide +kernel
theorem dX9_isNumberHere_10 : decode cX9_isNumberHere 10 = .ok (.invokevirtual 69, 3) := by decide +kernel
theorem dX9_isNumberHere_13 : decode cX9_isNumberHere 13 = .ok (.ireturn, 1) := by decide +kernel
theorem dX9_isNumberHere_14 : decode cX9_isNumberHere 14 = .ok (.aload_n 0, 1) := by decide +kernel
theorem dX9_isNumberHere_15 : decode cX9_isNumberHere 15 = .ok (.getfield 47, 3) := by decide +kernel
theorem dX9_isNumberHere_18 : decode cX9_isNumberHere 18 = .ok (.iload_n 1, 1) := by decide +kernel
theorem dX9_isNumberHere_19 : decode cX9_isNumberHere 19 = .ok (.if_icmp .lt 11, 3) := by decide +kernel
theorem dX9_isNumberHere_22 : decode cX9_isNumberHere 22 = .ok (.aload_n 0, 1) := by decide +kernel
theorem dX9_isNumberHere_23 : decode cX9_isNumberHere 23 = .ok (.getfield 47, 3) := by decide +kernel
theorem dX9_isNumberHere_26 : decode cX9_isNumberHere 26 = .ok (.iload_n 2, 1) := by decide +kernel
theorem dX9_isNumberHere_27 : decode cX9_isNumberHere 27 = .ok (.if_icmp .le 11, 3) := by decide +kernel
theorem dX9_isNumberHere_30 : decode cX9_isNumberHere 30 = .ok (.aload_n 0, 1) := by decide +kernel
theorem dX9_isNumberHere_31 : decode cX9_isNumberHere 31 = .ok (.iconst 2, 1) := by decide +kernel
theorem dX9_isNumberHere_32 : decode cX9_isNumberHere 32 = .ok (.invokevirtual 69, 3) := by decide +kernel
theorem dX9_isNumberHere_35 : decode cX9_isNumberHere 35 = .ok (.ifCond .eq 7, 3) := by decide +kernel
theorem dX9_isNumberHere_38 : decode cX9_isNumberHere 38 = .ok (.iconst 1, 1) := by decide +kernel
theorem dX9_isNumberHere_39 : decode cX9_isNumberHere 39 = .ok (.goto 4, 3) := by decide +kernel
theorem dX9_isNumberHere_42 : decode cX9_isNumberHere 42 = .ok (.iconst 0, 1) := by decide +kernel
theorem dX9_isNumberHere_43 : decode cX9_isNumberHere 43 = .ok (.ireturn, 1) := by decide +kernel
theorem dX9_takeNumber_0 : decode cX9_takeNumber 0 = .ok (.aload_n 0, 1) := by decide +kernel
theorem dX9_takeNumber_1 : decode cX9_takeNumber 1 = .ok (.iload_n 1, 1) := by decide +kernel
theorem dX9_takeNumber_2 : decode cX9_takeNumber 2 = .ok (.iload_n 2, 1) := by decide +kernel
theorem dX9_takeNumber_3 : decode cX9_takeNumber 3 = .ok (.invokevirtual 81, 3) := by decide +kernel
theorem dX9_takeNumber_6 : decode cX9_takeNumber 6 = .ok (.ifCond .ne 5, 3) := by decide +kernel
theorem dX9_takeNumber_9 : decode cX9_takeNumber 9 = .ok (.iconst (-1), 1) := by decide +kernel
theorem dX9_takeNumber_10 : decode cX9_takeNumber 10 = .ok (.ireturn, 1) := by decide +kernel
theorem dX9_takeNumber_11 : decode cX9_takeNumber 11 = .ok (.aload_n 0, 1) := by decide +kernel
theorem dX9_takeNumber_12 : decode cX9_takeNumber 12 = .ok (.getfield 47, 3) := by decide +kernel
theorem dX9_takeNumber_15 : decode cX9_takeNumber 15 = .ok (.istore_n 3, 1) := by decide +kernel
theorem dX9_takeNumber_16 : decode cX9_takeNumber 16 = .ok (.aload_n 0, 1) := by decide +kernel
theorem dX9_takeNumber_17 : decode cX9_takeNumber 17 = .ok (.invokevirtual 25, 3) := by decide +kernel
theorem dX9_takeNumber_20 : decode cX9_takeNumber 20 = .ok (.iload_n 3, 1) := by decide +kernel
theorem dX9_takeNumber_21 : decode cX9_takeNumber 21 = .ok (.ireturn, 1) := by decide +kernel
theorem dX9_isSemicolonTaken_0 : decode cX9_isSemicolonTaken 0 = .ok (.aload_n 0, 1) := by decide +kernel
theorem dX9_isSemicolonTaken_1 : decode cX9_isSemicolonTaken 1 = .ok (.getfield 44, 3) := by decide +kernel
theorem dX9_isSemicolonTaken_4 : decode cX9_isSemicolonTaken 4 = .ok (.iconst 3, 1) := by decide +kernel
theorem dX9_isSemicolonTaken_5 : decode cX9_isSemicolonTaken 5 = .ok (.if_icmp .eq 9, 3) := by decide +kernel
theorem dX9_isSemicolonTaken_8 : decode cX9_isSemicolonTaken 8 = .ok (.aload_n 0, 1) := by decide +kernel
theorem dX9_isSemicolonTaken_9 : decode cX9_isSemicolonTaken 9 = .ok (.iconst 1, 1) := by decide +kernel
theorem dX9_isSemicolonTaken_10 : decode cX9_isSemicolonTaken 10 = .ok (.invokevirtual 69, 3) := by decide +kernel
theorem dX9_isSemicolonTaken_13 : decode cX9_isSemicolonTaken 13 = .ok (.ireturn, 1) := by decide +kernel
theorem dX9_isSemicolonTaken_14 : decode cX9_isSemicolonTaken 14 = .ok (.aload_n 0, 1) := by decide +kernel
theorem dX9_isSemicolonTaken_15 : decode cX9_isSemicolonTaken 15 = .ok (.invokevirtual 25, 3) := by decide +kernel
theorem dX9_isSemicolonTaken_18 : decode cX9_isSemicolonTaken 18 = .ok (.iconst 1, 1) := by decide +kernel
theorem dX9_isSemicolonTaken_19 : decode cX9_isSemicolonTaken 19 = .ok (.ireturn, 1) := by decide +kernel
theorem dX10_init_0 : decode cX10_init 0 = .ok (.aload_n 0, 1) := by decide +kernel
theorem dX10_init_1 : decode cX10_init 1 = .ok (.invokespecial 1, 3) := by decide +kernel
theorem dX10_init_4 : decode cX10_init 4 = .ok (.aload_n 0, 1) := by decide +kernel
theorem dX10_init_5 : decode cX10_init 5 = .ok (.new 7, 3) := by decide +kernel
theorem dX10_init_8 : decode cX10_init 8 = .ok (.dup, 1) := by decide +kernel
theorem dX10_init_9 : decode cX10_init 9 = .ok (.sipush 800, 3) := by decide +kernel
theorem dX10_init_12 : decode cX10_init 12 = .ok (.invokespecial 11, 3) := by decide +kernel
theorem dX10_init_15 : decode cX10_init 15 = .ok (.putfield 14, 3) := by decide +kernel
theorem dX10_init_18 : decode cX10_init 18 = .ok (.aload_n 0, 1) := by decide +kernel
theorem dX10_init_19 : decode cX10_init 19 = .ok (.new 7, 3) := by decide +kernel
theorem dX10_init_22 : decode cX10_init 22 = .ok (.dup, 1) := by decide +kernel
theorem dX10_init_23 : decode cX10_init 23 = .ok (.sipush 400, 3) := by decide +kernel
theorem dX10_init_26 : decode cX10_init 26 = .ok (.invokespecial 11, 3) := by decide +kernel
theorem dX10_init_29 : decode cX10_init 29 = .ok (.putfield 18, 3) := by decide +kernel
theorem dX10_init_32 : decode cX10_init 32 = .ok (.aload_n 0, 1) := by decide +kernel
theorem dX10_init_33 : decode cX10_init 33 = .ok (.new 21, 3) := by decide +kernel
theorem dX10_init_36 : decode cX10_init 36 = .ok (.dup, 1) := by decide +kernel
theorem dX10_init_37 : decode cX10_init 37 = .ok (.invokespecial 23, 3) := by decide +kernel
theorem dX10_init_40 : decode cX10_init 40 = .ok (.putfield 24, 3) := by decide +kernel
theorem dX10_init_43 : decode cX10_init 43 = .ok (.aload_n 0, 1) := by decide +kernel
theorem dX10_init_44 : decode cX10_init 44 = .ok (.new 21, 3) := by decide +kernel
theorem dX10_init_47 : decode cX10_init 47 = .ok (.dup, 1) := by decide +kernel
theorem dX10_init_48 : decode cX10_init 48 = .ok (.invokespecial 23, 3) := by decide +kernel
theorem dX10_init_51 : decode cX10_init 51 = .ok (.putfield 28, 3) := by decide +kernel
theorem dX10_init_54 : decode cX10_init 54 = .ok (.aload_n 0, 1) := by decide +kernel
theorem dX10_init_55 : decode cX10_init 55 = .ok (.new 21, 3) := by decide +kernel
theorem dX10_init_58 : decode cX10_init 58 = .ok (.dup, 1) := by decide +kernel
theorem dX10_init_59 : decode cX10_init 59 = .ok (.invokespecial 23, 3) := by decide +kernel
theorem dX10_init_62 : decode cX10_init 62 = .ok (.putfield 31, 3) := by decide +kernel
theorem dX10_init_65 : decode cX10_init 65 = .ok (.aload_n 0, 1) := by decide +kernel
theorem dX10_init_66 : decode cX10_init 66 = .ok (.new 34, 3) := by decide +kernel
theorem dX10_init_69 : decode cX10_init 69 = .ok (.dup, 1) := by decide +kernel
theorem dX10_init_70 : decode cX10_init 70 = .ok (.invokespecial 36, 3) := by decide +kernel
theorem dX10_init_73 : decode cX10_init 73 = .ok (.putfield 37, 3) := by decide +kernel
theorem dX10_init_76 : decode cX10_init 76 = .ok (.aload_n 0, 1) := by decide +kernel
theorem dX10_init_77 : decode cX10_init 77 = .ok (.new 41, 3) := by decide +kernel
theorem dX10_init_80 : decode cX10_init 80 = .ok (.dup, 1) := by decide +kernel
theorem dX10_init_81 : decode cX10_init 81 = .ok (.aload_n 0, 1) := by decide +kernel
theorem dX10_init_82 : decode cX10_init 82 = .ok (.getfield 14, 3) := by decide +kernel
theorem dX10_init_85 : decode cX10_init 85 = .ok (.invokespecial 43, 3) := by decide +kernel
theorem dX10_init_88 : decode cX10_init 88 = .ok (.putfield 46, 3) := by decide +kernel
theorem dX10_init_91 : decode cX10_init 91 = .ok (.aload_n 0, 1) := by decide +kernel
theorem dX10_init_92 : decode cX10_init 92 = .ok (.new 50, 3) := by decide +kernel
theorem dX10_init_95 : decode cX10_init 95 = .ok (.dup, 1) := by decide +kernel
theorem dX10_init_96 : decode cX10_init 96 = .ok (.aload_n 0, 1) := by decide +kernel
theorem dX10_init_97 : decode cX10_init 97 = .ok (.getfield 46, 3) := by decide +kernel
theorem dX10_init_100 : decode cX10_init 100 = .ok (.aload_n 0, 1) := by decide +kernel
theorem dX10_init_101 : decode cX10_init 101 = .ok (.getfield 31, 3) := by decide +kernel
theorem dX10_init_104 : decode cX10_init 104 = .ok (.invokespecial 52, 3) := by decide +kernel
theorem dX10_init_107 : decode cX10_init 107 = .ok (.putfield 55, 3) := by decide +kernel
theorem dX10_init_110 : decode cX10_init 110 = .ok (.aload_n 0, 1) := by decide +kernel
theorem dX10_init_111 : decode cX10_init 111 = .ok (.new 59, 3) := by decide +kernel
theorem dX10_init_114 : decode cX10_init 114 = .ok (.dup, 1) := by decide +kernel
theorem dX10_init_115 : decode cX10_init 115 = .ok (.aload_n 0, 1) := by decide +kernel
theorem dX10_init_116 : decode cX10_init 116 = .ok (.getfield 46, 3) := by decide +kernel
theorem dX10_init_119 : decode cX10_init 119 = .ok (.aload_n 0, 1) := by decide +kernel
theorem dX10_init_120 : decode cX10_init 120 = .ok (.getfield 24, 3) := by decide +kernel
theorem dX10_init_123 : decode cX10_init 123 = .ok (.invokespecial 61, 3) := by decide +kernel
theorem dX10_init_126 : decode cX10_init 126 = .ok (.putfield 62, 3) := by decide +kernel
theorem dX10_init_129 : decode cX10_init 129 = .ok (.aload_n 0, 1) := by decide +kernel
theorem dX10_init_130 : decode cX10_init 130 = .ok (.iconst 0, 1) := by decide +kernel
theorem dX10_init_131 : decode cX10_init 131 = .ok (.putfield 66, 3) := by decide +kernel
theorem dX10_init_134 : decode cX10_init 134 = .ok (.aload_n 0, 1) := by decide +kernel
theorem dX10_init_135 : decode cX10_init 135 = .ok (.getfield 14, 3) := by decide +kernel
theorem dX10_init_138 : decode cX10_init 138 = .ok (.ldc 70, 2) := by decide +kernel
theorem dX10_init_140 : decode cX10_init 140 = .ok (.invokevirtual 72, 3) := by decide +kernel
theorem dX10_init_143 : decode cX10_init 143 = .ok (.aload_n 0, 1) := by decide +kernel
theorem dX10_init_144 : decode cX10_init 144 = .ok (.getfield 55, 3) := by decide +kernel
theorem dX10_init_147 : decode cX10_init 147 = .ok (.invokevirtual 76, 3) := by decide +kernel
theorem dX10_init_150 : decode cX10_init 150 = .ok (.ifCond .eq 14, 3) := by decide +kernel
theorem dX10_init_153 : decode cX10_init 153 = .ok (.aload_n 0, 1) := by decide +kernel
theorem dX10_init_154 : decode cX10_init 154 = .ok (.getfield 24, 3) := by decide +kernel
theorem dX10_init_157 : decode cX10_init 157 = .ok (.aload_n 0, 1) := by decide +kernel
theorem dX10_init_158 : decode cX10_init 158 = .ok (.getfield 31, 3) := by decide +kernel
theorem dX10_init_161 : decode cX10_init 161 = .ok (.invokevirtual 80, 3) := by decide +kernel
theorem dX10_init_164 : decode cX10_init 164 = .ok (.aload_n 0, 1) := by decide +kernel
theorem dX10_init_165 : decode cX10_init 165 = .ok (.getfield 14, 3) := by decide +kernel
theorem dX10_init_168 : decode cX10_init 168 = .ok (.invokevirtual 84, 3) := by decide +kernel
theorem dX10_init_171 : decode cX10_init 171 = .ok (.return_, 1) := by decide +kernel
theorem dX10_appendInput_0 : decode cX10_appendInput 0 = .ok (.aload_n 0, 1) := by decide +kernel
theorem dX10_appendInput_1 : decode cX10_appendInput 1 = .ok (.getfield 14, 3) := by decide +kernel
theorem dX10_appendInput_4 : decode cX10_appendInput 4 = .ok (.invokevirtual 87, 3) := by decide +kernel
theorem dX10_appendInput_7 : decode cX10_appendInput 7 = .ok (.bipush 20, 2) := by decide +kernel
theorem dX10_appendInput_9 : decode cX10_appendInput 9 = .ok (.iadd, 1) := by decide +kernel
theorem dX10_appendInput_10 : decode cX10_appendInput 10 = .ok (.sipush 800, 3) := by decide +kernel
theorem dX10_appendInput_13 : decode cX10_appendInput 13 = .ok (.if_icmp .le 5, 3) := by decide +kernel
theorem dX10_appendInput_16 : decode cX10_appendInput 16 = .ok (.iconst (-1), 1) := by decide +kernel
theorem dX10_appendInput_17 : decode cX10_appendInput 17 = .ok (.ireturn, 1) := by decide +kernel
theorem dX10_appendInput_18 : decode cX10_appendInput 18 = .ok (.aload_n 0, 1) := by decide +kernel
theorem dX10_appendInput_19 : decode cX10_appendInput 19 = .ok (.iload_n 1, 1) := by decide +kernel
theorem dX10_appendInput_20 : decode cX10_appendInput 20 = .ok (.invokevirtual 91, 3) := by decide +kernel
theorem dX10_appendInput_23 : decode cX10_appendInput 23 = .ok (.aload_n 0, 1) := by decide +kernel
theorem dX10_appendInput_24 : decode cX10_appendInput 24 = .ok (.iload_n 2, 1) := by decide +kernel
theorem dX10_appendInput_25 : decode cX10_appendInput 25 = .ok (.invokevirtual 91, 3) := by decide +kernel
theorem dX10_appendInput_28 : decode cX10_appendInput 28 = .ok (.aload_n 0, 1) := by decide +kernel
theorem dX10_appendInput_29 : decode cX10_appendInput 29 = .ok (.iload_n 3, 1) := by decide +kernel
theorem dX10_appendInput_30 : decode cX10_appendInput 30 = .ok (.invokevirtual 91, 3) := by decide +kernel
theorem dX10_appendInput_33 : decode cX10_appendInput 33 = .ok (.aload_n 0, 1) := by decide +kernel
theorem dX10_appendInput_34 : decode cX10_appendInput 34 = .ok (.iload 4, 2) := by decide +kernel
theorem dX10_appendInput_36 : decode cX10_appendInput 36 = .ok (.invokevirtual 91, 3) := by decide +kernel
theorem dX10_appendInput_39 : decode cX10_appendInput 39 = .ok (.aload_n 0, 1) := by decide +kernel
theorem dX10_appendInput_40 : decode cX10_appendInput 40 = .ok (.iload 5, 2) := by decide +kernel
theorem dX10_appendInput_42 : decode cX10_appendInput 42 = .ok (.invokevirtual 91, 3) := by decide +kernel
theorem dX10_appendInput_45 : decode cX10_appendInput 45 = .ok (.aload_n 0, 1) := by decide +kernel
theorem dX10_appendInput_46 : decode cX10_appendInput 46 = .ok (.getfield 14, 3) := by decide +kernel
theorem dX10_appendInput_49 : decode cX10_appendInput 49 = .ok (.invokevirtual 87, 3) := by decide +kernel
theorem dX10_appendInput_52 : decode cX10_appendInput 52 = .ok (.ireturn, 1) := by decide +kernel
theorem dX10_appendFour_0 : decode cX10_appendFour 0 = .ok (.bipush 24, 2) := by decide +kernel
theorem dX10_appendFour_2 : decode cX10_appendFour 2 = .ok (.istore_n 2, 1) := by decide +kernel
theorem dX10_appendFour_3 : decode cX10_appendFour 3 = .ok (.iload_n 2, 1) := by decide +kernel
theorem dX10_appendFour_4 : decode cX10_appendFour 4 = .ok (.ifCond .lt 23, 3) := by decide +kernel
theorem dX10_appendFour_7 : decode cX10_appendFour 7 = .ok (.aload_n 0, 1) := by decide +kernel
theorem dX10_appendFour_8 : decode cX10_appendFour 8 = .ok (.getfield 14, 3) := by decide +kernel
theorem dX10_appendFour_11 : decode cX10_appendFour 11 = .ok (.iload_n 1, 1) := by decide +kernel
theorem dX10_appendFour_12 : decode cX10_appendFour 12 = .ok (.iload_n 2, 1) := by decide +kernel
theorem dX10_appendFour_13 : decode cX10_appendFour 13 = .ok (.iushr, 1) := by decide +kernel
theorem dX10_appendFour_14 : decode cX10_appendFour 14 = .ok (.sipush 255, 3) := by decide +kernel
theorem dX10_appendFour_17 : decode cX10_appendFour 17 = .ok (.iand, 1) := by decide +kernel
theorem dX10_appendFour_18 : decode cX10_appendFour 18 = .ok (.invokevirtual 94, 3) := by decide +kernel
theorem dX10_appendFour_21 : decode cX10_appendFour 21 = .ok (.iinc 2 (-8), 3) := by decide +kernel
theorem dX10_appendFour_24 : decode cX10_appendFour 24 = .ok (.goto (-21), 3) := by decide +kernel
theorem dX10_appendFour_27 : decode cX10_appendFour 27 = .ok (.return_, 1) := by decide +kernel
theorem dX10_truncateInput_0 : decode cX10_truncateInput 0 = .ok (.aload_n 0, 1) := by decide +kernel
theorem dX10_truncateInput_1 : decode cX10_truncateInput 1 = .ok (.getfield 14, 3) := by decide +kernel
theorem dX10_truncateInput_4 : decode cX10_truncateInput 4 = .ok (.iload_n 1, 1) := by decide +kernel
theorem dX10_truncateInput_5 : decode cX10_truncateInput 5 = .ok (.invokevirtual 97, 3) := by decide +kernel
theorem dX10_truncateInput_8 : decode cX10_truncateInput 8 = .ok (.ireturn, 1) := by decide +kernel
theorem dX10_loadPost_0 : decode cX10_loadPost 0 = .ok (.aload_n 0, 1) := by decide +kernel
theorem dX10_loadPost_1 : decode cX10_loadPost 1 = .ok (.getfield 55, 3) := by decide +kernel
theorem dX10_loadPost_4 : decode cX10_loadPost 4 = .ok (.invokevirtual 76, 3) := by decide +kernel
theorem dX10_loadPost_7 : decode cX10_loadPost 7 = .ok (.istore_n 1, 1) := by decide +kernel
theorem dX10_loadPost_8 : decode cX10_loadPost 8 = .ok (.aload_n 0, 1) := by decide +kernel
theorem dX10_loadPost_9 : decode cX10_loadPost 9 = .ok (.getfield 14, 3) := by decide +kernel
theorem dX10_loadPost_12 : decode cX10_loadPost 12 = .ok (.invokevirtual 84, 3) := by decide +kernel
theorem dX10_loadPost_15 : decode cX10_loadPost 15 = .ok (.iload_n 1, 1) := by decide +kernel
theorem dX10_loadPost_16 : decode cX10_loadPost 16 = .ok (.ifCond .ne 5, 3) := by decide +kernel
theorem dX10_loadPost_19 : decode cX10_loadPost 19 = .ok (.iconst (-1), 1) := by decide +kernel
theorem dX10_loadPost_20 : decode cX10_loadPost 20 = .ok (.ireturn, 1) := by decide +kernel
theorem dX10_loadPost_21 : decode cX10_loadPost 21 = .ok (.aload_n 0, 1) := by decide +kernel
theorem dX10_loadPost_22 : decode cX10_loadPost 22 = .ok (.getfield 24, 3) := by decide +kernel
theorem dX10_loadPost_25 : decode cX10_loadPost 25 = .ok (.aload_n 0, 1) := by decide +kernel
theorem dX10_loadPost_26 : decode cX10_loadPost 26 = .ok (.getfield 31, 3) := by decide +kernel
theorem dX10_loadPost_29 : decode cX10_loadPost 29 = .ok (.invokevirtual 80, 3) := by decide +kernel
theorem dX10_loadPost_32 : decode cX10_loadPost 32 = .ok (.aload_n 0, 1) := by decide +kernel
theorem dX10_loadPost_33 : decode cX10_loadPost 33 = .ok (.getfield 37, 3) := by decide +kernel
theorem dX10_loadPost_36 : decode cX10_loadPost 36 = .ok (.invokevirtual 101, 3) := by decide +kernel
end
section
theorem dX10_loadPost_39 : decode cX10_loadPost 39 = .ok (.aload_n 0, 1) := by decide +kernel
theorem dX10_loadPost_40 : decode cX10_loadPost 40 = .ok (.iconst 0, 1) := by decide +kernel
theorem dX10_loadPost_41 : decode cX10_loadPost 41 = .ok (.putfield 66, 3) := by decide +kernel
theorem dX10_loadPost_44 : decode cX10_loadPost 44 = .ok (.aload_n 0, 1) := by decide +kernel
theorem dX10_loadPost_45 : decode cX10_loadPost 45 = .ok (.getfield 24, 3) := by decide +kernel
theorem dX10_loadPost_48 : decode cX10_loadPost 48 = .ok (.getfield 104, 3) := by decide +kernel
theorem dX10_loadPost_51 : decode cX10_loadPost 51 = .ok (.ireturn, 1) := by decide +kernel
theorem dX10_count_0 : decode cX10_count 0 = .ok (.aload_n 0, 1) := by decide +kernel
theorem dX10_count_1 : decode cX10_count 1 = .ok (.iload_n 1, 1) := by decide +kernel
theorem dX10_count_2 : decode cX10_count 2 = .ok (.iconst 0, 1) := by decide +kernel
theorem dX10_count_3 : decode cX10_count 3 = .ok (.bipush 13, 2) := by decide +kernel
theorem dX10_count_5 : decode cX10_count 5 = .ok (.invokevirtual 168, 3) := by decide +kernel
theorem dX10_count_8 : decode cX10_count 8 = .ok (.iload_n 1, 1) := by decide +kernel
theorem dX10_count_9 : decode cX10_count 9 = .ok (.bipush 13, 2) := by decide +kernel
theorem dX10_count_11 : decode cX10_count 11 = .ok (.if_icmp .ne 13, 3) := by decide +kernel
theorem dX10_count_14 : decode cX10_count 14 = .ok (.aload_n 0, 1) := by decide +kernel
theorem dX10_count_15 : decode cX10_count 15 = .ok (.getfield 37, 3) := by decide +kernel
theorem dX10_count_18 : decode cX10_count 18 = .ok (.invokevirtual 172, 3) := by decide +kernel
theorem dX10_count_21 : decode cX10_count 21 = .ok (.goto 11, 3) := by decide +kernel
theorem dX10_count_24 : decode cX10_count 24 = .ok (.aload_n 0, 1) := by decide +kernel
theorem dX10_count_25 : decode cX10_count 25 = .ok (.getfield 24, 3) := by decide +kernel
theorem dX10_count_28 : decode cX10_count 28 = .ok (.iload_n 1, 1) := by decide +kernel
theorem dX10_count_29 : decode cX10_count 29 = .ok (.invokevirtual 173, 3) := by decide +kernel
theorem dX10_count_32 : decode cX10_count 32 = .ok (.ireturn, 1) := by decide +kernel
theorem dX10_account_0 : decode cX10_account 0 = .ok (.aload_n 0, 1) := by decide +kernel
theorem dX10_account_1 : decode cX10_account 1 = .ok (.iload_n 1, 1) := by decide +kernel
theorem dX10_account_2 : decode cX10_account 2 = .ok (.iconst 0, 1) := by decide +kernel
theorem dX10_account_3 : decode cX10_account 3 = .ok (.bipush 10, 2) := by decide +kernel
theorem dX10_account_5 : decode cX10_account 5 = .ok (.invokevirtual 168, 3) := by decide +kernel
theorem dX10_account_8 : decode cX10_account 8 = .ok (.aload_n 0, 1) := by decide +kernel
theorem dX10_account_9 : decode cX10_account 9 = .ok (.getfield 24, 3) := by decide +kernel
theorem dX10_account_12 : decode cX10_account 12 = .ok (.getfield 177, 3) := by decide +kernel
theorem dX10_account_15 : decode cX10_account 15 = .ok (.iconst 0, 1) := by decide +kernel
theorem dX10_account_16 : decode cX10_account 16 = .ok (.iload_n 1, 1) := by decide +kernel
theorem dX10_account_17 : decode cX10_account 17 = .ok (.invokevirtual 122, 3) := by decide +kernel
theorem dX10_account_20 : decode cX10_account 20 = .ok (.ireturn, 1) := by decide +kernel
theorem dX10_roof_0 : decode cX10_roof 0 = .ok (.aload_n 0, 1) := by decide +kernel
theorem dX10_roof_1 : decode cX10_roof 1 = .ok (.iload_n 1, 1) := by decide +kernel
theorem dX10_roof_2 : decode cX10_roof 2 = .ok (.invokevirtual 180, 3) := by decide +kernel
theorem dX10_roof_5 : decode cX10_roof 5 = .ok (.aload_n 0, 1) := by decide +kernel
theorem dX10_roof_6 : decode cX10_roof 6 = .ok (.iload_n 2, 1) := by decide +kernel
theorem dX10_roof_7 : decode cX10_roof 7 = .ok (.iconst 0, 1) := by decide +kernel
theorem dX10_roof_8 : decode cX10_roof 8 = .ok (.bipush 7, 2) := by decide +kernel
theorem dX10_roof_10 : decode cX10_roof 10 = .ok (.invokevirtual 168, 3) := by decide +kernel
theorem dX10_roof_13 : decode cX10_roof 13 = .ok (.aload_n 0, 1) := by decide +kernel
theorem dX10_roof_14 : decode cX10_roof 14 = .ok (.getfield 24, 3) := by decide +kernel
theorem dX10_roof_17 : decode cX10_roof 17 = .ok (.iload_n 1, 1) := by decide +kernel
theorem dX10_roof_18 : decode cX10_roof 18 = .ok (.iload_n 2, 1) := by decide +kernel
theorem dX10_roof_19 : decode cX10_roof 19 = .ok (.invokevirtual 186, 3) := by decide +kernel
theorem dX10_roof_22 : decode cX10_roof 22 = .ok (.ireturn, 1) := by decide +kernel
theorem dX10_route_0 : decode cX10_route 0 = .ok (.aload_n 0, 1) := by decide +kernel
theorem dX10_route_1 : decode cX10_route 1 = .ok (.iload_n 1, 1) := by decide +kernel
theorem dX10_route_2 : decode cX10_route 2 = .ok (.invokevirtual 180, 3) := by decide +kernel
theorem dX10_route_5 : decode cX10_route 5 = .ok (.aload_n 0, 1) := by decide +kernel
theorem dX10_route_6 : decode cX10_route 6 = .ok (.iload_n 2, 1) := by decide +kernel
theorem dX10_route_7 : decode cX10_route 7 = .ok (.invokevirtual 180, 3) := by decide +kernel
theorem dX10_route_10 : decode cX10_route 10 = .ok (.aload_n 0, 1) := by decide +kernel
theorem dX10_route_11 : decode cX10_route 11 = .ok (.getfield 24, 3) := by decide +kernel
theorem dX10_route_14 : decode cX10_route 14 = .ok (.getfield 198, 3) := by decide +kernel
theorem dX10_route_17 : decode cX10_route 17 = .ok (.getfield 202, 3) := by decide +kernel
theorem dX10_route_20 : decode cX10_route 20 = .ok (.iload_n 1, 1) := by decide +kernel
theorem dX10_route_21 : decode cX10_route 21 = .ok (.iload_n 2, 1) := by decide +kernel
theorem dX10_route_22 : decode cX10_route 22 = .ok (.invokevirtual 122, 3) := by decide +kernel
theorem dX10_route_25 : decode cX10_route 25 = .ok (.istore_n 3, 1) := by decide +kernel
theorem dX10_route_26 : decode cX10_route 26 = .ok (.iload_n 3, 1) := by decide +kernel
theorem dX10_route_27 : decode cX10_route 27 = .ok (.sipush 9999, 3) := by decide +kernel
theorem dX10_route_30 : decode cX10_route 30 = .ok (.if_icmp .ge 7, 3) := by decide +kernel
theorem dX10_route_33 : decode cX10_route 33 = .ok (.iload_n 3, 1) := by decide +kernel
theorem dX10_route_34 : decode cX10_route 34 = .ok (.goto 4, 3) := by decide +kernel
theorem dX10_route_37 : decode cX10_route 37 = .ok (.iconst (-1), 1) := by decide +kernel
theorem dX10_route_38 : decode cX10_route 38 = .ok (.ireturn, 1) := by decide +kernel
theorem dX10_next_0 : decode cX10_next 0 = .ok (.aload_n 0, 1) := by decide +kernel
theorem dX10_next_1 : decode cX10_next 1 = .ok (.iload_n 1, 1) := by decide +kernel
theorem dX10_next_2 : decode cX10_next 2 = .ok (.invokevirtual 180, 3) := by decide +kernel
theorem dX10_next_5 : decode cX10_next 5 = .ok (.aload_n 0, 1) := by decide +kernel
theorem dX10_next_6 : decode cX10_next 6 = .ok (.iload_n 2, 1) := by decide +kernel
theorem dX10_next_7 : decode cX10_next 7 = .ok (.invokevirtual 180, 3) := by decide +kernel
theorem dX10_next_10 : decode cX10_next 10 = .ok (.aload_n 0, 1) := by decide +kernel
theorem dX10_next_11 : decode cX10_next 11 = .ok (.getfield 24, 3) := by decide +kernel
theorem dX10_next_14 : decode cX10_next 14 = .ok (.getfield 198, 3) := by decide +kernel
theorem dX10_next_17 : decode cX10_next 17 = .ok (.getfield 207, 3) := by decide +kernel
theorem dX10_next_20 : decode cX10_next 20 = .ok (.iload_n 1, 1) := by decide +kernel
theorem dX10_next_21 : decode cX10_next 21 = .ok (.iload_n 2, 1) := by decide +kernel
theorem dX10_next_22 : decode cX10_next 22 = .ok (.invokevirtual 122, 3) := by decide +kernel
theorem dX10_next_25 : decode cX10_next 25 = .ok (.ireturn, 1) := by decide +kernel
theorem dX10_tune_0 : decode cX10_tune 0 = .ok (.aload_n 0, 1) := by decide +kernel
theorem dX10_tune_1 : decode cX10_tune 1 = .ok (.iload_n 1, 1) := by decide +kernel
theorem dX10_tune_2 : decode cX10_tune 2 = .ok (.invokevirtual 210, 3) := by decide +kernel
theorem dX10_tune_5 : decode cX10_tune 5 = .ok (.aload_n 0, 1) := by decide +kernel
theorem dX10_tune_6 : decode cX10_tune 6 = .ok (.iload_n 2, 1) := by decide +kernel
theorem dX10_tune_7 : decode cX10_tune 7 = .ok (.iconst 0, 1) := by decide +kernel
theorem dX10_tune_8 : decode cX10_tune 8 = .ok (.bipush 11, 2) := by decide +kernel
theorem dX10_tune_10 : decode cX10_tune 10 = .ok (.invokevirtual 168, 3) := by decide +kernel
theorem dX10_tune_13 : decode cX10_tune 13 = .ok (.aload_n 0, 1) := by decide +kernel
theorem dX10_tune_14 : decode cX10_tune 14 = .ok (.getfield 24, 3) := by decide +kernel
theorem dX10_tune_17 : decode cX10_tune 17 = .ok (.iload_n 1, 1) := by decide +kernel
theorem dX10_tune_18 : decode cX10_tune 18 = .ok (.iload_n 2, 1) := by decide +kernel
theorem dX10_tune_19 : decode cX10_tune 19 = .ok (.invokevirtual 213, 3) := by decide +kernel
theorem dX10_tune_22 : decode cX10_tune 22 = .ok (.ireturn, 1) := by decide +kernel
theorem dX10_note_0 : decode cX10_note 0 = .ok (.aload_n 0, 1) := by decide +kernel
theorem dX10_note_1 : decode cX10_note 1 = .ok (.iload_n 1, 1) := by decide +kernel
theorem dX10_note_2 : decode cX10_note 2 = .ok (.invokevirtual 210, 3) := by decide +kernel
theorem dX10_note_5 : decode cX10_note 5 = .ok (.iload_n 2, 1) := by decide +kernel
theorem dX10_note_6 : decode cX10_note 6 = .ok (.ifCond .lt 19, 3) := by decide +kernel
theorem dX10_note_9 : decode cX10_note 9 = .ok (.iload_n 2, 1) := by decide +kernel
theorem dX10_note_10 : decode cX10_note 10 = .ok (.aload_n 0, 1) := by decide +kernel
theorem dX10_note_11 : decode cX10_note 11 = .ok (.getfield 24, 3) := by decide +kernel
theorem dX10_note_14 : decode cX10_note 14 = .ok (.getfield 216, 3) := by decide +kernel
theorem dX10_note_17 : decode cX10_note 17 = .ok (.iload_n 1, 1) := by decide +kernel
theorem dX10_note_18 : decode cX10_note 18 = .ok (.iconst 2, 1) := by decide +kernel
theorem dX10_note_19 : decode cX10_note 19 = .ok (.invokevirtual 122, 3) := by decide +kernel
theorem dX10_note_22 : decode cX10_note 22 = .ok (.if_icmp .lt 5, 3) := by decide +kernel
theorem dX10_note_25 : decode cX10_note 25 = .ok (.iconst (-1), 1) := by decide +kernel
theorem dX10_note_26 : decode cX10_note 26 = .ok (.ireturn, 1) := by decide +kernel
theorem dX10_note_27 : decode cX10_note 27 = .ok (.aload_n 0, 1) := by decide +kernel
theorem dX10_note_28 : decode cX10_note 28 = .ok (.getfield 24, 3) := by decide +kernel
theorem dX10_note_31 : decode cX10_note 31 = .ok (.getfield 216, 3) := by decide +kernel
theorem dX10_note_34 : decode cX10_note 34 = .ok (.iload_n 1, 1) := by decide +kernel
theorem dX10_note_35 : decode cX10_note 35 = .ok (.iload_n 3, 1) := by decide +kernel
theorem dX10_note_36 : decode cX10_note 36 = .ok (.ifCond .eq 8, 3) := by decide +kernel
theorem dX10_note_39 : decode cX10_note 39 = .ok (.bipush 10, 2) := by decide +kernel
theorem dX10_note_41 : decode cX10_note 41 = .ok (.goto 5, 3) := by decide +kernel
theorem dX10_note_44 : decode cX10_note 44 = .ok (.bipush 9, 2) := by decide +kernel
theorem dX10_note_46 : decode cX10_note 46 = .ok (.invokevirtual 122, 3) := by decide +kernel
theorem dX10_note_49 : decode cX10_note 49 = .ok (.iload_n 2, 1) := by decide +kernel
theorem dX10_note_50 : decode cX10_note 50 = .ok (.invokestatic 219, 3) := by decide +kernel
theorem dX10_note_53 : decode cX10_note 53 = .ok (.ireturn, 1) := by decide +kernel
theorem dX10_agree_0 : decode cX10_agree 0 = .ok (.aload_n 0, 1) := by decide +kernel
theorem dX10_agree_1 : decode cX10_agree 1 = .ok (.getfield 31, 3) := by decide +kernel
theorem dX10_agree_4 : decode cX10_agree 4 = .ok (.getfield 198, 3) := by decide +kernel
theorem dX10_agree_7 : decode cX10_agree 7 = .ok (.aload_n 0, 1) := by decide +kernel
theorem dX10_agree_8 : decode cX10_agree 8 = .ok (.getfield 24, 3) := by decide +kernel
theorem dX10_agree_11 : decode cX10_agree 11 = .ok (.invokevirtual 246, 3) := by decide +kernel
theorem dX10_agree_14 : decode cX10_agree 14 = .ok (.aload_n 0, 1) := by decide +kernel
theorem dX10_agree_15 : decode cX10_agree 15 = .ok (.getfield 24, 3) := by decide +kernel
theorem dX10_agree_18 : decode cX10_agree 18 = .ok (.getfield 198, 3) := by decide +kernel
theorem dX10_agree_21 : decode cX10_agree 21 = .ok (.aload_n 0, 1) := by decide +kernel
theorem dX10_agree_22 : decode cX10_agree 22 = .ok (.getfield 31, 3) := by decide +kernel
theorem dX10_agree_25 : decode cX10_agree 25 = .ok (.getfield 198, 3) := by decide +kernel
theorem dX10_agree_28 : decode cX10_agree 28 = .ok (.aload_n 0, 1) := by decide +kernel
theorem dX10_agree_29 : decode cX10_agree 29 = .ok (.getfield 24, 3) := by decide +kernel
theorem dX10_agree_32 : decode cX10_agree 32 = .ok (.getfield 249, 3) := by decide +kernel
theorem dX10_agree_35 : decode cX10_agree 35 = .ok (.invokevirtual 252, 3) := by decide +kernel
theorem dX10_agree_38 : decode cX10_agree 38 = .ok (.ifCond .eq 27, 3) := by decide +kernel
theorem dX10_agree_41 : decode cX10_agree 41 = .ok (.aload_n 0, 1) := by decide +kernel
theorem dX10_agree_42 : decode cX10_agree 42 = .ok (.getfield 24, 3) := by decide +kernel
theorem dX10_agree_45 : decode cX10_agree 45 = .ok (.invokestatic 256, 3) := by decide +kernel
theorem dX10_agree_48 : decode cX10_agree 48 = .ok (.ifCond .eq 17, 3) := by decide +kernel
theorem dX10_agree_51 : decode cX10_agree 51 = .ok (.aload_n 0, 1) := by decide +kernel
theorem dX10_agree_52 : decode cX10_agree 52 = .ok (.getfield 24, 3) := by decide +kernel
theorem dX10_agree_55 : decode cX10_agree 55 = .ok (.invokestatic 260, 3) := by decide +kernel
theorem dX10_agree_58 : decode cX10_agree 58 = .ok (.ifCond .eq 7, 3) := by decide +kernel
theorem dX10_agree_61 : decode cX10_agree 61 = .ok (.iconst 1, 1) := by decide +kernel
theorem dX10_agree_62 : decode cX10_agree 62 = .ok (.goto 4, 3) := by decide +kernel
theorem dX10_agree_65 : decode cX10_agree 65 = .ok (.iconst 0, 1) := by decide +kernel
theorem dX10_agree_66 : decode cX10_agree 66 = .ok (.ireturn, 1) := by decide +kernel
theorem dX10_send_0 : decode cX10_send 0 = .ok (.aload_n 0, 1) := by decide +kernel
theorem dX10_send_1 : decode cX10_send 1 = .ok (.iload_n 1, 1) := by decide +kernel
theorem dX10_send_2 : decode cX10_send 2 = .ok (.invokevirtual 180, 3) := by decide +kernel
theorem dX10_send_5 : decode cX10_send 5 = .ok (.aload_n 0, 1) := by decide +kernel
theorem dX10_send_6 : decode cX10_send 6 = .ok (.iload_n 2, 1) := by decide +kernel
theorem dX10_send_7 : decode cX10_send 7 = .ok (.invokevirtual 180, 3) := by decide +kernel
theorem dX10_send_10 : decode cX10_send 10 = .ok (.iload_n 1, 1) := by decide +kernel
theorem dX10_send_11 : decode cX10_send 11 = .ok (.iload_n 2, 1) := by decide +kernel
theorem dX10_send_12 : decode cX10_send 12 = .ok (.if_icmp .ne 14, 3) := by decide +kernel
theorem dX10_send_15 : decode cX10_send 15 = .ok (.new 266, 3) := by decide +kernel
theorem dX10_send_18 : decode cX10_send 18 = .ok (.dup, 1) := by decide +kernel
theorem dX10_send_19 : decode cX10_send 19 = .ok (.ldc_w 268, 3) := by decide +kernel
theorem dX10_send_22 : decode cX10_send 22 = .ok (.invokespecial 270, 3) := by decide +kernel
theorem dX10_send_25 : decode cX10_send 25 = .ok (.athrow, 1) := by decide +kernel
theorem dX10_send_26 : decode cX10_send 26 = .ok (.aload_n 0, 1) := by decide +kernel
theorem dX10_send_27 : decode cX10_send 27 = .ok (.iload_n 3, 1) := by decide +kernel
theorem dX10_send_28 : decode cX10_send 28 = .ok (.iconst 0, 1) := by decide +kernel
theorem dX10_send_29 : decode cX10_send 29 = .ok (.ldc_w 271, 3) := by decide +kernel
theorem dX10_send_32 : decode cX10_send 32 = .ok (.invokevirtual 168, 3) := by decide +kernel
theorem dX10_send_35 : decode cX10_send 35 = .ok (.iload_n 3, 1) := by decide +kernel
theorem dX10_send_36 : decode cX10_send 36 = .ok (.invokestatic 272, 3) := by decide +kernel
theorem dX10_send_39 : decode cX10_send 39 = .ok (.ifCond .ne 14, 3) := by decide +kernel
theorem dX10_send_42 : decode cX10_send 42 = .ok (.new 266, 3) := by decide +kernel
theorem dX10_send_45 : decode cX10_send 45 = .ok (.dup, 1) := by decide +kernel
theorem dX10_send_46 : decode cX10_send 46 = .ok (.ldc_w 275, 3) := by decide +kernel
theorem dX10_send_49 : decode cX10_send 49 = .ok (.invokespecial 270, 3) := by decide +kernel
theorem dX10_send_52 : decode cX10_send 52 = .ok (.athrow, 1) := by decide +kernel
theorem dX10_send_53 : decode cX10_send 53 = .ok (.aload_n 0, 1) := by decide +kernel
theorem dX10_send_54 : decode cX10_send 54 = .ok (.getfield 24, 3) := by decide +kernel
theorem dX10_send_57 : decode cX10_send 57 = .ok (.getfield 155, 3) := by decide +kernel
theorem dX10_send_60 : decode cX10_send 60 = .ok (.bipush 30, 2) := by decide +kernel
theorem dX10_send_62 : decode cX10_send 62 = .ok (.if_icmp .lt 14, 3) := by decide +kernel
theorem dX10_send_65 : decode cX10_send 65 = .ok (.new 277, 3) := by decide +kernel
theorem dX10_send_68 : decode cX10_send 68 = .ok (.dup, 1) := by decide +kernel
theorem dX10_send_69 : decode cX10_send 69 = .ok (.ldc_w 279, 3) := by decide +kernel
theorem dX10_send_72 : decode cX10_send 72 = .ok (.invokespecial 281, 3) := by decide +kernel
theorem dX10_send_75 : decode cX10_send 75 = .ok (.athrow, 1) := by decide +kernel
theorem dX10_send_76 : decode cX10_send 76 = .ok (.aload_n 0, 1) := by decide +kernel
theorem dX10_send_77 : decode cX10_send 77 = .ok (.getfield 37, 3) := by decide +kernel
theorem dX10_send_80 : decode cX10_send 80 = .ok (.aload_n 0, 1) := by decide +kernel
theorem dX10_send_81 : decode cX10_send 81 = .ok (.getfield 24, 3) := by decide +kernel
theorem dX10_send_84 : decode cX10_send 84 = .ok (.invokevirtual 109, 3) := by decide +kernel
theorem dX10_send_87 : decode cX10_send 87 = .ok (.aload_n 0, 1) := by decide +kernel
theorem dX10_send_88 : decode cX10_send 88 = .ok (.getfield 24, 3) := by decide +kernel
theorem dX10_send_91 : decode cX10_send 91 = .ok (.iload_n 1, 1) := by decide +kernel
theorem dX10_send_92 : decode cX10_send 92 = .ok (.iload_n 2, 1) := by decide +kernel
theorem dX10_send_93 : decode cX10_send 93 = .ok (.iload_n 3, 1) := by decide +kernel
theorem dX10_send_94 : decode cX10_send 94 = .ok (.invokestatic 282, 3) := by decide +kernel
theorem dX10_send_97 : decode cX10_send 97 = .ok (.iload_n 3, 1) := by decide +kernel
theorem dX10_send_98 : decode cX10_send 98 = .ok (.invokestatic 285, 3) := by decide +kernel
theorem dX10_send_101 : decode cX10_send 101 = .ok (.iconst 0, 1) := by decide +kernel
theorem dX10_send_102 : decode cX10_send 102 = .ok (.iload 4, 2) := by decide +kernel
theorem dX10_send_104 : decode cX10_send 104 = .ok (.invokevirtual 158, 3) := by decide +kernel
theorem dX10_send_107 : decode cX10_send 107 = .ok (.ireturn, 1) := by decide +kernel
theorem dX10_areDigitsNotes_0 : decode cX10_areDigitsNotes 0 = .ok (.iload_n 0, 1) := by decide +kernel
theorem dX10_areDigitsNotes_1 : decode cX10_areDigitsNotes 1 = .ok (.istore_n 1, 1) := by decide +kernel
theorem dX10_areDigitsNotes_2 : decode cX10_areDigitsNotes 2 = .ok (.iload_n 1, 1) := by decide +kernel
theorem dX10_areDigitsNotes_3 : decode cX10_areDigitsNotes 3 = .ok (.ifCond .le 22, 3) := by decide +kernel
theorem dX10_areDigitsNotes_6 : decode cX10_areDigitsNotes 6 = .ok (.iload_n 1, 1) := by decide +kernel
theorem dX10_areDigitsNotes_7 : decode cX10_areDigitsNotes 7 = .ok (.bipush 10, 2) := by decide +kernel
theorem dX10_areDigitsNotes_9 : decode cX10_areDigitsNotes 9 = .ok (.irem, 1) := by decide +kernel
theorem dX10_areDigitsNotes_10 : decode cX10_areDigitsNotes 10 = .ok (.bipush 7, 2) := by decide +kernel
theorem dX10_areDigitsNotes_12 : decode cX10_areDigitsNotes 12 = .ok (.if_icmp .le 5, 3) := by decide +kernel
theorem dX10_areDigitsNotes_15 : decode cX10_areDigitsNotes 15 = .ok (.iconst 0, 1) := by decide +kernel
theorem dX10_areDigitsNotes_16 : decode cX10_areDigitsNotes 16 = .ok (.ireturn, 1) := by decide +kernel
theorem dX10_areDigitsNotes_17 : decode cX10_areDigitsNotes 17 = .ok (.iload_n 1, 1) := by decide +kernel
theorem dX10_areDigitsNotes_18 : decode cX10_areDigitsNotes 18 = .ok (.bipush 10, 2) := by decide +kernel
theorem dX10_areDigitsNotes_20 : decode cX10_areDigitsNotes 20 = .ok (.idiv, 1) := by decide +kernel
theorem dX10_areDigitsNotes_21 : decode cX10_areDigitsNotes 21 = .ok (.istore_n 1, 1) := by decide +kernel
theorem dX10_areDigitsNotes_22 : decode cX10_areDigitsNotes 22 = .ok (.goto (-20), 3) := by decide +kernel
theorem dX10_areDigitsNotes_25 : decode cX10_areDigitsNotes 25 = .ok (.iconst 1, 1) := by decide +kernel
theorem dX10_areDigitsNotes_26 : decode cX10_areDigitsNotes 26 = .ok (.ireturn, 1) := by decide +kernel
theorem dX10_digitsOf_0 : decode cX10_digitsOf 0 = .ok (.iconst 1, 1) := by decide +kernel
theorem dX10_digitsOf_1 : decode cX10_digitsOf 1 = .ok (.istore_n 1, 1) := by decide +kernel
theorem dX10_digitsOf_2 : decode cX10_digitsOf 2 = .ok (.iload_n 0, 1) := by decide +kernel
theorem dX10_digitsOf_3 : decode cX10_digitsOf 3 = .ok (.bipush 10, 2) := by decide +kernel
theorem dX10_digitsOf_5 : decode cX10_digitsOf 5 = .ok (.idiv, 1) := by decide +kernel
theorem dX10_digitsOf_6 : decode cX10_digitsOf 6 = .ok (.istore_n 2, 1) := by decide +kernel
theorem dX10_digitsOf_7 : decode cX10_digitsOf 7 = .ok (.iload_n 2, 1) := by decide +kernel
theorem dX10_digitsOf_8 : decode cX10_digitsOf 8 = .ok (.ifCond .le 14, 3) := by decide +kernel
theorem dX10_digitsOf_11 : decode cX10_digitsOf 11 = .ok (.iinc 1 1, 3) := by decide +kernel
theorem dX10_digitsOf_14 : decode cX10_digitsOf 14 = .ok (.iload_n 2, 1) := by decide +kernel
theorem dX10_digitsOf_15 : decode cX10_digitsOf 15 = .ok (.bipush 10, 2) := by decide +kernel
theorem dX10_digitsOf_17 : decode cX10_digitsOf 17 = .ok (.idiv, 1) := by decide +kernel
theorem dX10_digitsOf_18 : decode cX10_digitsOf 18 = .ok (.istore_n 2, 1) := by decide +kernel
theorem dX10_digitsOf_19 : decode cX10_digitsOf 19 = .ok (.goto (-12), 3) := by decide +kernel
theorem dX10_digitsOf_22 : decode cX10_digitsOf 22 = .ok (.iload_n 1, 1) := by decide +kernel
theorem dX10_digitsOf_23 : decode cX10_digitsOf 23 = .ok (.ireturn, 1) := by decide +kernel
theorem dX10_notesOfDigits_0 : decode cX10_notesOfDigits 0 = .ok (.iconst 0, 1) := by decide +kernel
theorem dX10_notesOfDigits_1 : decode cX10_notesOfDigits 1 = .ok (.istore_n 1, 1) := by decide +kernel
theorem dX10_notesOfDigits_2 : decode cX10_notesOfDigits 2 = .ok (.iload_n 0, 1) := by decide +kernel
theorem dX10_notesOfDigits_3 : decode cX10_notesOfDigits 3 = .ok (.istore_n 2, 1) := by decide +kernel
theorem dX10_notesOfDigits_4 : decode cX10_notesOfDigits 4 = .ok (.iload_n 2, 1) := by decide +kernel
theorem dX10_notesOfDigits_5 : decode cX10_notesOfDigits 5 = .ok (.ifCond .le 20, 3) := by decide +kernel
theorem dX10_notesOfDigits_8 : decode cX10_notesOfDigits 8 = .ok (.iload_n 1, 1) := by decide +kernel
theorem dX10_notesOfDigits_9 : decode cX10_notesOfDigits 9 = .ok (.iconst 3, 1) := by decide +kernel
theorem dX10_notesOfDigits_10 : decode cX10_notesOfDigits 10 = .ok (.ishl, 1) := by decide +kernel
theorem dX10_notesOfDigits_11 : decode cX10_notesOfDigits 11 = .ok (.iload_n 2, 1) := by decide +kernel
theorem dX10_notesOfDigits_12 : decode cX10_notesOfDigits 12 = .ok (.bipush 10, 2) := by decide +kernel
theorem dX10_notesOfDigits_14 : decode cX10_notesOfDigits 14 = .ok (.irem, 1) := by decide +kernel
theorem dX10_notesOfDigits_15 : decode cX10_notesOfDigits 15 = .ok (.ior, 1) := by decide +kernel
theorem dX10_notesOfDigits_16 : decode cX10_notesOfDigits 16 = .ok (.istore_n 1, 1) := by decide +kernel
theorem dX10_notesOfDigits_17 : decode cX10_notesOfDigits 17 = .ok (.iload_n 2, 1) := by decide +kernel
theorem dX10_notesOfDigits_18 : decode cX10_notesOfDigits 18 = .ok (.bipush 10, 2) := by decide +kernel
theorem dX10_notesOfDigits_20 : decode cX10_notesOfDigits 20 = .ok (.idiv, 1) := by decide +kernel
theorem dX10_notesOfDigits_21 : decode cX10_notesOfDigits 21 = .ok (.istore_n 2, 1) := by decide +kernel
theorem dX10_notesOfDigits_22 : decode cX10_notesOfDigits 22 = .ok (.goto (-18), 3) := by decide +kernel
theorem dX10_notesOfDigits_25 : decode cX10_notesOfDigits 25 = .ok (.iload_n 1, 1) := by decide +kernel
theorem dX10_notesOfDigits_26 : decode cX10_notesOfDigits 26 = .ok (.ireturn, 1) := by decide +kernel
theorem dX10_noteOf_0 : decode cX10_noteOf 0 = .ok (.iload_n 0, 1) := by decide +kernel
theorem dX10_noteOf_1 : decode cX10_noteOf 1 = .ok (.iconst 3, 1) := by decide +kernel
theorem dX10_noteOf_2 : decode cX10_noteOf 2 = .ok (.iload_n 1, 1) := by decide +kernel
theorem dX10_noteOf_3 : decode cX10_noteOf 3 = .ok (.imul, 1) := by decide +kernel
theorem dX10_noteOf_4 : decode cX10_noteOf 4 = .ok (.ishr, 1) := by decide +kernel
theorem dX10_noteOf_5 : decode cX10_noteOf 5 = .ok (.bipush 7, 2) := by decide +kernel
theorem dX10_noteOf_7 : decode cX10_noteOf 7 = .ok (.iand, 1) := by decide +kernel
theorem dX10_noteOf_8 : decode cX10_noteOf 8 = .ok (.ireturn, 1) := by decide +kernel
theorem dX10_tick_0 : decode cX10_tick 0 = .ok (.aload_n 0, 1) := by decide +kernel
theorem dX10_tick_1 : decode cX10_tick 1 = .ok (.iload_n 1, 1) := by decide +kernel
theorem dX10_tick_2 : decode cX10_tick 2 = .ok (.iconst 1, 1) := by decide +kernel
theorem dX10_tick_3 : decode cX10_tick 3 = .ok (.sipush 200, 3) := by decide +kernel
theorem dX10_tick_6 : decode cX10_tick 6 = .ok (.invokevirtual 168, 3) := by decide +kernel
theorem dX10_tick_9 : decode cX10_tick 9 = .ok (.aload_n 0, 1) := by decide +kernel
theorem dX10_tick_10 : decode cX10_tick 10 = .ok (.getfield 24, 3) := by decide +kernel
theorem dX10_tick_13 : decode cX10_tick 13 = .ok (.iload_n 1, 1) := by decide +kernel
theorem dX10_tick_14 : decode cX10_tick 14 = .ok (.invokevirtual 132, 3) := by decide +kernel
theorem dX10_tick_17 : decode cX10_tick 17 = .ok (.ifCond .ne 14, 3) := by decide +kernel
theorem dX10_tick_20 : decode cX10_tick 20 = .ok (.new 277, 3) := by decide +kernel
theorem dX10_tick_23 : decode cX10_tick 23 = .ok (.dup, 1) := by decide +kernel
theorem dX10_tick_24 : decode cX10_tick 24 = .ok (.ldc_w 288, 3) := by decide +kernel
theorem dX10_tick_27 : decode cX10_tick 27 = .ok (.invokespecial 281, 3) := by decide +kernel
theorem dX10_tick_30 : decode cX10_tick 30 = .ok (.athrow, 1) := by decide +kernel
theorem dX10_tick_31 : decode cX10_tick 31 = .ok (.aload_n 0, 1) := by decide +kernel
theorem dX10_tick_32 : decode cX10_tick 32 = .ok (.getfield 37, 3) := by decide +kernel
theorem dX10_tick_35 : decode cX10_tick 35 = .ok (.aload_n 0, 1) := by decide +kernel
theorem dX10_tick_36 : decode cX10_tick 36 = .ok (.getfield 24, 3) := by decide +kernel
theorem dX10_tick_39 : decode cX10_tick 39 = .ok (.invokevirtual 109, 3) := by decide +kernel
theorem dX10_tick_42 : decode cX10_tick 42 = .ok (.aload_n 0, 1) := by decide +kernel
theorem dX10_tick_43 : decode cX10_tick 43 = .ok (.getfield 24, 3) := by decide +kernel
theorem dX10_tick_46 : decode cX10_tick 46 = .ok (.getfield 177, 3) := by decide +kernel
theorem dX10_tick_49 : decode cX10_tick 49 = .ok (.iconst 0, 1) := by decide +kernel
theorem dX10_tick_50 : decode cX10_tick 50 = .ok (.iconst 5, 1) := by decide +kernel
theorem dX10_tick_51 : decode cX10_tick 51 = .ok (.invokevirtual 122, 3) := by decide +kernel
theorem dX10_tick_54 : decode cX10_tick 54 = .ok (.istore_n 2, 1) := by decide +kernel
theorem dX10_tick_55 : decode cX10_tick 55 = .ok (.aload_n 0, 1) := by decide +kernel
theorem dX10_tick_56 : decode cX10_tick 56 = .ok (.getfield 24, 3) := by decide +kernel
theorem dX10_tick_59 : decode cX10_tick 59 = .ok (.iload_n 1, 1) := by decide +kernel
theorem dX10_tick_60 : decode cX10_tick 60 = .ok (.invokestatic 135, 3) := by decide +kernel
theorem dX10_tick_63 : decode cX10_tick 63 = .ok (.aload_n 0, 1) := by decide +kernel
theorem dX10_tick_64 : decode cX10_tick 64 = .ok (.getfield 24, 3) := by decide +kernel
theorem dX10_tick_67 : decode cX10_tick 67 = .ok (.getfield 177, 3) := by decide +kernel
theorem dX10_tick_70 : decode cX10_tick 70 = .ok (.iconst 0, 1) := by decide +kernel
theorem dX10_tick_71 : decode cX10_tick 71 = .ok (.iconst 5, 1) := by decide +kernel
theorem dX10_tick_72 : decode cX10_tick 72 = .ok (.invokevirtual 122, 3) := by decide +kernel
theorem dX10_tick_75 : decode cX10_tick 75 = .ok (.iload_n 2, 1) := by decide +kernel
theorem dX10_tick_76 : decode cX10_tick 76 = .ok (.isub, 1) := by decide +kernel
theorem dX10_tick_77 : decode cX10_tick 77 = .ok (.ireturn, 1) := by decide +kernel
theorem dX10_give_0 : decode cX10_give 0 = .ok (.aload_n 0, 1) := by decide +kernel
theorem dX10_give_1 : decode cX10_give 1 = .ok (.iload_n 1, 1) := by decide +kernel
theorem dX10_give_2 : decode cX10_give 2 = .ok (.invokevirtual 180, 3) := by decide +kernel
theorem dX10_give_5 : decode cX10_give 5 = .ok (.aload_n 0, 1) := by decide +kernel
theorem dX10_give_6 : decode cX10_give 6 = .ok (.iload_n 2, 1) := by decide +kernel
theorem dX10_give_7 : decode cX10_give 7 = .ok (.iconst 1, 1) := by decide +kernel
theorem dX10_give_8 : decode cX10_give 8 = .ok (.bipush 99, 2) := by decide +kernel
theorem dX10_give_10 : decode cX10_give 10 = .ok (.invokevirtual 168, 3) := by decide +kernel
theorem dX10_give_13 : decode cX10_give 13 = .ok (.aload_n 0, 1) := by decide +kernel
theorem dX10_give_14 : decode cX10_give 14 = .ok (.getfield 24, 3) := by decide +kernel
theorem dX10_give_17 : decode cX10_give 17 = .ok (.iload_n 1, 1) := by decide +kernel
theorem dX10_give_18 : decode cX10_give 18 = .ok (.iload_n 2, 1) := by decide +kernel
theorem dX10_give_19 : decode cX10_give 19 = .ok (.invokevirtual 141, 3) := by decide +kernel
theorem dX10_give_22 : decode cX10_give 22 = .ok (.ifCond .ne 14, 3) := by decide +kernel
theorem dX10_give_25 : decode cX10_give 25 = .ok (.new 277, 3) := by decide +kernel
theorem dX10_give_28 : decode cX10_give 28 = .ok (.dup, 1) := by decide +kernel
theorem dX10_give_29 : decode cX10_give 29 = .ok (.ldc_w 290, 3) := by decide +kernel
theorem dX10_give_32 : decode cX10_give 32 = .ok (.invokespecial 281, 3) := by decide +kernel
theorem dX10_give_35 : decode cX10_give 35 = .ok (.athrow, 1) := by decide +kernel
theorem dX10_give_36 : decode cX10_give 36 = .ok (.aload_n 0, 1) := by decide +kernel
theorem dX10_give_37 : decode cX10_give 37 = .ok (.getfield 37, 3) := by decide +kernel
theorem dX10_give_40 : decode cX10_give 40 = .ok (.aload_n 0, 1) := by decide +kernel
theorem dX10_give_41 : decode cX10_give 41 = .ok (.getfield 24, 3) := by decide +kernel
theorem dX10_give_44 : decode cX10_give 44 = .ok (.invokevirtual 109, 3) := by decide +kernel
theorem dX10_give_47 : decode cX10_give 47 = .ok (.aload_n 0, 1) := by decide +kernel
theorem dX10_give_48 : decode cX10_give 48 = .ok (.getfield 24, 3) := by decide +kernel
theorem dX10_give_51 : decode cX10_give 51 = .ok (.iload_n 1, 1) := by decide +kernel
theorem dX10_give_52 : decode cX10_give 52 = .ok (.iload_n 2, 1) := by decide +kernel
theorem dX10_give_53 : decode cX10_give 53 = .ok (.invokevirtual 145, 3) := by decide +kernel
theorem dX10_give_56 : decode cX10_give 56 = .ok (.aload_n 0, 1) := by decide +kernel
theorem dX10_give_57 : decode cX10_give 57 = .ok (.getfield 24, 3) := by decide +kernel
theorem dX10_give_60 : decode cX10_give 60 = .ok (.getfield 292, 3) := by decide +kernel
theorem dX10_give_63 : decode cX10_give 63 = .ok (.iload_n 1, 1) := by decide +kernel
theorem dX10_give_64 : decode cX10_give 64 = .ok (.iconst 3, 1) := by decide +kernel
theorem dX10_give_65 : decode cX10_give 65 = .ok (.invokevirtual 122, 3) := by decide +kernel
theorem dX10_give_68 : decode cX10_give 68 = .ok (.ireturn, 1) := by decide +kernel
theorem dX10_cut_0 : decode cX10_cut 0 = .ok (.aload_n 0, 1) := by decide +kernel
theorem dX10_cut_1 : decode cX10_cut 1 = .ok (.iload_n 1, 1) := by decide +kernel
theorem dX10_cut_2 : decode cX10_cut 2 = .ok (.invokevirtual 180, 3) := by decide +kernel
theorem dX10_cut_5 : decode cX10_cut 5 = .ok (.aload_n 0, 1) := by decide +kernel
theorem dX10_cut_6 : decode cX10_cut 6 = .ok (.iload_n 2, 1) := by decide +kernel
theorem dX10_cut_7 : decode cX10_cut 7 = .ok (.invokevirtual 180, 3) := by decide +kernel
theorem dX10_cut_10 : decode cX10_cut 10 = .ok (.aload_n 0, 1) := by decide +kernel
theorem dX10_cut_11 : decode cX10_cut 11 = .ok (.getfield 24, 3) := by decide +kernel
theorem dX10_cut_14 : decode cX10_cut 14 = .ok (.iload_n 1, 1) := by decide +kernel
theorem dX10_cut_15 : decode cX10_cut 15 = .ok (.iload_n 2, 1) := by decide +kernel
theorem dX10_cut_16 : decode cX10_cut 16 = .ok (.invokevirtual 295, 3) := by decide +kernel
theorem dX10_cut_19 : decode cX10_cut 19 = .ok (.iconst (-1), 1) := by decide +kernel
theorem dX10_cut_20 : decode cX10_cut 20 = .ok (.if_icmp .ne 14, 3) := by decide +kernel
theorem dX10_cut_23 : decode cX10_cut 23 = .ok (.new 277, 3) := by decide +kernel
theorem dX10_cut_26 : decode cX10_cut 26 = .ok (.dup, 1) := by decide +kernel
theorem dX10_cut_27 : decode cX10_cut 27 = .ok (.ldc_w 298, 3) := by decide +kernel
theorem dX10_cut_30 : decode cX10_cut 30 = .ok (.invokespecial 281, 3) := by decide +kernel
theorem dX10_cut_33 : decode cX10_cut 33 = .ok (.athrow, 1) := by decide +kernel
theorem dX10_cut_34 : decode cX10_cut 34 = .ok (.aload_n 0, 1) := by decide +kernel
theorem dX10_cut_35 : decode cX10_cut 35 = .ok (.getfield 37, 3) := by decide +kernel
theorem dX10_cut_38 : decode cX10_cut 38 = .ok (.aload_n 0, 1) := by decide +kernel
theorem dX10_cut_39 : decode cX10_cut 39 = .ok (.getfield 24, 3) := by decide +kernel
theorem dX10_cut_42 : decode cX10_cut 42 = .ok (.invokevirtual 109, 3) := by decide +kernel
theorem dX10_cut_45 : decode cX10_cut 45 = .ok (.aload_n 0, 1) := by decide +kernel
theorem dX10_cut_46 : decode cX10_cut 46 = .ok (.getfield 24, 3) := by decide +kernel
theorem dX10_cut_49 : decode cX10_cut 49 = .ok (.iload_n 1, 1) := by decide +kernel
theorem dX10_cut_50 : decode cX10_cut 50 = .ok (.iload_n 2, 1) := by decide +kernel
theorem dX10_cut_51 : decode cX10_cut 51 = .ok (.invokevirtual 149, 3) := by decide +kernel
theorem dX10_cut_54 : decode cX10_cut 54 = .ok (.pop, 1) := by decide +kernel
theorem dX10_cut_55 : decode cX10_cut 55 = .ok (.aload_n 0, 1) := by decide +kernel
theorem dX10_cut_56 : decode cX10_cut 56 = .ok (.getfield 24, 3) := by decide +kernel
theorem dX10_cut_59 : decode cX10_cut 59 = .ok (.getfield 104, 3) := by decide +kernel
theorem dX10_cut_62 : decode cX10_cut 62 = .ok (.ireturn, 1) := by decide +kernel
theorem dX10_set_0 : decode cX10_set 0 = .ok (.aload_n 0, 1) := by decide +kernel
theorem dX10_set_1 : decode cX10_set 1 = .ok (.iload_n 1, 1) := by decide +kernel
theorem dX10_set_2 : decode cX10_set 2 = .ok (.bipush 8, 2) := by decide +kernel
theorem dX10_set_4 : decode cX10_set 4 = .ok (.bipush 10, 2) := by decide +kernel
theorem dX10_set_6 : decode cX10_set 6 = .ok (.invokevirtual 168, 3) := by decide +kernel
theorem dX10_set_9 : decode cX10_set 9 = .ok (.aload_n 0, 1) := by decide +kernel
theorem dX10_set_10 : decode cX10_set 10 = .ok (.iload_n 2, 1) := by decide +kernel
theorem dX10_set_11 : decode cX10_set 11 = .ok (.iload_n 1, 1) := by decide +kernel
theorem dX10_set_12 : decode cX10_set 12 = .ok (.invokestatic 300, 3) := by decide +kernel
theorem dX10_set_15 : decode cX10_set 15 = .ok (.iload_n 1, 1) := by decide +kernel
theorem dX10_set_16 : decode cX10_set 16 = .ok (.invokestatic 303, 3) := by decide +kernel
theorem dX10_set_19 : decode cX10_set 19 = .ok (.invokevirtual 168, 3) := by decide +kernel
theorem dX10_set_22 : decode cX10_set 22 = .ok (.aload_n 0, 1) := by decide +kernel
theorem dX10_set_23 : decode cX10_set 23 = .ok (.getfield 37, 3) := by decide +kernel
theorem dX10_set_26 : decode cX10_set 26 = .ok (.aload_n 0, 1) := by decide +kernel
theorem dX10_set_27 : decode cX10_set 27 = .ok (.getfield 24, 3) := by decide +kernel
theorem dX10_set_30 : decode cX10_set 30 = .ok (.invokevirtual 109, 3) := by decide +kernel
theorem dX10_set_33 : decode cX10_set 33 = .ok (.aload_n 0, 1) := by decide +kernel
theorem dX10_set_34 : decode cX10_set 34 = .ok (.getfield 24, 3) := by decide +kernel
theorem dX10_set_37 : decode cX10_set 37 = .ok (.iload_n 1, 1) := by decide +kernel
theorem dX10_set_38 : decode cX10_set 38 = .ok (.invokevirtual 235, 3) := by decide +kernel
theorem dX10_set_41 : decode cX10_set 41 = .ok (.istore_n 3, 1) := by decide +kernel
theorem dX10_set_42 : decode cX10_set 42 = .ok (.aload_n 0, 1) := by decide +kernel
theorem dX10_set_43 : decode cX10_set 43 = .ok (.getfield 24, 3) := by decide +kernel
theorem dX10_set_46 : decode cX10_set 46 = .ok (.iload_n 1, 1) := by decide +kernel
theorem dX10_set_47 : decode cX10_set 47 = .ok (.iload_n 2, 1) := by decide +kernel
theorem dX10_set_48 : decode cX10_set 48 = .ok (.invokevirtual 152, 3) := by decide +kernel
theorem dX10_set_51 : decode cX10_set 51 = .ok (.iload_n 3, 1) := by decide +kernel
theorem dX10_set_52 : decode cX10_set 52 = .ok (.ireturn, 1) := by decide +kernel
theorem dX10_needRoof_0 : decode cX10_needRoof 0 = .ok (.iload_n 1, 1) := by decide +kernel
theorem dX10_needRoof_1 : decode cX10_needRoof 1 = .ok (.ifCond .lt 14, 3) := by decide +kernel
theorem dX10_needRoof_4 : decode cX10_needRoof 4 = .ok (.iload_n 1, 1) := by decide +kernel
theorem dX10_needRoof_5 : decode cX10_needRoof 5 = .ok (.aload_n 0, 1) := by decide +kernel
theorem dX10_needRoof_6 : decode cX10_needRoof 6 = .ok (.getfield 24, 3) := by decide +kernel
theorem dX10_needRoof_9 : decode cX10_needRoof 9 = .ok (.getfield 249, 3) := by decide +kernel
theorem dX10_needRoof_12 : decode cX10_needRoof 12 = .ok (.if_icmp .lt 14, 3) := by decide +kernel
theorem dX10_needRoof_15 : decode cX10_needRoof 15 = .ok (.new 189, 3) := by decide +kernel
theorem dX10_needRoof_18 : decode cX10_needRoof 18 = .ok (.dup, 1) := by decide +kernel
theorem dX10_needRoof_19 : decode cX10_needRoof 19 = .ok (.ldc_w 333, 3) := by decide +kernel
theorem dX10_needRoof_22 : decode cX10_needRoof 22 = .ok (.invokespecial 193, 3) := by decide +kernel
theorem dX10_needRoof_25 : decode cX10_needRoof 25 = .ok (.athrow, 1) := by decide +kernel
theorem dX10_needRoof_26 : decode cX10_needRoof 26 = .ok (.return_, 1) := by decide +kernel
theorem dX10_needTune_0 : decode cX10_needTune 0 = .ok (.iload_n 1, 1) := by decide +kernel
theorem dX10_needTune_1 : decode cX10_needTune 1 = .ok (.ifCond .lt 14, 3) := by decide +kernel
theorem dX10_needTune_4 : decode cX10_needTune 4 = .ok (.iload_n 1, 1) := by decide +kernel
theorem dX10_needTune_5 : decode cX10_needTune 5 = .ok (.aload_n 0, 1) := by decide +kernel
theorem dX10_needTune_6 : decode cX10_needTune 6 = .ok (.getfield 24, 3) := by decide +kernel
theorem dX10_needTune_9 : decode cX10_needTune 9 = .ok (.getfield 155, 3) := by decide +kernel
theorem dX10_needTune_12 : decode cX10_needTune 12 = .ok (.if_icmp .lt 14, 3) := by decide +kernel
theorem dX10_needTune_15 : decode cX10_needTune 15 = .ok (.new 189, 3) := by decide +kernel
theorem dX10_needTune_18 : decode cX10_needTune 18 = .ok (.dup, 1) := by decide +kernel
theorem dX10_needTune_19 : decode cX10_needTune 19 = .ok (.ldc_w 335, 3) := by decide +kernel
theorem dX10_needTune_22 : decode cX10_needTune 22 = .ok (.invokespecial 193, 3) := by decide +kernel
theorem dX10_needTune_25 : decode cX10_needTune 25 = .ok (.athrow, 1) := by decide +kernel
theorem dX10_needTune_26 : decode cX10_needTune 26 = .ok (.return_, 1) := by decide +kernel
theorem dX10_needNumber_0 : decode cX10_needNumber 0 = .ok (.iload_n 1, 1) := by decide +kernel
theorem dX10_needNumber_1 : decode cX10_needNumber 1 = .ok (.iload_n 2, 1) := by decide +kernel
theorem dX10_needNumber_2 : decode cX10_needNumber 2 = .ok (.if_icmp .lt 8, 3) := by decide +kernel
theorem dX10_needNumber_5 : decode cX10_needNumber 5 = .ok (.iload_n 1, 1) := by decide +kernel
theorem dX10_needNumber_6 : decode cX10_needNumber 6 = .ok (.iload_n 3, 1) := by decide +kernel
theorem dX10_needNumber_7 : decode cX10_needNumber 7 = .ok (.if_icmp .le 14, 3) := by decide +kernel
theorem dX10_needNumber_10 : decode cX10_needNumber 10 = .ok (.new 266, 3) := by decide +kernel
theorem dX10_needNumber_13 : decode cX10_needNumber 13 = .ok (.dup, 1) := by decide +kernel
theorem dX10_needNumber_14 : decode cX10_needNumber 14 = .ok (.ldc_w 337, 3) := by decide +kernel
theorem dX10_needNumber_17 : decode cX10_needNumber 17 = .ok (.invokespecial 270, 3) := by decide +kernel
theorem dX10_needNumber_20 : decode cX10_needNumber 20 = .ok (.athrow, 1) := by decide +kernel
theorem dX10_needNumber_21 : decode cX10_needNumber 21 = .ok (.return_, 1) := by decide +kernel
theorem dJ5_init_d00df_0 : decode cJ5_init_d00df 0 = .ok (.aload_n 0, 1) := by decide +kernel
theorem dJ5_init_d00df_1 : decode cJ5_init_d00df 1 = .ok (.invokespecial 3, 3) := by decide +kernel
theorem dJ5_init_d00df_4 : decode cJ5_init_d00df 4 = .ok (.getstatic 18, 3) := by decide +kernel
theorem dJ5_init_d00df_7 : decode cJ5_init_d00df 7 = .ok (.ifCond .eq 18, 3) := by decide +kernel
theorem dJ5_init_d00df_10 : decode cJ5_init_d00df 10 = .ok (.aload_n 0, 1) := by decide +kernel
theorem dJ5_init_d00df_11 : decode cJ5_init_d00df 11 = .ok (.iload_n 1, 1) := by decide +kernel
theorem dJ5_init_d00df_12 : decode cJ5_init_d00df 12 = .ok (.newarray .byte, 2) := by decide +kernel
theorem dJ5_init_d00df_14 : decode cJ5_init_d00df 14 = .ok (.putfield 15, 3) := by decide +kernel
theorem dJ5_init_d00df_17 : decode cJ5_init_d00df 17 = .ok (.aload_n 0, 1) := by decide +kernel
theorem dJ5_init_d00df_18 : decode cJ5_init_d00df 18 = .ok (.iconst 0, 1) := by decide +kernel
theorem dJ5_init_d00df_19 : decode cJ5_init_d00df 19 = .ok (.putfield 22, 3) := by decide +kernel
theorem dJ5_init_d00df_22 : decode cJ5_init_d00df 22 = .ok (.goto 16, 3) := by decide +kernel
theorem dJ5_init_d00df_25 : decode cJ5_init_d00df 25 = .ok (.aload_n 0, 1) := by decide +kernel
theorem dJ5_init_d00df_26 : decode cJ5_init_d00df 26 = .ok (.iload_n 1, 1) := by decide +kernel
theorem dJ5_init_d00df_27 : decode cJ5_init_d00df 27 = .ok (.invokestatic 26, 3) := by decide +kernel
theorem dJ5_init_d00df_30 : decode cJ5_init_d00df 30 = .ok (.putfield 15, 3) := by decide +kernel
theorem dJ5_init_d00df_33 : decode cJ5_init_d00df 33 = .ok (.aload_n 0, 1) := by decide +kernel
theorem dJ5_init_d00df_34 : decode cJ5_init_d00df 34 = .ok (.iconst 1, 1) := by decide +kernel
theorem dJ5_init_d00df_35 : decode cJ5_init_d00df 35 = .ok (.putfield 22, 3) := by decide +kernel
theorem dJ5_init_d00df_38 : decode cJ5_init_d00df 38 = .ok (.return_, 1) := by decide +kernel
theorem dJ5_length_8abf5_0 : decode cJ5_length_8abf5 0 = .ok (.aload_n 0, 1) := by decide +kernel
theorem dJ5_length_8abf5_1 : decode cJ5_length_8abf5 1 = .ok (.getfield 79, 3) := by decide +kernel
theorem dJ5_length_8abf5_4 : decode cJ5_length_8abf5 4 = .ok (.ireturn, 1) := by decide +kernel
theorem dJ5_ensureCapacityInternal_d00df_0 : decode cJ5_ensureCapacityInternal_d00df 0 = .ok (.aload_n 0, 1) := by decide +kernel
theorem dJ5_ensureCapacityInternal_d00df_1 : decode cJ5_ensureCapacityInternal_d00df 1 = .ok (.getfield 15, 3) := by decide +kernel
theorem dJ5_ensureCapacityInternal_d00df_4 : decode cJ5_ensureCapacityInternal_d00df 4 = .ok (.arraylength, 1) := by decide +kernel
theorem dJ5_ensureCapacityInternal_d00df_5 : decode cJ5_ensureCapacityInternal_d00df 5 = .ok (.aload_n 0, 1) := by decide +kernel
theorem dJ5_ensureCapacityInternal_d00df_6 : decode cJ5_ensureCapacityInternal_d00df 6 = .ok (.getfield 22, 3) := by decide +kernel
theorem dJ5_ensureCapacityInternal_d00df_9 : decode cJ5_ensureCapacityInternal_d00df 9 = .ok (.ishr, 1) := by decide +kernel
theorem dJ5_ensureCapacityInternal_d00df_10 : decode cJ5_ensureCapacityInternal_d00df 10 = .ok (.istore_n 2, 1) := by decide +kernel
theorem dJ5_ensureCapacityInternal_d00df_11 : decode cJ5_ensureCapacityInternal_d00df 11 = .ok (.iload_n 1, 1) := by decide +kernel
theorem dJ5_ensureCapacityInternal_d00df_12 : decode cJ5_ensureCapacityInternal_d00df 12 = .ok (.iload_n 2, 1) := by decide +kernel
theorem dJ5_ensureCapacityInternal_d00df_13 : decode cJ5_ensureCapacityInternal_d00df 13 = .ok (.isub, 1) := by decide +kernel
theorem dJ5_ensureCapacityInternal_d00df_14 : decode cJ5_ensureCapacityInternal_d00df 14 = .ok (.ifCond .le 24, 3) := by decide +kernel
theorem dJ5_ensureCapacityInternal_d00df_17 : decode cJ5_ensureCapacityInternal_d00df 17 = .ok (.aload_n 0, 1) := by decide +kernel
theorem dJ5_ensureCapacityInternal_d00df_18 : decode cJ5_ensureCapacityInternal_d00df 18 = .ok (.aload_n 0, 1) := by decide +kernel
theorem dJ5_ensureCapacityInternal_d00df_19 : decode cJ5_ensureCapacityInternal_d00df 19 = .ok (.getfield 15, 3) := by decide +kernel
theorem dJ5_ensureCapacityInternal_d00df_22 : decode cJ5_ensureCapacityInternal_d00df 22 = .ok (.aload_n 0, 1) := by decide +kernel
theorem dJ5_ensureCapacityInternal_d00df_23 : decode cJ5_ensureCapacityInternal_d00df 23 = .ok (.iload_n 1, 1) := by decide +kernel
theorem dJ5_ensureCapacityInternal_d00df_24 : decode cJ5_ensureCapacityInternal_d00df 24 = .ok (.invokevirtual 104, 3) := by decide +kernel
theorem dJ5_ensureCapacityInternal_d00df_27 : decode cJ5_ensureCapacityInternal_d00df 27 = .ok (.aload_n 0, 1) := by decide +kernel
theorem dJ5_ensureCapacityInternal_d00df_28 : decode cJ5_ensureCapacityInternal_d00df 28 = .ok (.getfield 22, 3) := by decide +kernel
theorem dJ5_ensureCapacityInternal_d00df_31 : decode cJ5_ensureCapacityInternal_d00df 31 = .ok (.ishl, 1) := by decide +kernel
theorem dJ5_ensureCapacityInternal_d00df_32 : decode cJ5_ensureCapacityInternal_d00df 32 = .ok (.invokestatic 108, 3) := by decide +kernel
theorem dJ5_ensureCapacityInternal_d00df_35 : decode cJ5_ensureCapacityInternal_d00df 35 = .ok (.putfield 15, 3) := by decide +kernel
theorem dJ5_ensureCapacityInternal_d00df_38 : decode cJ5_ensureCapacityInternal_d00df 38 = .ok (.return_, 1) := by decide +kernel
theorem dJ5_newCapacity_0f7a4_0 : decode cJ5_newCapacity_0f7a4 0 = .ok (.aload_n 0, 1) := by decide +kernel
theorem dJ5_newCapacity_0f7a4_1 : decode cJ5_newCapacity_0f7a4 1 = .ok (.getfield 15, 3) := by decide +kernel
theorem dJ5_newCapacity_0f7a4_4 : decode cJ5_newCapacity_0f7a4 4 = .ok (.arraylength, 1) := by decide +kernel
theorem dJ5_newCapacity_0f7a4_5 : decode cJ5_newCapacity_0f7a4 5 = .ok (.istore_n 2, 1) := by decide +kernel
theorem dJ5_newCapacity_0f7a4_6 : decode cJ5_newCapacity_0f7a4 6 = .ok (.iload_n 1, 1) := by decide +kernel
theorem dJ5_newCapacity_0f7a4_7 : decode cJ5_newCapacity_0f7a4 7 = .ok (.aload_n 0, 1) := by decide +kernel
theorem dJ5_newCapacity_0f7a4_8 : decode cJ5_newCapacity_0f7a4 8 = .ok (.getfield 22, 3) := by decide +kernel
theorem dJ5_newCapacity_0f7a4_11 : decode cJ5_newCapacity_0f7a4 11 = .ok (.ishl, 1) := by decide +kernel
theorem dJ5_newCapacity_0f7a4_12 : decode cJ5_newCapacity_0f7a4 12 = .ok (.istore_n 3, 1) := by decide +kernel
theorem dJ5_newCapacity_0f7a4_13 : decode cJ5_newCapacity_0f7a4 13 = .ok (.iload_n 3, 1) := by decide +kernel
theorem dJ5_newCapacity_0f7a4_14 : decode cJ5_newCapacity_0f7a4 14 = .ok (.iload_n 2, 1) := by decide +kernel
theorem dJ5_newCapacity_0f7a4_15 : decode cJ5_newCapacity_0f7a4 15 = .ok (.isub, 1) := by decide +kernel
theorem dJ5_newCapacity_0f7a4_16 : decode cJ5_newCapacity_0f7a4 16 = .ok (.istore 4, 2) := by decide +kernel
theorem dJ5_newCapacity_0f7a4_18 : decode cJ5_newCapacity_0f7a4 18 = .ok (.iload_n 2, 1) := by decide +kernel
theorem dJ5_newCapacity_0f7a4_19 : decode cJ5_newCapacity_0f7a4 19 = .ok (.iload 4, 2) := by decide +kernel
theorem dJ5_newCapacity_0f7a4_21 : decode cJ5_newCapacity_0f7a4 21 = .ok (.iload_n 2, 1) := by decide +kernel
theorem dJ5_newCapacity_0f7a4_22 : decode cJ5_newCapacity_0f7a4 22 = .ok (.iconst 2, 1) := by decide +kernel
theorem dJ5_newCapacity_0f7a4_23 : decode cJ5_newCapacity_0f7a4 23 = .ok (.aload_n 0, 1) := by decide +kernel
theorem dJ5_newCapacity_0f7a4_24 : decode cJ5_newCapacity_0f7a4 24 = .ok (.getfield 22, 3) := by decide +kernel
theorem dJ5_newCapacity_0f7a4_27 : decode cJ5_newCapacity_0f7a4 27 = .ok (.ishl, 1) := by decide +kernel
theorem dJ5_newCapacity_0f7a4_28 : decode cJ5_newCapacity_0f7a4 28 = .ok (.iadd, 1) := by decide +kernel
theorem dJ5_newCapacity_0f7a4_29 : decode cJ5_newCapacity_0f7a4 29 = .ok (.invokestatic 114, 3) := by decide +kernel
theorem dJ5_newCapacity_0f7a4_32 : decode cJ5_newCapacity_0f7a4 32 = .ok (.istore 5, 2) := by decide +kernel
theorem dJ5_newCapacity_0f7a4_34 : decode cJ5_newCapacity_0f7a4 34 = .ok (.iload 5, 2) := by decide +kernel
theorem dJ5_newCapacity_0f7a4_36 : decode cJ5_newCapacity_0f7a4 36 = .ok (.ldc 39, 2) := by decide +kernel
theorem dJ5_newCapacity_0f7a4_38 : decode cJ5_newCapacity_0f7a4 38 = .ok (.if_icmp .ne 13, 3) := by decide +kernel
theorem dJ5_newCapacity_0f7a4_41 : decode cJ5_newCapacity_0f7a4 41 = .ok (.new 120, 3) := by decide +kernel
theorem dJ5_newCapacity_0f7a4_44 : decode cJ5_newCapacity_0f7a4 44 = .ok (.dup, 1) := by decide +kernel
theorem dJ5_newCapacity_0f7a4_45 : decode cJ5_newCapacity_0f7a4 45 = .ok (.ldc 122, 2) := by decide +kernel
theorem dJ5_newCapacity_0f7a4_47 : decode cJ5_newCapacity_0f7a4 47 = .ok (.invokespecial 124, 3) := by decide +kernel
theorem dJ5_newCapacity_0f7a4_50 : decode cJ5_newCapacity_0f7a4 50 = .ok (.athrow, 1) := by decide +kernel
theorem dJ5_newCapacity_0f7a4_51 : decode cJ5_newCapacity_0f7a4 51 = .ok (.iload 5, 2) := by decide +kernel
theorem dJ5_newCapacity_0f7a4_53 : decode cJ5_newCapacity_0f7a4 53 = .ok (.aload_n 0, 1) := by decide +kernel
theorem dJ5_newCapacity_0f7a4_54 : decode cJ5_newCapacity_0f7a4 54 = .ok (.getfield 22, 3) := by decide +kernel
theorem dJ5_newCapacity_0f7a4_57 : decode cJ5_newCapacity_0f7a4 57 = .ok (.ishr, 1) := by decide +kernel
theorem dJ5_newCapacity_0f7a4_58 : decode cJ5_newCapacity_0f7a4 58 = .ok (.ireturn, 1) := by decide +kernel
theorem dJ5_inflate_da8c8_0 : decode cJ5_inflate_da8c8 0 = .ok (.aload_n 0, 1) := by decide +kernel
theorem dJ5_inflate_da8c8_1 : decode cJ5_inflate_da8c8 1 = .ok (.invokevirtual 83, 3) := by decide +kernel
theorem dJ5_inflate_da8c8_4 : decode cJ5_inflate_da8c8 4 = .ok (.ifCond .ne 4, 3) := by decide +kernel
theorem dJ5_inflate_da8c8_7 : decode cJ5_inflate_da8c8 7 = .ok (.return_, 1) := by decide +kernel
theorem dJ5_inflate_da8c8_8 : decode cJ5_inflate_da8c8 8 = .ok (.aload_n 0, 1) := by decide +kernel
theorem dJ5_inflate_da8c8_9 : decode cJ5_inflate_da8c8 9 = .ok (.getfield 15, 3) := by decide +kernel
theorem dJ5_inflate_da8c8_12 : decode cJ5_inflate_da8c8 12 = .ok (.arraylength, 1) := by decide +kernel
theorem dJ5_inflate_da8c8_13 : decode cJ5_inflate_da8c8 13 = .ok (.invokestatic 26, 3) := by decide +kernel
theorem dJ5_inflate_da8c8_16 : decode cJ5_inflate_da8c8 16 = .ok (.astore_n 1, 1) := by decide +kernel
theorem dJ5_inflate_da8c8_17 : decode cJ5_inflate_da8c8 17 = .ok (.aload_n 0, 1) := by decide +kernel
theorem dJ5_inflate_da8c8_18 : decode cJ5_inflate_da8c8 18 = .ok (.getfield 15, 3) := by decide +kernel
theorem dJ5_inflate_da8c8_21 : decode cJ5_inflate_da8c8 21 = .ok (.iconst 0, 1) := by decide +kernel
theorem dJ5_inflate_da8c8_22 : decode cJ5_inflate_da8c8 22 = .ok (.aload_n 1, 1) := by decide +kernel
theorem dJ5_inflate_da8c8_23 : decode cJ5_inflate_da8c8 23 = .ok (.iconst 0, 1) := by decide +kernel
theorem dJ5_inflate_da8c8_24 : decode cJ5_inflate_da8c8 24 = .ok (.aload_n 0, 1) := by decide +kernel
theorem dJ5_inflate_da8c8_25 : decode cJ5_inflate_da8c8 25 = .ok (.getfield 79, 3) := by decide +kernel
theorem dJ5_inflate_da8c8_28 : decode cJ5_inflate_da8c8 28 = .ok (.invokestatic 125, 3) := by decide +kernel
theorem dJ5_inflate_da8c8_31 : decode cJ5_inflate_da8c8 31 = .ok (.aload_n 0, 1) := by decide +kernel
theorem dJ5_inflate_da8c8_32 : decode cJ5_inflate_da8c8 32 = .ok (.aload_n 1, 1) := by decide +kernel
theorem dJ5_inflate_da8c8_33 : decode cJ5_inflate_da8c8 33 = .ok (.putfield 15, 3) := by decide +kernel
theorem dJ5_inflate_da8c8_36 : decode cJ5_inflate_da8c8 36 = .ok (.aload_n 0, 1) := by decide +kernel
theorem dJ5_inflate_da8c8_37 : decode cJ5_inflate_da8c8 37 = .ok (.iconst 1, 1) := by decide +kernel
theorem dJ5_inflate_da8c8_38 : decode cJ5_inflate_da8c8 38 = .ok (.putfield 22, 3) := by decide +kernel
theorem dJ5_inflate_da8c8_41 : decode cJ5_inflate_da8c8 41 = .ok (.return_, 1) := by decide +kernel
theorem dJ5_append_cf1ce_0 : decode cJ5_append_cf1ce 0 = .ok (.aload_n 1, 1) := by decide +kernel
theorem dJ5_append_cf1ce_1 : decode cJ5_append_cf1ce 1 = .ok (.ifnonnull 8, 3) := by decide +kernel
theorem dJ5_append_cf1ce_4 : decode cJ5_append_cf1ce 4 = .ok (.aload_n 0, 1) := by decide +kernel
theorem dJ5_append_cf1ce_5 : decode cJ5_append_cf1ce 5 = .ok (.invokevirtual 204, 3) := by decide +kernel
theorem dJ5_append_cf1ce_8 : decode cJ5_append_cf1ce 8 = .ok (.areturn, 1) := by decide +kernel
theorem dJ5_append_cf1ce_9 : decode cJ5_append_cf1ce 9 = .ok (.aload_n 1, 1) := by decide +kernel
theorem dJ5_append_cf1ce_10 : decode cJ5_append_cf1ce 10 = .ok (.invokevirtual 32, 3) := by decide +kernel
theorem dJ5_append_cf1ce_13 : decode cJ5_append_cf1ce 13 = .ok (.istore_n 2, 1) := by decide +kernel
theorem dJ5_append_cf1ce_14 : decode cJ5_append_cf1ce 14 = .ok (.aload_n 0, 1) := by decide +kernel
theorem dJ5_append_cf1ce_15 : decode cJ5_append_cf1ce 15 = .ok (.aload_n 0, 1) := by decide +kernel
theorem dJ5_append_cf1ce_16 : decode cJ5_append_cf1ce 16 = .ok (.getfield 79, 3) := by decide +kernel
theorem dJ5_append_cf1ce_19 : decode cJ5_append_cf1ce 19 = .ok (.iload_n 2, 1) := by decide +kernel
theorem dJ5_append_cf1ce_20 : decode cJ5_append_cf1ce 20 = .ok (.iadd, 1) := by decide +kernel
theorem dJ5_append_cf1ce_21 : decode cJ5_append_cf1ce 21 = .ok (.invokevirtual 100, 3) := by decide +kernel
theorem dJ5_append_cf1ce_24 : decode cJ5_append_cf1ce 24 = .ok (.aload_n 0, 1) := by decide +kernel
theorem dJ5_append_cf1ce_25 : decode cJ5_append_cf1ce 25 = .ok (.aload_n 0, 1) := by decide +kernel
theorem dJ5_append_cf1ce_26 : decode cJ5_append_cf1ce 26 = .ok (.getfield 79, 3) := by decide +kernel
theorem dJ5_append_cf1ce_29 : decode cJ5_append_cf1ce 29 = .ok (.aload_n 1, 1) := by decide +kernel
theorem dJ5_append_cf1ce_30 : decode cJ5_append_cf1ce 30 = .ok (.invokevirtual 208, 3) := by decide +kernel
theorem dJ5_append_cf1ce_33 : decode cJ5_append_cf1ce 33 = .ok (.aload_n 0, 1) := by decide +kernel
theorem dJ5_append_cf1ce_34 : decode cJ5_append_cf1ce 34 = .ok (.dup, 1) := by decide +kernel
theorem dJ5_append_cf1ce_35 : decode cJ5_append_cf1ce 35 = .ok (.getfield 79, 3) := by decide +kernel
theorem dJ5_append_cf1ce_38 : decode cJ5_append_cf1ce 38 = .ok (.iload_n 2, 1) := by decide +kernel
theorem dJ5_append_cf1ce_39 : decode cJ5_append_cf1ce 39 = .ok (.iadd, 1) := by decide +kernel
theorem dJ5_append_cf1ce_40 : decode cJ5_append_cf1ce 40 = .ok (.putfield 79, 3) := by decide +kernel
theorem dJ5_append_cf1ce_43 : decode cJ5_append_cf1ce 43 = .ok (.aload_n 0, 1) := by decide +kernel
theorem dJ5_append_cf1ce_44 : decode cJ5_append_cf1ce 44 = .ok (.areturn, 1) := by decide +kernel
theorem dJ5_appendNull_278bc_0 : decode cJ5_appendNull_278bc 0 = .ok (.aload_n 0, 1) := by decide +kernel
theorem dJ5_appendNull_278bc_1 : decode cJ5_appendNull_278bc 1 = .ok (.aload_n 0, 1) := by decide +kernel
theorem dJ5_appendNull_278bc_2 : decode cJ5_appendNull_278bc 2 = .ok (.getfield 79, 3) := by decide +kernel
theorem dJ5_appendNull_278bc_5 : decode cJ5_appendNull_278bc 5 = .ok (.iconst 4, 1) := by decide +kernel
theorem dJ5_appendNull_278bc_6 : decode cJ5_appendNull_278bc 6 = .ok (.iadd, 1) := by decide +kernel
theorem dJ5_appendNull_278bc_7 : decode cJ5_appendNull_278bc 7 = .ok (.invokevirtual 100, 3) := by decide +kernel
theorem dJ5_appendNull_278bc_10 : decode cJ5_appendNull_278bc 10 = .ok (.aload_n 0, 1) := by decide +kernel
theorem dJ5_appendNull_278bc_11 : decode cJ5_appendNull_278bc 11 = .ok (.getfield 79, 3) := by decide +kernel
theorem dJ5_appendNull_278bc_14 : decode cJ5_appendNull_278bc 14 = .ok (.istore_n 1, 1) := by decide +kernel
theorem dJ5_appendNull_278bc_15 : decode cJ5_appendNull_278bc 15 = .ok (.aload_n 0, 1) := by decide +kernel
theorem dJ5_appendNull_278bc_16 : decode cJ5_appendNull_278bc 16 = .ok (.getfield 15, 3) := by decide +kernel
theorem dJ5_appendNull_278bc_19 : decode cJ5_appendNull_278bc 19 = .ok (.astore_n 2, 1) := by decide +kernel
theorem dJ5_appendNull_278bc_20 : decode cJ5_appendNull_278bc 20 = .ok (.aload_n 0, 1) := by decide +kernel
theorem dJ5_appendNull_278bc_21 : decode cJ5_appendNull_278bc 21 = .ok (.invokevirtual 83, 3) := by decide +kernel
theorem dJ5_appendNull_278bc_24 : decode cJ5_appendNull_278bc 24 = .ok (.ifCond .eq 38, 3) := by decide +kernel
theorem dJ5_appendNull_278bc_27 : decode cJ5_appendNull_278bc 27 = .ok (.aload_n 2, 1) := by decide +kernel
theorem dJ5_appendNull_278bc_28 : decode cJ5_appendNull_278bc 28 = .ok (.iload_n 1, 1) := by decide +kernel
theorem dJ5_appendNull_278bc_29 : decode cJ5_appendNull_278bc 29 = .ok (.iinc 1 1, 3) := by decide +kernel
theorem dJ5_appendNull_278bc_32 : decode cJ5_appendNull_278bc 32 = .ok (.bipush 110, 2) := by decide +kernel
theorem dJ5_appendNull_278bc_34 : decode cJ5_appendNull_278bc 34 = .ok (.bastore, 1) := by decide +kernel
theorem dJ5_appendNull_278bc_35 : decode cJ5_appendNull_278bc 35 = .ok (.aload_n 2, 1) := by decide +kernel
theorem dJ5_appendNull_278bc_36 : decode cJ5_appendNull_278bc 36 = .ok (.iload_n 1, 1) := by decide +kernel
theorem dJ5_appendNull_278bc_37 : decode cJ5_appendNull_278bc 37 = .ok (.iinc 1 1, 3) := by decide +kernel
theorem dJ5_appendNull_278bc_40 : decode cJ5_appendNull_278bc 40 = .ok (.bipush 117, 2) := by decide +kernel
theorem dJ5_appendNull_278bc_42 : decode cJ5_appendNull_278bc 42 = .ok (.bastore, 1) := by decide +kernel
theorem dJ5_appendNull_278bc_43 : decode cJ5_appendNull_278bc 43 = .ok (.aload_n 2, 1) := by decide +kernel
theorem dJ5_appendNull_278bc_44 : decode cJ5_appendNull_278bc 44 = .ok (.iload_n 1, 1) := by decide +kernel
theorem dJ5_appendNull_278bc_45 : decode cJ5_appendNull_278bc 45 = .ok (.iinc 1 1, 3) := by decide +kernel
theorem dJ5_appendNull_278bc_48 : decode cJ5_appendNull_278bc 48 = .ok (.bipush 108, 2) := by decide +kernel
theorem dJ5_appendNull_278bc_50 : decode cJ5_appendNull_278bc 50 = .ok (.bastore, 1) := by decide +kernel
theorem dJ5_appendNull_278bc_51 : decode cJ5_appendNull_278bc 51 = .ok (.aload_n 2, 1) := by decide +kernel
theorem dJ5_appendNull_278bc_52 : decode cJ5_appendNull_278bc 52 = .ok (.iload_n 1, 1) := by decide +kernel
theorem dJ5_appendNull_278bc_53 : decode cJ5_appendNull_278bc 53 = .ok (.iinc 1 1, 3) := by decide +kernel
theorem dJ5_appendNull_278bc_56 : decode cJ5_appendNull_278bc 56 = .ok (.bipush 108, 2) := by decide +kernel
theorem dJ5_appendNull_278bc_58 : decode cJ5_appendNull_278bc 58 = .ok (.bastore, 1) := by decide +kernel
theorem dJ5_appendNull_278bc_59 : decode cJ5_appendNull_278bc 59 = .ok (.goto 17, 3) := by decide +kernel
theorem dJ5_appendNull_278bc_62 : decode cJ5_appendNull_278bc 62 = .ok (.aload_n 2, 1) := by decide +kernel
theorem dJ5_appendNull_278bc_63 : decode cJ5_appendNull_278bc 63 = .ok (.iload_n 1, 1) := by decide +kernel
theorem dJ5_appendNull_278bc_64 : decode cJ5_appendNull_278bc 64 = .ok (.bipush 110, 2) := by decide +kernel
theorem dJ5_appendNull_278bc_66 : decode cJ5_appendNull_278bc 66 = .ok (.bipush 117, 2) := by decide +kernel
theorem dJ5_appendNull_278bc_68 : decode cJ5_appendNull_278bc 68 = .ok (.bipush 108, 2) := by decide +kernel
theorem dJ5_appendNull_278bc_70 : decode cJ5_appendNull_278bc 70 = .ok (.bipush 108, 2) := by decide +kernel
theorem dJ5_appendNull_278bc_72 : decode cJ5_appendNull_278bc 72 = .ok (.invokestatic 226, 3) := by decide +kernel
theorem dJ5_appendNull_278bc_75 : decode cJ5_appendNull_278bc 75 = .ok (.istore_n 1, 1) := by decide +kernel
theorem dJ5_appendNull_278bc_76 : decode cJ5_appendNull_278bc 76 = .ok (.aload_n 0, 1) := by decide +kernel
theorem dJ5_appendNull_278bc_77 : decode cJ5_appendNull_278bc 77 = .ok (.iload_n 1, 1) := by decide +kernel
theorem dJ5_appendNull_278bc_78 : decode cJ5_appendNull_278bc 78 = .ok (.putfield 79, 3) := by decide +kernel
theorem dJ5_appendNull_278bc_81 : decode cJ5_appendNull_278bc 81 = .ok (.aload_n 0, 1) := by decide +kernel
theorem dJ5_appendNull_278bc_82 : decode cJ5_appendNull_278bc 82 = .ok (.areturn, 1) := by decide +kernel
theorem dJ5_append_3fe6f_0 : decode cJ5_append_3fe6f 0 = .ok (.aload_n 0, 1) := by decide +kernel
theorem dJ5_append_3fe6f_1 : decode cJ5_append_3fe6f 1 = .ok (.aload_n 0, 1) := by decide +kernel
theorem dJ5_append_3fe6f_2 : decode cJ5_append_3fe6f 2 = .ok (.getfield 79, 3) := by decide +kernel
theorem dJ5_append_3fe6f_5 : decode cJ5_append_3fe6f 5 = .ok (.iconst 1, 1) := by decide +kernel
theorem dJ5_append_3fe6f_6 : decode cJ5_append_3fe6f 6 = .ok (.iadd, 1) := by decide +kernel
theorem dJ5_append_3fe6f_7 : decode cJ5_append_3fe6f 7 = .ok (.invokevirtual 100, 3) := by decide +kernel
theorem dJ5_append_3fe6f_10 : decode cJ5_append_3fe6f 10 = .ok (.aload_n 0, 1) := by decide +kernel
theorem dJ5_append_3fe6f_11 : decode cJ5_append_3fe6f 11 = .ok (.invokevirtual 83, 3) := by decide +kernel
theorem dJ5_append_3fe6f_14 : decode cJ5_append_3fe6f 14 = .ok (.ifCond .eq 31, 3) := by decide +kernel
theorem dJ5_append_3fe6f_17 : decode cJ5_append_3fe6f 17 = .ok (.iload_n 1, 1) := by decide +kernel
theorem dJ5_append_3fe6f_18 : decode cJ5_append_3fe6f 18 = .ok (.invokestatic 191, 3) := by decide +kernel
theorem dJ5_append_3fe6f_21 : decode cJ5_append_3fe6f 21 = .ok (.ifCond .eq 24, 3) := by decide +kernel
theorem dJ5_append_3fe6f_24 : decode cJ5_append_3fe6f 24 = .ok (.aload_n 0, 1) := by decide +kernel
theorem dJ5_append_3fe6f_25 : decode cJ5_append_3fe6f 25 = .ok (.getfield 15, 3) := by decide +kernel
theorem dJ5_append_3fe6f_28 : decode cJ5_append_3fe6f 28 = .ok (.aload_n 0, 1) := by decide +kernel
theorem dJ5_append_3fe6f_29 : decode cJ5_append_3fe6f 29 = .ok (.dup, 1) := by decide +kernel
theorem dJ5_append_3fe6f_30 : decode cJ5_append_3fe6f 30 = .ok (.getfield 79, 3) := by decide +kernel
theorem dJ5_append_3fe6f_33 : decode cJ5_append_3fe6f 33 = .ok (.dup_x1, 1) := by decide +kernel
theorem dJ5_append_3fe6f_34 : decode cJ5_append_3fe6f 34 = .ok (.iconst 1, 1) := by decide +kernel
theorem dJ5_append_3fe6f_35 : decode cJ5_append_3fe6f 35 = .ok (.iadd, 1) := by decide +kernel
theorem dJ5_append_3fe6f_36 : decode cJ5_append_3fe6f 36 = .ok (.putfield 79, 3) := by decide +kernel
theorem dJ5_append_3fe6f_39 : decode cJ5_append_3fe6f 39 = .ok (.iload_n 1, 1) := by decide +kernel
theorem dJ5_append_3fe6f_40 : decode cJ5_append_3fe6f 40 = .ok (.i2b, 1) := by decide +kernel
theorem dJ5_append_3fe6f_41 : decode cJ5_append_3fe6f 41 = .ok (.bastore, 1) := by decide +kernel
theorem dJ5_append_3fe6f_42 : decode cJ5_append_3fe6f 42 = .ok (.goto 33, 3) := by decide +kernel
theorem dJ5_append_3fe6f_45 : decode cJ5_append_3fe6f 45 = .ok (.aload_n 0, 1) := by decide +kernel
theorem dJ5_append_3fe6f_46 : decode cJ5_append_3fe6f 46 = .ok (.invokevirtual 83, 3) := by decide +kernel
theorem dJ5_append_3fe6f_49 : decode cJ5_append_3fe6f 49 = .ok (.ifCond .eq 7, 3) := by decide +kernel
theorem dJ5_append_3fe6f_52 : decode cJ5_append_3fe6f 52 = .ok (.aload_n 0, 1) := by decide +kernel
theorem dJ5_append_3fe6f_53 : decode cJ5_append_3fe6f 53 = .ok (.invokevirtual 195, 3) := by decide +kernel
theorem dJ5_append_3fe6f_56 : decode cJ5_append_3fe6f 56 = .ok (.aload_n 0, 1) := by decide +kernel
theorem dJ5_append_3fe6f_57 : decode cJ5_append_3fe6f 57 = .ok (.getfield 15, 3) := by decide +kernel
theorem dJ5_append_3fe6f_60 : decode cJ5_append_3fe6f 60 = .ok (.aload_n 0, 1) := by decide +kernel
theorem dJ5_append_3fe6f_61 : decode cJ5_append_3fe6f 61 = .ok (.dup, 1) := by decide +kernel
theorem dJ5_append_3fe6f_62 : decode cJ5_append_3fe6f 62 = .ok (.getfield 79, 3) := by decide +kernel
theorem dJ5_append_3fe6f_65 : decode cJ5_append_3fe6f 65 = .ok (.dup_x1, 1) := by decide +kernel
theorem dJ5_append_3fe6f_66 : decode cJ5_append_3fe6f 66 = .ok (.iconst 1, 1) := by decide +kernel
theorem dJ5_append_3fe6f_67 : decode cJ5_append_3fe6f 67 = .ok (.iadd, 1) := by decide +kernel
theorem dJ5_append_3fe6f_68 : decode cJ5_append_3fe6f 68 = .ok (.putfield 79, 3) := by decide +kernel
theorem dJ5_append_3fe6f_71 : decode cJ5_append_3fe6f 71 = .ok (.iload_n 1, 1) := by decide +kernel
theorem dJ5_append_3fe6f_72 : decode cJ5_append_3fe6f 72 = .ok (.invokestatic 197, 3) := by decide +kernel
theorem dJ5_append_3fe6f_75 : decode cJ5_append_3fe6f 75 = .ok (.aload_n 0, 1) := by decide +kernel
theorem dJ5_append_3fe6f_76 : decode cJ5_append_3fe6f 76 = .ok (.areturn, 1) := by decide +kernel
theorem dJ5_append_c97b9_0 : decode cJ5_append_c97b9 0 = .ok (.aload_n 0, 1) := by decide +kernel
theorem dJ5_append_c97b9_1 : decode cJ5_append_c97b9 1 = .ok (.getfield 79, 3) := by decide +kernel
theorem dJ5_append_c97b9_4 : decode cJ5_append_c97b9 4 = .ok (.istore_n 2, 1) := by decide +kernel
theorem dJ5_append_c97b9_5 : decode cJ5_append_c97b9 5 = .ok (.iload_n 2, 1) := by decide +kernel
theorem dJ5_append_c97b9_6 : decode cJ5_append_c97b9 6 = .ok (.iload_n 1, 1) := by decide +kernel
theorem dJ5_append_c97b9_7 : decode cJ5_append_c97b9 7 = .ok (.invokestatic 245, 3) := by decide +kernel
theorem dJ5_append_c97b9_10 : decode cJ5_append_c97b9 10 = .ok (.iadd, 1) := by decide +kernel
theorem dJ5_append_c97b9_11 : decode cJ5_append_c97b9 11 = .ok (.istore_n 3, 1) := by decide +kernel
theorem dJ5_append_c97b9_12 : decode cJ5_append_c97b9 12 = .ok (.aload_n 0, 1) := by decide +kernel
theorem dJ5_append_c97b9_13 : decode cJ5_append_c97b9 13 = .ok (.iload_n 3, 1) := by decide +kernel
theorem dJ5_append_c97b9_14 : decode cJ5_append_c97b9 14 = .ok (.invokevirtual 100, 3) := by decide +kernel
theorem dJ5_append_c97b9_17 : decode cJ5_append_c97b9 17 = .ok (.aload_n 0, 1) := by decide +kernel
theorem dJ5_append_c97b9_18 : decode cJ5_append_c97b9 18 = .ok (.invokevirtual 83, 3) := by decide +kernel
theorem dJ5_append_c97b9_21 : decode cJ5_append_c97b9 21 = .ok (.ifCond .eq 16, 3) := by decide +kernel
theorem dJ5_append_c97b9_24 : decode cJ5_append_c97b9 24 = .ok (.iload_n 1, 1) := by decide +kernel
theorem dJ5_append_c97b9_25 : decode cJ5_append_c97b9 25 = .ok (.iload_n 3, 1) := by decide +kernel
theorem dJ5_append_c97b9_26 : decode cJ5_append_c97b9 26 = .ok (.aload_n 0, 1) := by decide +kernel
theorem dJ5_append_c97b9_27 : decode cJ5_append_c97b9 27 = .ok (.getfield 15, 3) := by decide +kernel
theorem dJ5_append_c97b9_30 : decode cJ5_append_c97b9 30 = .ok (.invokestatic 248, 3) := by decide +kernel
theorem dJ5_append_c97b9_33 : decode cJ5_append_c97b9 33 = .ok (.pop, 1) := by decide +kernel
theorem dJ5_append_c97b9_34 : decode cJ5_append_c97b9 34 = .ok (.goto 14, 3) := by decide +kernel
theorem dJ5_append_c97b9_37 : decode cJ5_append_c97b9 37 = .ok (.iload_n 1, 1) := by decide +kernel
theorem dJ5_append_c97b9_38 : decode cJ5_append_c97b9 38 = .ok (.iload_n 2, 1) := by decide +kernel
theorem dJ5_append_c97b9_39 : decode cJ5_append_c97b9 39 = .ok (.iload_n 3, 1) := by decide +kernel
theorem dJ5_append_c97b9_40 : decode cJ5_append_c97b9 40 = .ok (.aload_n 0, 1) := by decide +kernel
theorem dJ5_append_c97b9_41 : decode cJ5_append_c97b9 41 = .ok (.getfield 15, 3) := by decide +kernel
theorem dJ5_append_c97b9_44 : decode cJ5_append_c97b9 44 = .ok (.invokestatic 251, 3) := by decide +kernel
theorem dJ5_append_c97b9_47 : decode cJ5_append_c97b9 47 = .ok (.pop, 1) := by decide +kernel
theorem dJ5_append_c97b9_48 : decode cJ5_append_c97b9 48 = .ok (.aload_n 0, 1) := by decide +kernel
theorem dJ5_append_c97b9_49 : decode cJ5_append_c97b9 49 = .ok (.iload_n 3, 1) := by decide +kernel
theorem dJ5_append_c97b9_50 : decode cJ5_append_c97b9 50 = .ok (.putfield 79, 3) := by decide +kernel
theorem dJ5_append_c97b9_53 : decode cJ5_append_c97b9 53 = .ok (.aload_n 0, 1) := by decide +kernel
theorem dJ5_append_c97b9_54 : decode cJ5_append_c97b9 54 = .ok (.areturn, 1) := by decide +kernel
theorem dJ5_getValue_6d5f1_0 : decode cJ5_getValue_6d5f1 0 = .ok (.aload_n 0, 1) := by decide +kernel
theorem dJ5_getValue_6d5f1_1 : decode cJ5_getValue_6d5f1 1 = .ok (.getfield 15, 3) := by decide +kernel
theorem dJ5_getValue_6d5f1_4 : decode cJ5_getValue_6d5f1 4 = .ok (.areturn, 1) := by decide +kernel
theorem dJ5_isLatin1_aae02_0 : decode cJ5_isLatin1_aae02 0 = .ok (.getstatic 18, 3) := by decide +kernel
theorem dJ5_isLatin1_aae02_3 : decode cJ5_isLatin1_aae02 3 = .ok (.ifCond .eq 14, 3) := by decide +kernel
theorem dJ5_isLatin1_aae02_6 : decode cJ5_isLatin1_aae02 6 = .ok (.aload_n 0, 1) := by decide +kernel
theorem dJ5_isLatin1_aae02_7 : decode cJ5_isLatin1_aae02 7 = .ok (.getfield 22, 3) := by decide +kernel
theorem dJ5_isLatin1_aae02_10 : decode cJ5_isLatin1_aae02 10 = .ok (.ifCond .ne 7, 3) := by decide +kernel
theorem dJ5_isLatin1_aae02_13 : decode cJ5_isLatin1_aae02 13 = .ok (.iconst 1, 1) := by decide +kernel
theorem dJ5_isLatin1_aae02_14 : decode cJ5_isLatin1_aae02 14 = .ok (.goto 4, 3) := by decide +kernel
theorem dJ5_isLatin1_aae02_17 : decode cJ5_isLatin1_aae02 17 = .ok (.iconst 0, 1) := by decide +kernel
theorem dJ5_isLatin1_aae02_18 : decode cJ5_isLatin1_aae02 18 = .ok (.ireturn, 1) := by decide +kernel
theorem dJ5_inflateIfNeededFor_a7421_0 : decode cJ5_inflateIfNeededFor_a7421 0 = .ok (.getstatic 18, 3) := by decide +kernel
theorem dJ5_inflateIfNeededFor_a7421_3 : decode cJ5_inflateIfNeededFor_a7421 3 = .ok (.ifCond .eq 18, 3) := by decide +kernel
theorem dJ5_inflateIfNeededFor_a7421_6 : decode cJ5_inflateIfNeededFor_a7421 6 = .ok (.aload_n 0, 1) := by decide +kernel
theorem dJ5_inflateIfNeededFor_a7421_7 : decode cJ5_inflateIfNeededFor_a7421 7 = .ok (.getfield 22, 3) := by decide +kernel
theorem dJ5_inflateIfNeededFor_a7421_10 : decode cJ5_inflateIfNeededFor_a7421 10 = .ok (.aload_n 1, 1) := by decide +kernel
theorem dJ5_inflateIfNeededFor_a7421_11 : decode cJ5_inflateIfNeededFor_a7421 11 = .ok (.invokevirtual 40, 3) := by decide +kernel
theorem dJ5_inflateIfNeededFor_a7421_14 : decode cJ5_inflateIfNeededFor_a7421 14 = .ok (.if_icmp .eq 7, 3) := by decide +kernel
theorem dJ5_inflateIfNeededFor_a7421_17 : decode cJ5_inflateIfNeededFor_a7421 17 = .ok (.aload_n 0, 1) := by decide +kernel
theorem dJ5_inflateIfNeededFor_a7421_18 : decode cJ5_inflateIfNeededFor_a7421 18 = .ok (.invokevirtual 195, 3) := by decide +kernel
theorem dJ5_inflateIfNeededFor_a7421_21 : decode cJ5_inflateIfNeededFor_a7421 21 = .ok (.return_, 1) := by decide +kernel
theorem dJ5_putStringAt_47b60_0 : decode cJ5_putStringAt_47b60 0 = .ok (.aload_n 0, 1) := by decide +kernel
theorem dJ5_putStringAt_47b60_1 : decode cJ5_putStringAt_47b60 1 = .ok (.aload_n 2, 1) := by decide +kernel
theorem dJ5_putStringAt_47b60_2 : decode cJ5_putStringAt_47b60 2 = .ok (.invokevirtual 397, 3) := by decide +kernel
theorem dJ5_putStringAt_47b60_5 : decode cJ5_putStringAt_47b60 5 = .ok (.aload_n 2, 1) := by decide +kernel
theorem dJ5_putStringAt_47b60_6 : decode cJ5_putStringAt_47b60 6 = .ok (.aload_n 0, 1) := by decide +kernel
theorem dJ5_putStringAt_47b60_7 : decode cJ5_putStringAt_47b60 7 = .ok (.getfield 15, 3) := by decide +kernel
theorem dJ5_putStringAt_47b60_10 : decode cJ5_putStringAt_47b60 10 = .ok (.iload_n 1, 1) := by decide +kernel
theorem dJ5_putStringAt_47b60_11 : decode cJ5_putStringAt_47b60 11 = .ok (.aload_n 0, 1) := by decide +kernel
theorem dJ5_putStringAt_47b60_12 : decode cJ5_putStringAt_47b60 12 = .ok (.getfield 22, 3) := by decide +kernel
theorem dJ5_putStringAt_47b60_15 : decode cJ5_putStringAt_47b60 15 = .ok (.invokevirtual 399, 3) := by decide +kernel
theorem dJ5_putStringAt_47b60_18 : decode cJ5_putStringAt_47b60 18 = .ok (.return_, 1) := by decide +kernel
theorem dJ6_getChars_ba4f3_0 : decode cJ6_getChars_ba4f3 0 = .ok (.iload_n 1, 1) := by decide +kernel
theorem dJ6_getChars_ba4f3_1 : decode cJ6_getChars_ba4f3 1 = .ok (.istore 5, 2) := by decide +kernel
theorem dJ6_getChars_ba4f3_3 : decode cJ6_getChars_ba4f3 3 = .ok (.iload_n 0, 1) := by decide +kernel
theorem dJ6_getChars_ba4f3_4 : decode cJ6_getChars_ba4f3 4 = .ok (.ifCond .ge 7, 3) := by decide +kernel
theorem dJ6_getChars_ba4f3_7 : decode cJ6_getChars_ba4f3 7 = .ok (.iconst 1, 1) := by decide +kernel
theorem dJ6_getChars_ba4f3_8 : decode cJ6_getChars_ba4f3 8 = .ok (.goto 4, 3) := by decide +kernel
theorem dJ6_getChars_ba4f3_11 : decode cJ6_getChars_ba4f3 11 = .ok (.iconst 0, 1) := by decide +kernel
theorem dJ6_getChars_ba4f3_12 : decode cJ6_getChars_ba4f3 12 = .ok (.istore 6, 2) := by decide +kernel
theorem dJ6_getChars_ba4f3_14 : decode cJ6_getChars_ba4f3 14 = .ok (.iload 6, 2) := by decide +kernel
theorem dJ6_getChars_ba4f3_16 : decode cJ6_getChars_ba4f3 16 = .ok (.ifCond .ne 6, 3) := by decide +kernel
theorem dJ6_getChars_ba4f3_19 : decode cJ6_getChars_ba4f3 19 = .ok (.iload_n 0, 1) := by decide +kernel
theorem dJ6_getChars_ba4f3_20 : decode cJ6_getChars_ba4f3 20 = .ok (.ineg, 1) := by decide +kernel
theorem dJ6_getChars_ba4f3_21 : decode cJ6_getChars_ba4f3 21 = .ok (.istore_n 0, 1) := by decide +kernel
theorem dJ6_getChars_ba4f3_22 : decode cJ6_getChars_ba4f3 22 = .ok (.iload_n 0, 1) := by decide +kernel
theorem dJ6_getChars_ba4f3_23 : decode cJ6_getChars_ba4f3 23 = .ok (.bipush (-100), 2) := by decide +kernel
theorem dJ6_getChars_ba4f3_25 : decode cJ6_getChars_ba4f3 25 = .ok (.if_icmp .gt 47, 3) := by decide +kernel
theorem dJ6_getChars_ba4f3_28 : decode cJ6_getChars_ba4f3 28 = .ok (.iload_n 0, 1) := by decide +kernel
theorem dJ6_getChars_ba4f3_29 : decode cJ6_getChars_ba4f3 29 = .ok (.bipush 100, 2) := by decide +kernel
theorem dJ6_getChars_ba4f3_31 : decode cJ6_getChars_ba4f3 31 = .ok (.idiv, 1) := by decide +kernel
theorem dJ6_getChars_ba4f3_32 : decode cJ6_getChars_ba4f3 32 = .ok (.istore_n 3, 1) := by decide +kernel
theorem dJ6_getChars_ba4f3_33 : decode cJ6_getChars_ba4f3 33 = .ok (.iload_n 3, 1) := by decide +kernel
theorem dJ6_getChars_ba4f3_34 : decode cJ6_getChars_ba4f3 34 = .ok (.bipush 100, 2) := by decide +kernel
theorem dJ6_getChars_ba4f3_36 : decode cJ6_getChars_ba4f3 36 = .ok (.imul, 1) := by decide +kernel
theorem dJ6_getChars_ba4f3_37 : decode cJ6_getChars_ba4f3 37 = .ok (.iload_n 0, 1) := by decide +kernel
theorem dJ6_getChars_ba4f3_38 : decode cJ6_getChars_ba4f3 38 = .ok (.isub, 1) := by decide +kernel
theorem dJ6_getChars_ba4f3_39 : decode cJ6_getChars_ba4f3 39 = .ok (.istore 4, 2) := by decide +kernel
theorem dJ6_getChars_ba4f3_41 : decode cJ6_getChars_ba4f3 41 = .ok (.iload_n 3, 1) := by decide +kernel
theorem dJ6_getChars_ba4f3_42 : decode cJ6_getChars_ba4f3 42 = .ok (.istore_n 0, 1) := by decide +kernel
theorem dJ6_getChars_ba4f3_43 : decode cJ6_getChars_ba4f3 43 = .ok (.aload_n 2, 1) := by decide +kernel
theorem dJ6_getChars_ba4f3_44 : decode cJ6_getChars_ba4f3 44 = .ok (.iinc 5 (-1), 3) := by decide +kernel
theorem dJ6_getChars_ba4f3_47 : decode cJ6_getChars_ba4f3 47 = .ok (.iload 5, 2) := by decide +kernel
theorem dJ6_getChars_ba4f3_49 : decode cJ6_getChars_ba4f3 49 = .ok (.getstatic 83, 3) := by decide +kernel
theorem dJ6_getChars_ba4f3_52 : decode cJ6_getChars_ba4f3 52 = .ok (.iload 4, 2) := by decide +kernel
theorem dJ6_getChars_ba4f3_54 : decode cJ6_getChars_ba4f3 54 = .ok (.baload, 1) := by decide +kernel
theorem dJ6_getChars_ba4f3_55 : decode cJ6_getChars_ba4f3 55 = .ok (.bastore, 1) := by decide +kernel
theorem dJ6_getChars_ba4f3_56 : decode cJ6_getChars_ba4f3 56 = .ok (.aload_n 2, 1) := by decide +kernel
theorem dJ6_getChars_ba4f3_57 : decode cJ6_getChars_ba4f3 57 = .ok (.iinc 5 (-1), 3) := by decide +kernel
theorem dJ6_getChars_ba4f3_60 : decode cJ6_getChars_ba4f3 60 = .ok (.iload 5, 2) := by decide +kernel
theorem dJ6_getChars_ba4f3_62 : decode cJ6_getChars_ba4f3 62 = .ok (.getstatic 87, 3) := by decide +kernel
theorem dJ6_getChars_ba4f3_65 : decode cJ6_getChars_ba4f3 65 = .ok (.iload 4, 2) := by decide +kernel
theorem dJ6_getChars_ba4f3_67 : decode cJ6_getChars_ba4f3 67 = .ok (.baload, 1) := by decide +kernel
theorem dJ6_getChars_ba4f3_68 : decode cJ6_getChars_ba4f3 68 = .ok (.bastore, 1) := by decide +kernel
theorem dJ6_getChars_ba4f3_69 : decode cJ6_getChars_ba4f3 69 = .ok (.goto (-47), 3) := by decide +kernel
theorem dJ6_getChars_ba4f3_72 : decode cJ6_getChars_ba4f3 72 = .ok (.aload_n 2, 1) := by decide +kernel
theorem dJ6_getChars_ba4f3_73 : decode cJ6_getChars_ba4f3 73 = .ok (.iinc 5 (-1), 3) := by decide +kernel
theorem dJ6_getChars_ba4f3_76 : decode cJ6_getChars_ba4f3 76 = .ok (.iload 5, 2) := by decide +kernel
theorem dJ6_getChars_ba4f3_78 : decode cJ6_getChars_ba4f3 78 = .ok (.getstatic 83, 3) := by decide +kernel
theorem dJ6_getChars_ba4f3_81 : decode cJ6_getChars_ba4f3 81 = .ok (.iload_n 0, 1) := by decide +kernel
theorem dJ6_getChars_ba4f3_82 : decode cJ6_getChars_ba4f3 82 = .ok (.ineg, 1) := by decide +kernel
theorem dJ6_getChars_ba4f3_83 : decode cJ6_getChars_ba4f3 83 = .ok (.baload, 1) := by decide +kernel
theorem dJ6_getChars_ba4f3_84 : decode cJ6_getChars_ba4f3 84 = .ok (.bastore, 1) := by decide +kernel
theorem dJ6_getChars_ba4f3_85 : decode cJ6_getChars_ba4f3 85 = .ok (.iload_n 0, 1) := by decide +kernel
theorem dJ6_getChars_ba4f3_86 : decode cJ6_getChars_ba4f3 86 = .ok (.bipush (-9), 2) := by decide +kernel
theorem dJ6_getChars_ba4f3_88 : decode cJ6_getChars_ba4f3 88 = .ok (.if_icmp .ge 16, 3) := by decide +kernel
theorem dJ6_getChars_ba4f3_91 : decode cJ6_getChars_ba4f3 91 = .ok (.aload_n 2, 1) := by decide +kernel
theorem dJ6_getChars_ba4f3_92 : decode cJ6_getChars_ba4f3 92 = .ok (.iinc 5 (-1), 3) := by decide +kernel
theorem dJ6_getChars_ba4f3_95 : decode cJ6_getChars_ba4f3 95 = .ok (.iload 5, 2) := by decide +kernel
theorem dJ6_getChars_ba4f3_97 : decode cJ6_getChars_ba4f3 97 = .ok (.getstatic 87, 3) := by decide +kernel
theorem dJ6_getChars_ba4f3_100 : decode cJ6_getChars_ba4f3 100 = .ok (.iload_n 0, 1) := by decide +kernel
theorem dJ6_getChars_ba4f3_101 : decode cJ6_getChars_ba4f3 101 = .ok (.ineg, 1) := by decide +kernel
theorem dJ6_getChars_ba4f3_102 : decode cJ6_getChars_ba4f3 102 = .ok (.baload, 1) := by decide +kernel
theorem dJ6_getChars_ba4f3_103 : decode cJ6_getChars_ba4f3 103 = .ok (.bastore, 1) := by decide +kernel
theorem dJ6_getChars_ba4f3_104 : decode cJ6_getChars_ba4f3 104 = .ok (.iload 6, 2) := by decide +kernel
theorem dJ6_getChars_ba4f3_106 : decode cJ6_getChars_ba4f3 106 = .ok (.ifCond .eq 12, 3) := by decide +kernel
theorem dJ6_getChars_ba4f3_109 : decode cJ6_getChars_ba4f3 109 = .ok (.aload_n 2, 1) := by decide +kernel
theorem dJ6_getChars_ba4f3_110 : decode cJ6_getChars_ba4f3 110 = .ok (.iinc 5 (-1), 3) := by decide +kernel
theorem dJ6_getChars_ba4f3_113 : decode cJ6_getChars_ba4f3 113 = .ok (.iload 5, 2) := by decide +kernel
theorem dJ6_getChars_ba4f3_115 : decode cJ6_getChars_ba4f3 115 = .ok (.bipush 45, 2) := by decide +kernel
theorem dJ6_getChars_ba4f3_117 : decode cJ6_getChars_ba4f3 117 = .ok (.bastore, 1) := by decide +kernel
theorem dJ6_getChars_ba4f3_118 : decode cJ6_getChars_ba4f3 118 = .ok (.iload 5, 2) := by decide +kernel
theorem dJ6_getChars_ba4f3_120 : decode cJ6_getChars_ba4f3 120 = .ok (.ireturn, 1) := by decide +kernel
theorem dJ6_stringSize_0f7a4_0 : decode cJ6_stringSize_0f7a4 0 = .ok (.iconst 1, 1) := by decide +kernel
theorem dJ6_stringSize_0f7a4_1 : decode cJ6_stringSize_0f7a4 1 = .ok (.istore_n 1, 1) := by decide +kernel
theorem dJ6_stringSize_0f7a4_2 : decode cJ6_stringSize_0f7a4 2 = .ok (.iload_n 0, 1) := by decide +kernel
theorem dJ6_stringSize_0f7a4_3 : decode cJ6_stringSize_0f7a4 3 = .ok (.ifCond .lt 8, 3) := by decide +kernel
theorem dJ6_stringSize_0f7a4_6 : decode cJ6_stringSize_0f7a4 6 = .ok (.iconst 0, 1) := by decide +kernel
theorem dJ6_stringSize_0f7a4_7 : decode cJ6_stringSize_0f7a4 7 = .ok (.istore_n 1, 1) := by decide +kernel
theorem dJ6_stringSize_0f7a4_8 : decode cJ6_stringSize_0f7a4 8 = .ok (.iload_n 0, 1) := by decide +kernel
theorem dJ6_stringSize_0f7a4_9 : decode cJ6_stringSize_0f7a4 9 = .ok (.ineg, 1) := by decide +kernel
theorem dJ6_stringSize_0f7a4_10 : decode cJ6_stringSize_0f7a4 10 = .ok (.istore_n 0, 1) := by decide +kernel
theorem dJ6_stringSize_0f7a4_11 : decode cJ6_stringSize_0f7a4 11 = .ok (.bipush (-10), 2) := by decide +kernel
theorem dJ6_stringSize_0f7a4_13 : decode cJ6_stringSize_0f7a4 13 = .ok (.istore_n 2, 1) := by decide +kernel
theorem dJ6_stringSize_0f7a4_14 : decode cJ6_stringSize_0f7a4 14 = .ok (.iconst 1, 1) := by decide +kernel
theorem dJ6_stringSize_0f7a4_15 : decode cJ6_stringSize_0f7a4 15 = .ok (.istore_n 3, 1) := by decide +kernel
theorem dJ6_stringSize_0f7a4_16 : decode cJ6_stringSize_0f7a4 16 = .ok (.iload_n 3, 1) := by decide +kernel
theorem dJ6_stringSize_0f7a4_17 : decode cJ6_stringSize_0f7a4 17 = .ok (.bipush 10, 2) := by decide +kernel
theorem dJ6_stringSize_0f7a4_19 : decode cJ6_stringSize_0f7a4 19 = .ok (.if_icmp .ge 23, 3) := by decide +kernel
theorem dJ6_stringSize_0f7a4_22 : decode cJ6_stringSize_0f7a4 22 = .ok (.iload_n 0, 1) := by decide +kernel
theorem dJ6_stringSize_0f7a4_23 : decode cJ6_stringSize_0f7a4 23 = .ok (.iload_n 2, 1) := by decide +kernel
theorem dJ6_stringSize_0f7a4_24 : decode cJ6_stringSize_0f7a4 24 = .ok (.if_icmp .le 7, 3) := by decide +kernel
theorem dJ6_stringSize_0f7a4_27 : decode cJ6_stringSize_0f7a4 27 = .ok (.iload_n 3, 1) := by decide +kernel
theorem dJ6_stringSize_0f7a4_28 : decode cJ6_stringSize_0f7a4 28 = .ok (.iload_n 1, 1) := by decide +kernel
theorem dJ6_stringSize_0f7a4_29 : decode cJ6_stringSize_0f7a4 29 = .ok (.iadd, 1) := by decide +kernel
theorem dJ6_stringSize_0f7a4_30 : decode cJ6_stringSize_0f7a4 30 = .ok (.ireturn, 1) := by decide +kernel
theorem dJ6_stringSize_0f7a4_31 : decode cJ6_stringSize_0f7a4 31 = .ok (.bipush 10, 2) := by decide +kernel
theorem dJ6_stringSize_0f7a4_33 : decode cJ6_stringSize_0f7a4 33 = .ok (.iload_n 2, 1) := by decide +kernel
theorem dJ6_stringSize_0f7a4_34 : decode cJ6_stringSize_0f7a4 34 = .ok (.imul, 1) := by decide +kernel
theorem dJ6_stringSize_0f7a4_35 : decode cJ6_stringSize_0f7a4 35 = .ok (.istore_n 2, 1) := by decide +kernel
theorem dJ6_stringSize_0f7a4_36 : decode cJ6_stringSize_0f7a4 36 = .ok (.iinc 3 1, 3) := by decide +kernel
theorem dJ6_stringSize_0f7a4_39 : decode cJ6_stringSize_0f7a4 39 = .ok (.goto (-23), 3) := by decide +kernel
theorem dJ6_stringSize_0f7a4_42 : decode cJ6_stringSize_0f7a4 42 = .ok (.bipush 10, 2) := by decide +kernel
theorem dJ6_stringSize_0f7a4_44 : decode cJ6_stringSize_0f7a4 44 = .ok (.iload_n 1, 1) := by decide +kernel
theorem dJ6_stringSize_0f7a4_45 : decode cJ6_stringSize_0f7a4 45 = .ok (.iadd, 1) := by decide +kernel
theorem dJ6_stringSize_0f7a4_46 : decode cJ6_stringSize_0f7a4 46 = .ok (.ireturn, 1) := by decide +kernel
theorem dJ9_max_7cf53_0 : decode cJ9_max_7cf53 0 = .ok (.iload_n 0, 1) := by decide +kernel
theorem dJ9_max_7cf53_1 : decode cJ9_max_7cf53 1 = .ok (.iload_n 1, 1) := by decide +kernel
theorem dJ9_max_7cf53_2 : decode cJ9_max_7cf53 2 = .ok (.if_icmp .lt 7, 3) := by decide +kernel
theorem dJ9_max_7cf53_5 : decode cJ9_max_7cf53 5 = .ok (.iload_n 0, 1) := by decide +kernel
theorem dJ9_max_7cf53_6 : decode cJ9_max_7cf53 6 = .ok (.goto 4, 3) := by decide +kernel
theorem dJ9_max_7cf53_9 : decode cJ9_max_7cf53 9 = .ok (.iload_n 1, 1) := by decide +kernel
theorem dJ9_max_7cf53_10 : decode cJ9_max_7cf53 10 = .ok (.ireturn, 1) := by decide +kernel
theorem dJ9_min_7cf53_0 : decode cJ9_min_7cf53 0 = .ok (.iload_n 0, 1) := by decide +kernel
theorem dJ9_min_7cf53_1 : decode cJ9_min_7cf53 1 = .ok (.iload_n 1, 1) := by decide +kernel
theorem dJ9_min_7cf53_2 : decode cJ9_min_7cf53 2 = .ok (.if_icmp .gt 7, 3) := by decide +kernel
theorem dJ9_min_7cf53_5 : decode cJ9_min_7cf53 5 = .ok (.iload_n 0, 1) := by decide +kernel
theorem dJ9_min_7cf53_6 : decode cJ9_min_7cf53 6 = .ok (.goto 4, 3) := by decide +kernel
theorem dJ9_min_7cf53_9 : decode cJ9_min_7cf53 9 = .ok (.iload_n 1, 1) := by decide +kernel
theorem dJ9_min_7cf53_10 : decode cJ9_min_7cf53 10 = .ok (.ireturn, 1) := by decide +kernel
theorem dJ0_init_81219_0 : decode cJ0_init_81219 0 = .ok (.aload_n 0, 1) := by decide +kernel
theorem dJ0_init_81219_1 : decode cJ0_init_81219 1 = .ok (.aload_n 1, 1) := by decide +kernel
theorem dJ0_init_81219_2 : decode cJ0_init_81219 2 = .ok (.aconst_null, 1) := by decide +kernel
theorem dJ0_init_81219_3 : decode cJ0_init_81219 3 = .ok (.invokespecial 489, 3) := by decide +kernel
theorem dJ0_init_81219_6 : decode cJ0_init_81219 6 = .ok (.return_, 1) := by decide +kernel
theorem dJ0_length_8abf5_0 : decode cJ0_length_8abf5 0 = .ok (.aload_n 0, 1) := by decide +kernel
theorem dJ0_length_8abf5_1 : decode cJ0_length_8abf5 1 = .ok (.getfield 9, 3) := by decide +kernel
theorem dJ0_length_8abf5_4 : decode cJ0_length_8abf5 4 = .ok (.arraylength, 1) := by decide +kernel
theorem dJ0_length_8abf5_5 : decode cJ0_length_8abf5 5 = .ok (.aload_n 0, 1) := by decide +kernel
theorem dJ0_length_8abf5_6 : decode cJ0_length_8abf5 6 = .ok (.invokevirtual 335, 3) := by decide +kernel
theorem dJ0_length_8abf5_9 : decode cJ0_length_8abf5 9 = .ok (.ishr, 1) := by decide +kernel
theorem dJ0_length_8abf5_10 : decode cJ0_length_8abf5 10 = .ok (.ireturn, 1) := by decide +kernel
theorem dJ0_charAt_5068e_0 : decode cJ0_charAt_5068e 0 = .ok (.aload_n 0, 1) := by decide +kernel
theorem dJ0_charAt_5068e_1 : decode cJ0_charAt_5068e 1 = .ok (.invokevirtual 492, 3) := by decide +kernel
theorem dJ0_charAt_5068e_4 : decode cJ0_charAt_5068e 4 = .ok (.ifCond .eq 12, 3) := by decide +kernel
theorem dJ0_charAt_5068e_7 : decode cJ0_charAt_5068e 7 = .ok (.aload_n 0, 1) := by decide +kernel
theorem dJ0_charAt_5068e_8 : decode cJ0_charAt_5068e 8 = .ok (.getfield 9, 3) := by decide +kernel
theorem dJ0_charAt_5068e_11 : decode cJ0_charAt_5068e 11 = .ok (.iload_n 1, 1) := by decide +kernel
theorem dJ0_charAt_5068e_12 : decode cJ0_charAt_5068e 12 = .ok (.invokestatic 495, 3) := by decide +kernel
theorem dJ0_charAt_5068e_15 : decode cJ0_charAt_5068e 15 = .ok (.ireturn, 1) := by decide +kernel
theorem dJ0_charAt_5068e_16 : decode cJ0_charAt_5068e 16 = .ok (.aload_n 0, 1) := by decide +kernel
theorem dJ0_charAt_5068e_17 : decode cJ0_charAt_5068e 17 = .ok (.getfield 9, 3) := by decide +kernel
theorem dJ0_charAt_5068e_20 : decode cJ0_charAt_5068e 20 = .ok (.iload_n 1, 1) := by decide +kernel
theorem dJ0_charAt_5068e_21 : decode cJ0_charAt_5068e 21 = .ok (.invokestatic 498, 3) := by decide +kernel
theorem dJ0_charAt_5068e_24 : decode cJ0_charAt_5068e 24 = .ok (.ireturn, 1) := by decide +kernel
theorem dJ0_getBytes_840e7_0 : decode cJ0_getBytes_840e7 0 = .ok (.aload_n 0, 1) := by decide +kernel
theorem dJ0_getBytes_840e7_1 : decode cJ0_getBytes_840e7 1 = .ok (.invokevirtual 335, 3) := by decide +kernel
theorem dJ0_getBytes_840e7_4 : decode cJ0_getBytes_840e7 4 = .ok (.iload_n 3, 1) := by decide +kernel
theorem dJ0_getBytes_840e7_5 : decode cJ0_getBytes_840e7 5 = .ok (.if_icmp .ne 23, 3) := by decide +kernel
theorem dJ0_getBytes_840e7_8 : decode cJ0_getBytes_840e7 8 = .ok (.aload_n 0, 1) := by decide +kernel
theorem dJ0_getBytes_840e7_9 : decode cJ0_getBytes_840e7 9 = .ok (.getfield 9, 3) := by decide +kernel
theorem dJ0_getBytes_840e7_12 : decode cJ0_getBytes_840e7 12 = .ok (.iconst 0, 1) := by decide +kernel
theorem dJ0_getBytes_840e7_13 : decode cJ0_getBytes_840e7 13 = .ok (.aload_n 1, 1) := by decide +kernel
theorem dJ0_getBytes_840e7_14 : decode cJ0_getBytes_840e7 14 = .ok (.iload_n 2, 1) := by decide +kernel
theorem dJ0_getBytes_840e7_15 : decode cJ0_getBytes_840e7 15 = .ok (.iload_n 3, 1) := by decide +kernel
theorem dJ0_getBytes_840e7_16 : decode cJ0_getBytes_840e7 16 = .ok (.ishl, 1) := by decide +kernel
theorem dJ0_getBytes_840e7_17 : decode cJ0_getBytes_840e7 17 = .ok (.aload_n 0, 1) := by decide +kernel
theorem dJ0_getBytes_840e7_18 : decode cJ0_getBytes_840e7 18 = .ok (.getfield 9, 3) := by decide +kernel
theorem dJ0_getBytes_840e7_21 : decode cJ0_getBytes_840e7 21 = .ok (.arraylength, 1) := by decide +kernel
theorem dJ0_getBytes_840e7_22 : decode cJ0_getBytes_840e7 22 = .ok (.invokestatic 212, 3) := by decide +kernel
theorem dJ0_getBytes_840e7_25 : decode cJ0_getBytes_840e7 25 = .ok (.goto 18, 3) := by decide +kernel
theorem dJ0_getBytes_840e7_28 : decode cJ0_getBytes_840e7 28 = .ok (.aload_n 0, 1) := by decide +kernel
theorem dJ0_getBytes_840e7_29 : decode cJ0_getBytes_840e7 29 = .ok (.getfield 9, 3) := by decide +kernel
theorem dJ0_getBytes_840e7_32 : decode cJ0_getBytes_840e7 32 = .ok (.iconst 0, 1) := by decide +kernel
theorem dJ0_getBytes_840e7_33 : decode cJ0_getBytes_840e7 33 = .ok (.aload_n 1, 1) := by decide +kernel
theorem dJ0_getBytes_840e7_34 : decode cJ0_getBytes_840e7 34 = .ok (.iload_n 2, 1) := by decide +kernel
theorem dJ0_getBytes_840e7_35 : decode cJ0_getBytes_840e7 35 = .ok (.aload_n 0, 1) := by decide +kernel
theorem dJ0_getBytes_840e7_36 : decode cJ0_getBytes_840e7 36 = .ok (.getfield 9, 3) := by decide +kernel
theorem dJ0_getBytes_840e7_39 : decode cJ0_getBytes_840e7 39 = .ok (.arraylength, 1) := by decide +kernel
theorem dJ0_getBytes_840e7_40 : decode cJ0_getBytes_840e7 40 = .ok (.invokestatic 106, 3) := by decide +kernel
theorem dJ0_getBytes_840e7_43 : decode cJ0_getBytes_840e7 43 = .ok (.return_, 1) := by decide +kernel
theorem dJ0_init_db425_0 : decode cJ0_init_db425 0 = .ok (.aload_n 0, 1) := by decide +kernel
theorem dJ0_init_db425_1 : decode cJ0_init_db425 1 = .ok (.invokespecial 1, 3) := by decide +kernel
theorem dJ0_init_db425_4 : decode cJ0_init_db425 4 = .ok (.aload_n 1, 1) := by decide +kernel
theorem dJ0_init_db425_5 : decode cJ0_init_db425 5 = .ok (.invokevirtual 552, 3) := by decide +kernel
theorem dJ0_init_db425_8 : decode cJ0_init_db425 8 = .ok (.astore_n 3, 1) := by decide +kernel
theorem dJ0_init_db425_9 : decode cJ0_init_db425 9 = .ok (.aload_n 1, 1) := by decide +kernel
theorem dJ0_init_db425_10 : decode cJ0_init_db425 10 = .ok (.invokevirtual 549, 3) := by decide +kernel
theorem dJ0_init_db425_13 : decode cJ0_init_db425 13 = .ok (.istore 4, 2) := by decide +kernel
theorem dJ0_init_db425_15 : decode cJ0_init_db425 15 = .ok (.aload_n 1, 1) := by decide +kernel
theorem dJ0_init_db425_16 : decode cJ0_init_db425 16 = .ok (.invokevirtual 1047, 3) := by decide +kernel
theorem dJ0_init_db425_19 : decode cJ0_init_db425 19 = .ok (.ifCond .eq 22, 3) := by decide +kernel
theorem dJ0_init_db425_22 : decode cJ0_init_db425 22 = .ok (.aload_n 0, 1) := by decide +kernel
theorem dJ0_init_db425_23 : decode cJ0_init_db425 23 = .ok (.iconst 0, 1) := by decide +kernel
theorem dJ0_init_db425_24 : decode cJ0_init_db425 24 = .ok (.putfield 15, 3) := by decide +kernel
theorem dJ0_init_db425_27 : decode cJ0_init_db425 27 = .ok (.aload_n 0, 1) := by decide +kernel
theorem dJ0_init_db425_28 : decode cJ0_init_db425 28 = .ok (.aload_n 3, 1) := by decide +kernel
theorem dJ0_init_db425_29 : decode cJ0_init_db425 29 = .ok (.iconst 0, 1) := by decide +kernel
theorem dJ0_init_db425_30 : decode cJ0_init_db425 30 = .ok (.iload 4, 2) := by decide +kernel
theorem dJ0_init_db425_32 : decode cJ0_init_db425 32 = .ok (.invokestatic 54, 3) := by decide +kernel
theorem dJ0_init_db425_35 : decode cJ0_init_db425 35 = .ok (.putfield 9, 3) := by decide +kernel
theorem dJ0_init_db425_38 : decode cJ0_init_db425 38 = .ok (.goto 59, 3) := by decide +kernel
theorem dJ0_init_db425_41 : decode cJ0_init_db425 41 = .ok (.getstatic 38, 3) := by decide +kernel
theorem dJ0_init_db425_44 : decode cJ0_init_db425 44 = .ok (.ifCond .eq 35, 3) := by decide +kernel
theorem dJ0_init_db425_47 : decode cJ0_init_db425 47 = .ok (.aload_n 1, 1) := by decide +kernel
theorem dJ0_init_db425_48 : decode cJ0_init_db425 48 = .ok (.getfield 1048, 3) := by decide +kernel
theorem dJ0_init_db425_51 : decode cJ0_init_db425 51 = .ok (.ifCond .eq 28, 3) := by decide +kernel
theorem dJ0_init_db425_54 : decode cJ0_init_db425 54 = .ok (.aload_n 0, 1) := by decide +kernel
theorem dJ0_init_db425_55 : decode cJ0_init_db425 55 = .ok (.aload_n 3, 1) := by decide +kernel
theorem dJ0_init_db425_56 : decode cJ0_init_db425 56 = .ok (.iconst 0, 1) := by decide +kernel
theorem dJ0_init_db425_57 : decode cJ0_init_db425 57 = .ok (.iload 4, 2) := by decide +kernel
theorem dJ0_init_db425_59 : decode cJ0_init_db425 59 = .ok (.invokestatic 1051, 3) := by decide +kernel
theorem dJ0_init_db425_62 : decode cJ0_init_db425 62 = .ok (.putfield 9, 3) := by decide +kernel
theorem dJ0_init_db425_65 : decode cJ0_init_db425 65 = .ok (.aload_n 0, 1) := by decide +kernel
theorem dJ0_init_db425_66 : decode cJ0_init_db425 66 = .ok (.aload_n 0, 1) := by decide +kernel
theorem dJ0_init_db425_67 : decode cJ0_init_db425 67 = .ok (.getfield 9, 3) := by decide +kernel
theorem dJ0_init_db425_70 : decode cJ0_init_db425 70 = .ok (.iload 4, 2) := by decide +kernel
theorem dJ0_init_db425_72 : decode cJ0_init_db425 72 = .ok (.invokestatic 47, 3) := by decide +kernel
theorem dJ0_init_db425_75 : decode cJ0_init_db425 75 = .ok (.putfield 15, 3) := by decide +kernel
theorem dJ0_init_db425_78 : decode cJ0_init_db425 78 = .ok (.return_, 1) := by decide +kernel
theorem dJ0_init_db425_79 : decode cJ0_init_db425 79 = .ok (.aload_n 0, 1) := by decide +kernel
theorem dJ0_init_db425_80 : decode cJ0_init_db425 80 = .ok (.iconst 1, 1) := by decide +kernel
theorem dJ0_init_db425_81 : decode cJ0_init_db425 81 = .ok (.putfield 15, 3) := by decide +kernel
theorem dJ0_init_db425_84 : decode cJ0_init_db425 84 = .ok (.aload_n 0, 1) := by decide +kernel
theorem dJ0_init_db425_85 : decode cJ0_init_db425 85 = .ok (.aload_n 3, 1) := by decide +kernel
theorem dJ0_init_db425_86 : decode cJ0_init_db425 86 = .ok (.iconst 0, 1) := by decide +kernel
theorem dJ0_init_db425_87 : decode cJ0_init_db425 87 = .ok (.iload 4, 2) := by decide +kernel
theorem dJ0_init_db425_89 : decode cJ0_init_db425 89 = .ok (.iconst 1, 1) := by decide +kernel
theorem dJ0_init_db425_90 : decode cJ0_init_db425 90 = .ok (.ishl, 1) := by decide +kernel
theorem dJ0_init_db425_91 : decode cJ0_init_db425 91 = .ok (.invokestatic 54, 3) := by decide +kernel
theorem dJ0_init_db425_94 : decode cJ0_init_db425 94 = .ok (.putfield 9, 3) := by decide +kernel
theorem dJ0_init_db425_97 : decode cJ0_init_db425 97 = .ok (.return_, 1) := by decide +kernel
theorem dJ0_coder_7d493_0 : decode cJ0_coder_7d493 0 = .ok (.getstatic 38, 3) := by decide +kernel
theorem dJ0_coder_7d493_3 : decode cJ0_coder_7d493 3 = .ok (.ifCond .eq 10, 3) := by decide +kernel
theorem dJ0_coder_7d493_6 : decode cJ0_coder_7d493 6 = .ok (.aload_n 0, 1) := by decide +kernel
theorem dJ0_coder_7d493_7 : decode cJ0_coder_7d493 7 = .ok (.getfield 15, 3) := by decide +kernel
theorem dJ0_coder_7d493_10 : decode cJ0_coder_7d493 10 = .ok (.goto 4, 3) := by decide +kernel
theorem dJ0_coder_7d493_13 : decode cJ0_coder_7d493 13 = .ok (.iconst 1, 1) := by decide +kernel
theorem dJ0_coder_7d493_14 : decode cJ0_coder_7d493 14 = .ok (.ireturn, 1) := by decide +kernel
theorem dJ0_isLatin1_aae02_0 : decode cJ0_isLatin1_aae02 0 = .ok (.getstatic 38, 3) := by decide +kernel
theorem dJ0_isLatin1_aae02_3 : decode cJ0_isLatin1_aae02 3 = .ok (.ifCond .eq 14, 3) := by decide +kernel
theorem dJ0_isLatin1_aae02_6 : decode cJ0_isLatin1_aae02 6 = .ok (.aload_n 0, 1) := by decide +kernel
theorem dJ0_isLatin1_aae02_7 : decode cJ0_isLatin1_aae02 7 = .ok (.getfield 15, 3) := by decide +kernel
theorem dJ0_isLatin1_aae02_10 : decode cJ0_isLatin1_aae02 10 = .ok (.ifCond .ne 7, 3) := by decide +kernel
theorem dJ0_isLatin1_aae02_13 : decode cJ0_isLatin1_aae02 13 = .ok (.iconst 1, 1) := by decide +kernel
theorem dJ0_isLatin1_aae02_14 : decode cJ0_isLatin1_aae02 14 = .ok (.goto 4, 3) := by decide +kernel
theorem dJ0_isLatin1_aae02_17 : decode cJ0_isLatin1_aae02 17 = .ok (.iconst 0, 1) := by decide +kernel
theorem dJ0_isLatin1_aae02_18 : decode cJ0_isLatin1_aae02 18 = .ok (.ireturn, 1) := by decide +kernel
theorem dJ0_checkIndex_df160_0 : decode cJ0_checkIndex_df160 0 = .ok (.iload_n 0, 1) := by decide +kernel
theorem dJ0_checkIndex_df160_1 : decode cJ0_checkIndex_df160 1 = .ok (.iload_n 1, 1) := by decide +kernel
theorem dJ0_checkIndex_df160_2 : decode cJ0_checkIndex_df160 2 = .ok (.getstatic 1053, 3) := by decide +kernel
theorem dJ0_checkIndex_df160_5 : decode cJ0_checkIndex_df160 5 = .ok (.invokestatic 1059, 3) := by decide +kernel
theorem dJ0_checkIndex_df160_8 : decode cJ0_checkIndex_df160 8 = .ok (.pop, 1) := by decide +kernel
theorem dJ0_checkIndex_df160_9 : decode cJ0_checkIndex_df160 9 = .ok (.return_, 1) := by decide +kernel
theorem dJ0_checkBoundsOffCount_cabcc_0 : decode cJ0_checkBoundsOffCount_cabcc 0 = .ok (.iload_n 0, 1) := by decide +kernel
theorem dJ0_checkBoundsOffCount_cabcc_1 : decode cJ0_checkBoundsOffCount_cabcc 1 = .ok (.iload_n 1, 1) := by decide +kernel
theorem dJ0_checkBoundsOffCount_cabcc_2 : decode cJ0_checkBoundsOffCount_cabcc 2 = .ok (.iload_n 2, 1) := by decide +kernel
theorem dJ0_checkBoundsOffCount_cabcc_3 : decode cJ0_checkBoundsOffCount_cabcc 3 = .ok (.getstatic 1053, 3) := by decide +kernel
theorem dJ0_checkBoundsOffCount_cabcc_6 : decode cJ0_checkBoundsOffCount_cabcc 6 = .ok (.invokestatic 1065, 3) := by decide +kernel
theorem dJ0_checkBoundsOffCount_cabcc_9 : decode cJ0_checkBoundsOffCount_cabcc 9 = .ok (.ireturn, 1) := by decide +kernel
theorem dJ0_checkBoundsBeginEnd_23922_0 : decode cJ0_checkBoundsBeginEnd_23922 0 = .ok (.iload_n 0, 1) := by decide +kernel
theorem dJ0_checkBoundsBeginEnd_23922_1 : decode cJ0_checkBoundsBeginEnd_23922 1 = .ok (.iload_n 1, 1) := by decide +kernel
theorem dJ0_checkBoundsBeginEnd_23922_2 : decode cJ0_checkBoundsBeginEnd_23922 2 = .ok (.iload_n 2, 1) := by decide +kernel
theorem dJ0_checkBoundsBeginEnd_23922_3 : decode cJ0_checkBoundsBeginEnd_23922 3 = .ok (.getstatic 1053, 3) := by decide +kernel
theorem dJ0_checkBoundsBeginEnd_23922_6 : decode cJ0_checkBoundsBeginEnd_23922 6 = .ok (.invokestatic 1062, 3) := by decide +kernel
theorem dJ0_checkBoundsBeginEnd_23922_9 : decode cJ0_checkBoundsBeginEnd_23922 9 = .ok (.pop, 1) := by decide +kernel
theorem dJ0_checkBoundsBeginEnd_23922_10 : decode cJ0_checkBoundsBeginEnd_23922 10 = .ok (.return_, 1) := by decide +kernel
theorem dJ4_init_da8c8_0 : decode cJ4_init_da8c8 0 = .ok (.aload_n 0, 1) := by decide +kernel
theorem dJ4_init_da8c8_1 : decode cJ4_init_da8c8 1 = .ok (.bipush 16, 2) := by decide +kernel
theorem dJ4_init_da8c8_3 : decode cJ4_init_da8c8 3 = .ok (.invokespecial 1, 3) := by decide +kernel
theorem dJ4_init_da8c8_6 : decode cJ4_init_da8c8 6 = .ok (.return_, 1) := by decide +kernel
theorem dJ4_append_15ec4_0 : decode cJ4_append_15ec4 0 = .ok (.aload_n 0, 1) := by decide +kernel
theorem dJ4_append_15ec4_1 : decode cJ4_append_15ec4 1 = .ok (.aload_n 1, 1) := by decide +kernel
theorem dJ4_append_15ec4_2 : decode cJ4_append_15ec4 2 = .ok (.invokespecial 29, 3) := by decide +kernel
theorem dJ4_append_15ec4_5 : decode cJ4_append_15ec4 5 = .ok (.pop, 1) := by decide +kernel
theorem dJ4_append_15ec4_6 : decode cJ4_append_15ec4 6 = .ok (.aload_n 0, 1) := by decide +kernel
theorem dJ4_append_15ec4_7 : decode cJ4_append_15ec4 7 = .ok (.areturn, 1) := by decide +kernel
theorem dJ4_append_cf468_0 : decode cJ4_append_cf468 0 = .ok (.aload_n 0, 1) := by decide +kernel
theorem dJ4_append_cf468_1 : decode cJ4_append_cf468 1 = .ok (.iload_n 1, 1) := by decide +kernel
theorem dJ4_append_cf468_2 : decode cJ4_append_cf468 2 = .ok (.invokespecial 50, 3) := by decide +kernel
theorem dJ4_append_cf468_5 : decode cJ4_append_cf468 5 = .ok (.pop, 1) := by decide +kernel
theorem dJ4_append_cf468_6 : decode cJ4_append_cf468 6 = .ok (.aload_n 0, 1) := by decide +kernel
theorem dJ4_append_cf468_7 : decode cJ4_append_cf468 7 = .ok (.areturn, 1) := by decide +kernel
theorem dJ4_append_bf812_0 : decode cJ4_append_bf812 0 = .ok (.aload_n 0, 1) := by decide +kernel
theorem dJ4_append_bf812_1 : decode cJ4_append_bf812 1 = .ok (.iload_n 1, 1) := by decide +kernel
theorem dJ4_append_bf812_2 : decode cJ4_append_bf812 2 = .ok (.invokespecial 53, 3) := by decide +kernel
theorem dJ4_append_bf812_5 : decode cJ4_append_bf812 5 = .ok (.pop, 1) := by decide +kernel
theorem dJ4_append_bf812_6 : decode cJ4_append_bf812 6 = .ok (.aload_n 0, 1) := by decide +kernel
theorem dJ4_append_bf812_7 : decode cJ4_append_bf812 7 = .ok (.areturn, 1) := by decide +kernel
theorem dJ4_toString_0e30d_0 : decode cJ4_toString_0e30d 0 = .ok (.new 18, 3) := by decide +kernel
theorem dJ4_toString_0e30d_3 : decode cJ4_toString_0e30d 3 = .ok (.dup, 1) := by decide +kernel
theorem dJ4_toString_0e30d_4 : decode cJ4_toString_0e30d 4 = .ok (.aload_n 0, 1) := by decide +kernel
theorem dJ4_toString_0e30d_5 : decode cJ4_toString_0e30d 5 = .ok (.invokespecial 137, 3) := by decide +kernel
theorem dJ4_toString_0e30d_8 : decode cJ4_toString_0e30d 8 = .ok (.areturn, 1) := by decide +kernel
theorem dJ4_length_8abf5_0 : decode cJ4_length_8abf5 0 = .ok (.aload_n 0, 1) := by decide +kernel
theorem dJ4_length_8abf5_1 : decode cJ4_length_8abf5 1 = .ok (.invokespecial 343, 3) := by decide +kernel
theorem dJ4_length_8abf5_4 : decode cJ4_length_8abf5 4 = .ok (.ireturn, 1) := by decide +kernel
theorem dJ1_charAt_3b067_0 : decode cJ1_charAt_3b067 0 = .ok (.iload_n 1, 1) := by decide +kernel
theorem dJ1_charAt_3b067_1 : decode cJ1_charAt_3b067 1 = .ok (.aload_n 0, 1) := by decide +kernel
theorem dJ1_charAt_3b067_2 : decode cJ1_charAt_3b067 2 = .ok (.arraylength, 1) := by decide +kernel
theorem dJ1_charAt_3b067_3 : decode cJ1_charAt_3b067 3 = .ok (.invokestatic 9, 3) := by decide +kernel
theorem dJ1_charAt_3b067_6 : decode cJ1_charAt_3b067 6 = .ok (.aload_n 0, 1) := by decide +kernel
theorem dJ1_charAt_3b067_7 : decode cJ1_charAt_3b067 7 = .ok (.iload_n 1, 1) := by decide +kernel
theorem dJ1_charAt_3b067_8 : decode cJ1_charAt_3b067 8 = .ok (.baload, 1) := by decide +kernel
theorem dJ1_charAt_3b067_9 : decode cJ1_charAt_3b067 9 = .ok (.sipush 255, 3) := by decide +kernel
theorem dJ1_charAt_3b067_12 : decode cJ1_charAt_3b067 12 = .ok (.iand, 1) := by decide +kernel
theorem dJ1_charAt_3b067_13 : decode cJ1_charAt_3b067 13 = .ok (.i2c, 1) := by decide +kernel
theorem dJ1_charAt_3b067_14 : decode cJ1_charAt_3b067 14 = .ok (.ireturn, 1) := by decide +kernel
theorem dJ1_canEncode_fc78d_0 : decode cJ1_canEncode_fc78d 0 = .ok (.iload_n 0, 1) := by decide +kernel
theorem dJ1_canEncode_fc78d_1 : decode cJ1_canEncode_fc78d 1 = .ok (.sipush 255, 3) := by decide +kernel
theorem dJ1_canEncode_fc78d_4 : decode cJ1_canEncode_fc78d 4 = .ok (.if_icmp .gt 7, 3) := by decide +kernel
theorem dJ1_canEncode_fc78d_7 : decode cJ1_canEncode_fc78d 7 = .ok (.iconst 1, 1) := by decide +kernel
theorem dJ1_canEncode_fc78d_8 : decode cJ1_canEncode_fc78d 8 = .ok (.goto 4, 3) := by decide +kernel
theorem dJ1_canEncode_fc78d_11 : decode cJ1_canEncode_fc78d 11 = .ok (.iconst 0, 1) := by decide +kernel
theorem dJ1_canEncode_fc78d_12 : decode cJ1_canEncode_fc78d 12 = .ok (.ireturn, 1) := by decide +kernel
theorem dJ1_inflate_0e8fd_0 : decode cJ1_inflate_0e8fd 0 = .ok (.aload_n 0, 1) := by decide +kernel
theorem dJ1_inflate_0e8fd_1 : decode cJ1_inflate_0e8fd 1 = .ok (.iload_n 1, 1) := by decide +kernel
theorem dJ1_inflate_0e8fd_2 : decode cJ1_inflate_0e8fd 2 = .ok (.aload_n 2, 1) := by decide +kernel
theorem dJ1_inflate_0e8fd_3 : decode cJ1_inflate_0e8fd 3 = .ok (.iload_n 3, 1) := by decide +kernel
theorem dJ1_inflate_0e8fd_4 : decode cJ1_inflate_0e8fd 4 = .ok (.iload 4, 2) := by decide +kernel
theorem dJ1_inflate_0e8fd_6 : decode cJ1_inflate_0e8fd 6 = .ok (.invokestatic 240, 3) := by decide +kernel
theorem dJ1_inflate_0e8fd_9 : decode cJ1_inflate_0e8fd 9 = .ok (.return_, 1) := by decide +kernel
theorem dJ2_newBytesFor_77867_0 : decode cJ2_newBytesFor_77867 0 = .ok (.iload_n 0, 1) := by decide +kernel
theorem dJ2_newBytesFor_77867_1 : decode cJ2_newBytesFor_77867 1 = .ok (.invokestatic 11, 3) := by decide +kernel
theorem dJ2_newBytesFor_77867_4 : decode cJ2_newBytesFor_77867 4 = .ok (.newarray .byte, 2) := by decide +kernel
theorem dJ2_newBytesFor_77867_6 : decode cJ2_newBytesFor_77867 6 = .ok (.areturn, 1) := by decide +kernel
theorem dJ2_newBytesLength_0f7a4_0 : decode cJ2_newBytesLength_0f7a4 0 = .ok (.iload_n 0, 1) := by decide +kernel
theorem dJ2_newBytesLength_0f7a4_1 : decode cJ2_newBytesLength_0f7a4 1 = .ok (.ifCond .ge 11, 3) := by decide +kernel
theorem dJ2_newBytesLength_0f7a4_4 : decode cJ2_newBytesLength_0f7a4 4 = .ok (.new 17, 3) := by decide +kernel
theorem dJ2_newBytesLength_0f7a4_7 : decode cJ2_newBytesLength_0f7a4 7 = .ok (.dup, 1) := by decide +kernel
theorem dJ2_newBytesLength_0f7a4_8 : decode cJ2_newBytesLength_0f7a4 8 = .ok (.invokespecial 19, 3) := by decide +kernel
theorem dJ2_newBytesLength_0f7a4_11 : decode cJ2_newBytesLength_0f7a4 11 = .ok (.athrow, 1) := by decide +kernel
theorem dJ2_newBytesLength_0f7a4_12 : decode cJ2_newBytesLength_0f7a4 12 = .ok (.iload_n 0, 1) := by decide +kernel
theorem dJ2_newBytesLength_0f7a4_13 : decode cJ2_newBytesLength_0f7a4 13 = .ok (.ldc 20, 2) := by decide +kernel
theorem dJ2_newBytesLength_0f7a4_15 : decode cJ2_newBytesLength_0f7a4 15 = .ok (.if_icmp .lt 40, 3) := by decide +kernel
theorem dJ2_newBytesLength_0f7a4_18 : decode cJ2_newBytesLength_0f7a4 18 = .ok (.new 21, 3) := by decide +kernel
theorem dJ2_newBytesLength_0f7a4_21 : decode cJ2_newBytesLength_0f7a4 21 = .ok (.dup, 1) := by decide +kernel
theorem dJ2_newBytesLength_0f7a4_22 : decode cJ2_newBytesLength_0f7a4 22 = .ok (.new 23, 3) := by decide +kernel
theorem dJ2_newBytesLength_0f7a4_25 : decode cJ2_newBytesLength_0f7a4 25 = .ok (.dup, 1) := by decide +kernel
theorem dJ2_newBytesLength_0f7a4_26 : decode cJ2_newBytesLength_0f7a4 26 = .ok (.invokespecial 25, 3) := by decide +kernel
theorem dJ2_newBytesLength_0f7a4_29 : decode cJ2_newBytesLength_0f7a4 29 = .ok (.ldc 26, 2) := by decide +kernel
theorem dJ2_newBytesLength_0f7a4_31 : decode cJ2_newBytesLength_0f7a4 31 = .ok (.invokevirtual 28, 3) := by decide +kernel
theorem dJ2_newBytesLength_0f7a4_34 : decode cJ2_newBytesLength_0f7a4 34 = .ok (.iload_n 0, 1) := by decide +kernel
theorem dJ2_newBytesLength_0f7a4_35 : decode cJ2_newBytesLength_0f7a4 35 = .ok (.invokevirtual 32, 3) := by decide +kernel
theorem dJ2_newBytesLength_0f7a4_38 : decode cJ2_newBytesLength_0f7a4 38 = .ok (.ldc 35, 2) := by decide +kernel
theorem dJ2_newBytesLength_0f7a4_40 : decode cJ2_newBytesLength_0f7a4 40 = .ok (.invokevirtual 28, 3) := by decide +kernel
theorem dJ2_newBytesLength_0f7a4_43 : decode cJ2_newBytesLength_0f7a4 43 = .ok (.ldc 20, 2) := by decide +kernel
theorem dJ2_newBytesLength_0f7a4_45 : decode cJ2_newBytesLength_0f7a4 45 = .ok (.invokevirtual 32, 3) := by decide +kernel
theorem dJ2_newBytesLength_0f7a4_48 : decode cJ2_newBytesLength_0f7a4 48 = .ok (.invokevirtual 37, 3) := by decide +kernel
theorem dJ2_newBytesLength_0f7a4_51 : decode cJ2_newBytesLength_0f7a4 51 = .ok (.invokespecial 41, 3) := by decide +kernel
theorem dJ2_newBytesLength_0f7a4_54 : decode cJ2_newBytesLength_0f7a4 54 = .ok (.athrow, 1) := by decide +kernel
theorem dJ2_newBytesLength_0f7a4_55 : decode cJ2_newBytesLength_0f7a4 55 = .ok (.iload_n 0, 1) := by decide +kernel
theorem dJ2_newBytesLength_0f7a4_56 : decode cJ2_newBytesLength_0f7a4 56 = .ok (.iconst 1, 1) := by decide +kernel
theorem dJ2_newBytesLength_0f7a4_57 : decode cJ2_newBytesLength_0f7a4 57 = .ok (.ishl, 1) := by decide +kernel
theorem dJ2_newBytesLength_0f7a4_58 : decode cJ2_newBytesLength_0f7a4 58 = .ok (.ireturn, 1) := by decide +kernel
theorem dJ2_putChar_b72d1_0 : decode cJ2_putChar_b72d1 0 = .ok (.getstatic 44, 3) := by decide +kernel
theorem dJ2_putChar_b72d1_3 : decode cJ2_putChar_b72d1 3 = .ok (.ifCond .ne 25, 3) := by decide +kernel
theorem dJ2_putChar_b72d1_6 : decode cJ2_putChar_b72d1 6 = .ok (.iload_n 1, 1) := by decide +kernel
theorem dJ2_putChar_b72d1_7 : decode cJ2_putChar_b72d1 7 = .ok (.ifCond .lt 11, 3) := by decide +kernel
theorem dJ2_putChar_b72d1_10 : decode cJ2_putChar_b72d1 10 = .ok (.iload_n 1, 1) := by decide +kernel
theorem dJ2_putChar_b72d1_11 : decode cJ2_putChar_b72d1 11 = .ok (.aload_n 0, 1) := by decide +kernel
theorem dJ2_putChar_b72d1_12 : decode cJ2_putChar_b72d1 12 = .ok (.invokestatic 48, 3) := by decide +kernel
theorem dJ2_putChar_b72d1_15 : decode cJ2_putChar_b72d1 15 = .ok (.if_icmp .lt 13, 3) := by decide +kernel
theorem dJ2_putChar_b72d1_18 : decode cJ2_putChar_b72d1 18 = .ok (.new 52, 3) := by decide +kernel
theorem dJ2_putChar_b72d1_21 : decode cJ2_putChar_b72d1 21 = .ok (.dup, 1) := by decide +kernel
theorem dJ2_putChar_b72d1_22 : decode cJ2_putChar_b72d1 22 = .ok (.ldc 54, 2) := by decide +kernel
theorem dJ2_putChar_b72d1_24 : decode cJ2_putChar_b72d1 24 = .ok (.invokespecial 56, 3) := by decide +kernel
theorem dJ2_putChar_b72d1_27 : decode cJ2_putChar_b72d1 27 = .ok (.athrow, 1) := by decide +kernel
theorem dJ2_putChar_b72d1_28 : decode cJ2_putChar_b72d1 28 = .ok (.iload_n 1, 1) := by decide +kernel
theorem dJ2_putChar_b72d1_29 : decode cJ2_putChar_b72d1 29 = .ok (.iconst 1, 1) := by decide +kernel
theorem dJ2_putChar_b72d1_30 : decode cJ2_putChar_b72d1 30 = .ok (.ishl, 1) := by decide +kernel
theorem dJ2_putChar_b72d1_31 : decode cJ2_putChar_b72d1 31 = .ok (.istore_n 1, 1) := by decide +kernel
theorem dJ2_putChar_b72d1_32 : decode cJ2_putChar_b72d1 32 = .ok (.aload_n 0, 1) := by decide +kernel
theorem dJ2_putChar_b72d1_33 : decode cJ2_putChar_b72d1 33 = .ok (.iload_n 1, 1) := by decide +kernel
theorem dJ2_putChar_b72d1_34 : decode cJ2_putChar_b72d1 34 = .ok (.iinc 1 1, 3) := by decide +kernel
theorem dJ2_putChar_b72d1_37 : decode cJ2_putChar_b72d1 37 = .ok (.iload_n 2, 1) := by decide +kernel
theorem dJ2_putChar_b72d1_38 : decode cJ2_putChar_b72d1 38 = .ok (.getstatic 59, 3) := by decide +kernel
theorem dJ2_putChar_b72d1_41 : decode cJ2_putChar_b72d1 41 = .ok (.ishr, 1) := by decide +kernel
theorem dJ2_putChar_b72d1_42 : decode cJ2_putChar_b72d1 42 = .ok (.i2b, 1) := by decide +kernel
theorem dJ2_putChar_b72d1_43 : decode cJ2_putChar_b72d1 43 = .ok (.bastore, 1) := by decide +kernel
theorem dJ2_putChar_b72d1_44 : decode cJ2_putChar_b72d1 44 = .ok (.aload_n 0, 1) := by decide +kernel
theorem dJ2_putChar_b72d1_45 : decode cJ2_putChar_b72d1 45 = .ok (.iload_n 1, 1) := by decide +kernel
theorem dJ2_putChar_b72d1_46 : decode cJ2_putChar_b72d1 46 = .ok (.iload_n 2, 1) := by decide +kernel
theorem dJ2_putChar_b72d1_47 : decode cJ2_putChar_b72d1 47 = .ok (.getstatic 63, 3) := by decide +kernel
theorem dJ2_putChar_b72d1_50 : decode cJ2_putChar_b72d1 50 = .ok (.ishr, 1) := by decide +kernel
theorem dJ2_putChar_b72d1_51 : decode cJ2_putChar_b72d1 51 = .ok (.i2b, 1) := by decide +kernel
theorem dJ2_putChar_b72d1_52 : decode cJ2_putChar_b72d1 52 = .ok (.bastore, 1) := by decide +kernel
theorem dJ2_putChar_b72d1_53 : decode cJ2_putChar_b72d1 53 = .ok (.return_, 1) := by decide +kernel
theorem dJ2_getChar_3b067_0 : decode cJ2_getChar_3b067 0 = .ok (.getstatic 44, 3) := by decide +kernel
theorem dJ2_getChar_3b067_3 : decode cJ2_getChar_3b067 3 = .ok (.ifCond .ne 25, 3) := by decide +kernel
theorem dJ2_getChar_3b067_6 : decode cJ2_getChar_3b067 6 = .ok (.iload_n 1, 1) := by decide +kernel
theorem dJ2_getChar_3b067_7 : decode cJ2_getChar_3b067 7 = .ok (.ifCond .lt 11, 3) := by decide +kernel
theorem dJ2_getChar_3b067_10 : decode cJ2_getChar_3b067 10 = .ok (.iload_n 1, 1) := by decide +kernel
theorem dJ2_getChar_3b067_11 : decode cJ2_getChar_3b067 11 = .ok (.aload_n 0, 1) := by decide +kernel
theorem dJ2_getChar_3b067_12 : decode cJ2_getChar_3b067 12 = .ok (.invokestatic 48, 3) := by decide +kernel
theorem dJ2_getChar_3b067_15 : decode cJ2_getChar_3b067 15 = .ok (.if_icmp .lt 13, 3) := by decide +kernel
theorem dJ2_getChar_3b067_18 : decode cJ2_getChar_3b067 18 = .ok (.new 52, 3) := by decide +kernel
theorem dJ2_getChar_3b067_21 : decode cJ2_getChar_3b067 21 = .ok (.dup, 1) := by decide +kernel
theorem dJ2_getChar_3b067_22 : decode cJ2_getChar_3b067 22 = .ok (.ldc 54, 2) := by decide +kernel
theorem dJ2_getChar_3b067_24 : decode cJ2_getChar_3b067 24 = .ok (.invokespecial 56, 3) := by decide +kernel
theorem dJ2_getChar_3b067_27 : decode cJ2_getChar_3b067 27 = .ok (.athrow, 1) := by decide +kernel
theorem dJ2_getChar_3b067_28 : decode cJ2_getChar_3b067 28 = .ok (.iload_n 1, 1) := by decide +kernel
theorem dJ2_getChar_3b067_29 : decode cJ2_getChar_3b067 29 = .ok (.iconst 1, 1) := by decide +kernel
theorem dJ2_getChar_3b067_30 : decode cJ2_getChar_3b067 30 = .ok (.ishl, 1) := by decide +kernel
theorem dJ2_getChar_3b067_31 : decode cJ2_getChar_3b067 31 = .ok (.istore_n 1, 1) := by decide +kernel
theorem dJ2_getChar_3b067_32 : decode cJ2_getChar_3b067 32 = .ok (.aload_n 0, 1) := by decide +kernel
theorem dJ2_getChar_3b067_33 : decode cJ2_getChar_3b067 33 = .ok (.iload_n 1, 1) := by decide +kernel
theorem dJ2_getChar_3b067_34 : decode cJ2_getChar_3b067 34 = .ok (.iinc 1 1, 3) := by decide +kernel
theorem dJ2_getChar_3b067_37 : decode cJ2_getChar_3b067 37 = .ok (.baload, 1) := by decide +kernel
theorem dJ2_getChar_3b067_38 : decode cJ2_getChar_3b067 38 = .ok (.sipush 255, 3) := by decide +kernel
theorem dJ2_getChar_3b067_41 : decode cJ2_getChar_3b067 41 = .ok (.iand, 1) := by decide +kernel
theorem dJ2_getChar_3b067_42 : decode cJ2_getChar_3b067 42 = .ok (.getstatic 59, 3) := by decide +kernel
theorem dJ2_getChar_3b067_45 : decode cJ2_getChar_3b067 45 = .ok (.ishl, 1) := by decide +kernel
theorem dJ2_getChar_3b067_46 : decode cJ2_getChar_3b067 46 = .ok (.aload_n 0, 1) := by decide +kernel
theorem dJ2_getChar_3b067_47 : decode cJ2_getChar_3b067 47 = .ok (.iload_n 1, 1) := by decide +kernel
theorem dJ2_getChar_3b067_48 : decode cJ2_getChar_3b067 48 = .ok (.baload, 1) := by decide +kernel
theorem dJ2_getChar_3b067_49 : decode cJ2_getChar_3b067 49 = .ok (.sipush 255, 3) := by decide +kernel
theorem dJ2_getChar_3b067_52 : decode cJ2_getChar_3b067 52 = .ok (.iand, 1) := by decide +kernel
theorem dJ2_getChar_3b067_53 : decode cJ2_getChar_3b067 53 = .ok (.getstatic 63, 3) := by decide +kernel
theorem dJ2_getChar_3b067_56 : decode cJ2_getChar_3b067 56 = .ok (.ishl, 1) := by decide +kernel
theorem dJ2_getChar_3b067_57 : decode cJ2_getChar_3b067 57 = .ok (.ior, 1) := by decide +kernel
theorem dJ2_getChar_3b067_58 : decode cJ2_getChar_3b067 58 = .ok (.i2c, 1) := by decide +kernel
theorem dJ2_getChar_3b067_59 : decode cJ2_getChar_3b067 59 = .ok (.ireturn, 1) := by decide +kernel
theorem dJ2_length_9d52b_0 : decode cJ2_length_9d52b 0 = .ok (.aload_n 0, 1) := by decide +kernel
theorem dJ2_length_9d52b_1 : decode cJ2_length_9d52b 1 = .ok (.arraylength, 1) := by decide +kernel
theorem dJ2_length_9d52b_2 : decode cJ2_length_9d52b 2 = .ok (.iconst 1, 1) := by decide +kernel
theorem dJ2_length_9d52b_3 : decode cJ2_length_9d52b 3 = .ok (.ishr, 1) := by decide +kernel
theorem dJ2_length_9d52b_4 : decode cJ2_length_9d52b 4 = .ok (.ireturn, 1) := by decide +kernel
theorem dJ2_coderFromArrayLen_85cad_0 : decode cJ2_coderFromArrayLen_85cad 0 = .ok (.iload_n 1, 1) := by decide +kernel
theorem dJ2_coderFromArrayLen_85cad_1 : decode cJ2_coderFromArrayLen_85cad 1 = .ok (.aload_n 0, 1) := by decide +kernel
theorem dJ2_coderFromArrayLen_85cad_2 : decode cJ2_coderFromArrayLen_85cad 2 = .ok (.arraylength, 1) := by decide +kernel
theorem dJ2_coderFromArrayLen_85cad_3 : decode cJ2_coderFromArrayLen_85cad 3 = .ok (.isub, 1) := by decide +kernel
theorem dJ2_coderFromArrayLen_85cad_4 : decode cJ2_coderFromArrayLen_85cad 4 = .ok (.bipush 31, 2) := by decide +kernel
theorem dJ2_coderFromArrayLen_85cad_6 : decode cJ2_coderFromArrayLen_85cad 6 = .ok (.iushr, 1) := by decide +kernel
theorem dJ2_coderFromArrayLen_85cad_7 : decode cJ2_coderFromArrayLen_85cad 7 = .ok (.i2b, 1) := by decide +kernel
theorem dJ2_coderFromArrayLen_85cad_8 : decode cJ2_coderFromArrayLen_85cad 8 = .ok (.ireturn, 1) := by decide +kernel
theorem dJ2_compress_39247_0 : decode cJ2_compress_39247 0 = .ok (.iload_n 2, 1) := by decide +kernel
theorem dJ2_compress_39247_1 : decode cJ2_compress_39247 1 = .ok (.newarray .byte, 2) := by decide +kernel
theorem dJ2_compress_39247_3 : decode cJ2_compress_39247 3 = .ok (.astore_n 3, 1) := by decide +kernel
theorem dJ2_compress_39247_4 : decode cJ2_compress_39247 4 = .ok (.aload_n 0, 1) := by decide +kernel
theorem dJ2_compress_39247_5 : decode cJ2_compress_39247 5 = .ok (.iload_n 1, 1) := by decide +kernel
theorem dJ2_compress_39247_6 : decode cJ2_compress_39247 6 = .ok (.aload_n 3, 1) := by decide +kernel
theorem dJ2_compress_39247_7 : decode cJ2_compress_39247 7 = .ok (.iconst 0, 1) := by decide +kernel
theorem dJ2_compress_39247_8 : decode cJ2_compress_39247 8 = .ok (.iload_n 2, 1) := by decide +kernel
theorem dJ2_compress_39247_9 : decode cJ2_compress_39247 9 = .ok (.invokestatic 123, 3) := by decide +kernel
theorem dJ2_compress_39247_12 : decode cJ2_compress_39247 12 = .ok (.istore 4, 2) := by decide +kernel
theorem dJ2_compress_39247_14 : decode cJ2_compress_39247 14 = .ok (.iload 4, 2) := by decide +kernel
theorem dJ2_compress_39247_16 : decode cJ2_compress_39247 16 = .ok (.iload_n 2, 1) := by decide +kernel
theorem dJ2_compress_39247_17 : decode cJ2_compress_39247 17 = .ok (.if_icmp .eq 47, 3) := by decide +kernel
theorem dJ2_compress_39247_20 : decode cJ2_compress_39247 20 = .ok (.aload_n 0, 1) := by decide +kernel
theorem dJ2_compress_39247_21 : decode cJ2_compress_39247 21 = .ok (.iload_n 1, 1) := by decide +kernel
theorem dJ2_compress_39247_22 : decode cJ2_compress_39247 22 = .ok (.iconst 1, 1) := by decide +kernel
theorem dJ2_compress_39247_23 : decode cJ2_compress_39247 23 = .ok (.ishl, 1) := by decide +kernel
theorem dJ2_compress_39247_24 : decode cJ2_compress_39247 24 = .ok (.iload_n 1, 1) := by decide +kernel
theorem dJ2_compress_39247_25 : decode cJ2_compress_39247 25 = .ok (.iload_n 2, 1) := by decide +kernel
theorem dJ2_compress_39247_26 : decode cJ2_compress_39247 26 = .ok (.iadd, 1) := by decide +kernel
theorem dJ2_compress_39247_27 : decode cJ2_compress_39247 27 = .ok (.invokestatic 11, 3) := by decide +kernel
theorem dJ2_compress_39247_30 : decode cJ2_compress_39247 30 = .ok (.invokestatic 126, 3) := by decide +kernel
theorem dJ2_compress_39247_33 : decode cJ2_compress_39247 33 = .ok (.astore 5, 2) := by decide +kernel
theorem dJ2_compress_39247_35 : decode cJ2_compress_39247 35 = .ok (.aload 5, 2) := by decide +kernel
theorem dJ2_compress_39247_37 : decode cJ2_compress_39247 37 = .ok (.iload 4, 2) := by decide +kernel
theorem dJ2_compress_39247_39 : decode cJ2_compress_39247 39 = .ok (.invokestatic 71, 3) := by decide +kernel
theorem dJ2_compress_39247_42 : decode cJ2_compress_39247 42 = .ok (.sipush 255, 3) := by decide +kernel
theorem dJ2_compress_39247_45 : decode cJ2_compress_39247 45 = .ok (.if_icmp .gt 16, 3) := by decide +kernel
theorem dJ2_compress_39247_48 : decode cJ2_compress_39247 48 = .ok (.aload 5, 2) := by decide +kernel
theorem dJ2_compress_39247_50 : decode cJ2_compress_39247 50 = .ok (.iconst 0, 1) := by decide +kernel
theorem dJ2_compress_39247_51 : decode cJ2_compress_39247 51 = .ok (.aload_n 3, 1) := by decide +kernel
theorem dJ2_compress_39247_52 : decode cJ2_compress_39247 52 = .ok (.iconst 0, 1) := by decide +kernel
theorem dJ2_compress_39247_53 : decode cJ2_compress_39247 53 = .ok (.iload_n 2, 1) := by decide +kernel
theorem dJ2_compress_39247_54 : decode cJ2_compress_39247 54 = .ok (.invokestatic 123, 3) := by decide +kernel
theorem dJ2_compress_39247_57 : decode cJ2_compress_39247 57 = .ok (.iload_n 2, 1) := by decide +kernel
theorem dJ2_compress_39247_58 : decode cJ2_compress_39247 58 = .ok (.if_icmp .eq 6, 3) := by decide +kernel
theorem dJ2_compress_39247_61 : decode cJ2_compress_39247 61 = .ok (.aload 5, 2) := by decide +kernel
theorem dJ2_compress_39247_63 : decode cJ2_compress_39247 63 = .ok (.areturn, 1) := by decide +kernel
theorem dJ2_compress_39247_64 : decode cJ2_compress_39247 64 = .ok (.aload_n 3, 1) := by decide +kernel
theorem dJ2_compress_39247_65 : decode cJ2_compress_39247 65 = .ok (.areturn, 1) := by decide +kernel
theorem dJ2_compress_5af95_0 : decode cJ2_compress_5af95 0 = .ok (.iload_n 1, 1) := by decide +kernel
theorem dJ2_compress_5af95_1 : decode cJ2_compress_5af95 1 = .ok (.iload 4, 2) := by decide +kernel
theorem dJ2_compress_5af95_3 : decode cJ2_compress_5af95 3 = .ok (.aload_n 0, 1) := by decide +kernel
theorem dJ2_compress_5af95_4 : decode cJ2_compress_5af95 4 = .ok (.invokestatic 173, 3) := by decide +kernel
theorem dJ2_compress_5af95_7 : decode cJ2_compress_5af95 7 = .ok (.iconst 0, 1) := by decide +kernel
theorem dJ2_compress_5af95_8 : decode cJ2_compress_5af95 8 = .ok (.istore 5, 2) := by decide +kernel
theorem dJ2_compress_5af95_10 : decode cJ2_compress_5af95 10 = .ok (.iload 5, 2) := by decide +kernel
theorem dJ2_compress_5af95_12 : decode cJ2_compress_5af95 12 = .ok (.iload 4, 2) := by decide +kernel
theorem dJ2_compress_5af95_14 : decode cJ2_compress_5af95 14 = .ok (.if_icmp .ge 39, 3) := by decide +kernel
theorem dJ2_compress_5af95_17 : decode cJ2_compress_5af95 17 = .ok (.aload_n 0, 1) := by decide +kernel
theorem dJ2_compress_5af95_18 : decode cJ2_compress_5af95 18 = .ok (.iload_n 1, 1) := by decide +kernel
theorem dJ2_compress_5af95_19 : decode cJ2_compress_5af95 19 = .ok (.invokestatic 71, 3) := by decide +kernel
theorem dJ2_compress_5af95_22 : decode cJ2_compress_5af95 22 = .ok (.istore 6, 2) := by decide +kernel
theorem dJ2_compress_5af95_24 : decode cJ2_compress_5af95 24 = .ok (.iload 6, 2) := by decide +kernel
theorem dJ2_compress_5af95_26 : decode cJ2_compress_5af95 26 = .ok (.sipush 255, 3) := by decide +kernel
theorem dJ2_compress_5af95_29 : decode cJ2_compress_5af95 29 = .ok (.if_icmp .le 6, 3) := by decide +kernel
theorem dJ2_compress_5af95_32 : decode cJ2_compress_5af95 32 = .ok (.iload 5, 2) := by decide +kernel
theorem dJ2_compress_5af95_34 : decode cJ2_compress_5af95 34 = .ok (.ireturn, 1) := by decide +kernel
theorem dJ2_compress_5af95_35 : decode cJ2_compress_5af95 35 = .ok (.aload_n 2, 1) := by decide +kernel
theorem dJ2_compress_5af95_36 : decode cJ2_compress_5af95 36 = .ok (.iload_n 3, 1) := by decide +kernel
theorem dJ2_compress_5af95_37 : decode cJ2_compress_5af95 37 = .ok (.iload 6, 2) := by decide +kernel
theorem dJ2_compress_5af95_39 : decode cJ2_compress_5af95 39 = .ok (.i2b, 1) := by decide +kernel
theorem dJ2_compress_5af95_40 : decode cJ2_compress_5af95 40 = .ok (.bastore, 1) := by decide +kernel
theorem dJ2_compress_5af95_41 : decode cJ2_compress_5af95 41 = .ok (.iinc 1 1, 3) := by decide +kernel
theorem dJ2_compress_5af95_44 : decode cJ2_compress_5af95 44 = .ok (.iinc 3 1, 3) := by decide +kernel
theorem dJ2_compress_5af95_47 : decode cJ2_compress_5af95 47 = .ok (.iinc 5 1, 3) := by decide +kernel
theorem dJ2_compress_5af95_50 : decode cJ2_compress_5af95 50 = .ok (.goto (-40), 3) := by decide +kernel
theorem dJ2_compress_5af95_53 : decode cJ2_compress_5af95 53 = .ok (.iload 4, 2) := by decide +kernel
theorem dJ2_compress_5af95_55 : decode cJ2_compress_5af95 55 = .ok (.ireturn, 1) := by decide +kernel
theorem dJ2_putCharSB_b72d1_0 : decode cJ2_putCharSB_b72d1 0 = .ok (.iload_n 1, 1) := by decide +kernel
theorem dJ2_putCharSB_b72d1_1 : decode cJ2_putCharSB_b72d1 1 = .ok (.aload_n 0, 1) := by decide +kernel
theorem dJ2_putCharSB_b72d1_2 : decode cJ2_putCharSB_b72d1 2 = .ok (.invokestatic 67, 3) := by decide +kernel
theorem dJ2_putCharSB_b72d1_5 : decode cJ2_putCharSB_b72d1 5 = .ok (.aload_n 0, 1) := by decide +kernel
theorem dJ2_putCharSB_b72d1_6 : decode cJ2_putCharSB_b72d1 6 = .ok (.iload_n 1, 1) := by decide +kernel
theorem dJ2_putCharSB_b72d1_7 : decode cJ2_putCharSB_b72d1 7 = .ok (.iload_n 2, 1) := by decide +kernel
theorem dJ2_putCharSB_b72d1_8 : decode cJ2_putCharSB_b72d1 8 = .ok (.invokestatic 111, 3) := by decide +kernel
theorem dJ2_putCharSB_b72d1_11 : decode cJ2_putCharSB_b72d1 11 = .ok (.return_, 1) := by decide +kernel
theorem dJ2_getChars_46870_0 : decode cJ2_getChars_46870 0 = .ok (.iload_n 1, 1) := by decide +kernel
theorem dJ2_getChars_46870_1 : decode cJ2_getChars_46870 1 = .ok (.iload_n 2, 1) := by decide +kernel
theorem dJ2_getChars_46870_2 : decode cJ2_getChars_46870 2 = .ok (.aload_n 3, 1) := by decide +kernel
theorem dJ2_getChars_46870_3 : decode cJ2_getChars_46870 3 = .ok (.invokestatic 96, 3) := by decide +kernel
theorem dJ2_getChars_46870_6 : decode cJ2_getChars_46870 6 = .ok (.iload_n 0, 1) := by decide +kernel
theorem dJ2_getChars_46870_7 : decode cJ2_getChars_46870 7 = .ok (.iload_n 2, 1) := by decide +kernel
theorem dJ2_getChars_46870_8 : decode cJ2_getChars_46870 8 = .ok (.aload_n 3, 1) := by decide +kernel
theorem dJ2_getChars_46870_9 : decode cJ2_getChars_46870 9 = .ok (.invokestatic 393, 3) := by decide +kernel
theorem dJ2_getChars_46870_12 : decode cJ2_getChars_46870 12 = .ok (.istore 4, 2) := by decide +kernel
theorem dJ2_getChars_46870_14 : decode cJ2_getChars_46870 14 = .ok (.getstatic 44, 3) := by decide +kernel
theorem dJ2_getChars_46870_17 : decode cJ2_getChars_46870 17 = .ok (.ifCond .ne 17, 3) := by decide +kernel
theorem dJ2_getChars_46870_20 : decode cJ2_getChars_46870 20 = .ok (.iload_n 1, 1) := by decide +kernel
theorem dJ2_getChars_46870_21 : decode cJ2_getChars_46870 21 = .ok (.iload 4, 2) := by decide +kernel
theorem dJ2_getChars_46870_23 : decode cJ2_getChars_46870 23 = .ok (.if_icmp .eq 11, 3) := by decide +kernel
theorem dJ2_getChars_46870_26 : decode cJ2_getChars_46870 26 = .ok (.new 52, 3) := by decide +kernel
theorem dJ2_getChars_46870_29 : decode cJ2_getChars_46870 29 = .ok (.dup, 1) := by decide +kernel
theorem dJ2_getChars_46870_30 : decode cJ2_getChars_46870 30 = .ok (.invokespecial 66, 3) := by decide +kernel
theorem dJ2_getChars_46870_33 : decode cJ2_getChars_46870 33 = .ok (.athrow, 1) := by decide +kernel
theorem dJ2_getChars_46870_34 : decode cJ2_getChars_46870 34 = .ok (.iload 4, 2) := by decide +kernel
theorem dJ2_getChars_46870_36 : decode cJ2_getChars_46870 36 = .ok (.ireturn, 1) := by decide +kernel
theorem dJ2_putCharsAt_cd4e5_0 : decode cJ2_putCharsAt_cd4e5 0 = .ok (.iload_n 1, 1) := by decide +kernel
theorem dJ2_putCharsAt_cd4e5_1 : decode cJ2_putCharsAt_cd4e5 1 = .ok (.iconst 4, 1) := by decide +kernel
theorem dJ2_putCharsAt_cd4e5_2 : decode cJ2_putCharsAt_cd4e5 2 = .ok (.iadd, 1) := by decide +kernel
theorem dJ2_putCharsAt_cd4e5_3 : decode cJ2_putCharsAt_cd4e5 3 = .ok (.istore 6, 2) := by decide +kernel
theorem dJ2_putCharsAt_cd4e5_5 : decode cJ2_putCharsAt_cd4e5 5 = .ok (.iload_n 1, 1) := by decide +kernel
theorem dJ2_putCharsAt_cd4e5_6 : decode cJ2_putCharsAt_cd4e5 6 = .ok (.iload 6, 2) := by decide +kernel
theorem dJ2_putCharsAt_cd4e5_8 : decode cJ2_putCharsAt_cd4e5 8 = .ok (.aload_n 0, 1) := by decide +kernel
theorem dJ2_putCharsAt_cd4e5_9 : decode cJ2_putCharsAt_cd4e5 9 = .ok (.invokestatic 96, 3) := by decide +kernel
theorem dJ2_putCharsAt_cd4e5_12 : decode cJ2_putCharsAt_cd4e5 12 = .ok (.aload_n 0, 1) := by decide +kernel
theorem dJ2_putCharsAt_cd4e5_13 : decode cJ2_putCharsAt_cd4e5 13 = .ok (.iload_n 1, 1) := by decide +kernel
theorem dJ2_putCharsAt_cd4e5_14 : decode cJ2_putCharsAt_cd4e5 14 = .ok (.iinc 1 1, 3) := by decide +kernel
theorem dJ2_putCharsAt_cd4e5_17 : decode cJ2_putCharsAt_cd4e5 17 = .ok (.iload_n 2, 1) := by decide +kernel
theorem dJ2_putCharsAt_cd4e5_18 : decode cJ2_putCharsAt_cd4e5 18 = .ok (.invokestatic 111, 3) := by decide +kernel
theorem dJ2_putCharsAt_cd4e5_21 : decode cJ2_putCharsAt_cd4e5 21 = .ok (.aload_n 0, 1) := by decide +kernel
theorem dJ2_putCharsAt_cd4e5_22 : decode cJ2_putCharsAt_cd4e5 22 = .ok (.iload_n 1, 1) := by decide +kernel
theorem dJ2_putCharsAt_cd4e5_23 : decode cJ2_putCharsAt_cd4e5 23 = .ok (.iinc 1 1, 3) := by decide +kernel
theorem dJ2_putCharsAt_cd4e5_26 : decode cJ2_putCharsAt_cd4e5 26 = .ok (.iload_n 3, 1) := by decide +kernel
theorem dJ2_putCharsAt_cd4e5_27 : decode cJ2_putCharsAt_cd4e5 27 = .ok (.invokestatic 111, 3) := by decide +kernel
theorem dJ2_putCharsAt_cd4e5_30 : decode cJ2_putCharsAt_cd4e5 30 = .ok (.aload_n 0, 1) := by decide +kernel
theorem dJ2_putCharsAt_cd4e5_31 : decode cJ2_putCharsAt_cd4e5 31 = .ok (.iload_n 1, 1) := by decide +kernel
theorem dJ2_putCharsAt_cd4e5_32 : decode cJ2_putCharsAt_cd4e5 32 = .ok (.iinc 1 1, 3) := by decide +kernel
theorem dJ2_putCharsAt_cd4e5_35 : decode cJ2_putCharsAt_cd4e5 35 = .ok (.iload 4, 2) := by decide +kernel
theorem dJ2_putCharsAt_cd4e5_37 : decode cJ2_putCharsAt_cd4e5 37 = .ok (.invokestatic 111, 3) := by decide +kernel
theorem dJ2_putCharsAt_cd4e5_40 : decode cJ2_putCharsAt_cd4e5 40 = .ok (.aload_n 0, 1) := by decide +kernel
theorem dJ2_putCharsAt_cd4e5_41 : decode cJ2_putCharsAt_cd4e5 41 = .ok (.iload_n 1, 1) := by decide +kernel
theorem dJ2_putCharsAt_cd4e5_42 : decode cJ2_putCharsAt_cd4e5 42 = .ok (.iinc 1 1, 3) := by decide +kernel
theorem dJ2_putCharsAt_cd4e5_45 : decode cJ2_putCharsAt_cd4e5 45 = .ok (.iload 5, 2) := by decide +kernel
theorem dJ2_putCharsAt_cd4e5_47 : decode cJ2_putCharsAt_cd4e5 47 = .ok (.invokestatic 111, 3) := by decide +kernel
theorem dJ2_putCharsAt_cd4e5_50 : decode cJ2_putCharsAt_cd4e5 50 = .ok (.getstatic 44, 3) := by decide +kernel
theorem dJ2_putCharsAt_cd4e5_53 : decode cJ2_putCharsAt_cd4e5 53 = .ok (.ifCond .ne 17, 3) := by decide +kernel
theorem dJ2_putCharsAt_cd4e5_56 : decode cJ2_putCharsAt_cd4e5 56 = .ok (.iload_n 1, 1) := by decide +kernel
theorem dJ2_putCharsAt_cd4e5_57 : decode cJ2_putCharsAt_cd4e5 57 = .ok (.iload 6, 2) := by decide +kernel
theorem dJ2_putCharsAt_cd4e5_59 : decode cJ2_putCharsAt_cd4e5 59 = .ok (.if_icmp .eq 11, 3) := by decide +kernel
theorem dJ2_putCharsAt_cd4e5_62 : decode cJ2_putCharsAt_cd4e5 62 = .ok (.new 52, 3) := by decide +kernel
theorem dJ2_putCharsAt_cd4e5_65 : decode cJ2_putCharsAt_cd4e5 65 = .ok (.dup, 1) := by decide +kernel
theorem dJ2_putCharsAt_cd4e5_66 : decode cJ2_putCharsAt_cd4e5 66 = .ok (.invokespecial 66, 3) := by decide +kernel
theorem dJ2_putCharsAt_cd4e5_69 : decode cJ2_putCharsAt_cd4e5 69 = .ok (.athrow, 1) := by decide +kernel
theorem dJ2_putCharsAt_cd4e5_70 : decode cJ2_putCharsAt_cd4e5 70 = .ok (.iload 6, 2) := by decide +kernel
theorem dJ2_putCharsAt_cd4e5_72 : decode cJ2_putCharsAt_cd4e5 72 = .ok (.ireturn, 1) := by decide +kernel
theorem dJ2_charAt_3b067_0 : decode cJ2_charAt_3b067 0 = .ok (.iload_n 1, 1) := by decide +kernel
theorem dJ2_charAt_3b067_1 : decode cJ2_charAt_3b067 1 = .ok (.aload_n 0, 1) := by decide +kernel
theorem dJ2_charAt_3b067_2 : decode cJ2_charAt_3b067 2 = .ok (.invokestatic 67, 3) := by decide +kernel
theorem dJ2_charAt_3b067_5 : decode cJ2_charAt_3b067 5 = .ok (.aload_n 0, 1) := by decide +kernel
theorem dJ2_charAt_3b067_6 : decode cJ2_charAt_3b067 6 = .ok (.iload_n 1, 1) := by decide +kernel
theorem dJ2_charAt_3b067_7 : decode cJ2_charAt_3b067 7 = .ok (.invokestatic 71, 3) := by decide +kernel
theorem dJ2_charAt_3b067_10 : decode cJ2_charAt_3b067 10 = .ok (.ireturn, 1) := by decide +kernel
theorem dJ2_inflate_0e8fd_0 : decode cJ2_inflate_0e8fd 0 = .ok (.iload_n 3, 1) := by decide +kernel
theorem dJ2_inflate_0e8fd_1 : decode cJ2_inflate_0e8fd 1 = .ok (.iload 4, 2) := by decide +kernel
theorem dJ2_inflate_0e8fd_3 : decode cJ2_inflate_0e8fd 3 = .ok (.aload_n 2, 1) := by decide +kernel
theorem dJ2_inflate_0e8fd_4 : decode cJ2_inflate_0e8fd 4 = .ok (.invokestatic 173, 3) := by decide +kernel
theorem dJ2_inflate_0e8fd_7 : decode cJ2_inflate_0e8fd 7 = .ok (.iconst 0, 1) := by decide +kernel
theorem dJ2_inflate_0e8fd_8 : decode cJ2_inflate_0e8fd 8 = .ok (.istore 5, 2) := by decide +kernel
theorem dJ2_inflate_0e8fd_10 : decode cJ2_inflate_0e8fd 10 = .ok (.iload 5, 2) := by decide +kernel
theorem dJ2_inflate_0e8fd_12 : decode cJ2_inflate_0e8fd 12 = .ok (.iload 4, 2) := by decide +kernel
theorem dJ2_inflate_0e8fd_14 : decode cJ2_inflate_0e8fd 14 = .ok (.if_icmp .ge 27, 3) := by decide +kernel
theorem dJ2_inflate_0e8fd_17 : decode cJ2_inflate_0e8fd 17 = .ok (.aload_n 2, 1) := by decide +kernel
theorem dJ2_inflate_0e8fd_18 : decode cJ2_inflate_0e8fd 18 = .ok (.iload_n 3, 1) := by decide +kernel
theorem dJ2_inflate_0e8fd_19 : decode cJ2_inflate_0e8fd 19 = .ok (.iinc 3 1, 3) := by decide +kernel
theorem dJ2_inflate_0e8fd_22 : decode cJ2_inflate_0e8fd 22 = .ok (.aload_n 0, 1) := by decide +kernel
theorem dJ2_inflate_0e8fd_23 : decode cJ2_inflate_0e8fd 23 = .ok (.iload_n 1, 1) := by decide +kernel
theorem dJ2_inflate_0e8fd_24 : decode cJ2_inflate_0e8fd 24 = .ok (.iinc 1 1, 3) := by decide +kernel
theorem dJ2_inflate_0e8fd_27 : decode cJ2_inflate_0e8fd 27 = .ok (.baload, 1) := by decide +kernel
theorem dJ2_inflate_0e8fd_28 : decode cJ2_inflate_0e8fd 28 = .ok (.sipush 255, 3) := by decide +kernel
theorem dJ2_inflate_0e8fd_31 : decode cJ2_inflate_0e8fd 31 = .ok (.iand, 1) := by decide +kernel
theorem dJ2_inflate_0e8fd_32 : decode cJ2_inflate_0e8fd 32 = .ok (.invokestatic 111, 3) := by decide +kernel
theorem dJ2_inflate_0e8fd_35 : decode cJ2_inflate_0e8fd 35 = .ok (.iinc 5 1, 3) := by decide +kernel
theorem dJ2_inflate_0e8fd_38 : decode cJ2_inflate_0e8fd 38 = .ok (.goto (-28), 3) := by decide +kernel
theorem dJ2_inflate_0e8fd_41 : decode cJ2_inflate_0e8fd 41 = .ok (.return_, 1) := by decide +kernel
theorem dJ2_getChars_ba4f3_0 : decode cJ2_getChars_ba4f3 0 = .ok (.iload_n 1, 1) := by decide +kernel
theorem dJ2_getChars_ba4f3_1 : decode cJ2_getChars_ba4f3 1 = .ok (.istore 5, 2) := by decide +kernel
theorem dJ2_getChars_ba4f3_3 : decode cJ2_getChars_ba4f3 3 = .ok (.iload_n 0, 1) := by decide +kernel
theorem dJ2_getChars_ba4f3_4 : decode cJ2_getChars_ba4f3 4 = .ok (.ifCond .ge 7, 3) := by decide +kernel
theorem dJ2_getChars_ba4f3_7 : decode cJ2_getChars_ba4f3 7 = .ok (.iconst 1, 1) := by decide +kernel
theorem dJ2_getChars_ba4f3_8 : decode cJ2_getChars_ba4f3 8 = .ok (.goto 4, 3) := by decide +kernel
theorem dJ2_getChars_ba4f3_11 : decode cJ2_getChars_ba4f3 11 = .ok (.iconst 0, 1) := by decide +kernel
theorem dJ2_getChars_ba4f3_12 : decode cJ2_getChars_ba4f3 12 = .ok (.istore 6, 2) := by decide +kernel
theorem dJ2_getChars_ba4f3_14 : decode cJ2_getChars_ba4f3 14 = .ok (.iload 6, 2) := by decide +kernel
theorem dJ2_getChars_ba4f3_16 : decode cJ2_getChars_ba4f3 16 = .ok (.ifCond .ne 6, 3) := by decide +kernel
theorem dJ2_getChars_ba4f3_19 : decode cJ2_getChars_ba4f3 19 = .ok (.iload_n 0, 1) := by decide +kernel
theorem dJ2_getChars_ba4f3_20 : decode cJ2_getChars_ba4f3 20 = .ok (.ineg, 1) := by decide +kernel
theorem dJ2_getChars_ba4f3_21 : decode cJ2_getChars_ba4f3 21 = .ok (.istore_n 0, 1) := by decide +kernel
theorem dJ2_getChars_ba4f3_22 : decode cJ2_getChars_ba4f3 22 = .ok (.iload_n 0, 1) := by decide +kernel
theorem dJ2_getChars_ba4f3_23 : decode cJ2_getChars_ba4f3 23 = .ok (.bipush (-100), 2) := by decide +kernel
theorem dJ2_getChars_ba4f3_25 : decode cJ2_getChars_ba4f3 25 = .ok (.if_icmp .gt 51, 3) := by decide +kernel
theorem dJ2_getChars_ba4f3_28 : decode cJ2_getChars_ba4f3 28 = .ok (.iload_n 0, 1) := by decide +kernel
theorem dJ2_getChars_ba4f3_29 : decode cJ2_getChars_ba4f3 29 = .ok (.bipush 100, 2) := by decide +kernel
theorem dJ2_getChars_ba4f3_31 : decode cJ2_getChars_ba4f3 31 = .ok (.idiv, 1) := by decide +kernel
theorem dJ2_getChars_ba4f3_32 : decode cJ2_getChars_ba4f3 32 = .ok (.istore_n 3, 1) := by decide +kernel
theorem dJ2_getChars_ba4f3_33 : decode cJ2_getChars_ba4f3 33 = .ok (.iload_n 3, 1) := by decide +kernel
theorem dJ2_getChars_ba4f3_34 : decode cJ2_getChars_ba4f3 34 = .ok (.bipush 100, 2) := by decide +kernel
theorem dJ2_getChars_ba4f3_36 : decode cJ2_getChars_ba4f3 36 = .ok (.imul, 1) := by decide +kernel
theorem dJ2_getChars_ba4f3_37 : decode cJ2_getChars_ba4f3 37 = .ok (.iload_n 0, 1) := by decide +kernel
theorem dJ2_getChars_ba4f3_38 : decode cJ2_getChars_ba4f3 38 = .ok (.isub, 1) := by decide +kernel
theorem dJ2_getChars_ba4f3_39 : decode cJ2_getChars_ba4f3 39 = .ok (.istore 4, 2) := by decide +kernel
theorem dJ2_getChars_ba4f3_41 : decode cJ2_getChars_ba4f3 41 = .ok (.iload_n 3, 1) := by decide +kernel
theorem dJ2_getChars_ba4f3_42 : decode cJ2_getChars_ba4f3 42 = .ok (.istore_n 0, 1) := by decide +kernel
theorem dJ2_getChars_ba4f3_43 : decode cJ2_getChars_ba4f3 43 = .ok (.aload_n 2, 1) := by decide +kernel
theorem dJ2_getChars_ba4f3_44 : decode cJ2_getChars_ba4f3 44 = .ok (.iinc 5 (-1), 3) := by decide +kernel
theorem dJ2_getChars_ba4f3_47 : decode cJ2_getChars_ba4f3 47 = .ok (.iload 5, 2) := by decide +kernel
theorem dJ2_getChars_ba4f3_49 : decode cJ2_getChars_ba4f3 49 = .ok (.getstatic 403, 3) := by decide +kernel
theorem dJ2_getChars_ba4f3_52 : decode cJ2_getChars_ba4f3 52 = .ok (.iload 4, 2) := by decide +kernel
theorem dJ2_getChars_ba4f3_54 : decode cJ2_getChars_ba4f3 54 = .ok (.baload, 1) := by decide +kernel
theorem dJ2_getChars_ba4f3_55 : decode cJ2_getChars_ba4f3 55 = .ok (.invokestatic 111, 3) := by decide +kernel
theorem dJ2_getChars_ba4f3_58 : decode cJ2_getChars_ba4f3 58 = .ok (.aload_n 2, 1) := by decide +kernel
theorem dJ2_getChars_ba4f3_59 : decode cJ2_getChars_ba4f3 59 = .ok (.iinc 5 (-1), 3) := by decide +kernel
theorem dJ2_getChars_ba4f3_62 : decode cJ2_getChars_ba4f3 62 = .ok (.iload 5, 2) := by decide +kernel
theorem dJ2_getChars_ba4f3_64 : decode cJ2_getChars_ba4f3 64 = .ok (.getstatic 407, 3) := by decide +kernel
theorem dJ2_getChars_ba4f3_67 : decode cJ2_getChars_ba4f3 67 = .ok (.iload 4, 2) := by decide +kernel
theorem dJ2_getChars_ba4f3_69 : decode cJ2_getChars_ba4f3 69 = .ok (.baload, 1) := by decide +kernel
theorem dJ2_getChars_ba4f3_70 : decode cJ2_getChars_ba4f3 70 = .ok (.invokestatic 111, 3) := by decide +kernel
theorem dJ2_getChars_ba4f3_73 : decode cJ2_getChars_ba4f3 73 = .ok (.goto (-51), 3) := by decide +kernel
theorem dJ2_getChars_ba4f3_76 : decode cJ2_getChars_ba4f3 76 = .ok (.aload_n 2, 1) := by decide +kernel
theorem dJ2_getChars_ba4f3_77 : decode cJ2_getChars_ba4f3 77 = .ok (.iinc 5 (-1), 3) := by decide +kernel
theorem dJ2_getChars_ba4f3_80 : decode cJ2_getChars_ba4f3 80 = .ok (.iload 5, 2) := by decide +kernel
theorem dJ2_getChars_ba4f3_82 : decode cJ2_getChars_ba4f3 82 = .ok (.getstatic 403, 3) := by decide +kernel
theorem dJ2_getChars_ba4f3_85 : decode cJ2_getChars_ba4f3 85 = .ok (.iload_n 0, 1) := by decide +kernel
theorem dJ2_getChars_ba4f3_86 : decode cJ2_getChars_ba4f3 86 = .ok (.ineg, 1) := by decide +kernel
theorem dJ2_getChars_ba4f3_87 : decode cJ2_getChars_ba4f3 87 = .ok (.baload, 1) := by decide +kernel
theorem dJ2_getChars_ba4f3_88 : decode cJ2_getChars_ba4f3 88 = .ok (.invokestatic 111, 3) := by decide +kernel
theorem dJ2_getChars_ba4f3_91 : decode cJ2_getChars_ba4f3 91 = .ok (.iload_n 0, 1) := by decide +kernel
theorem dJ2_getChars_ba4f3_92 : decode cJ2_getChars_ba4f3 92 = .ok (.bipush (-9), 2) := by decide +kernel
theorem dJ2_getChars_ba4f3_94 : decode cJ2_getChars_ba4f3 94 = .ok (.if_icmp .ge 18, 3) := by decide +kernel
theorem dJ2_getChars_ba4f3_97 : decode cJ2_getChars_ba4f3 97 = .ok (.aload_n 2, 1) := by decide +kernel
theorem dJ2_getChars_ba4f3_98 : decode cJ2_getChars_ba4f3 98 = .ok (.iinc 5 (-1), 3) := by decide +kernel
theorem dJ2_getChars_ba4f3_101 : decode cJ2_getChars_ba4f3 101 = .ok (.iload 5, 2) := by decide +kernel
theorem dJ2_getChars_ba4f3_103 : decode cJ2_getChars_ba4f3 103 = .ok (.getstatic 407, 3) := by decide +kernel
theorem dJ2_getChars_ba4f3_106 : decode cJ2_getChars_ba4f3 106 = .ok (.iload_n 0, 1) := by decide +kernel
theorem dJ2_getChars_ba4f3_107 : decode cJ2_getChars_ba4f3 107 = .ok (.ineg, 1) := by decide +kernel
theorem dJ2_getChars_ba4f3_108 : decode cJ2_getChars_ba4f3 108 = .ok (.baload, 1) := by decide +kernel
theorem dJ2_getChars_ba4f3_109 : decode cJ2_getChars_ba4f3 109 = .ok (.invokestatic 111, 3) := by decide +kernel
theorem dJ2_getChars_ba4f3_112 : decode cJ2_getChars_ba4f3 112 = .ok (.iload 6, 2) := by decide +kernel
theorem dJ2_getChars_ba4f3_114 : decode cJ2_getChars_ba4f3 114 = .ok (.ifCond .eq 14, 3) := by decide +kernel
theorem dJ2_getChars_ba4f3_117 : decode cJ2_getChars_ba4f3 117 = .ok (.aload_n 2, 1) := by decide +kernel
theorem dJ2_getChars_ba4f3_118 : decode cJ2_getChars_ba4f3 118 = .ok (.iinc 5 (-1), 3) := by decide +kernel
theorem dJ2_getChars_ba4f3_121 : decode cJ2_getChars_ba4f3 121 = .ok (.iload 5, 2) := by decide +kernel
theorem dJ2_getChars_ba4f3_123 : decode cJ2_getChars_ba4f3 123 = .ok (.bipush 45, 2) := by decide +kernel
theorem dJ2_getChars_ba4f3_125 : decode cJ2_getChars_ba4f3 125 = .ok (.invokestatic 111, 3) := by decide +kernel
theorem dJ2_getChars_ba4f3_128 : decode cJ2_getChars_ba4f3 128 = .ok (.iload 5, 2) := by decide +kernel
theorem dJ2_getChars_ba4f3_130 : decode cJ2_getChars_ba4f3 130 = .ok (.ireturn, 1) := by decide +kernel
theorem dJ2_checkIndex_2214a_0 : decode cJ2_checkIndex_2214a 0 = .ok (.iload_n 0, 1) := by decide +kernel
theorem dJ2_checkIndex_2214a_1 : decode cJ2_checkIndex_2214a 1 = .ok (.aload_n 1, 1) := by decide +kernel
theorem dJ2_checkIndex_2214a_2 : decode cJ2_checkIndex_2214a 2 = .ok (.invokestatic 48, 3) := by decide +kernel
theorem dJ2_checkIndex_2214a_5 : decode cJ2_checkIndex_2214a 5 = .ok (.invokestatic 414, 3) := by decide +kernel
theorem dJ2_checkIndex_2214a_8 : decode cJ2_checkIndex_2214a 8 = .ok (.return_, 1) := by decide +kernel
theorem dJ2_checkBoundsBeginEnd_d044e_0 : decode cJ2_checkBoundsBeginEnd_d044e 0 = .ok (.iload_n 0, 1) := by decide +kernel
theorem dJ2_checkBoundsBeginEnd_d044e_1 : decode cJ2_checkBoundsBeginEnd_d044e 1 = .ok (.iload_n 1, 1) := by decide +kernel
theorem dJ2_checkBoundsBeginEnd_d044e_2 : decode cJ2_checkBoundsBeginEnd_d044e 2 = .ok (.aload_n 2, 1) := by decide +kernel
theorem dJ2_checkBoundsBeginEnd_d044e_3 : decode cJ2_checkBoundsBeginEnd_d044e 3 = .ok (.invokestatic 48, 3) := by decide +kernel
theorem dJ2_checkBoundsBeginEnd_d044e_6 : decode cJ2_checkBoundsBeginEnd_d044e 6 = .ok (.invokestatic 241, 3) := by decide +kernel
theorem dJ2_checkBoundsBeginEnd_d044e_9 : decode cJ2_checkBoundsBeginEnd_d044e 9 = .ok (.return_, 1) := by decide +kernel
theorem dJ2_checkBoundsOffCount_d044e_0 : decode cJ2_checkBoundsOffCount_d044e 0 = .ok (.iload_n 0, 1) := by decide +kernel
theorem dJ2_checkBoundsOffCount_d044e_1 : decode cJ2_checkBoundsOffCount_d044e 1 = .ok (.iload_n 1, 1) := by decide +kernel
theorem dJ2_checkBoundsOffCount_d044e_2 : decode cJ2_checkBoundsOffCount_d044e 2 = .ok (.aload_n 2, 1) := by decide +kernel
theorem dJ2_checkBoundsOffCount_d044e_3 : decode cJ2_checkBoundsOffCount_d044e 3 = .ok (.invokestatic 48, 3) := by decide +kernel
theorem dJ2_checkBoundsOffCount_d044e_6 : decode cJ2_checkBoundsOffCount_d044e 6 = .ok (.invokestatic 419, 3) := by decide +kernel
theorem dJ2_checkBoundsOffCount_d044e_9 : decode cJ2_checkBoundsOffCount_d044e 9 = .ok (.pop, 1) := by decide +kernel
theorem dJ2_checkBoundsOffCount_d044e_10 : decode cJ2_checkBoundsOffCount_d044e 10 = .ok (.return_, 1) := by decide +kernel
theorem dJ7_copyOf_9075b_0 : decode cJ7_copyOf_9075b 0 = .ok (.iload_n 1, 1) := by decide +kernel
theorem dJ7_copyOf_9075b_1 : decode cJ7_copyOf_9075b 1 = .ok (.aload_n 0, 1) := by decide +kernel
theorem dJ7_copyOf_9075b_2 : decode cJ7_copyOf_9075b 2 = .ok (.arraylength, 1) := by decide +kernel
theorem dJ7_copyOf_9075b_3 : decode cJ7_copyOf_9075b 3 = .ok (.if_icmp .ne 11, 3) := by decide +kernel
theorem dJ7_copyOf_9075b_6 : decode cJ7_copyOf_9075b 6 = .ok (.aload_n 0, 1) := by decide +kernel
theorem dJ7_copyOf_9075b_7 : decode cJ7_copyOf_9075b 7 = .ok (.invokevirtual 310, 3) := by decide +kernel
theorem dJ7_copyOf_9075b_10 : decode cJ7_copyOf_9075b 10 = .ok (.checkcast 311, 3) := by decide +kernel
theorem dJ7_copyOf_9075b_13 : decode cJ7_copyOf_9075b 13 = .ok (.areturn, 1) := by decide +kernel
theorem dJ7_copyOf_9075b_14 : decode cJ7_copyOf_9075b 14 = .ok (.iload_n 1, 1) := by decide +kernel
theorem dJ7_copyOf_9075b_15 : decode cJ7_copyOf_9075b 15 = .ok (.newarray .byte, 2) := by decide +kernel
theorem dJ7_copyOf_9075b_17 : decode cJ7_copyOf_9075b 17 = .ok (.astore_n 2, 1) := by decide +kernel
theorem dJ7_copyOf_9075b_18 : decode cJ7_copyOf_9075b 18 = .ok (.aload_n 0, 1) := by decide +kernel
theorem dJ7_copyOf_9075b_19 : decode cJ7_copyOf_9075b 19 = .ok (.iconst 0, 1) := by decide +kernel
theorem dJ7_copyOf_9075b_20 : decode cJ7_copyOf_9075b 20 = .ok (.aload_n 2, 1) := by decide +kernel
theorem dJ7_copyOf_9075b_21 : decode cJ7_copyOf_9075b 21 = .ok (.iconst 0, 1) := by decide +kernel
theorem dJ7_copyOf_9075b_22 : decode cJ7_copyOf_9075b 22 = .ok (.aload_n 0, 1) := by decide +kernel
theorem dJ7_copyOf_9075b_23 : decode cJ7_copyOf_9075b 23 = .ok (.arraylength, 1) := by decide +kernel
theorem dJ7_copyOf_9075b_24 : decode cJ7_copyOf_9075b 24 = .ok (.iload_n 1, 1) := by decide +kernel
theorem dJ7_copyOf_9075b_25 : decode cJ7_copyOf_9075b 25 = .ok (.invokestatic 304, 3) := by decide +kernel
theorem dJ7_copyOf_9075b_28 : decode cJ7_copyOf_9075b 28 = .ok (.invokestatic 150, 3) := by decide +kernel
theorem dJ7_copyOf_9075b_31 : decode cJ7_copyOf_9075b 31 = .ok (.aload_n 2, 1) := by decide +kernel
theorem dJ7_copyOf_9075b_32 : decode cJ7_copyOf_9075b 32 = .ok (.areturn, 1) := by decide +kernel
theorem dJ7_checkLength_df160_0 : decode cJ7_checkLength_df160 0 = .ok (.iload_n 1, 1) := by decide +kernel
theorem dJ7_checkLength_df160_1 : decode cJ7_checkLength_df160 1 = .ok (.iload_n 0, 1) := by decide +kernel
theorem dJ7_checkLength_df160_2 : decode cJ7_checkLength_df160 2 = .ok (.if_icmp .ge 35, 3) := by decide +kernel
theorem dJ7_checkLength_df160_5 : decode cJ7_checkLength_df160 5 = .ok (.new 43, 3) := by decide +kernel
theorem dJ7_checkLength_df160_8 : decode cJ7_checkLength_df160 8 = .ok (.dup, 1) := by decide +kernel
theorem dJ7_checkLength_df160_9 : decode cJ7_checkLength_df160 9 = .ok (.new 45, 3) := by decide +kernel
theorem dJ7_checkLength_df160_12 : decode cJ7_checkLength_df160 12 = .ok (.dup, 1) := by decide +kernel
theorem dJ7_checkLength_df160_13 : decode cJ7_checkLength_df160 13 = .ok (.invokespecial 47, 3) := by decide +kernel
theorem dJ7_checkLength_df160_16 : decode cJ7_checkLength_df160 16 = .ok (.iload_n 0, 1) := by decide +kernel
theorem dJ7_checkLength_df160_17 : decode cJ7_checkLength_df160 17 = .ok (.invokevirtual 54, 3) := by decide +kernel
theorem dJ7_checkLength_df160_20 : decode cJ7_checkLength_df160 20 = .ok (.ldc_w 337, 3) := by decide +kernel
theorem dJ7_checkLength_df160_23 : decode cJ7_checkLength_df160 23 = .ok (.invokevirtual 50, 3) := by decide +kernel
theorem dJ7_checkLength_df160_26 : decode cJ7_checkLength_df160 26 = .ok (.iload_n 1, 1) := by decide +kernel
theorem dJ7_checkLength_df160_27 : decode cJ7_checkLength_df160 27 = .ok (.invokevirtual 54, 3) := by decide +kernel
theorem dJ7_checkLength_df160_30 : decode cJ7_checkLength_df160 30 = .ok (.invokevirtual 61, 3) := by decide +kernel
theorem dJ7_checkLength_df160_33 : decode cJ7_checkLength_df160 33 = .ok (.invokespecial 65, 3) := by decide +kernel
theorem dJ7_checkLength_df160_36 : decode cJ7_checkLength_df160 36 = .ok (.athrow, 1) := by decide +kernel
theorem dJ7_checkLength_df160_37 : decode cJ7_checkLength_df160 37 = .ok (.return_, 1) := by decide +kernel
theorem dJ7_copyOfRange_39247_0 : decode cJ7_copyOfRange_39247 0 = .ok (.iload_n 1, 1) := by decide +kernel
theorem dJ7_copyOfRange_39247_1 : decode cJ7_copyOfRange_39247 1 = .ok (.ifCond .ne 9, 3) := by decide +kernel
theorem dJ7_copyOfRange_39247_4 : decode cJ7_copyOfRange_39247 4 = .ok (.iload_n 2, 1) := by decide +kernel
theorem dJ7_copyOfRange_39247_5 : decode cJ7_copyOfRange_39247 5 = .ok (.aload_n 0, 1) := by decide +kernel
theorem dJ7_copyOfRange_39247_6 : decode cJ7_copyOfRange_39247 6 = .ok (.arraylength, 1) := by decide +kernel
theorem dJ7_copyOfRange_39247_7 : decode cJ7_copyOfRange_39247 7 = .ok (.if_icmp .eq 10, 3) := by decide +kernel
theorem dJ7_copyOfRange_39247_10 : decode cJ7_copyOfRange_39247 10 = .ok (.aload_n 0, 1) := by decide +kernel
theorem dJ7_copyOfRange_39247_11 : decode cJ7_copyOfRange_39247 11 = .ok (.iload_n 1, 1) := by decide +kernel
theorem dJ7_copyOfRange_39247_12 : decode cJ7_copyOfRange_39247 12 = .ok (.iload_n 2, 1) := by decide +kernel
theorem dJ7_copyOfRange_39247_13 : decode cJ7_copyOfRange_39247 13 = .ok (.invokestatic 339, 3) := by decide +kernel
theorem dJ7_copyOfRange_39247_16 : decode cJ7_copyOfRange_39247 16 = .ok (.areturn, 1) := by decide +kernel
theorem dJ7_copyOfRange_39247_17 : decode cJ7_copyOfRange_39247 17 = .ok (.aload_n 0, 1) := by decide +kernel
theorem dJ7_copyOfRange_39247_18 : decode cJ7_copyOfRange_39247 18 = .ok (.invokevirtual 310, 3) := by decide +kernel
theorem dJ7_copyOfRange_39247_21 : decode cJ7_copyOfRange_39247 21 = .ok (.checkcast 311, 3) := by decide +kernel
theorem dJ7_copyOfRange_39247_24 : decode cJ7_copyOfRange_39247 24 = .ok (.areturn, 1) := by decide +kernel
theorem dJ7_copyOfRangeByte_39247_0 : decode cJ7_copyOfRangeByte_39247 0 = .ok (.iload_n 1, 1) := by decide +kernel
theorem dJ7_copyOfRangeByte_39247_1 : decode cJ7_copyOfRangeByte_39247 1 = .ok (.iload_n 2, 1) := by decide +kernel
theorem dJ7_copyOfRangeByte_39247_2 : decode cJ7_copyOfRangeByte_39247 2 = .ok (.invokestatic 343, 3) := by decide +kernel
theorem dJ7_copyOfRangeByte_39247_5 : decode cJ7_copyOfRangeByte_39247 5 = .ok (.iload_n 2, 1) := by decide +kernel
theorem dJ7_copyOfRangeByte_39247_6 : decode cJ7_copyOfRangeByte_39247 6 = .ok (.iload_n 1, 1) := by decide +kernel
theorem dJ7_copyOfRangeByte_39247_7 : decode cJ7_copyOfRangeByte_39247 7 = .ok (.isub, 1) := by decide +kernel
theorem dJ7_copyOfRangeByte_39247_8 : decode cJ7_copyOfRangeByte_39247 8 = .ok (.istore_n 3, 1) := by decide +kernel
theorem dJ7_copyOfRangeByte_39247_9 : decode cJ7_copyOfRangeByte_39247 9 = .ok (.iload_n 3, 1) := by decide +kernel
theorem dJ7_copyOfRangeByte_39247_10 : decode cJ7_copyOfRangeByte_39247 10 = .ok (.newarray .byte, 2) := by decide +kernel
theorem dJ7_copyOfRangeByte_39247_12 : decode cJ7_copyOfRangeByte_39247 12 = .ok (.astore 4, 2) := by decide +kernel
theorem dJ7_copyOfRangeByte_39247_14 : decode cJ7_copyOfRangeByte_39247 14 = .ok (.aload_n 0, 1) := by decide +kernel
theorem dJ7_copyOfRangeByte_39247_15 : decode cJ7_copyOfRangeByte_39247 15 = .ok (.iload_n 1, 1) := by decide +kernel
theorem dJ7_copyOfRangeByte_39247_16 : decode cJ7_copyOfRangeByte_39247 16 = .ok (.aload 4, 2) := by decide +kernel
theorem dJ7_copyOfRangeByte_39247_18 : decode cJ7_copyOfRangeByte_39247 18 = .ok (.iconst 0, 1) := by decide +kernel
theorem dJ7_copyOfRangeByte_39247_19 : decode cJ7_copyOfRangeByte_39247 19 = .ok (.aload_n 0, 1) := by decide +kernel
theorem dJ7_copyOfRangeByte_39247_20 : decode cJ7_copyOfRangeByte_39247 20 = .ok (.arraylength, 1) := by decide +kernel
theorem dJ7_copyOfRangeByte_39247_21 : decode cJ7_copyOfRangeByte_39247 21 = .ok (.iload_n 1, 1) := by decide +kernel
theorem dJ7_copyOfRangeByte_39247_22 : decode cJ7_copyOfRangeByte_39247 22 = .ok (.isub, 1) := by decide +kernel
theorem dJ7_copyOfRangeByte_39247_23 : decode cJ7_copyOfRangeByte_39247 23 = .ok (.iload_n 3, 1) := by decide +kernel
theorem dJ7_copyOfRangeByte_39247_24 : decode cJ7_copyOfRangeByte_39247 24 = .ok (.invokestatic 304, 3) := by decide +kernel
theorem dJ7_copyOfRangeByte_39247_27 : decode cJ7_copyOfRangeByte_39247 27 = .ok (.invokestatic 150, 3) := by decide +kernel
theorem dJ7_copyOfRangeByte_39247_30 : decode cJ7_copyOfRangeByte_39247 30 = .ok (.aload 4, 2) := by decide +kernel
theorem dJ7_copyOfRangeByte_39247_32 : decode cJ7_copyOfRangeByte_39247 32 = .ok (.areturn, 1) := by decide +kernel
theorem dJ8_newLength_cabcc_0 : decode cJ8_newLength_cabcc 0 = .ok (.iload_n 0, 1) := by decide +kernel
theorem dJ8_newLength_cabcc_1 : decode cJ8_newLength_cabcc 1 = .ok (.iload_n 1, 1) := by decide +kernel
theorem dJ8_newLength_cabcc_2 : decode cJ8_newLength_cabcc 2 = .ok (.iload_n 2, 1) := by decide +kernel
theorem dJ8_newLength_cabcc_3 : decode cJ8_newLength_cabcc 3 = .ok (.invokestatic 194, 3) := by decide +kernel
theorem dJ8_newLength_cabcc_6 : decode cJ8_newLength_cabcc 6 = .ok (.iadd, 1) := by decide +kernel
theorem dJ8_newLength_cabcc_7 : decode cJ8_newLength_cabcc 7 = .ok (.istore_n 3, 1) := by decide +kernel
theorem dJ8_newLength_cabcc_8 : decode cJ8_newLength_cabcc 8 = .ok (.iconst 0, 1) := by decide +kernel
theorem dJ8_newLength_cabcc_9 : decode cJ8_newLength_cabcc 9 = .ok (.iload_n 3, 1) := by decide +kernel
theorem dJ8_newLength_cabcc_10 : decode cJ8_newLength_cabcc 10 = .ok (.if_icmp .ge 11, 3) := by decide +kernel
theorem dJ8_newLength_cabcc_13 : decode cJ8_newLength_cabcc 13 = .ok (.iload_n 3, 1) := by decide +kernel
theorem dJ8_newLength_cabcc_14 : decode cJ8_newLength_cabcc 14 = .ok (.ldc 200, 2) := by decide +kernel
theorem dJ8_newLength_cabcc_16 : decode cJ8_newLength_cabcc 16 = .ok (.if_icmp .gt 5, 3) := by decide +kernel
theorem dJ8_newLength_cabcc_19 : decode cJ8_newLength_cabcc 19 = .ok (.iload_n 3, 1) := by decide +kernel
theorem dJ8_newLength_cabcc_20 : decode cJ8_newLength_cabcc 20 = .ok (.ireturn, 1) := by decide +kernel
theorem dJ8_newLength_cabcc_21 : decode cJ8_newLength_cabcc 21 = .ok (.iload_n 0, 1) := by decide +kernel
theorem dJ8_newLength_cabcc_22 : decode cJ8_newLength_cabcc 22 = .ok (.iload_n 1, 1) := by decide +kernel
theorem dJ8_newLength_cabcc_23 : decode cJ8_newLength_cabcc 23 = .ok (.invokestatic 201, 3) := by decide +kernel
theorem dJ8_newLength_cabcc_26 : decode cJ8_newLength_cabcc 26 = .ok (.ireturn, 1) := by decide +kernel
theorem dJ8_hugeLength_7cf53_0 : decode cJ8_hugeLength_7cf53 0 = .ok (.iload_n 0, 1) := by decide +kernel
theorem dJ8_hugeLength_7cf53_1 : decode cJ8_hugeLength_7cf53 1 = .ok (.iload_n 1, 1) := by decide +kernel
theorem dJ8_hugeLength_7cf53_2 : decode cJ8_hugeLength_7cf53 2 = .ok (.iadd, 1) := by decide +kernel
theorem dJ8_hugeLength_7cf53_3 : decode cJ8_hugeLength_7cf53 3 = .ok (.istore_n 2, 1) := by decide +kernel
theorem dJ8_hugeLength_7cf53_4 : decode cJ8_hugeLength_7cf53 4 = .ok (.iload_n 2, 1) := by decide +kernel
theorem dJ8_hugeLength_7cf53_5 : decode cJ8_hugeLength_7cf53 5 = .ok (.ifCond .ge 44, 3) := by decide +kernel
theorem dJ8_hugeLength_7cf53_8 : decode cJ8_hugeLength_7cf53 8 = .ok (.new 204, 3) := by decide +kernel
theorem dJ8_hugeLength_7cf53_11 : decode cJ8_hugeLength_7cf53 11 = .ok (.dup, 1) := by decide +kernel
theorem dJ8_hugeLength_7cf53_12 : decode cJ8_hugeLength_7cf53 12 = .ok (.new 89, 3) := by decide +kernel
theorem dJ8_hugeLength_7cf53_15 : decode cJ8_hugeLength_7cf53 15 = .ok (.dup, 1) := by decide +kernel
theorem dJ8_hugeLength_7cf53_16 : decode cJ8_hugeLength_7cf53 16 = .ok (.invokespecial 91, 3) := by decide +kernel
theorem dJ8_hugeLength_7cf53_19 : decode cJ8_hugeLength_7cf53 19 = .ok (.ldc 206, 2) := by decide +kernel
theorem dJ8_hugeLength_7cf53_21 : decode cJ8_hugeLength_7cf53 21 = .ok (.invokevirtual 94, 3) := by decide +kernel
theorem dJ8_hugeLength_7cf53_24 : decode cJ8_hugeLength_7cf53 24 = .ok (.iload_n 0, 1) := by decide +kernel
theorem dJ8_hugeLength_7cf53_25 : decode cJ8_hugeLength_7cf53 25 = .ok (.invokevirtual 98, 3) := by decide +kernel
theorem dJ8_hugeLength_7cf53_28 : decode cJ8_hugeLength_7cf53 28 = .ok (.ldc 208, 2) := by decide +kernel
theorem dJ8_hugeLength_7cf53_30 : decode cJ8_hugeLength_7cf53 30 = .ok (.invokevirtual 94, 3) := by decide +kernel
theorem dJ8_hugeLength_7cf53_33 : decode cJ8_hugeLength_7cf53 33 = .ok (.iload_n 1, 1) := by decide +kernel
theorem dJ8_hugeLength_7cf53_34 : decode cJ8_hugeLength_7cf53 34 = .ok (.invokevirtual 98, 3) := by decide +kernel
theorem dJ8_hugeLength_7cf53_37 : decode cJ8_hugeLength_7cf53 37 = .ok (.ldc 210, 2) := by decide +kernel
theorem dJ8_hugeLength_7cf53_39 : decode cJ8_hugeLength_7cf53 39 = .ok (.invokevirtual 94, 3) := by decide +kernel
theorem dJ8_hugeLength_7cf53_42 : decode cJ8_hugeLength_7cf53 42 = .ok (.invokevirtual 101, 3) := by decide +kernel
theorem dJ8_hugeLength_7cf53_45 : decode cJ8_hugeLength_7cf53 45 = .ok (.invokespecial 212, 3) := by decide +kernel
theorem dJ8_hugeLength_7cf53_48 : decode cJ8_hugeLength_7cf53 48 = .ok (.athrow, 1) := by decide +kernel
theorem dJ8_hugeLength_7cf53_49 : decode cJ8_hugeLength_7cf53 49 = .ok (.iload_n 2, 1) := by decide +kernel
theorem dJ8_hugeLength_7cf53_50 : decode cJ8_hugeLength_7cf53 50 = .ok (.ldc 200, 2) := by decide +kernel
theorem dJ8_hugeLength_7cf53_52 : decode cJ8_hugeLength_7cf53 52 = .ok (.if_icmp .gt 6, 3) := by decide +kernel
theorem dJ8_hugeLength_7cf53_55 : decode cJ8_hugeLength_7cf53 55 = .ok (.ldc 200, 2) := by decide +kernel
theorem dJ8_hugeLength_7cf53_57 : decode cJ8_hugeLength_7cf53 57 = .ok (.ireturn, 1) := by decide +kernel
theorem dJ8_hugeLength_7cf53_58 : decode cJ8_hugeLength_7cf53 58 = .ok (.iload_n 2, 1) := by decide +kernel
theorem dJ8_hugeLength_7cf53_59 : decode cJ8_hugeLength_7cf53 59 = .ok (.ireturn, 1) := by decide +kernel
theorem dJ3_checkIndex_8e157_0 : decode cJ3_checkIndex_8e157 0 = .ok (.iload_n 0, 1) := by decide +kernel
theorem dJ3_checkIndex_8e157_1 : decode cJ3_checkIndex_8e157 1 = .ok (.ifCond .lt 8, 3) := by decide +kernel
theorem dJ3_checkIndex_8e157_4 : decode cJ3_checkIndex_8e157 4 = .ok (.iload_n 0, 1) := by decide +kernel
theorem dJ3_checkIndex_8e157_5 : decode cJ3_checkIndex_8e157 5 = .ok (.iload_n 1, 1) := by decide +kernel
theorem dJ3_checkIndex_8e157_6 : decode cJ3_checkIndex_8e157 6 = .ok (.if_icmp .lt 10, 3) := by decide +kernel
theorem dJ3_checkIndex_8e157_9 : decode cJ3_checkIndex_8e157 9 = .ok (.aload_n 2, 1) := by decide +kernel
theorem dJ3_checkIndex_8e157_10 : decode cJ3_checkIndex_8e157 10 = .ok (.iload_n 0, 1) := by decide +kernel
theorem dJ3_checkIndex_8e157_11 : decode cJ3_checkIndex_8e157 11 = .ok (.iload_n 1, 1) := by decide +kernel
theorem dJ3_checkIndex_8e157_12 : decode cJ3_checkIndex_8e157 12 = .ok (.invokestatic 95, 3) := by decide +kernel
theorem dJ3_checkIndex_8e157_15 : decode cJ3_checkIndex_8e157 15 = .ok (.athrow, 1) := by decide +kernel
theorem dJ3_checkIndex_8e157_16 : decode cJ3_checkIndex_8e157 16 = .ok (.iload_n 0, 1) := by decide +kernel
theorem dJ3_checkIndex_8e157_17 : decode cJ3_checkIndex_8e157 17 = .ok (.ireturn, 1) := by decide +kernel
theorem dJ3_checkFromToIndex_8c36e_0 : decode cJ3_checkFromToIndex_8c36e 0 = .ok (.iload_n 0, 1) := by decide +kernel
theorem dJ3_checkFromToIndex_8c36e_1 : decode cJ3_checkFromToIndex_8c36e 1 = .ok (.ifCond .lt 13, 3) := by decide +kernel
theorem dJ3_checkFromToIndex_8c36e_4 : decode cJ3_checkFromToIndex_8c36e 4 = .ok (.iload_n 0, 1) := by decide +kernel
theorem dJ3_checkFromToIndex_8c36e_5 : decode cJ3_checkFromToIndex_8c36e 5 = .ok (.iload_n 1, 1) := by decide +kernel
theorem dJ3_checkFromToIndex_8c36e_6 : decode cJ3_checkFromToIndex_8c36e 6 = .ok (.if_icmp .gt 8, 3) := by decide +kernel
theorem dJ3_checkFromToIndex_8c36e_9 : decode cJ3_checkFromToIndex_8c36e 9 = .ok (.iload_n 1, 1) := by decide +kernel
theorem dJ3_checkFromToIndex_8c36e_10 : decode cJ3_checkFromToIndex_8c36e 10 = .ok (.iload_n 2, 1) := by decide +kernel
theorem dJ3_checkFromToIndex_8c36e_11 : decode cJ3_checkFromToIndex_8c36e 11 = .ok (.if_icmp .le 11, 3) := by decide +kernel
theorem dJ3_checkFromToIndex_8c36e_14 : decode cJ3_checkFromToIndex_8c36e 14 = .ok (.aload_n 3, 1) := by decide +kernel
theorem dJ3_checkFromToIndex_8c36e_15 : decode cJ3_checkFromToIndex_8c36e 15 = .ok (.iload_n 0, 1) := by decide +kernel
theorem dJ3_checkFromToIndex_8c36e_16 : decode cJ3_checkFromToIndex_8c36e 16 = .ok (.iload_n 1, 1) := by decide +kernel
theorem dJ3_checkFromToIndex_8c36e_17 : decode cJ3_checkFromToIndex_8c36e 17 = .ok (.iload_n 2, 1) := by decide +kernel
theorem dJ3_checkFromToIndex_8c36e_18 : decode cJ3_checkFromToIndex_8c36e 18 = .ok (.invokestatic 99, 3) := by decide +kernel
theorem dJ3_checkFromToIndex_8c36e_21 : decode cJ3_checkFromToIndex_8c36e 21 = .ok (.athrow, 1) := by decide +kernel
theorem dJ3_checkFromToIndex_8c36e_22 : decode cJ3_checkFromToIndex_8c36e 22 = .ok (.iload_n 0, 1) := by decide +kernel
theorem dJ3_checkFromToIndex_8c36e_23 : decode cJ3_checkFromToIndex_8c36e 23 = .ok (.ireturn, 1) := by decide +kernel
theorem dJ3_checkFromIndexSize_8c36e_0 : decode cJ3_checkFromIndexSize_8c36e 0 = .ok (.iload_n 2, 1) := by decide +kernel
theorem dJ3_checkFromIndexSize_8c36e_1 : decode cJ3_checkFromIndexSize_8c36e 1 = .ok (.iload_n 0, 1) := by decide +kernel
theorem dJ3_checkFromIndexSize_8c36e_2 : decode cJ3_checkFromIndexSize_8c36e 2 = .ok (.ior, 1) := by decide +kernel
theorem dJ3_checkFromIndexSize_8c36e_3 : decode cJ3_checkFromIndexSize_8c36e 3 = .ok (.iload_n 1, 1) := by decide +kernel
theorem dJ3_checkFromIndexSize_8c36e_4 : decode cJ3_checkFromIndexSize_8c36e 4 = .ok (.ior, 1) := by decide +kernel
theorem dJ3_checkFromIndexSize_8c36e_5 : decode cJ3_checkFromIndexSize_8c36e 5 = .ok (.ifCond .lt 10, 3) := by decide +kernel
theorem dJ3_checkFromIndexSize_8c36e_8 : decode cJ3_checkFromIndexSize_8c36e 8 = .ok (.iload_n 1, 1) := by decide +kernel
theorem dJ3_checkFromIndexSize_8c36e_9 : decode cJ3_checkFromIndexSize_8c36e 9 = .ok (.iload_n 2, 1) := by decide +kernel
theorem dJ3_checkFromIndexSize_8c36e_10 : decode cJ3_checkFromIndexSize_8c36e 10 = .ok (.iload_n 0, 1) := by decide +kernel
theorem dJ3_checkFromIndexSize_8c36e_11 : decode cJ3_checkFromIndexSize_8c36e 11 = .ok (.isub, 1) := by decide +kernel
theorem dJ3_checkFromIndexSize_8c36e_12 : decode cJ3_checkFromIndexSize_8c36e 12 = .ok (.if_icmp .le 11, 3) := by decide +kernel
theorem dJ3_checkFromIndexSize_8c36e_15 : decode cJ3_checkFromIndexSize_8c36e 15 = .ok (.aload_n 3, 1) := by decide +kernel
theorem dJ3_checkFromIndexSize_8c36e_16 : decode cJ3_checkFromIndexSize_8c36e 16 = .ok (.iload_n 0, 1) := by decide +kernel
theorem dJ3_checkFromIndexSize_8c36e_17 : decode cJ3_checkFromIndexSize_8c36e 17 = .ok (.iload_n 1, 1) := by decide +kernel
theorem dJ3_checkFromIndexSize_8c36e_18 : decode cJ3_checkFromIndexSize_8c36e 18 = .ok (.iload_n 2, 1) := by decide +kernel
theorem dJ3_checkFromIndexSize_8c36e_19 : decode cJ3_checkFromIndexSize_8c36e 19 = .ok (.invokestatic 103, 3) := by decide +kernel
theorem dJ3_checkFromIndexSize_8c36e_22 : decode cJ3_checkFromIndexSize_8c36e 22 = .ok (.athrow, 1) := by decide +kernel
theorem dJ3_checkFromIndexSize_8c36e_23 : decode cJ3_checkFromIndexSize_8c36e 23 = .ok (.iload_n 0, 1) := by decide +kernel
theorem dJ3_checkFromIndexSize_8c36e_24 : decode cJ3_checkFromIndexSize_8c36e 24 = .ok (.ireturn, 1) := by decide +kernel
theorem dL_init_0 : decode cL_init 0 = .ok (.aload_n 0, 1) := by decide +kernel
theorem dL_init_1 : decode cL_init 1 = .ok (.invokespecial 1, 3) := by decide +kernel
theorem dL_init_4 : decode cL_init 4 = .ok (.aload_n 0, 1) := by decide +kernel
theorem dL_init_5 : decode cL_init 5 = .ok (.iconst 5, 1) := by decide +kernel
theorem dL_init_6 : decode cL_init 6 = .ok (.newarray .int, 2) := by decide +kernel
theorem dL_init_8 : decode cL_init 8 = .ok (.putfield 7, 3) := by decide +kernel
theorem dL_init_11 : decode cL_init 11 = .ok (.aload_n 0, 1) := by decide +kernel
theorem dL_init_12 : decode cL_init 12 = .ok (.iconst 5, 1) := by decide +kernel
theorem dL_init_13 : decode cL_init 13 = .ok (.newarray .int, 2) := by decide +kernel
theorem dL_init_15 : decode cL_init 15 = .ok (.putfield 13, 3) := by decide +kernel
theorem dL_init_18 : decode cL_init 18 = .ok (.aload_n 0, 1) := by decide +kernel
theorem dL_init_19 : decode cL_init 19 = .ok (.iconst 5, 1) := by decide +kernel
theorem dL_init_20 : decode cL_init 20 = .ok (.newarray .int, 2) := by decide +kernel
theorem dL_init_22 : decode cL_init 22 = .ok (.putfield 16, 3) := by decide +kernel
theorem dL_init_25 : decode cL_init 25 = .ok (.aload_n 0, 1) := by decide +kernel
theorem dL_init_26 : decode cL_init 26 = .ok (.iconst 5, 1) := by decide +kernel
theorem dL_init_27 : decode cL_init 27 = .ok (.newarray .int, 2) := by decide +kernel
theorem dL_init_29 : decode cL_init 29 = .ok (.putfield 19, 3) := by decide +kernel
theorem dL_init_32 : decode cL_init 32 = .ok (.aload_n 0, 1) := by decide +kernel
theorem dL_init_33 : decode cL_init 33 = .ok (.iconst 5, 1) := by decide +kernel
theorem dL_init_34 : decode cL_init 34 = .ok (.newarray .int, 2) := by decide +kernel
theorem dL_init_36 : decode cL_init 36 = .ok (.putfield 22, 3) := by decide +kernel
theorem dL_init_39 : decode cL_init 39 = .ok (.aload_n 0, 1) := by decide +kernel
theorem dL_init_40 : decode cL_init 40 = .ok (.iconst 5, 1) := by decide +kernel
theorem dL_init_41 : decode cL_init 41 = .ok (.newarray .int, 2) := by decide +kernel
theorem dL_init_43 : decode cL_init 43 = .ok (.putfield 25, 3) := by decide +kernel
theorem dL_init_46 : decode cL_init 46 = .ok (.aload_n 0, 1) := by decide +kernel
theorem dL_init_47 : decode cL_init 47 = .ok (.iconst 5, 1) := by decide +kernel
theorem dL_init_48 : decode cL_init 48 = .ok (.iconst 5, 1) := by decide +kernel
theorem dL_init_49 : decode cL_init 49 = .ok (.multianewarray 28 2, 4) := by decide +kernel
theorem dL_init_53 : decode cL_init 53 = .ok (.putfield 30, 3) := by decide +kernel
theorem dL_init_56 : decode cL_init 56 = .ok (.aload_n 0, 1) := by decide +kernel
theorem dL_init_57 : decode cL_init 57 = .ok (.iconst 5, 1) := by decide +kernel
theorem dL_init_58 : decode cL_init 58 = .ok (.iconst 5, 1) := by decide +kernel
theorem dL_init_59 : decode cL_init 59 = .ok (.multianewarray 28 2, 4) := by decide +kernel
theorem dL_init_63 : decode cL_init 63 = .ok (.putfield 33, 3) := by decide +kernel
theorem dL_init_66 : decode cL_init 66 = .ok (.aload_n 0, 1) := by decide +kernel
theorem dL_init_67 : decode cL_init 67 = .ok (.bipush 30, 2) := by decide +kernel
theorem dL_init_69 : decode cL_init 69 = .ok (.newarray .int, 2) := by decide +kernel
theorem dL_init_71 : decode cL_init 71 = .ok (.putfield 36, 3) := by decide +kernel
theorem dL_init_74 : decode cL_init 74 = .ok (.aload_n 0, 1) := by decide +kernel
theorem dL_init_75 : decode cL_init 75 = .ok (.bipush 30, 2) := by decide +kernel
theorem dL_init_77 : decode cL_init 77 = .ok (.newarray .int, 2) := by decide +kernel
theorem dL_init_79 : decode cL_init 79 = .ok (.putfield 39, 3) := by decide +kernel
theorem dL_init_82 : decode cL_init 82 = .ok (.aload_n 0, 1) := by decide +kernel
theorem dL_init_83 : decode cL_init 83 = .ok (.bipush 30, 2) := by decide +kernel
theorem dL_init_85 : decode cL_init 85 = .ok (.newarray .int, 2) := by decide +kernel
theorem dL_init_87 : decode cL_init 87 = .ok (.putfield 42, 3) := by decide +kernel
theorem dL_init_90 : decode cL_init 90 = .ok (.aload_n 0, 1) := by decide +kernel
theorem dL_init_91 : decode cL_init 91 = .ok (.bipush 30, 2) := by decide +kernel
theorem dL_init_93 : decode cL_init 93 = .ok (.newarray .int, 2) := by decide +kernel
theorem dL_init_95 : decode cL_init 95 = .ok (.putfield 45, 3) := by decide +kernel
theorem dL_init_98 : decode cL_init 98 = .ok (.aload_n 0, 1) := by decide +kernel
theorem dL_init_99 : decode cL_init 99 = .ok (.bipush 30, 2) := by decide +kernel
theorem dL_init_101 : decode cL_init 101 = .ok (.newarray .int, 2) := by decide +kernel
theorem dL_init_103 : decode cL_init 103 = .ok (.putfield 48, 3) := by decide +kernel
theorem dL_init_106 : decode cL_init 106 = .ok (.aload_n 0, 1) := by decide +kernel
theorem dL_init_107 : decode cL_init 107 = .ok (.bipush 30, 2) := by decide +kernel
theorem dL_init_109 : decode cL_init 109 = .ok (.newarray .int, 2) := by decide +kernel
theorem dL_init_111 : decode cL_init 111 = .ok (.putfield 51, 3) := by decide +kernel
theorem dL_init_114 : decode cL_init 114 = .ok (.aload_n 0, 1) := by decide +kernel
theorem dL_init_115 : decode cL_init 115 = .ok (.bipush 30, 2) := by decide +kernel
theorem dL_init_117 : decode cL_init 117 = .ok (.newarray .int, 2) := by decide +kernel
theorem dL_init_119 : decode cL_init 119 = .ok (.putfield 54, 3) := by decide +kernel
theorem dL_init_122 : decode cL_init 122 = .ok (.aload_n 0, 1) := by decide +kernel
theorem dL_init_123 : decode cL_init 123 = .ok (.bipush 30, 2) := by decide +kernel
theorem dL_init_125 : decode cL_init 125 = .ok (.newarray .int, 2) := by decide +kernel
theorem dL_init_127 : decode cL_init 127 = .ok (.putfield 57, 3) := by decide +kernel
theorem dL_init_130 : decode cL_init 130 = .ok (.aload_n 0, 1) := by decide +kernel
theorem dL_init_131 : decode cL_init 131 = .ok (.bipush 30, 2) := by decide +kernel
theorem dL_init_133 : decode cL_init 133 = .ok (.newarray .int, 2) := by decide +kernel
theorem dL_init_135 : decode cL_init 135 = .ok (.putfield 60, 3) := by decide +kernel
theorem dL_init_138 : decode cL_init 138 = .ok (.aload_n 0, 1) := by decide +kernel
theorem dL_init_139 : decode cL_init 139 = .ok (.bipush 30, 2) := by decide +kernel
theorem dL_init_141 : decode cL_init 141 = .ok (.newarray .int, 2) := by decide +kernel
theorem dL_init_143 : decode cL_init 143 = .ok (.putfield 63, 3) := by decide +kernel
theorem dL_init_146 : decode cL_init 146 = .ok (.aload_n 0, 1) := by decide +kernel
theorem dL_init_147 : decode cL_init 147 = .ok (.bipush 30, 2) := by decide +kernel
theorem dL_init_149 : decode cL_init 149 = .ok (.anewarray 66, 3) := by decide +kernel
theorem dL_init_152 : decode cL_init 152 = .ok (.putfield 67, 3) := by decide +kernel
theorem dL_init_155 : decode cL_init 155 = .ok (.aload_n 0, 1) := by decide +kernel
theorem dL_init_156 : decode cL_init 156 = .ok (.bipush 30, 2) := by decide +kernel
theorem dL_init_158 : decode cL_init 158 = .ok (.anewarray 66, 3) := by decide +kernel
theorem dL_init_161 : decode cL_init 161 = .ok (.putfield 70, 3) := by decide +kernel
theorem dL_init_164 : decode cL_init 164 = .ok (.return_, 1) := by decide +kernel
theorem dL_cell_0 : decode cL_cell 0 = .ok (.iload_n 1, 1) := by decide +kernel
theorem dL_cell_1 : decode cL_cell 1 = .ok (.aload_n 0, 1) := by decide +kernel
theorem dL_cell_2 : decode cL_cell 2 = .ok (.arraylength, 1) := by decide +kernel
theorem dL_cell_3 : decode cL_cell 3 = .ok (.if_icmp .ge 9, 3) := by decide +kernel
theorem dL_cell_6 : decode cL_cell 6 = .ok (.aload_n 0, 1) := by decide +kernel
theorem dL_cell_7 : decode cL_cell 7 = .ok (.iload_n 1, 1) := by decide +kernel
theorem dL_cell_8 : decode cL_cell 8 = .ok (.iaload, 1) := by decide +kernel
theorem dL_cell_9 : decode cL_cell 9 = .ok (.goto 10, 3) := by decide +kernel
theorem dL_cell_12 : decode cL_cell 12 = .ok (.bipush 113, 2) := by decide +kernel
theorem dL_cell_14 : decode cL_cell 14 = .ok (.iload_n 1, 1) := by decide +kernel
theorem dL_cell_15 : decode cL_cell 15 = .ok (.imul, 1) := by decide +kernel
theorem dL_cell_16 : decode cL_cell 16 = .ok (.bipush 67, 2) := by decide +kernel
theorem dL_cell_18 : decode cL_cell 18 = .ok (.iadd, 1) := by decide +kernel
theorem dL_cell_19 : decode cL_cell 19 = .ok (.ireturn, 1) := by decide +kernel
theorem dL_bits_0 : decode cL_bits 0 = .ok (.iload_n 0, 1) := by decide +kernel
theorem dL_bits_1 : decode cL_bits 1 = .ok (.iload_n 1, 1) := by decide +kernel
theorem dL_bits_2 : decode cL_bits 2 = .ok (.iushr, 1) := by decide +kernel
theorem dL_bits_3 : decode cL_bits 3 = .ok (.iconst 1, 1) := by decide +kernel
theorem dL_bits_4 : decode cL_bits 4 = .ok (.iload_n 2, 1) := by decide +kernel
theorem dL_bits_5 : decode cL_bits 5 = .ok (.ishl, 1) := by decide +kernel
theorem dL_bits_6 : decode cL_bits 6 = .ok (.iconst 1, 1) := by decide +kernel
theorem dL_bits_7 : decode cL_bits 7 = .ok (.isub, 1) := by decide +kernel
theorem dL_bits_8 : decode cL_bits 8 = .ok (.iand, 1) := by decide +kernel
theorem dL_bits_9 : decode cL_bits 9 = .ok (.ireturn, 1) := by decide +kernel
theorem dL_told_0 : decode cL_told 0 = .ok (.iconst 0, 1) := by decide +kernel
theorem dL_told_1 : decode cL_told 1 = .ok (.istore_n 2, 1) := by decide +kernel
theorem dL_told_2 : decode cL_told 2 = .ok (.iload_n 2, 1) := by decide +kernel
theorem dL_told_3 : decode cL_told 3 = .ok (.aload_n 1, 1) := by decide +kernel
theorem dL_told_4 : decode cL_told 4 = .ok (.invokevirtual 73, 3) := by decide +kernel
theorem dL_told_7 : decode cL_told 7 = .ok (.if_icmp .ge 89, 3) := by decide +kernel
theorem dL_told_10 : decode cL_told 10 = .ok (.iconst 5, 1) := by decide +kernel
theorem dL_told_11 : decode cL_told 11 = .ok (.newarray .int, 2) := by decide +kernel
theorem dL_told_13 : decode cL_told 13 = .ok (.astore_n 3, 1) := by decide +kernel
theorem dL_told_14 : decode cL_told 14 = .ok (.iconst 0, 1) := by decide +kernel
theorem dL_told_15 : decode cL_told 15 = .ok (.istore 4, 2) := by decide +kernel
theorem dL_told_17 : decode cL_told 17 = .ok (.iload 4, 2) := by decide +kernel
theorem dL_told_19 : decode cL_told 19 = .ok (.bipush 20, 2) := by decide +kernel
theorem dL_told_21 : decode cL_told 21 = .ok (.if_icmp .ge 49, 3) := by decide +kernel
theorem dL_told_24 : decode cL_told 24 = .ok (.aload_n 3, 1) := by decide +kernel
theorem dL_told_25 : decode cL_told 25 = .ok (.iload 4, 2) := by decide +kernel
theorem dL_told_27 : decode cL_told 27 = .ok (.iconst 4, 1) := by decide +kernel
theorem dL_told_28 : decode cL_told 28 = .ok (.idiv, 1) := by decide +kernel
theorem dL_told_29 : decode cL_told 29 = .ok (.aload_n 3, 1) := by decide +kernel
theorem dL_told_30 : decode cL_told 30 = .ok (.iload 4, 2) := by decide +kernel
theorem dL_told_32 : decode cL_told 32 = .ok (.iconst 4, 1) := by decide +kernel
theorem dL_told_33 : decode cL_told 33 = .ok (.idiv, 1) := by decide +kernel
theorem dL_told_34 : decode cL_told 34 = .ok (.iaload, 1) := by decide +kernel
theorem dL_told_35 : decode cL_told 35 = .ok (.bipush 8, 2) := by decide +kernel
theorem dL_told_37 : decode cL_told 37 = .ok (.ishl, 1) := by decide +kernel
theorem dL_told_38 : decode cL_told 38 = .ok (.iload_n 2, 1) := by decide +kernel
theorem dL_told_39 : decode cL_told 39 = .ok (.iload 4, 2) := by decide +kernel
theorem dL_told_41 : decode cL_told 41 = .ok (.iadd, 1) := by decide +kernel
theorem dL_told_42 : decode cL_told 42 = .ok (.aload_n 1, 1) := by decide +kernel
theorem dL_told_43 : decode cL_told 43 = .ok (.invokevirtual 73, 3) := by decide +kernel
theorem dL_told_46 : decode cL_told 46 = .ok (.if_icmp .ge 14, 3) := by decide +kernel
theorem dL_told_49 : decode cL_told 49 = .ok (.aload_n 1, 1) := by decide +kernel
theorem dL_told_50 : decode cL_told 50 = .ok (.iload_n 2, 1) := by decide +kernel
theorem dL_told_51 : decode cL_told 51 = .ok (.iload 4, 2) := by decide +kernel
theorem dL_told_53 : decode cL_told 53 = .ok (.iadd, 1) := by decide +kernel
theorem dL_told_54 : decode cL_told 54 = .ok (.invokevirtual 79, 3) := by decide +kernel
theorem dL_told_57 : decode cL_told 57 = .ok (.goto 5, 3) := by decide +kernel
theorem dL_told_60 : decode cL_told 60 = .ok (.bipush 32, 2) := by decide +kernel
theorem dL_told_62 : decode cL_told 62 = .ok (.ior, 1) := by decide +kernel
theorem dL_told_63 : decode cL_told 63 = .ok (.iastore, 1) := by decide +kernel
theorem dL_told_64 : decode cL_told 64 = .ok (.iinc 4 1, 3) := by decide +kernel
theorem dL_told_67 : decode cL_told 67 = .ok (.goto (-50), 3) := by decide +kernel
theorem dL_told_70 : decode cL_told 70 = .ok (.aload_n 0, 1) := by decide +kernel
theorem dL_told_71 : decode cL_told 71 = .ok (.aload_n 3, 1) := by decide +kernel
theorem dL_told_72 : decode cL_told 72 = .ok (.iconst 0, 1) := by decide +kernel
theorem dL_told_73 : decode cL_told 73 = .ok (.iaload, 1) := by decide +kernel
theorem dL_told_74 : decode cL_told 74 = .ok (.aload_n 3, 1) := by decide +kernel
theorem dL_told_75 : decode cL_told 75 = .ok (.iconst 1, 1) := by decide +kernel
theorem dL_told_76 : decode cL_told 76 = .ok (.iaload, 1) := by decide +kernel
theorem dL_told_77 : decode cL_told 77 = .ok (.aload_n 3, 1) := by decide +kernel
theorem dL_told_78 : decode cL_told 78 = .ok (.iconst 2, 1) := by decide +kernel
theorem dL_told_79 : decode cL_told 79 = .ok (.iaload, 1) := by decide +kernel
theorem dL_told_80 : decode cL_told 80 = .ok (.aload_n 3, 1) := by decide +kernel
theorem dL_told_81 : decode cL_told 81 = .ok (.iconst 3, 1) := by decide +kernel
theorem dL_told_82 : decode cL_told 82 = .ok (.iaload, 1) := by decide +kernel
theorem dL_told_83 : decode cL_told 83 = .ok (.aload_n 3, 1) := by decide +kernel
theorem dL_told_84 : decode cL_told 84 = .ok (.iconst 4, 1) := by decide +kernel
theorem dL_told_85 : decode cL_told 85 = .ok (.iaload, 1) := by decide +kernel
theorem dL_told_86 : decode cL_told 86 = .ok (.invokevirtual 83, 3) := by decide +kernel
theorem dL_told_89 : decode cL_told 89 = .ok (.pop, 1) := by decide +kernel
theorem dL_told_90 : decode cL_told 90 = .ok (.iinc 2 20, 3) := by decide +kernel
theorem dL_told_93 : decode cL_told 93 = .ok (.goto (-91), 3) := by decide +kernel
theorem dL_told_96 : decode cL_told 96 = .ok (.aload_n 0, 1) := by decide +kernel
theorem dL_told_97 : decode cL_told 97 = .ok (.aload_n 1, 1) := by decide +kernel
theorem dL_told_98 : decode cL_told 98 = .ok (.invokevirtual 73, 3) := by decide +kernel
theorem dL_told_101 : decode cL_told 101 = .ok (.invokevirtual 89, 3) := by decide +kernel
theorem dL_told_104 : decode cL_told 104 = .ok (.pop, 1) := by decide +kernel
theorem dL_told_105 : decode cL_told 105 = .ok (.return_, 1) := by decide +kernel
theorem dL_reckon_0 : decode cL_reckon 0 = .ok (.iconst 0, 1) := by decide +kernel
theorem dL_reckon_1 : decode cL_reckon 1 = .ok (.istore_n 1, 1) := by decide +kernel
theorem dL_reckon_2 : decode cL_reckon 2 = .ok (.iload_n 1, 1) := by decide +kernel
theorem dL_reckon_3 : decode cL_reckon 3 = .ok (.aload_n 0, 1) := by decide +kernel
theorem dL_reckon_4 : decode cL_reckon 4 = .ok (.getfield 93, 3) := by decide +kernel
theorem dL_reckon_7 : decode cL_reckon 7 = .ok (.if_icmp .ge 67, 3) := by decide +kernel
theorem dL_reckon_10 : decode cL_reckon 10 = .ok (.iconst 0, 1) := by decide +kernel
theorem dL_reckon_11 : decode cL_reckon 11 = .ok (.istore_n 2, 1) := by decide +kernel
theorem dL_reckon_12 : decode cL_reckon 12 = .ok (.iload_n 2, 1) := by decide +kernel
theorem dL_reckon_13 : decode cL_reckon 13 = .ok (.aload_n 0, 1) := by decide +kernel
theorem dL_reckon_14 : decode cL_reckon 14 = .ok (.getfield 93, 3) := by decide +kernel
theorem dL_reckon_17 : decode cL_reckon 17 = .ok (.if_icmp .ge 51, 3) := by decide +kernel
theorem dL_reckon_20 : decode cL_reckon 20 = .ok (.aload_n 0, 1) := by decide +kernel
theorem dL_reckon_21 : decode cL_reckon 21 = .ok (.getfield 33, 3) := by decide +kernel
theorem dL_reckon_24 : decode cL_reckon 24 = .ok (.iload_n 1, 1) := by decide +kernel
theorem dL_reckon_25 : decode cL_reckon 25 = .ok (.aaload, 1) := by decide +kernel
theorem dL_reckon_26 : decode cL_reckon 26 = .ok (.iload_n 2, 1) := by decide +kernel
theorem dL_reckon_27 : decode cL_reckon 27 = .ok (.iload_n 1, 1) := by decide +kernel
theorem dL_reckon_28 : decode cL_reckon 28 = .ok (.iload_n 2, 1) := by decide +kernel
theorem dL_reckon_29 : decode cL_reckon 29 = .ok (.if_icmp .ne 7, 3) := by decide +kernel
theorem dL_reckon_32 : decode cL_reckon 32 = .ok (.iconst 0, 1) := by decide +kernel
theorem dL_reckon_33 : decode cL_reckon 33 = .ok (.goto 28, 3) := by decide +kernel
theorem dL_reckon_36 : decode cL_reckon 36 = .ok (.aload_n 0, 1) := by decide +kernel
theorem dL_reckon_37 : decode cL_reckon 37 = .ok (.getfield 30, 3) := by decide +kernel
theorem dL_reckon_40 : decode cL_reckon 40 = .ok (.iload_n 1, 1) := by decide +kernel
theorem dL_reckon_41 : decode cL_reckon 41 = .ok (.aaload, 1) := by decide +kernel
theorem dL_reckon_42 : decode cL_reckon 42 = .ok (.iload_n 2, 1) := by decide +kernel
theorem dL_reckon_43 : decode cL_reckon 43 = .ok (.iaload, 1) := by decide +kernel
theorem dL_reckon_44 : decode cL_reckon 44 = .ok (.ifCond .le 14, 3) := by decide +kernel
theorem dL_reckon_47 : decode cL_reckon 47 = .ok (.aload_n 0, 1) := by decide +kernel
theorem dL_reckon_48 : decode cL_reckon 48 = .ok (.getfield 30, 3) := by decide +kernel
theorem dL_reckon_51 : decode cL_reckon 51 = .ok (.iload_n 1, 1) := by decide +kernel
theorem dL_reckon_52 : decode cL_reckon 52 = .ok (.aaload, 1) := by decide +kernel
theorem dL_reckon_53 : decode cL_reckon 53 = .ok (.iload_n 2, 1) := by decide +kernel
theorem dL_reckon_54 : decode cL_reckon 54 = .ok (.iaload, 1) := by decide +kernel
theorem dL_reckon_55 : decode cL_reckon 55 = .ok (.goto 6, 3) := by decide +kernel
theorem dL_reckon_58 : decode cL_reckon 58 = .ok (.sipush 9999, 3) := by decide +kernel
theorem dL_reckon_61 : decode cL_reckon 61 = .ok (.iastore, 1) := by decide +kernel
theorem dL_reckon_62 : decode cL_reckon 62 = .ok (.iinc 2 1, 3) := by decide +kernel
theorem dL_reckon_65 : decode cL_reckon 65 = .ok (.goto (-53), 3) := by decide +kernel
theorem dL_reckon_68 : decode cL_reckon 68 = .ok (.iinc 1 1, 3) := by decide +kernel
theorem dL_reckon_71 : decode cL_reckon 71 = .ok (.goto (-69), 3) := by decide +kernel
theorem dL_reckon_74 : decode cL_reckon 74 = .ok (.iconst 0, 1) := by decide +kernel
theorem dL_reckon_75 : decode cL_reckon 75 = .ok (.istore_n 1, 1) := by decide +kernel
theorem dL_reckon_76 : decode cL_reckon 76 = .ok (.iload_n 1, 1) := by decide +kernel
theorem dL_reckon_77 : decode cL_reckon 77 = .ok (.aload_n 0, 1) := by decide +kernel
theorem dL_reckon_78 : decode cL_reckon 78 = .ok (.getfield 93, 3) := by decide +kernel
theorem dL_reckon_81 : decode cL_reckon 81 = .ok (.if_icmp .ge 77, 3) := by decide +kernel
theorem dL_reckon_84 : decode cL_reckon 84 = .ok (.iconst 0, 1) := by decide +kernel
theorem dL_reckon_85 : decode cL_reckon 85 = .ok (.istore_n 2, 1) := by decide +kernel
theorem dL_reckon_86 : decode cL_reckon 86 = .ok (.iload_n 2, 1) := by decide +kernel
theorem dL_reckon_87 : decode cL_reckon 87 = .ok (.aload_n 0, 1) := by decide +kernel
theorem dL_reckon_88 : decode cL_reckon 88 = .ok (.getfield 93, 3) := by decide +kernel
theorem dL_reckon_91 : decode cL_reckon 91 = .ok (.if_icmp .ge 61, 3) := by decide +kernel
theorem dL_reckon_94 : decode cL_reckon 94 = .ok (.iconst 0, 1) := by decide +kernel
theorem dL_reckon_95 : decode cL_reckon 95 = .ok (.istore_n 3, 1) := by decide +kernel
theorem dL_reckon_96 : decode cL_reckon 96 = .ok (.iload_n 3, 1) := by decide +kernel
theorem dL_reckon_97 : decode cL_reckon 97 = .ok (.aload_n 0, 1) := by decide +kernel
theorem dL_reckon_98 : decode cL_reckon 98 = .ok (.getfield 93, 3) := by decide +kernel
theorem dL_reckon_101 : decode cL_reckon 101 = .ok (.if_icmp .ge 45, 3) := by decide +kernel
theorem dL_reckon_104 : decode cL_reckon 104 = .ok (.aload_n 0, 1) := by decide +kernel
theorem dL_reckon_105 : decode cL_reckon 105 = .ok (.getfield 33, 3) := by decide +kernel
theorem dL_reckon_108 : decode cL_reckon 108 = .ok (.iload_n 2, 1) := by decide +kernel
theorem dL_reckon_109 : decode cL_reckon 109 = .ok (.aaload, 1) := by decide +kernel
theorem dL_reckon_110 : decode cL_reckon 110 = .ok (.iload_n 3, 1) := by decide +kernel
theorem dL_reckon_111 : decode cL_reckon 111 = .ok (.aload_n 0, 1) := by decide +kernel
theorem dL_reckon_112 : decode cL_reckon 112 = .ok (.getfield 33, 3) := by decide +kernel
theorem dL_reckon_115 : decode cL_reckon 115 = .ok (.iload_n 2, 1) := by decide +kernel
theorem dL_reckon_116 : decode cL_reckon 116 = .ok (.aaload, 1) := by decide +kernel
theorem dL_reckon_117 : decode cL_reckon 117 = .ok (.iload_n 3, 1) := by decide +kernel
theorem dL_reckon_118 : decode cL_reckon 118 = .ok (.iaload, 1) := by decide +kernel
theorem dL_reckon_119 : decode cL_reckon 119 = .ok (.aload_n 0, 1) := by decide +kernel
theorem dL_reckon_120 : decode cL_reckon 120 = .ok (.getfield 33, 3) := by decide +kernel
theorem dL_reckon_123 : decode cL_reckon 123 = .ok (.iload_n 2, 1) := by decide +kernel
theorem dL_reckon_124 : decode cL_reckon 124 = .ok (.aaload, 1) := by decide +kernel
theorem dL_reckon_125 : decode cL_reckon 125 = .ok (.iload_n 1, 1) := by decide +kernel
theorem dL_reckon_126 : decode cL_reckon 126 = .ok (.iaload, 1) := by decide +kernel
theorem dL_reckon_127 : decode cL_reckon 127 = .ok (.aload_n 0, 1) := by decide +kernel
theorem dL_reckon_128 : decode cL_reckon 128 = .ok (.getfield 33, 3) := by decide +kernel
theorem dL_reckon_131 : decode cL_reckon 131 = .ok (.iload_n 1, 1) := by decide +kernel
theorem dL_reckon_132 : decode cL_reckon 132 = .ok (.aaload, 1) := by decide +kernel
theorem dL_reckon_133 : decode cL_reckon 133 = .ok (.iload_n 3, 1) := by decide +kernel
theorem dL_reckon_134 : decode cL_reckon 134 = .ok (.iaload, 1) := by decide +kernel
theorem dL_reckon_135 : decode cL_reckon 135 = .ok (.iadd, 1) := by decide +kernel
theorem dL_reckon_136 : decode cL_reckon 136 = .ok (.invokestatic 97, 3) := by decide +kernel
theorem dL_reckon_139 : decode cL_reckon 139 = .ok (.iastore, 1) := by decide +kernel
theorem dL_reckon_140 : decode cL_reckon 140 = .ok (.iinc 3 1, 3) := by decide +kernel
theorem dL_reckon_143 : decode cL_reckon 143 = .ok (.goto (-47), 3) := by decide +kernel
theorem dL_reckon_146 : decode cL_reckon 146 = .ok (.iinc 2 1, 3) := by decide +kernel
theorem dL_reckon_149 : decode cL_reckon 149 = .ok (.goto (-63), 3) := by decide +kernel
theorem dL_reckon_152 : decode cL_reckon 152 = .ok (.iinc 1 1, 3) := by decide +kernel
theorem dL_reckon_155 : decode cL_reckon 155 = .ok (.goto (-79), 3) := by decide +kernel
theorem dL_reckon_158 : decode cL_reckon 158 = .ok (.return_, 1) := by decide +kernel
theorem dL_next_0 : decode cL_next 0 = .ok (.iconst 0, 1) := by decide +kernel
theorem dL_next_1 : decode cL_next 1 = .ok (.istore_n 3, 1) := by decide +kernel
theorem dL_next_2 : decode cL_next 2 = .ok (.iload_n 3, 1) := by decide +kernel
theorem dL_next_3 : decode cL_next 3 = .ok (.aload_n 0, 1) := by decide +kernel
theorem dL_next_4 : decode cL_next 4 = .ok (.getfield 93, 3) := by decide +kernel
theorem dL_next_7 : decode cL_next 7 = .ok (.if_icmp .ge 69, 3) := by decide +kernel
theorem dL_next_10 : decode cL_next 10 = .ok (.iload_n 1, 1) := by decide +kernel
theorem dL_next_11 : decode cL_next 11 = .ok (.iload_n 2, 1) := by decide +kernel
theorem dL_next_12 : decode cL_next 12 = .ok (.if_icmp .eq 64, 3) := by decide +kernel
theorem dL_next_15 : decode cL_next 15 = .ok (.aload_n 0, 1) := by decide +kernel
theorem dL_next_16 : decode cL_next 16 = .ok (.getfield 33, 3) := by decide +kernel
theorem dL_next_19 : decode cL_next 19 = .ok (.iload_n 1, 1) := by decide +kernel
theorem dL_next_20 : decode cL_next 20 = .ok (.aaload, 1) := by decide +kernel
theorem dL_next_21 : decode cL_next 21 = .ok (.iload_n 2, 1) := by decide +kernel
theorem dL_next_22 : decode cL_next 22 = .ok (.iaload, 1) := by decide +kernel
theorem dL_next_23 : decode cL_next 23 = .ok (.sipush 9999, 3) := by decide +kernel
theorem dL_next_26 : decode cL_next 26 = .ok (.if_icmp .ge 50, 3) := by decide +kernel
theorem dL_next_29 : decode cL_next 29 = .ok (.aload_n 0, 1) := by decide +kernel
theorem dL_next_30 : decode cL_next 30 = .ok (.getfield 30, 3) := by decide +kernel
theorem dL_next_33 : decode cL_next 33 = .ok (.iload_n 1, 1) := by decide +kernel
theorem dL_next_34 : decode cL_next 34 = .ok (.aaload, 1) := by decide +kernel
theorem dL_next_35 : decode cL_next 35 = .ok (.iload_n 3, 1) := by decide +kernel
theorem dL_next_36 : decode cL_next 36 = .ok (.iaload, 1) := by decide +kernel
theorem dL_next_37 : decode cL_next 37 = .ok (.ifCond .le 33, 3) := by decide +kernel
theorem dL_next_40 : decode cL_next 40 = .ok (.aload_n 0, 1) := by decide +kernel
theorem dL_next_41 : decode cL_next 41 = .ok (.getfield 30, 3) := by decide +kernel
theorem dL_next_44 : decode cL_next 44 = .ok (.iload_n 1, 1) := by decide +kernel
theorem dL_next_45 : decode cL_next 45 = .ok (.aaload, 1) := by decide +kernel
theorem dL_next_46 : decode cL_next 46 = .ok (.iload_n 3, 1) := by decide +kernel
theorem dL_next_47 : decode cL_next 47 = .ok (.iaload, 1) := by decide +kernel
theorem dL_next_48 : decode cL_next 48 = .ok (.aload_n 0, 1) := by decide +kernel
theorem dL_next_49 : decode cL_next 49 = .ok (.getfield 33, 3) := by decide +kernel
theorem dL_next_52 : decode cL_next 52 = .ok (.iload_n 3, 1) := by decide +kernel
theorem dL_next_53 : decode cL_next 53 = .ok (.aaload, 1) := by decide +kernel
theorem dL_next_54 : decode cL_next 54 = .ok (.iload_n 2, 1) := by decide +kernel
theorem dL_next_55 : decode cL_next 55 = .ok (.iaload, 1) := by decide +kernel
theorem dL_next_56 : decode cL_next 56 = .ok (.iadd, 1) := by decide +kernel
theorem dL_next_57 : decode cL_next 57 = .ok (.aload_n 0, 1) := by decide +kernel
theorem dL_next_58 : decode cL_next 58 = .ok (.getfield 33, 3) := by decide +kernel
theorem dL_next_61 : decode cL_next 61 = .ok (.iload_n 1, 1) := by decide +kernel
theorem dL_next_62 : decode cL_next 62 = .ok (.aaload, 1) := by decide +kernel
theorem dL_next_63 : decode cL_next 63 = .ok (.iload_n 2, 1) := by decide +kernel
theorem dL_next_64 : decode cL_next 64 = .ok (.iaload, 1) := by decide +kernel
theorem dL_next_65 : decode cL_next 65 = .ok (.if_icmp .ne 5, 3) := by decide +kernel
theorem dL_next_68 : decode cL_next 68 = .ok (.iload_n 3, 1) := by decide +kernel
theorem dL_next_69 : decode cL_next 69 = .ok (.ireturn, 1) := by decide +kernel
theorem dL_next_70 : decode cL_next 70 = .ok (.iinc 3 1, 3) := by decide +kernel
theorem dL_next_73 : decode cL_next 73 = .ok (.goto (-71), 3) := by decide +kernel
theorem dL_next_76 : decode cL_next 76 = .ok (.iconst (-1), 1) := by decide +kernel
theorem dL_next_77 : decode cL_next 77 = .ok (.ireturn, 1) := by decide +kernel
theorem dL_bars_0 : decode cL_bars 0 = .ok (.aload_n 0, 1) := by decide +kernel
theorem dL_bars_1 : decode cL_bars 1 = .ok (.getfield 67, 3) := by decide +kernel
theorem dL_bars_4 : decode cL_bars 4 = .ok (.iload_n 1, 1) := by decide +kernel
theorem dL_bars_5 : decode cL_bars 5 = .ok (.aaload, 1) := by decide +kernel
theorem dL_bars_6 : decode cL_bars 6 = .ok (.arraylength, 1) := by decide +kernel
theorem dL_bars_7 : decode cL_bars 7 = .ok (.iconst 3, 1) := by decide +kernel
theorem dL_bars_8 : decode cL_bars 8 = .ok (.iadd, 1) := by decide +kernel
theorem dL_bars_9 : decode cL_bars 9 = .ok (.iconst 4, 1) := by decide +kernel
theorem dL_bars_10 : decode cL_bars 10 = .ok (.idiv, 1) := by decide +kernel
theorem dL_bars_11 : decode cL_bars 11 = .ok (.ireturn, 1) := by decide +kernel
theorem dL_isRight_0 : decode cL_isRight 0 = .ok (.iconst 0, 1) := by decide +kernel
theorem dL_isRight_1 : decode cL_isRight 1 = .ok (.istore_n 2, 1) := by decide +kernel
theorem dL_isRight_2 : decode cL_isRight 2 = .ok (.iload_n 2, 1) := by decide +kernel
theorem dL_isRight_3 : decode cL_isRight 3 = .ok (.aload_n 0, 1) := by decide +kernel
theorem dL_isRight_4 : decode cL_isRight 4 = .ok (.getfield 67, 3) := by decide +kernel
theorem dL_isRight_7 : decode cL_isRight 7 = .ok (.iload_n 1, 1) := by decide +kernel
theorem dL_isRight_8 : decode cL_isRight 8 = .ok (.aaload, 1) := by decide +kernel
theorem dL_isRight_9 : decode cL_isRight 9 = .ok (.arraylength, 1) := by decide +kernel
theorem dL_isRight_10 : decode cL_isRight 10 = .ok (.if_icmp .ge 30, 3) := by decide +kernel
theorem dL_isRight_13 : decode cL_isRight 13 = .ok (.aload_n 0, 1) := by decide +kernel
theorem dL_isRight_14 : decode cL_isRight 14 = .ok (.getfield 67, 3) := by decide +kernel
theorem dL_isRight_17 : decode cL_isRight 17 = .ok (.iload_n 1, 1) := by decide +kernel
theorem dL_isRight_18 : decode cL_isRight 18 = .ok (.aaload, 1) := by decide +kernel
theorem dL_isRight_19 : decode cL_isRight 19 = .ok (.iload_n 2, 1) := by decide +kernel
theorem dL_isRight_20 : decode cL_isRight 20 = .ok (.iaload, 1) := by decide +kernel
theorem dL_isRight_21 : decode cL_isRight 21 = .ok (.aload_n 0, 1) := by decide +kernel
theorem dL_isRight_22 : decode cL_isRight 22 = .ok (.getfield 70, 3) := by decide +kernel
theorem dL_isRight_25 : decode cL_isRight 25 = .ok (.iload_n 1, 1) := by decide +kernel
theorem dL_isRight_26 : decode cL_isRight 26 = .ok (.aaload, 1) := by decide +kernel
theorem dL_isRight_27 : decode cL_isRight 27 = .ok (.iload_n 2, 1) := by decide +kernel
theorem dL_isRight_28 : decode cL_isRight 28 = .ok (.iaload, 1) := by decide +kernel
theorem dL_isRight_29 : decode cL_isRight 29 = .ok (.if_icmp .eq 5, 3) := by decide +kernel
theorem dL_isRight_32 : decode cL_isRight 32 = .ok (.iconst 0, 1) := by decide +kernel
theorem dL_isRight_33 : decode cL_isRight 33 = .ok (.ireturn, 1) := by decide +kernel
theorem dL_isRight_34 : decode cL_isRight 34 = .ok (.iinc 2 1, 3) := by decide +kernel
theorem dL_isRight_37 : decode cL_isRight 37 = .ok (.goto (-35), 3) := by decide +kernel
theorem dL_isRight_40 : decode cL_isRight 40 = .ok (.iconst 1, 1) := by decide +kernel
theorem dL_isRight_41 : decode cL_isRight 41 = .ok (.ireturn, 1) := by decide +kernel
theorem dL_sends_0 : decode cL_sends 0 = .ok (.aload_n 0, 1) := by decide +kernel
theorem dL_sends_1 : decode cL_sends 1 = .ok (.getfield 36, 3) := by decide +kernel
theorem dL_sends_4 : decode cL_sends 4 = .ok (.aload_n 0, 1) := by decide +kernel
theorem dL_sends_5 : decode cL_sends 5 = .ok (.getfield 103, 3) := by decide +kernel
theorem dL_sends_8 : decode cL_sends 8 = .ok (.iload_n 1, 1) := by decide +kernel
theorem dL_sends_9 : decode cL_sends 9 = .ok (.iastore, 1) := by decide +kernel
theorem dL_sends_10 : decode cL_sends 10 = .ok (.aload_n 0, 1) := by decide +kernel
theorem dL_sends_11 : decode cL_sends 11 = .ok (.getfield 39, 3) := by decide +kernel
theorem dL_sends_14 : decode cL_sends 14 = .ok (.aload_n 0, 1) := by decide +kernel
theorem dL_sends_15 : decode cL_sends 15 = .ok (.getfield 103, 3) := by decide +kernel
theorem dL_sends_18 : decode cL_sends 18 = .ok (.iload_n 2, 1) := by decide +kernel
theorem dL_sends_19 : decode cL_sends 19 = .ok (.iastore, 1) := by decide +kernel
theorem dL_sends_20 : decode cL_sends 20 = .ok (.aload_n 0, 1) := by decide +kernel
theorem dL_sends_21 : decode cL_sends 21 = .ok (.getfield 45, 3) := by decide +kernel
theorem dL_sends_24 : decode cL_sends 24 = .ok (.aload_n 0, 1) := by decide +kernel
theorem dL_sends_25 : decode cL_sends 25 = .ok (.getfield 103, 3) := by decide +kernel
theorem dL_sends_28 : decode cL_sends 28 = .ok (.iload_n 1, 1) := by decide +kernel
theorem dL_sends_29 : decode cL_sends 29 = .ok (.iastore, 1) := by decide +kernel
theorem dL_sends_30 : decode cL_sends 30 = .ok (.aload_n 0, 1) := by decide +kernel
theorem dL_sends_31 : decode cL_sends 31 = .ok (.getfield 42, 3) := by decide +kernel
theorem dL_sends_34 : decode cL_sends 34 = .ok (.aload_n 0, 1) := by decide +kernel
theorem dL_sends_35 : decode cL_sends 35 = .ok (.getfield 103, 3) := by decide +kernel
theorem dL_sends_38 : decode cL_sends 38 = .ok (.iconst 0, 1) := by decide +kernel
theorem dL_sends_39 : decode cL_sends 39 = .ok (.iastore, 1) := by decide +kernel
theorem dL_sends_40 : decode cL_sends 40 = .ok (.aload_n 0, 1) := by decide +kernel
theorem dL_sends_41 : decode cL_sends 41 = .ok (.getfield 60, 3) := by decide +kernel
theorem dL_sends_44 : decode cL_sends 44 = .ok (.aload_n 0, 1) := by decide +kernel
theorem dL_sends_45 : decode cL_sends 45 = .ok (.getfield 103, 3) := by decide +kernel
theorem dL_sends_48 : decode cL_sends 48 = .ok (.iload 4, 2) := by decide +kernel
theorem dL_sends_50 : decode cL_sends 50 = .ok (.iastore, 1) := by decide +kernel
theorem dL_sends_51 : decode cL_sends 51 = .ok (.aload_n 0, 1) := by decide +kernel
theorem dL_sends_52 : decode cL_sends 52 = .ok (.getfield 63, 3) := by decide +kernel
theorem dL_sends_55 : decode cL_sends 55 = .ok (.aload_n 0, 1) := by decide +kernel
theorem dL_sends_56 : decode cL_sends 56 = .ok (.getfield 103, 3) := by decide +kernel
theorem dL_sends_59 : decode cL_sends 59 = .ok (.iload 5, 2) := by decide +kernel
theorem dL_sends_61 : decode cL_sends 61 = .ok (.iastore, 1) := by decide +kernel
theorem dL_sends_62 : decode cL_sends 62 = .ok (.aload_n 0, 1) := by decide +kernel
theorem dL_sends_63 : decode cL_sends 63 = .ok (.getfield 67, 3) := by decide +kernel
theorem dL_sends_66 : decode cL_sends 66 = .ok (.aload_n 0, 1) := by decide +kernel
theorem dL_sends_67 : decode cL_sends 67 = .ok (.getfield 103, 3) := by decide +kernel
theorem dL_sends_70 : decode cL_sends 70 = .ok (.aload_n 3, 1) := by decide +kernel
theorem dL_sends_71 : decode cL_sends 71 = .ok (.aastore, 1) := by decide +kernel
theorem dL_sends_72 : decode cL_sends 72 = .ok (.aload_n 0, 1) := by decide +kernel
theorem dL_sends_73 : decode cL_sends 73 = .ok (.getfield 70, 3) := by decide +kernel
theorem dL_sends_76 : decode cL_sends 76 = .ok (.aload_n 0, 1) := by decide +kernel
theorem dL_sends_77 : decode cL_sends 77 = .ok (.getfield 103, 3) := by decide +kernel
theorem dL_sends_80 : decode cL_sends 80 = .ok (.aload_n 3, 1) := by decide +kernel
theorem dL_sends_81 : decode cL_sends 81 = .ok (.arraylength, 1) := by decide +kernel
theorem dL_sends_82 : decode cL_sends 82 = .ok (.newarray .int, 2) := by decide +kernel
theorem dL_sends_84 : decode cL_sends 84 = .ok (.aastore, 1) := by decide +kernel
theorem dL_sends_85 : decode cL_sends 85 = .ok (.aload_n 0, 1) := by decide +kernel
theorem dL_sends_86 : decode cL_sends 86 = .ok (.aload_n 0, 1) := by decide +kernel
theorem dL_sends_87 : decode cL_sends 87 = .ok (.getfield 103, 3) := by decide +kernel
theorem dL_sends_90 : decode cL_sends 90 = .ok (.invokevirtual 106, 3) := by decide +kernel
theorem dL_sends_93 : decode cL_sends 93 = .ok (.aload_n 0, 1) := by decide +kernel
theorem dL_sends_94 : decode cL_sends 94 = .ok (.dup, 1) := by decide +kernel
theorem dL_sends_95 : decode cL_sends 95 = .ok (.getfield 110, 3) := by decide +kernel
theorem dL_sends_98 : decode cL_sends 98 = .ok (.iload 5, 2) := by decide +kernel
theorem dL_sends_100 : decode cL_sends 100 = .ok (.iadd, 1) := by decide +kernel
theorem dL_sends_101 : decode cL_sends 101 = .ok (.putfield 110, 3) := by decide +kernel
theorem dL_sends_104 : decode cL_sends 104 = .ok (.aload_n 0, 1) := by decide +kernel
theorem dL_sends_105 : decode cL_sends 105 = .ok (.dup, 1) := by decide +kernel
theorem dL_sends_106 : decode cL_sends 106 = .ok (.getfield 103, 3) := by decide +kernel
theorem dL_sends_109 : decode cL_sends 109 = .ok (.iconst 1, 1) := by decide +kernel
theorem dL_sends_110 : decode cL_sends 110 = .ok (.iadd, 1) := by decide +kernel
theorem dL_sends_111 : decode cL_sends 111 = .ok (.putfield 103, 3) := by decide +kernel
theorem dL_sends_114 : decode cL_sends 114 = .ok (.return_, 1) := by decide +kernel
theorem dL_resets_0 : decode cL_resets 0 = .ok (.aload_n 0, 1) := by decide +kernel
theorem dL_resets_1 : decode cL_resets 1 = .ok (.getfield 67, 3) := by decide +kernel
theorem dL_resets_4 : decode cL_resets 4 = .ok (.iload_n 1, 1) := by decide +kernel
theorem dL_resets_5 : decode cL_resets 5 = .ok (.aaload, 1) := by decide +kernel
theorem dL_resets_6 : decode cL_resets 6 = .ok (.iconst 0, 1) := by decide +kernel
theorem dL_resets_7 : decode cL_resets 7 = .ok (.aload_n 0, 1) := by decide +kernel
theorem dL_resets_8 : decode cL_resets 8 = .ok (.getfield 70, 3) := by decide +kernel
theorem dL_resets_11 : decode cL_resets 11 = .ok (.iload_n 1, 1) := by decide +kernel
theorem dL_resets_12 : decode cL_resets 12 = .ok (.aaload, 1) := by decide +kernel
theorem dL_resets_13 : decode cL_resets 13 = .ok (.iconst 0, 1) := by decide +kernel
theorem dL_resets_14 : decode cL_resets 14 = .ok (.aload_n 0, 1) := by decide +kernel
theorem dL_resets_15 : decode cL_resets 15 = .ok (.getfield 67, 3) := by decide +kernel
theorem dL_resets_18 : decode cL_resets 18 = .ok (.iload_n 1, 1) := by decide +kernel
theorem dL_resets_19 : decode cL_resets 19 = .ok (.aaload, 1) := by decide +kernel
theorem dL_resets_20 : decode cL_resets 20 = .ok (.arraylength, 1) := by decide +kernel
theorem dL_resets_21 : decode cL_resets 21 = .ok (.invokestatic 113, 3) := by decide +kernel
theorem dL_resets_24 : decode cL_resets 24 = .ok (.return_, 1) := by decide +kernel
theorem dL_lands_0 : decode cL_lands 0 = .ok (.aload_n 0, 1) := by decide +kernel
theorem dL_lands_1 : decode cL_lands 1 = .ok (.getfield 67, 3) := by decide +kernel
theorem dL_lands_4 : decode cL_lands 4 = .ok (.iload_n 1, 1) := by decide +kernel
theorem dL_lands_5 : decode cL_lands 5 = .ok (.aaload, 1) := by decide +kernel
theorem dL_lands_6 : decode cL_lands 6 = .ok (.arraylength, 1) := by decide +kernel
theorem dL_lands_7 : decode cL_lands 7 = .ok (.istore_n 2, 1) := by decide +kernel
theorem dL_lands_8 : decode cL_lands 8 = .ok (.iconst 0, 1) := by decide +kernel
theorem dL_lands_9 : decode cL_lands 9 = .ok (.aload_n 0, 1) := by decide +kernel
theorem dL_lands_10 : decode cL_lands 10 = .ok (.getfield 119, 3) := by decide +kernel
theorem dL_lands_13 : decode cL_lands 13 = .ok (.aload_n 0, 1) := by decide +kernel
theorem dL_lands_14 : decode cL_lands 14 = .ok (.getfield 51, 3) := by decide +kernel
theorem dL_lands_17 : decode cL_lands 17 = .ok (.iload_n 1, 1) := by decide +kernel
theorem dL_lands_18 : decode cL_lands 18 = .ok (.iaload, 1) := by decide +kernel
theorem dL_lands_19 : decode cL_lands 19 = .ok (.imul, 1) := by decide +kernel
theorem dL_lands_20 : decode cL_lands 20 = .ok (.iconst 3, 1) := by decide +kernel
theorem dL_lands_21 : decode cL_lands 21 = .ok (.aload_n 0, 1) := by decide +kernel
theorem dL_lands_22 : decode cL_lands 22 = .ok (.getfield 13, 3) := by decide +kernel
theorem dL_lands_25 : decode cL_lands 25 = .ok (.aload_n 0, 1) := by decide +kernel
theorem dL_lands_26 : decode cL_lands 26 = .ok (.getfield 45, 3) := by decide +kernel
theorem dL_lands_29 : decode cL_lands 29 = .ok (.iload_n 1, 1) := by decide +kernel
theorem dL_lands_30 : decode cL_lands 30 = .ok (.iaload, 1) := by decide +kernel
theorem dL_lands_31 : decode cL_lands 31 = .ok (.iaload, 1) := by decide +kernel
theorem dL_lands_32 : decode cL_lands 32 = .ok (.imul, 1) := by decide +kernel
theorem dL_lands_33 : decode cL_lands 33 = .ok (.isub, 1) := by decide +kernel
theorem dL_lands_34 : decode cL_lands 34 = .ok (.invokestatic 122, 3) := by decide +kernel
theorem dL_lands_37 : decode cL_lands 37 = .ok (.bipush 10, 2) := by decide +kernel
theorem dL_lands_39 : decode cL_lands 39 = .ok (.idiv, 1) := by decide +kernel
theorem dL_lands_40 : decode cL_lands 40 = .ok (.istore_n 3, 1) := by decide +kernel
theorem dL_lands_41 : decode cL_lands 41 = .ok (.iconst 0, 1) := by decide +kernel
theorem dL_lands_42 : decode cL_lands 42 = .ok (.istore 4, 2) := by decide +kernel
theorem dL_lands_44 : decode cL_lands 44 = .ok (.iload 4, 2) := by decide +kernel
theorem dL_lands_46 : decode cL_lands 46 = .ok (.iload_n 3, 1) := by decide +kernel
theorem dL_lands_47 : decode cL_lands 47 = .ok (.iload_n 2, 1) := by decide +kernel
theorem dL_lands_48 : decode cL_lands 48 = .ok (.invokestatic 97, 3) := by decide +kernel
theorem dL_lands_51 : decode cL_lands 51 = .ok (.if_icmp .ge 65, 3) := by decide +kernel
theorem dL_lands_54 : decode cL_lands 54 = .ok (.iload_n 1, 1) := by decide +kernel
theorem dL_lands_55 : decode cL_lands 55 = .ok (.iload 4, 2) := by decide +kernel
theorem dL_lands_57 : decode cL_lands 57 = .ok (.iadd, 1) := by decide +kernel
theorem dL_lands_58 : decode cL_lands 58 = .ok (.iload_n 2, 1) := by decide +kernel
theorem dL_lands_59 : decode cL_lands 59 = .ok (.irem, 1) := by decide +kernel
theorem dL_lands_60 : decode cL_lands 60 = .ok (.istore 5, 2) := by decide +kernel
theorem dL_lands_62 : decode cL_lands 62 = .ok (.aload_n 0, 1) := by decide +kernel
theorem dL_lands_63 : decode cL_lands 63 = .ok (.getfield 70, 3) := by decide +kernel
theorem dL_lands_66 : decode cL_lands 66 = .ok (.iload_n 1, 1) := by decide +kernel
theorem dL_lands_67 : decode cL_lands 67 = .ok (.aaload, 1) := by decide +kernel
theorem dL_lands_68 : decode cL_lands 68 = .ok (.iload 5, 2) := by decide +kernel
theorem dL_lands_70 : decode cL_lands 70 = .ok (.aload_n 0, 1) := by decide +kernel
theorem dL_lands_71 : decode cL_lands 71 = .ok (.getfield 70, 3) := by decide +kernel
theorem dL_lands_74 : decode cL_lands 74 = .ok (.iload_n 1, 1) := by decide +kernel
theorem dL_lands_75 : decode cL_lands 75 = .ok (.aaload, 1) := by decide +kernel
theorem dL_lands_76 : decode cL_lands 76 = .ok (.iload 5, 2) := by decide +kernel
theorem dL_lands_78 : decode cL_lands 78 = .ok (.iaload, 1) := by decide +kernel
theorem dL_lands_79 : decode cL_lands 79 = .ok (.bipush 7, 2) := by decide +kernel
theorem dL_lands_81 : decode cL_lands 81 = .ok (.if_icmp .ne 7, 3) := by decide +kernel
theorem dL_lands_84 : decode cL_lands 84 = .ok (.iconst 0, 1) := by decide +kernel
theorem dL_lands_85 : decode cL_lands 85 = .ok (.goto 14, 3) := by decide +kernel
theorem dL_lands_88 : decode cL_lands 88 = .ok (.aload_n 0, 1) := by decide +kernel
theorem dL_lands_89 : decode cL_lands 89 = .ok (.getfield 70, 3) := by decide +kernel
theorem dL_lands_92 : decode cL_lands 92 = .ok (.iload_n 1, 1) := by decide +kernel
theorem dL_lands_93 : decode cL_lands 93 = .ok (.aaload, 1) := by decide +kernel
theorem dL_lands_94 : decode cL_lands 94 = .ok (.iload 5, 2) := by decide +kernel
theorem dL_lands_96 : decode cL_lands 96 = .ok (.iaload, 1) := by decide +kernel
theorem dL_lands_97 : decode cL_lands 97 = .ok (.iconst 1, 1) := by decide +kernel
theorem dL_lands_98 : decode cL_lands 98 = .ok (.iadd, 1) := by decide +kernel
theorem dL_lands_99 : decode cL_lands 99 = .ok (.iastore, 1) := by decide +kernel
theorem dL_lands_100 : decode cL_lands 100 = .ok (.aload_n 0, 1) := by decide +kernel
theorem dL_lands_101 : decode cL_lands 101 = .ok (.dup, 1) := by decide +kernel
theorem dL_lands_102 : decode cL_lands 102 = .ok (.getfield 125, 3) := by decide +kernel
theorem dL_lands_105 : decode cL_lands 105 = .ok (.iconst 1, 1) := by decide +kernel
theorem dL_lands_106 : decode cL_lands 106 = .ok (.iadd, 1) := by decide +kernel
theorem dL_lands_107 : decode cL_lands 107 = .ok (.putfield 125, 3) := by decide +kernel
theorem dL_lands_110 : decode cL_lands 110 = .ok (.iinc 4 1, 3) := by decide +kernel
theorem dL_lands_113 : decode cL_lands 113 = .ok (.goto (-69), 3) := by decide +kernel
theorem dL_lands_116 : decode cL_lands 116 = .ok (.aload_n 0, 1) := by decide +kernel
theorem dL_lands_117 : decode cL_lands 117 = .ok (.getfield 42, 3) := by decide +kernel
theorem dL_lands_120 : decode cL_lands 120 = .ok (.iload_n 1, 1) := by decide +kernel
theorem dL_lands_121 : decode cL_lands 121 = .ok (.iconst 0, 1) := by decide +kernel
theorem dL_lands_122 : decode cL_lands 122 = .ok (.iastore, 1) := by decide +kernel
theorem dL_lands_123 : decode cL_lands 123 = .ok (.aload_n 0, 1) := by decide +kernel
theorem dL_lands_124 : decode cL_lands 124 = .ok (.getfield 45, 3) := by decide +kernel
theorem dL_lands_127 : decode cL_lands 127 = .ok (.iload_n 1, 1) := by decide +kernel
theorem dL_lands_128 : decode cL_lands 128 = .ok (.iaload, 1) := by decide +kernel
theorem dL_lands_129 : decode cL_lands 129 = .ok (.aload_n 0, 1) := by decide +kernel
theorem dL_lands_130 : decode cL_lands 130 = .ok (.getfield 39, 3) := by decide +kernel
theorem dL_lands_133 : decode cL_lands 133 = .ok (.iload_n 1, 1) := by decide +kernel
theorem dL_lands_134 : decode cL_lands 134 = .ok (.iaload, 1) := by decide +kernel
theorem dL_lands_135 : decode cL_lands 135 = .ok (.if_icmp .eq 4, 3) := by decide +kernel
theorem dL_lands_138 : decode cL_lands 138 = .ok (.return_, 1) := by decide +kernel
theorem dL_lands_139 : decode cL_lands 139 = .ok (.aload_n 0, 1) := by decide +kernel
theorem dL_lands_140 : decode cL_lands 140 = .ok (.iload_n 1, 1) := by decide +kernel
theorem dL_lands_141 : decode cL_lands 141 = .ok (.invokevirtual 128, 3) := by decide +kernel
theorem dL_lands_144 : decode cL_lands 144 = .ok (.ifCond .ne 54, 3) := by decide +kernel
theorem dL_lands_147 : decode cL_lands 147 = .ok (.aload_n 0, 1) := by decide +kernel
theorem dL_lands_148 : decode cL_lands 148 = .ok (.getfield 54, 3) := by decide +kernel
theorem dL_lands_151 : decode cL_lands 151 = .ok (.iload_n 1, 1) := by decide +kernel
theorem dL_lands_152 : decode cL_lands 152 = .ok (.iaload, 1) := by decide +kernel
theorem dL_lands_153 : decode cL_lands 153 = .ok (.aload_n 0, 1) := by decide +kernel
theorem dL_lands_154 : decode cL_lands 154 = .ok (.getfield 131, 3) := by decide +kernel
theorem dL_lands_157 : decode cL_lands 157 = .ok (.if_icmp .ge 41, 3) := by decide +kernel
theorem dL_lands_160 : decode cL_lands 160 = .ok (.aload_n 0, 1) := by decide +kernel
theorem dL_lands_161 : decode cL_lands 161 = .ok (.getfield 54, 3) := by decide +kernel
theorem dL_lands_164 : decode cL_lands 164 = .ok (.iload_n 1, 1) := by decide +kernel
theorem dL_lands_165 : decode cL_lands 165 = .ok (.dup2, 1) := by decide +kernel
theorem dL_lands_166 : decode cL_lands 166 = .ok (.iaload, 1) := by decide +kernel
theorem dL_lands_167 : decode cL_lands 167 = .ok (.iconst 1, 1) := by decide +kernel
theorem dL_lands_168 : decode cL_lands 168 = .ok (.iadd, 1) := by decide +kernel
theorem dL_lands_169 : decode cL_lands 169 = .ok (.iastore, 1) := by decide +kernel
theorem dL_lands_170 : decode cL_lands 170 = .ok (.aload_n 0, 1) := by decide +kernel
theorem dL_lands_171 : decode cL_lands 171 = .ok (.dup, 1) := by decide +kernel
theorem dL_lands_172 : decode cL_lands 172 = .ok (.getfield 134, 3) := by decide +kernel
theorem dL_lands_175 : decode cL_lands 175 = .ok (.iconst 1, 1) := by decide +kernel
theorem dL_lands_176 : decode cL_lands 176 = .ok (.iadd, 1) := by decide +kernel
theorem dL_lands_177 : decode cL_lands 177 = .ok (.putfield 134, 3) := by decide +kernel
theorem dL_lands_180 : decode cL_lands 180 = .ok (.aload_n 0, 1) := by decide +kernel
theorem dL_lands_181 : decode cL_lands 181 = .ok (.iload_n 1, 1) := by decide +kernel
theorem dL_lands_182 : decode cL_lands 182 = .ok (.invokevirtual 106, 3) := by decide +kernel
theorem dL_lands_185 : decode cL_lands 185 = .ok (.aload_n 0, 1) := by decide +kernel
theorem dL_lands_186 : decode cL_lands 186 = .ok (.getfield 45, 3) := by decide +kernel
theorem dL_lands_189 : decode cL_lands 189 = .ok (.iload_n 1, 1) := by decide +kernel
theorem dL_lands_190 : decode cL_lands 190 = .ok (.aload_n 0, 1) := by decide +kernel
theorem dL_lands_191 : decode cL_lands 191 = .ok (.getfield 36, 3) := by decide +kernel
theorem dL_lands_194 : decode cL_lands 194 = .ok (.iload_n 1, 1) := by decide +kernel
theorem dL_lands_195 : decode cL_lands 195 = .ok (.iaload, 1) := by decide +kernel
theorem dL_lands_196 : decode cL_lands 196 = .ok (.iastore, 1) := by decide +kernel
theorem dL_lands_197 : decode cL_lands 197 = .ok (.return_, 1) := by decide +kernel
theorem dL_lands_198 : decode cL_lands 198 = .ok (.aload_n 0, 1) := by decide +kernel
theorem dL_lands_199 : decode cL_lands 199 = .ok (.getfield 42, 3) := by decide +kernel
theorem dL_lands_202 : decode cL_lands 202 = .ok (.iload_n 1, 1) := by decide +kernel
theorem dL_lands_203 : decode cL_lands 203 = .ok (.iconst 2, 1) := by decide +kernel
theorem dL_lands_204 : decode cL_lands 204 = .ok (.iastore, 1) := by decide +kernel
theorem dL_lands_205 : decode cL_lands 205 = .ok (.aload_n 0, 1) := by decide +kernel
theorem dL_lands_206 : decode cL_lands 206 = .ok (.dup, 1) := by decide +kernel
theorem dL_lands_207 : decode cL_lands 207 = .ok (.getfield 137, 3) := by decide +kernel
theorem dL_lands_210 : decode cL_lands 210 = .ok (.iconst 1, 1) := by decide +kernel
theorem dL_lands_211 : decode cL_lands 211 = .ok (.iadd, 1) := by decide +kernel
theorem dL_lands_212 : decode cL_lands 212 = .ok (.putfield 137, 3) := by decide +kernel
theorem dL_lands_215 : decode cL_lands 215 = .ok (.aload_n 0, 1) := by decide +kernel
theorem dL_lands_216 : decode cL_lands 216 = .ok (.iload_n 1, 1) := by decide +kernel
theorem dL_lands_217 : decode cL_lands 217 = .ok (.invokevirtual 128, 3) := by decide +kernel
theorem dL_lands_220 : decode cL_lands 220 = .ok (.ifCond .ne 4, 3) := by decide +kernel
theorem dL_lands_223 : decode cL_lands 223 = .ok (.return_, 1) := by decide +kernel
theorem dL_lands_224 : decode cL_lands 224 = .ok (.aload_n 0, 1) := by decide +kernel
theorem dL_lands_225 : decode cL_lands 225 = .ok (.dup, 1) := by decide +kernel
theorem dL_lands_226 : decode cL_lands 226 = .ok (.getfield 140, 3) := by decide +kernel
theorem dL_lands_229 : decode cL_lands 229 = .ok (.iconst 1, 1) := by decide +kernel
theorem dL_lands_230 : decode cL_lands 230 = .ok (.iadd, 1) := by decide +kernel
theorem dL_lands_231 : decode cL_lands 231 = .ok (.putfield 140, 3) := by decide +kernel
theorem dL_lands_234 : decode cL_lands 234 = .ok (.aload_n 0, 1) := by decide +kernel
theorem dL_lands_235 : decode cL_lands 235 = .ok (.getfield 60, 3) := by decide +kernel
theorem dL_lands_238 : decode cL_lands 238 = .ok (.iload_n 1, 1) := by decide +kernel
theorem dL_lands_239 : decode cL_lands 239 = .ok (.iaload, 1) := by decide +kernel
theorem dL_lands_240 : decode cL_lands 240 = .ok (.ifCond .eq 12, 3) := by decide +kernel
theorem dL_lands_243 : decode cL_lands 243 = .ok (.aload_n 0, 1) := by decide +kernel
theorem dL_lands_244 : decode cL_lands 244 = .ok (.getfield 103, 3) := by decide +kernel
theorem dL_lands_247 : decode cL_lands 247 = .ok (.bipush 30, 2) := by decide +kernel
theorem dL_lands_249 : decode cL_lands 249 = .ok (.if_icmp .ne 4, 3) := by decide +kernel
theorem dL_lands_252 : decode cL_lands 252 = .ok (.return_, 1) := by decide +kernel
theorem dL_lands_253 : decode cL_lands 253 = .ok (.iload_n 2, 1) := by decide +kernel
theorem dL_lands_254 : decode cL_lands 254 = .ok (.newarray .int, 2) := by decide +kernel
theorem dL_lands_256 : decode cL_lands 256 = .ok (.astore 4, 2) := by decide +kernel
theorem dL_lands_258 : decode cL_lands 258 = .ok (.iconst 0, 1) := by decide +kernel
theorem dL_lands_259 : decode cL_lands 259 = .ok (.istore 5, 2) := by decide +kernel
theorem dL_lands_261 : decode cL_lands 261 = .ok (.iload 5, 2) := by decide +kernel
theorem dL_lands_263 : decode cL_lands 263 = .ok (.iload_n 2, 1) := by decide +kernel
theorem dL_lands_264 : decode cL_lands 264 = .ok (.if_icmp .ge 27, 3) := by decide +kernel
theorem dL_lands_267 : decode cL_lands 267 = .ok (.aload 4, 2) := by decide +kernel
theorem dL_lands_269 : decode cL_lands 269 = .ok (.iload_n 2, 1) := by decide +kernel
theorem dL_lands_270 : decode cL_lands 270 = .ok (.iconst 1, 1) := by decide +kernel
theorem dL_lands_271 : decode cL_lands 271 = .ok (.isub, 1) := by decide +kernel
theorem dL_lands_272 : decode cL_lands 272 = .ok (.iload 5, 2) := by decide +kernel
theorem dL_lands_274 : decode cL_lands 274 = .ok (.isub, 1) := by decide +kernel
theorem dL_lands_275 : decode cL_lands 275 = .ok (.aload_n 0, 1) := by decide +kernel
theorem dL_lands_276 : decode cL_lands 276 = .ok (.getfield 67, 3) := by decide +kernel
theorem dL_lands_279 : decode cL_lands 279 = .ok (.iload_n 1, 1) := by decide +kernel
theorem dL_lands_280 : decode cL_lands 280 = .ok (.aaload, 1) := by decide +kernel
theorem dL_lands_281 : decode cL_lands 281 = .ok (.iload 5, 2) := by decide +kernel
theorem dL_lands_283 : decode cL_lands 283 = .ok (.iaload, 1) := by decide +kernel
theorem dL_lands_284 : decode cL_lands 284 = .ok (.iastore, 1) := by decide +kernel
theorem dL_lands_285 : decode cL_lands 285 = .ok (.iinc 5 1, 3) := by decide +kernel
theorem dL_lands_288 : decode cL_lands 288 = .ok (.goto (-27), 3) := by decide +kernel
theorem dL_lands_291 : decode cL_lands 291 = .ok (.aload_n 0, 1) := by decide +kernel
theorem dL_lands_292 : decode cL_lands 292 = .ok (.aload_n 0, 1) := by decide +kernel
theorem dL_lands_293 : decode cL_lands 293 = .ok (.getfield 39, 3) := by decide +kernel
theorem dL_lands_296 : decode cL_lands 296 = .ok (.iload_n 1, 1) := by decide +kernel
theorem dL_lands_297 : decode cL_lands 297 = .ok (.iaload, 1) := by decide +kernel
theorem dL_lands_298 : decode cL_lands 298 = .ok (.aload_n 0, 1) := by decide +kernel
theorem dL_lands_299 : decode cL_lands 299 = .ok (.getfield 36, 3) := by decide +kernel
theorem dL_lands_302 : decode cL_lands 302 = .ok (.iload_n 1, 1) := by decide +kernel
theorem dL_lands_303 : decode cL_lands 303 = .ok (.iaload, 1) := by decide +kernel
theorem dL_lands_304 : decode cL_lands 304 = .ok (.aload 4, 2) := by decide +kernel
theorem dL_lands_306 : decode cL_lands 306 = .ok (.iconst 0, 1) := by decide +kernel
theorem dL_lands_307 : decode cL_lands 307 = .ok (.iconst 1, 1) := by decide +kernel
theorem dL_lands_308 : decode cL_lands 308 = .ok (.invokevirtual 143, 3) := by decide +kernel
theorem dL_lands_311 : decode cL_lands 311 = .ok (.return_, 1) := by decide +kernel
theorem dL_first_0 : decode cL_first 0 = .ok (.iconst (-1), 1) := by decide +kernel
theorem dL_first_1 : decode cL_first 1 = .ok (.istore_n 2, 1) := by decide +kernel
theorem dL_first_2 : decode cL_first 2 = .ok (.iconst 0, 1) := by decide +kernel
theorem dL_first_3 : decode cL_first 3 = .ok (.istore_n 3, 1) := by decide +kernel
theorem dL_first_4 : decode cL_first 4 = .ok (.iload_n 3, 1) := by decide +kernel
theorem dL_first_5 : decode cL_first 5 = .ok (.aload_n 0, 1) := by decide +kernel
theorem dL_first_6 : decode cL_first 6 = .ok (.getfield 103, 3) := by decide +kernel
theorem dL_first_9 : decode cL_first 9 = .ok (.if_icmp .ge 90, 3) := by decide +kernel
theorem dL_first_12 : decode cL_first 12 = .ok (.aload_n 0, 1) := by decide +kernel
theorem dL_first_13 : decode cL_first 13 = .ok (.getfield 42, 3) := by decide +kernel
theorem dL_first_16 : decode cL_first 16 = .ok (.iload_n 3, 1) := by decide +kernel
theorem dL_first_17 : decode cL_first 17 = .ok (.iaload, 1) := by decide +kernel
theorem dL_first_18 : decode cL_first 18 = .ok (.ifCond .ne 75, 3) := by decide +kernel
theorem dL_first_21 : decode cL_first 21 = .ok (.aload_n 0, 1) := by decide +kernel
theorem dL_first_22 : decode cL_first 22 = .ok (.getfield 45, 3) := by decide +kernel
theorem dL_first_25 : decode cL_first 25 = .ok (.iload_n 3, 1) := by decide +kernel
theorem dL_first_26 : decode cL_first 26 = .ok (.iaload, 1) := by decide +kernel
theorem dL_first_27 : decode cL_first 27 = .ok (.iload_n 1, 1) := by decide +kernel
theorem dL_first_28 : decode cL_first 28 = .ok (.if_icmp .ne 65, 3) := by decide +kernel
theorem dL_first_31 : decode cL_first 31 = .ok (.aload_n 0, 1) := by decide +kernel
theorem dL_first_32 : decode cL_first 32 = .ok (.iload_n 1, 1) := by decide +kernel
theorem dL_first_33 : decode cL_first 33 = .ok (.aload_n 0, 1) := by decide +kernel
theorem dL_first_34 : decode cL_first 34 = .ok (.getfield 39, 3) := by decide +kernel
theorem dL_first_37 : decode cL_first 37 = .ok (.iload_n 3, 1) := by decide +kernel
theorem dL_first_38 : decode cL_first 38 = .ok (.iaload, 1) := by decide +kernel
theorem dL_first_39 : decode cL_first 39 = .ok (.invokevirtual 147, 3) := by decide +kernel
theorem dL_first_42 : decode cL_first 42 = .ok (.ifCond .lt 51, 3) := by decide +kernel
theorem dL_first_45 : decode cL_first 45 = .ok (.aload_n 0, 1) := by decide +kernel
theorem dL_first_46 : decode cL_first 46 = .ok (.getfield 19, 3) := by decide +kernel
theorem dL_first_49 : decode cL_first 49 = .ok (.aload_n 0, 1) := by decide +kernel
theorem dL_first_50 : decode cL_first 50 = .ok (.getfield 36, 3) := by decide +kernel
theorem dL_first_53 : decode cL_first 53 = .ok (.iload_n 3, 1) := by decide +kernel
theorem dL_first_54 : decode cL_first 54 = .ok (.iaload, 1) := by decide +kernel
theorem dL_first_55 : decode cL_first 55 = .ok (.iaload, 1) := by decide +kernel
theorem dL_first_56 : decode cL_first 56 = .ok (.aload_n 0, 1) := by decide +kernel
theorem dL_first_57 : decode cL_first 57 = .ok (.getfield 16, 3) := by decide +kernel
theorem dL_first_60 : decode cL_first 60 = .ok (.iload_n 1, 1) := by decide +kernel
theorem dL_first_61 : decode cL_first 61 = .ok (.iaload, 1) := by decide +kernel
theorem dL_first_62 : decode cL_first 62 = .ok (.aload_n 0, 1) := by decide +kernel
theorem dL_first_63 : decode cL_first 63 = .ok (.iload_n 3, 1) := by decide +kernel
theorem dL_first_64 : decode cL_first 64 = .ok (.invokevirtual 150, 3) := by decide +kernel
theorem dL_first_67 : decode cL_first 67 = .ok (.imul, 1) := by decide +kernel
theorem dL_first_68 : decode cL_first 68 = .ok (.if_icmp .ge 6, 3) := by decide +kernel
theorem dL_first_71 : decode cL_first 71 = .ok (.goto 22, 3) := by decide +kernel
theorem dL_first_74 : decode cL_first 74 = .ok (.iload_n 2, 1) := by decide +kernel
theorem dL_first_75 : decode cL_first 75 = .ok (.ifCond .lt 16, 3) := by decide +kernel
theorem dL_first_78 : decode cL_first 78 = .ok (.aload_n 0, 1) := by decide +kernel
theorem dL_first_79 : decode cL_first 79 = .ok (.iload_n 3, 1) := by decide +kernel
theorem dL_first_80 : decode cL_first 80 = .ok (.invokevirtual 150, 3) := by decide +kernel
theorem dL_first_83 : decode cL_first 83 = .ok (.aload_n 0, 1) := by decide +kernel
theorem dL_first_84 : decode cL_first 84 = .ok (.iload_n 2, 1) := by decide +kernel
theorem dL_first_85 : decode cL_first 85 = .ok (.invokevirtual 150, 3) := by decide +kernel
theorem dL_first_88 : decode cL_first 88 = .ok (.if_icmp .le 5, 3) := by decide +kernel
theorem dL_first_91 : decode cL_first 91 = .ok (.iload_n 3, 1) := by decide +kernel
theorem dL_first_92 : decode cL_first 92 = .ok (.istore_n 2, 1) := by decide +kernel
theorem dL_first_93 : decode cL_first 93 = .ok (.iinc 3 1, 3) := by decide +kernel
theorem dL_first_96 : decode cL_first 96 = .ok (.goto (-92), 3) := by decide +kernel
theorem dL_first_99 : decode cL_first 99 = .ok (.iload_n 2, 1) := by decide +kernel
theorem dL_first_100 : decode cL_first 100 = .ok (.ireturn, 1) := by decide +kernel
theorem dL_ticks_0 : decode cL_ticks 0 = .ok (.aload_n 0, 1) := by decide +kernel
theorem dL_ticks_1 : decode cL_ticks 1 = .ok (.dup, 1) := by decide +kernel
theorem dL_ticks_2 : decode cL_ticks 2 = .ok (.getfield 154, 3) := by decide +kernel
theorem dL_ticks_5 : decode cL_ticks 5 = .ok (.iconst 1, 1) := by decide +kernel
theorem dL_ticks_6 : decode cL_ticks 6 = .ok (.iadd, 1) := by decide +kernel
theorem dL_ticks_7 : decode cL_ticks 7 = .ok (.putfield 154, 3) := by decide +kernel
theorem dL_ticks_10 : decode cL_ticks 10 = .ok (.aload_n 0, 1) := by decide +kernel
theorem dL_ticks_11 : decode cL_ticks 11 = .ok (.getfield 103, 3) := by decide +kernel
theorem dL_ticks_14 : decode cL_ticks 14 = .ok (.istore_n 1, 1) := by decide +kernel
theorem dL_ticks_15 : decode cL_ticks 15 = .ok (.iconst 0, 1) := by decide +kernel
theorem dL_ticks_16 : decode cL_ticks 16 = .ok (.istore_n 2, 1) := by decide +kernel
theorem dL_ticks_17 : decode cL_ticks 17 = .ok (.iload_n 2, 1) := by decide +kernel
theorem dL_ticks_18 : decode cL_ticks 18 = .ok (.iload_n 1, 1) := by decide +kernel
theorem dL_ticks_19 : decode cL_ticks 19 = .ok (.if_icmp .ge 37, 3) := by decide +kernel
theorem dL_ticks_22 : decode cL_ticks 22 = .ok (.aload_n 0, 1) := by decide +kernel
theorem dL_ticks_23 : decode cL_ticks 23 = .ok (.getfield 42, 3) := by decide +kernel
theorem dL_ticks_26 : decode cL_ticks 26 = .ok (.iload_n 2, 1) := by decide +kernel
theorem dL_ticks_27 : decode cL_ticks 27 = .ok (.iaload, 1) := by decide +kernel
theorem dL_ticks_28 : decode cL_ticks 28 = .ok (.iconst 1, 1) := by decide +kernel
theorem dL_ticks_29 : decode cL_ticks 29 = .ok (.if_icmp .ne 21, 3) := by decide +kernel
theorem dL_ticks_32 : decode cL_ticks 32 = .ok (.aload_n 0, 1) := by decide +kernel
theorem dL_ticks_33 : decode cL_ticks 33 = .ok (.getfield 48, 3) := by decide +kernel
theorem dL_ticks_36 : decode cL_ticks 36 = .ok (.iload_n 2, 1) := by decide +kernel
theorem dL_ticks_37 : decode cL_ticks 37 = .ok (.iaload, 1) := by decide +kernel
theorem dL_ticks_38 : decode cL_ticks 38 = .ok (.aload_n 0, 1) := by decide +kernel
theorem dL_ticks_39 : decode cL_ticks 39 = .ok (.getfield 154, 3) := by decide +kernel
theorem dL_ticks_42 : decode cL_ticks 42 = .ok (.if_icmp .ne 8, 3) := by decide +kernel
theorem dL_ticks_45 : decode cL_ticks 45 = .ok (.aload_n 0, 1) := by decide +kernel
theorem dL_ticks_46 : decode cL_ticks 46 = .ok (.iload_n 2, 1) := by decide +kernel
theorem dL_ticks_47 : decode cL_ticks 47 = .ok (.invokevirtual 157, 3) := by decide +kernel
theorem dL_ticks_50 : decode cL_ticks 50 = .ok (.iinc 2 1, 3) := by decide +kernel
theorem dL_ticks_53 : decode cL_ticks 53 = .ok (.goto (-36), 3) := by decide +kernel
theorem dL_ticks_56 : decode cL_ticks 56 = .ok (.iconst 0, 1) := by decide +kernel
theorem dL_ticks_57 : decode cL_ticks 57 = .ok (.istore_n 2, 1) := by decide +kernel
theorem dL_ticks_58 : decode cL_ticks 58 = .ok (.iload_n 2, 1) := by decide +kernel
theorem dL_ticks_59 : decode cL_ticks 59 = .ok (.aload_n 0, 1) := by decide +kernel
theorem dL_ticks_60 : decode cL_ticks 60 = .ok (.getfield 93, 3) := by decide +kernel
theorem dL_ticks_63 : decode cL_ticks 63 = .ok (.if_icmp .ge 244, 3) := by decide +kernel
theorem dL_ticks_66 : decode cL_ticks 66 = .ok (.aload_n 0, 1) := by decide +kernel
theorem dL_ticks_67 : decode cL_ticks 67 = .ok (.getfield 154, 3) := by decide +kernel
theorem dL_ticks_70 : decode cL_ticks 70 = .ok (.bipush 60, 2) := by decide +kernel
theorem dL_ticks_72 : decode cL_ticks 72 = .ok (.irem, 1) := by decide +kernel
theorem dL_ticks_73 : decode cL_ticks 73 = .ok (.aload_n 0, 1) := by decide +kernel
theorem dL_ticks_74 : decode cL_ticks 74 = .ok (.getfield 160, 3) := by decide +kernel
theorem dL_ticks_77 : decode cL_ticks 77 = .ok (.if_icmp .ge 230, 3) := by decide +kernel
theorem dL_ticks_80 : decode cL_ticks 80 = .ok (.aload_n 0, 1) := by decide +kernel
theorem dL_ticks_81 : decode cL_ticks 81 = .ok (.getfield 22, 3) := by decide +kernel
theorem dL_ticks_84 : decode cL_ticks 84 = .ok (.iload_n 2, 1) := by decide +kernel
theorem dL_ticks_85 : decode cL_ticks 85 = .ok (.iaload, 1) := by decide +kernel
theorem dL_ticks_86 : decode cL_ticks 86 = .ok (.aload_n 0, 1) := by decide +kernel
theorem dL_ticks_87 : decode cL_ticks 87 = .ok (.getfield 154, 3) := by decide +kernel
theorem dL_ticks_90 : decode cL_ticks 90 = .ok (.if_icmp .le 7, 3) := by decide +kernel
theorem dL_ticks_93 : decode cL_ticks 93 = .ok (.iconst (-1), 1) := by decide +kernel
theorem dL_ticks_94 : decode cL_ticks 94 = .ok (.goto 8, 3) := by decide +kernel
theorem dL_ticks_97 : decode cL_ticks 97 = .ok (.aload_n 0, 1) := by decide +kernel
theorem dL_ticks_98 : decode cL_ticks 98 = .ok (.iload_n 2, 1) := by decide +kernel
theorem dL_ticks_99 : decode cL_ticks 99 = .ok (.invokevirtual 163, 3) := by decide +kernel
theorem dL_ticks_102 : decode cL_ticks 102 = .ok (.istore_n 3, 1) := by decide +kernel
theorem dL_ticks_103 : decode cL_ticks 103 = .ok (.iload_n 3, 1) := by decide +kernel
theorem dL_ticks_104 : decode cL_ticks 104 = .ok (.ifCond .ge 6, 3) := by decide +kernel
theorem dL_ticks_107 : decode cL_ticks 107 = .ok (.goto 194, 3) := by decide +kernel
theorem dL_ticks_110 : decode cL_ticks 110 = .ok (.aload_n 0, 1) := by decide +kernel
theorem dL_ticks_111 : decode cL_ticks 111 = .ok (.getfield 16, 3) := by decide +kernel
theorem dL_ticks_114 : decode cL_ticks 114 = .ok (.iload_n 2, 1) := by decide +kernel
theorem dL_ticks_115 : decode cL_ticks 115 = .ok (.iaload, 1) := by decide +kernel
theorem dL_ticks_116 : decode cL_ticks 116 = .ok (.aload_n 0, 1) := by decide +kernel
theorem dL_ticks_117 : decode cL_ticks 117 = .ok (.iload_n 3, 1) := by decide +kernel
theorem dL_ticks_118 : decode cL_ticks 118 = .ok (.invokevirtual 150, 3) := by decide +kernel
theorem dL_ticks_121 : decode cL_ticks 121 = .ok (.imul, 1) := by decide +kernel
theorem dL_ticks_122 : decode cL_ticks 122 = .ok (.istore 4, 2) := by decide +kernel
theorem dL_ticks_124 : decode cL_ticks 124 = .ok (.aload_n 0, 1) := by decide +kernel
theorem dL_ticks_125 : decode cL_ticks 125 = .ok (.getfield 19, 3) := by decide +kernel
theorem dL_ticks_128 : decode cL_ticks 128 = .ok (.aload_n 0, 1) := by decide +kernel
theorem dL_ticks_129 : decode cL_ticks 129 = .ok (.getfield 36, 3) := by decide +kernel
theorem dL_ticks_132 : decode cL_ticks 132 = .ok (.iload_n 3, 1) := by decide +kernel
theorem dL_ticks_133 : decode cL_ticks 133 = .ok (.iaload, 1) := by decide +kernel
theorem dL_ticks_134 : decode cL_ticks 134 = .ok (.dup2, 1) := by decide +kernel
theorem dL_ticks_135 : decode cL_ticks 135 = .ok (.iaload, 1) := by decide +kernel
theorem dL_ticks_136 : decode cL_ticks 136 = .ok (.iload 4, 2) := by decide +kernel
theorem dL_ticks_138 : decode cL_ticks 138 = .ok (.isub, 1) := by decide +kernel
theorem dL_ticks_139 : decode cL_ticks 139 = .ok (.iastore, 1) := by decide +kernel
theorem dL_ticks_140 : decode cL_ticks 140 = .ok (.aload_n 0, 1) := by decide +kernel
theorem dL_ticks_141 : decode cL_ticks 141 = .ok (.getfield 19, 3) := by decide +kernel
theorem dL_ticks_144 : decode cL_ticks 144 = .ok (.iload_n 2, 1) := by decide +kernel
theorem dL_ticks_145 : decode cL_ticks 145 = .ok (.dup2, 1) := by decide +kernel
theorem dL_ticks_146 : decode cL_ticks 146 = .ok (.iaload, 1) := by decide +kernel
theorem dL_ticks_147 : decode cL_ticks 147 = .ok (.iload 4, 2) := by decide +kernel
theorem dL_ticks_149 : decode cL_ticks 149 = .ok (.iadd, 1) := by decide +kernel
theorem dL_ticks_150 : decode cL_ticks 150 = .ok (.iastore, 1) := by decide +kernel
theorem dL_ticks_151 : decode cL_ticks 151 = .ok (.aload_n 0, 1) := by decide +kernel
theorem dL_ticks_152 : decode cL_ticks 152 = .ok (.dup, 1) := by decide +kernel
theorem dL_ticks_153 : decode cL_ticks 153 = .ok (.getfield 166, 3) := by decide +kernel
theorem dL_ticks_156 : decode cL_ticks 156 = .ok (.iload 4, 2) := by decide +kernel
theorem dL_ticks_158 : decode cL_ticks 158 = .ok (.iadd, 1) := by decide +kernel
theorem dL_ticks_159 : decode cL_ticks 159 = .ok (.putfield 166, 3) := by decide +kernel
theorem dL_ticks_162 : decode cL_ticks 162 = .ok (.aload_n 0, 1) := by decide +kernel
theorem dL_ticks_163 : decode cL_ticks 163 = .ok (.getfield 67, 3) := by decide +kernel
theorem dL_ticks_166 : decode cL_ticks 166 = .ok (.iload_n 3, 1) := by decide +kernel
theorem dL_ticks_167 : decode cL_ticks 167 = .ok (.aaload, 1) := by decide +kernel
theorem dL_ticks_168 : decode cL_ticks 168 = .ok (.arraylength, 1) := by decide +kernel
theorem dL_ticks_169 : decode cL_ticks 169 = .ok (.istore 5, 2) := by decide +kernel
theorem dL_ticks_171 : decode cL_ticks 171 = .ok (.aload_n 0, 1) := by decide +kernel
theorem dL_ticks_172 : decode cL_ticks 172 = .ok (.getfield 22, 3) := by decide +kernel
theorem dL_ticks_175 : decode cL_ticks 175 = .ok (.iload_n 2, 1) := by decide +kernel
theorem dL_ticks_176 : decode cL_ticks 176 = .ok (.aload_n 0, 1) := by decide +kernel
theorem dL_ticks_177 : decode cL_ticks 177 = .ok (.getfield 154, 3) := by decide +kernel
theorem dL_ticks_180 : decode cL_ticks 180 = .ok (.iload 5, 2) := by decide +kernel
theorem dL_ticks_182 : decode cL_ticks 182 = .ok (.aload_n 0, 1) := by decide +kernel
theorem dL_ticks_183 : decode cL_ticks 183 = .ok (.getfield 7, 3) := by decide +kernel
theorem dL_ticks_186 : decode cL_ticks 186 = .ok (.iload_n 2, 1) := by decide +kernel
theorem dL_ticks_187 : decode cL_ticks 187 = .ok (.iaload, 1) := by decide +kernel
theorem dL_ticks_188 : decode cL_ticks 188 = .ok (.idiv, 1) := by decide +kernel
theorem dL_ticks_189 : decode cL_ticks 189 = .ok (.iadd, 1) := by decide +kernel
theorem dL_ticks_190 : decode cL_ticks 190 = .ok (.iload 5, 2) := by decide +kernel
theorem dL_ticks_192 : decode cL_ticks 192 = .ok (.aload_n 0, 1) := by decide +kernel
theorem dL_ticks_193 : decode cL_ticks 193 = .ok (.getfield 7, 3) := by decide +kernel
theorem dL_ticks_196 : decode cL_ticks 196 = .ok (.iload_n 2, 1) := by decide +kernel
theorem dL_ticks_197 : decode cL_ticks 197 = .ok (.iaload, 1) := by decide +kernel
theorem dL_ticks_198 : decode cL_ticks 198 = .ok (.irem, 1) := by decide +kernel
theorem dL_ticks_199 : decode cL_ticks 199 = .ok (.ifCond .le 7, 3) := by decide +kernel
theorem dL_ticks_202 : decode cL_ticks 202 = .ok (.iconst 1, 1) := by decide +kernel
theorem dL_ticks_203 : decode cL_ticks 203 = .ok (.goto 4, 3) := by decide +kernel
theorem dL_ticks_206 : decode cL_ticks 206 = .ok (.iconst 0, 1) := by decide +kernel
theorem dL_ticks_207 : decode cL_ticks 207 = .ok (.iadd, 1) := by decide +kernel
theorem dL_ticks_208 : decode cL_ticks 208 = .ok (.iastore, 1) := by decide +kernel
theorem dL_ticks_209 : decode cL_ticks 209 = .ok (.aload_n 0, 1) := by decide +kernel
theorem dL_ticks_210 : decode cL_ticks 210 = .ok (.getfield 25, 3) := by decide +kernel
theorem dL_ticks_213 : decode cL_ticks 213 = .ok (.iload_n 2, 1) := by decide +kernel
theorem dL_ticks_214 : decode cL_ticks 214 = .ok (.dup2, 1) := by decide +kernel
theorem dL_ticks_215 : decode cL_ticks 215 = .ok (.iaload, 1) := by decide +kernel
theorem dL_ticks_216 : decode cL_ticks 216 = .ok (.iconst 1, 1) := by decide +kernel
theorem dL_ticks_217 : decode cL_ticks 217 = .ok (.iadd, 1) := by decide +kernel
theorem dL_ticks_218 : decode cL_ticks 218 = .ok (.iastore, 1) := by decide +kernel
theorem dL_ticks_219 : decode cL_ticks 219 = .ok (.aload_n 0, 1) := by decide +kernel
theorem dL_ticks_220 : decode cL_ticks 220 = .ok (.iload_n 2, 1) := by decide +kernel
theorem dL_ticks_221 : decode cL_ticks 221 = .ok (.aload_n 0, 1) := by decide +kernel
theorem dL_ticks_222 : decode cL_ticks 222 = .ok (.getfield 39, 3) := by decide +kernel
theorem dL_ticks_225 : decode cL_ticks 225 = .ok (.iload_n 3, 1) := by decide +kernel
theorem dL_ticks_226 : decode cL_ticks 226 = .ok (.iaload, 1) := by decide +kernel
theorem dL_ticks_227 : decode cL_ticks 227 = .ok (.invokevirtual 147, 3) := by decide +kernel
theorem dL_ticks_230 : decode cL_ticks 230 = .ok (.istore 6, 2) := by decide +kernel
theorem dL_ticks_232 : decode cL_ticks 232 = .ok (.aload_n 0, 1) := by decide +kernel
theorem dL_ticks_233 : decode cL_ticks 233 = .ok (.getfield 51, 3) := by decide +kernel
theorem dL_ticks_236 : decode cL_ticks 236 = .ok (.iload_n 3, 1) := by decide +kernel
theorem dL_ticks_237 : decode cL_ticks 237 = .ok (.aload_n 0, 1) := by decide +kernel
theorem dL_ticks_238 : decode cL_ticks 238 = .ok (.getfield 30, 3) := by decide +kernel
theorem dL_ticks_241 : decode cL_ticks 241 = .ok (.iload_n 2, 1) := by decide +kernel
theorem dL_ticks_242 : decode cL_ticks 242 = .ok (.aaload, 1) := by decide +kernel
theorem dL_ticks_243 : decode cL_ticks 243 = .ok (.iload 6, 2) := by decide +kernel
theorem dL_ticks_245 : decode cL_ticks 245 = .ok (.iaload, 1) := by decide +kernel
theorem dL_ticks_246 : decode cL_ticks 246 = .ok (.iastore, 1) := by decide +kernel
theorem dL_ticks_247 : decode cL_ticks 247 = .ok (.aload_n 0, 1) := by decide +kernel
theorem dL_ticks_248 : decode cL_ticks 248 = .ok (.getfield 48, 3) := by decide +kernel
theorem dL_ticks_251 : decode cL_ticks 251 = .ok (.iload_n 3, 1) := by decide +kernel
theorem dL_ticks_252 : decode cL_ticks 252 = .ok (.aload_n 0, 1) := by decide +kernel
theorem dL_ticks_253 : decode cL_ticks 253 = .ok (.getfield 22, 3) := by decide +kernel
theorem dL_ticks_256 : decode cL_ticks 256 = .ok (.iload_n 2, 1) := by decide +kernel
theorem dL_ticks_257 : decode cL_ticks 257 = .ok (.iaload, 1) := by decide +kernel
theorem dL_ticks_258 : decode cL_ticks 258 = .ok (.aload_n 0, 1) := by decide +kernel
theorem dL_ticks_259 : decode cL_ticks 259 = .ok (.getfield 51, 3) := by decide +kernel
theorem dL_ticks_262 : decode cL_ticks 262 = .ok (.iload_n 3, 1) := by decide +kernel
theorem dL_ticks_263 : decode cL_ticks 263 = .ok (.iaload, 1) := by decide +kernel
theorem dL_ticks_264 : decode cL_ticks 264 = .ok (.iadd, 1) := by decide +kernel
theorem dL_ticks_265 : decode cL_ticks 265 = .ok (.iastore, 1) := by decide +kernel
theorem dL_ticks_266 : decode cL_ticks 266 = .ok (.aload_n 0, 1) := by decide +kernel
theorem dL_ticks_267 : decode cL_ticks 267 = .ok (.getfield 45, 3) := by decide +kernel
theorem dL_ticks_270 : decode cL_ticks 270 = .ok (.iload_n 3, 1) := by decide +kernel
theorem dL_ticks_271 : decode cL_ticks 271 = .ok (.iload 6, 2) := by decide +kernel
theorem dL_ticks_273 : decode cL_ticks 273 = .ok (.iastore, 1) := by decide +kernel
theorem dL_ticks_274 : decode cL_ticks 274 = .ok (.aload_n 0, 1) := by decide +kernel
theorem dL_ticks_275 : decode cL_ticks 275 = .ok (.getfield 42, 3) := by decide +kernel
theorem dL_ticks_278 : decode cL_ticks 278 = .ok (.iload_n 3, 1) := by decide +kernel
theorem dL_ticks_279 : decode cL_ticks 279 = .ok (.iconst 1, 1) := by decide +kernel
theorem dL_ticks_280 : decode cL_ticks 280 = .ok (.iastore, 1) := by decide +kernel
theorem dL_ticks_281 : decode cL_ticks 281 = .ok (.aload_n 0, 1) := by decide +kernel
theorem dL_ticks_282 : decode cL_ticks 282 = .ok (.getfield 57, 3) := by decide +kernel
theorem dL_ticks_285 : decode cL_ticks 285 = .ok (.iload_n 3, 1) := by decide +kernel
theorem dL_ticks_286 : decode cL_ticks 286 = .ok (.dup2, 1) := by decide +kernel
theorem dL_ticks_287 : decode cL_ticks 287 = .ok (.iaload, 1) := by decide +kernel
theorem dL_ticks_288 : decode cL_ticks 288 = .ok (.iconst 1, 1) := by decide +kernel
theorem dL_ticks_289 : decode cL_ticks 289 = .ok (.iadd, 1) := by decide +kernel
theorem dL_ticks_290 : decode cL_ticks 290 = .ok (.iastore, 1) := by decide +kernel
theorem dL_ticks_291 : decode cL_ticks 291 = .ok (.aload_n 0, 1) := by decide +kernel
theorem dL_ticks_292 : decode cL_ticks 292 = .ok (.dup, 1) := by decide +kernel
theorem dL_ticks_293 : decode cL_ticks 293 = .ok (.getfield 169, 3) := by decide +kernel
theorem dL_ticks_296 : decode cL_ticks 296 = .ok (.iconst 1, 1) := by decide +kernel
theorem dL_ticks_297 : decode cL_ticks 297 = .ok (.iadd, 1) := by decide +kernel
theorem dL_ticks_298 : decode cL_ticks 298 = .ok (.putfield 169, 3) := by decide +kernel
theorem dL_ticks_301 : decode cL_ticks 301 = .ok (.iinc 2 1, 3) := by decide +kernel
theorem dL_ticks_304 : decode cL_ticks 304 = .ok (.goto (-246), 3) := by decide +kernel
theorem dL_ticks_307 : decode cL_ticks 307 = .ok (.iconst 0, 1) := by decide +kernel
theorem dL_ticks_308 : decode cL_ticks 308 = .ok (.istore_n 2, 1) := by decide +kernel
theorem dL_ticks_309 : decode cL_ticks 309 = .ok (.iload_n 2, 1) := by decide +kernel
theorem dL_ticks_310 : decode cL_ticks 310 = .ok (.aload_n 0, 1) := by decide +kernel
theorem dL_ticks_311 : decode cL_ticks 311 = .ok (.getfield 103, 3) := by decide +kernel
theorem dL_ticks_314 : decode cL_ticks 314 = .ok (.if_icmp .ge 62, 3) := by decide +kernel
theorem dL_ticks_317 : decode cL_ticks 317 = .ok (.aload_n 0, 1) := by decide +kernel
theorem dL_ticks_318 : decode cL_ticks 318 = .ok (.getfield 42, 3) := by decide +kernel
theorem dL_ticks_321 : decode cL_ticks 321 = .ok (.iload_n 2, 1) := by decide +kernel
theorem dL_ticks_322 : decode cL_ticks 322 = .ok (.iaload, 1) := by decide +kernel
theorem dL_ticks_323 : decode cL_ticks 323 = .ok (.ifCond .ne 47, 3) := by decide +kernel
theorem dL_ticks_326 : decode cL_ticks 326 = .ok (.aload_n 0, 1) := by decide +kernel
theorem dL_ticks_327 : decode cL_ticks 327 = .ok (.getfield 33, 3) := by decide +kernel
theorem dL_ticks_330 : decode cL_ticks 330 = .ok (.aload_n 0, 1) := by decide +kernel
theorem dL_ticks_331 : decode cL_ticks 331 = .ok (.getfield 45, 3) := by decide +kernel
theorem dL_ticks_334 : decode cL_ticks 334 = .ok (.iload_n 2, 1) := by decide +kernel
theorem dL_ticks_335 : decode cL_ticks 335 = .ok (.iaload, 1) := by decide +kernel
theorem dL_ticks_336 : decode cL_ticks 336 = .ok (.aaload, 1) := by decide +kernel
theorem dL_ticks_337 : decode cL_ticks 337 = .ok (.aload_n 0, 1) := by decide +kernel
theorem dL_ticks_338 : decode cL_ticks 338 = .ok (.getfield 39, 3) := by decide +kernel
theorem dL_ticks_341 : decode cL_ticks 341 = .ok (.iload_n 2, 1) := by decide +kernel
theorem dL_ticks_342 : decode cL_ticks 342 = .ok (.iaload, 1) := by decide +kernel
theorem dL_ticks_343 : decode cL_ticks 343 = .ok (.iaload, 1) := by decide +kernel
theorem dL_ticks_344 : decode cL_ticks 344 = .ok (.sipush 9999, 3) := by decide +kernel
theorem dL_ticks_347 : decode cL_ticks 347 = .ok (.if_icmp .ge 6, 3) := by decide +kernel
theorem dL_ticks_350 : decode cL_ticks 350 = .ok (.goto 20, 3) := by decide +kernel
theorem dL_ticks_353 : decode cL_ticks 353 = .ok (.aload_n 0, 1) := by decide +kernel
theorem dL_ticks_354 : decode cL_ticks 354 = .ok (.getfield 42, 3) := by decide +kernel
theorem dL_ticks_357 : decode cL_ticks 357 = .ok (.iload_n 2, 1) := by decide +kernel
theorem dL_ticks_358 : decode cL_ticks 358 = .ok (.iconst 3, 1) := by decide +kernel
theorem dL_ticks_359 : decode cL_ticks 359 = .ok (.iastore, 1) := by decide +kernel
theorem dL_ticks_360 : decode cL_ticks 360 = .ok (.aload_n 0, 1) := by decide +kernel
theorem dL_ticks_361 : decode cL_ticks 361 = .ok (.dup, 1) := by decide +kernel
theorem dL_ticks_362 : decode cL_ticks 362 = .ok (.getfield 172, 3) := by decide +kernel
theorem dL_ticks_365 : decode cL_ticks 365 = .ok (.iconst 1, 1) := by decide +kernel
theorem dL_ticks_366 : decode cL_ticks 366 = .ok (.iadd, 1) := by decide +kernel
theorem dL_ticks_367 : decode cL_ticks 367 = .ok (.putfield 172, 3) := by decide +kernel
theorem dL_ticks_370 : decode cL_ticks 370 = .ok (.iinc 2 1, 3) := by decide +kernel
theorem dL_ticks_373 : decode cL_ticks 373 = .ok (.goto (-64), 3) := by decide +kernel
theorem dL_ticks_376 : decode cL_ticks 376 = .ok (.return_, 1) := by decide +kernel
theorem dL_isRefused_0 : decode cL_isRefused 0 = .ok (.iload_n 1, 1) := by decide +kernel
theorem dL_isRefused_1 : decode cL_isRefused 1 = .ok (.ifCond .ne 12, 3) := by decide +kernel
theorem dL_isRefused_4 : decode cL_isRefused 4 = .ok (.aload_n 0, 1) := by decide +kernel
theorem dL_isRefused_5 : decode cL_isRefused 5 = .ok (.iload_n 2, 1) := by decide +kernel
theorem dL_isRefused_6 : decode cL_isRefused 6 = .ok (.iload_n 3, 1) := by decide +kernel
theorem dL_isRefused_7 : decode cL_isRefused 7 = .ok (.invokevirtual 175, 3) := by decide +kernel
theorem dL_isRefused_10 : decode cL_isRefused 10 = .ok (.goto 11, 3) := by decide +kernel
theorem dL_isRefused_13 : decode cL_isRefused 13 = .ok (.aload_n 0, 1) := by decide +kernel
theorem dL_isRefused_14 : decode cL_isRefused 14 = .ok (.iload_n 2, 1) := by decide +kernel
theorem dL_isRefused_15 : decode cL_isRefused 15 = .ok (.iload_n 3, 1) := by decide +kernel
theorem dL_isRefused_16 : decode cL_isRefused 16 = .ok (.iconst 1, 1) := by decide +kernel
theorem dL_isRefused_17 : decode cL_isRefused 17 = .ok (.iconst 0, 1) := by decide +kernel
theorem dL_isRefused_18 : decode cL_isRefused 18 = .ok (.invokevirtual 178, 3) := by decide +kernel
theorem dL_isRefused_21 : decode cL_isRefused 21 = .ok (.istore 4, 2) := by decide +kernel
theorem dL_isRefused_23 : decode cL_isRefused 23 = .ok (.iconst 0, 1) := by decide +kernel
theorem dL_isRefused_24 : decode cL_isRefused 24 = .ok (.ireturn, 1) := by decide +kernel
theorem dL_isRefused_25 : decode cL_isRefused 25 = .ok (.astore 4, 2) := by decide +kernel
theorem dL_isRefused_27 : decode cL_isRefused 27 = .ok (.iconst 1, 1) := by decide +kernel
theorem dL_isRefused_28 : decode cL_isRefused 28 = .ok (.ireturn, 1) := by decide +kernel
theorem dL_acts_0 : decode cL_acts 0 = .ok (.iload_n 2, 1) := by decide +kernel
theorem dL_acts_1 : decode cL_acts 1 = .ok (.iconst 4, 1) := by decide +kernel
theorem dL_acts_2 : decode cL_acts 2 = .ok (.iconst 4, 1) := by decide +kernel
theorem dL_acts_3 : decode cL_acts 3 = .ok (.invokestatic 184, 3) := by decide +kernel
theorem dL_acts_6 : decode cL_acts 6 = .ok (.aload_n 0, 1) := by decide +kernel
theorem dL_acts_7 : decode cL_acts 7 = .ok (.getfield 93, 3) := by decide +kernel
theorem dL_acts_10 : decode cL_acts 10 = .ok (.irem, 1) := by decide +kernel
theorem dL_acts_11 : decode cL_acts 11 = .ok (.istore_n 3, 1) := by decide +kernel
theorem dL_acts_12 : decode cL_acts 12 = .ok (.iload_n 3, 1) := by decide +kernel
theorem dL_acts_13 : decode cL_acts 13 = .ok (.iconst 1, 1) := by decide +kernel
theorem dL_acts_14 : decode cL_acts 14 = .ok (.iadd, 1) := by decide +kernel
theorem dL_acts_15 : decode cL_acts 15 = .ok (.iload_n 2, 1) := by decide +kernel
theorem dL_acts_16 : decode cL_acts 16 = .ok (.bipush 8, 2) := by decide +kernel
theorem dL_acts_18 : decode cL_acts 18 = .ok (.iconst 4, 1) := by decide +kernel
theorem dL_acts_19 : decode cL_acts 19 = .ok (.invokestatic 184, 3) := by decide +kernel
theorem dL_acts_22 : decode cL_acts 22 = .ok (.aload_n 0, 1) := by decide +kernel
theorem dL_acts_23 : decode cL_acts 23 = .ok (.getfield 93, 3) := by decide +kernel
theorem dL_acts_26 : decode cL_acts 26 = .ok (.iconst 1, 1) := by decide +kernel
theorem dL_acts_27 : decode cL_acts 27 = .ok (.isub, 1) := by decide +kernel
theorem dL_acts_28 : decode cL_acts 28 = .ok (.irem, 1) := by decide +kernel
theorem dL_acts_29 : decode cL_acts 29 = .ok (.iadd, 1) := by decide +kernel
theorem dL_acts_30 : decode cL_acts 30 = .ok (.aload_n 0, 1) := by decide +kernel
theorem dL_acts_31 : decode cL_acts 31 = .ok (.getfield 93, 3) := by decide +kernel
theorem dL_acts_34 : decode cL_acts 34 = .ok (.irem, 1) := by decide +kernel
theorem dL_acts_35 : decode cL_acts 35 = .ok (.istore 4, 2) := by decide +kernel
theorem dL_acts_37 : decode cL_acts 37 = .ok (.iload_n 2, 1) := by decide +kernel
theorem dL_acts_38 : decode cL_acts 38 = .ok (.iconst 0, 1) := by decide +kernel
theorem dL_acts_39 : decode cL_acts 39 = .ok (.iconst 4, 1) := by decide +kernel
theorem dL_acts_40 : decode cL_acts 40 = .ok (.invokestatic 184, 3) := by decide +kernel
theorem dL_acts_43 : decode cL_acts 43 = .ok (.tableswitch 364 0 7 #[45, 45, 45, 45, 45, 206, 279, 320], 45) := by decide +kernel
theorem dL_acts_88 : decode cL_acts 88 = .ok (.aload_n 0, 1) := by decide +kernel
theorem dL_acts_89 : decode cL_acts 89 = .ok (.getfield 103, 3) := by decide +kernel
theorem dL_acts_92 : decode cL_acts 92 = .ok (.bipush 30, 2) := by decide +kernel
theorem dL_acts_94 : decode cL_acts 94 = .ok (.if_icmp .ne 12, 3) := by decide +kernel
theorem dL_acts_97 : decode cL_acts 97 = .ok (.aload_n 1, 1) := by decide +kernel
theorem dL_acts_98 : decode cL_acts 98 = .ok (.iconst 1, 1) := by decide +kernel
theorem dL_acts_99 : decode cL_acts 99 = .ok (.iload_n 3, 1) := by decide +kernel
theorem dL_acts_100 : decode cL_acts 100 = .ok (.iload 4, 2) := by decide +kernel
theorem dL_acts_102 : decode cL_acts 102 = .ok (.invokestatic 188, 3) := by decide +kernel
theorem dL_acts_105 : decode cL_acts 105 = .ok (.ireturn, 1) := by decide +kernel
theorem dL_acts_106 : decode cL_acts 106 = .ok (.iconst 1, 1) := by decide +kernel
theorem dL_acts_107 : decode cL_acts 107 = .ok (.iload_n 2, 1) := by decide +kernel
theorem dL_acts_108 : decode cL_acts 108 = .ok (.bipush 12, 2) := by decide +kernel
theorem dL_acts_110 : decode cL_acts 110 = .ok (.iconst 3, 1) := by decide +kernel
theorem dL_acts_111 : decode cL_acts 111 = .ok (.invokestatic 184, 3) := by decide +kernel
theorem dL_acts_114 : decode cL_acts 114 = .ok (.iadd, 1) := by decide +kernel
theorem dL_acts_115 : decode cL_acts 115 = .ok (.istore 5, 2) := by decide +kernel
theorem dL_acts_117 : decode cL_acts 117 = .ok (.iload 5, 2) := by decide +kernel
theorem dL_acts_119 : decode cL_acts 119 = .ok (.newarray .int, 2) := by decide +kernel
theorem dL_acts_121 : decode cL_acts 121 = .ok (.astore 6, 2) := by decide +kernel
theorem dL_acts_123 : decode cL_acts 123 = .ok (.iconst 0, 1) := by decide +kernel
theorem dL_acts_124 : decode cL_acts 124 = .ok (.istore 7, 2) := by decide +kernel
theorem dL_acts_126 : decode cL_acts 126 = .ok (.iconst 0, 1) := by decide +kernel
theorem dL_acts_127 : decode cL_acts 127 = .ok (.istore 8, 2) := by decide +kernel
theorem dL_acts_129 : decode cL_acts 129 = .ok (.iload 8, 2) := by decide +kernel
theorem dL_acts_131 : decode cL_acts 131 = .ok (.iload 5, 2) := by decide +kernel
theorem dL_acts_133 : decode cL_acts 133 = .ok (.if_icmp .ge 60, 3) := by decide +kernel
theorem dL_acts_136 : decode cL_acts 136 = .ok (.aload 6, 2) := by decide +kernel
theorem dL_acts_138 : decode cL_acts 138 = .ok (.iload 8, 2) := by decide +kernel
theorem dL_acts_140 : decode cL_acts 140 = .ok (.iload 8, 2) := by decide +kernel
theorem dL_acts_142 : decode cL_acts 142 = .ok (.ifCond .ne 18, 3) := by decide +kernel
theorem dL_acts_145 : decode cL_acts 145 = .ok (.iconst 1, 1) := by decide +kernel
theorem dL_acts_146 : decode cL_acts 146 = .ok (.iload_n 2, 1) := by decide +kernel
theorem dL_acts_147 : decode cL_acts 147 = .ok (.bipush 15, 2) := by decide +kernel
theorem dL_acts_149 : decode cL_acts 149 = .ok (.iconst 4, 1) := by decide +kernel
theorem dL_acts_150 : decode cL_acts 150 = .ok (.invokestatic 184, 3) := by decide +kernel
theorem dL_acts_153 : decode cL_acts 153 = .ok (.bipush 7, 2) := by decide +kernel
theorem dL_acts_155 : decode cL_acts 155 = .ok (.irem, 1) := by decide +kernel
theorem dL_acts_156 : decode cL_acts 156 = .ok (.iadd, 1) := by decide +kernel
theorem dL_acts_157 : decode cL_acts 157 = .ok (.goto 16, 3) := by decide +kernel
theorem dL_acts_160 : decode cL_acts 160 = .ok (.iload_n 2, 1) := by decide +kernel
theorem dL_acts_161 : decode cL_acts 161 = .ok (.bipush 31, 2) := by decide +kernel
theorem dL_acts_163 : decode cL_acts 163 = .ok (.imul, 1) := by decide +kernel
theorem dL_acts_164 : decode cL_acts 164 = .ok (.iload 8, 2) := by decide +kernel
theorem dL_acts_166 : decode cL_acts 166 = .ok (.iadd, 1) := by decide +kernel
theorem dL_acts_167 : decode cL_acts 167 = .ok (.bipush 9, 2) := by decide +kernel
theorem dL_acts_169 : decode cL_acts 169 = .ok (.iconst 3, 1) := by decide +kernel
theorem dL_acts_170 : decode cL_acts 170 = .ok (.invokestatic 184, 3) := by decide +kernel
theorem dL_acts_173 : decode cL_acts 173 = .ok (.iastore, 1) := by decide +kernel
theorem dL_acts_174 : decode cL_acts 174 = .ok (.bipush 10, 2) := by decide +kernel
theorem dL_acts_176 : decode cL_acts 176 = .ok (.iload 7, 2) := by decide +kernel
theorem dL_acts_178 : decode cL_acts 178 = .ok (.imul, 1) := by decide +kernel
theorem dL_acts_179 : decode cL_acts 179 = .ok (.aload 6, 2) := by decide +kernel
theorem dL_acts_181 : decode cL_acts 181 = .ok (.iload 8, 2) := by decide +kernel
theorem dL_acts_183 : decode cL_acts 183 = .ok (.iaload, 1) := by decide +kernel
theorem dL_acts_184 : decode cL_acts 184 = .ok (.iadd, 1) := by decide +kernel
theorem dL_acts_185 : decode cL_acts 185 = .ok (.istore 7, 2) := by decide +kernel
theorem dL_acts_187 : decode cL_acts 187 = .ok (.iinc 8 1, 3) := by decide +kernel
theorem dL_acts_190 : decode cL_acts 190 = .ok (.goto (-61), 3) := by decide +kernel
theorem dL_acts_193 : decode cL_acts 193 = .ok (.iload_n 2, 1) := by decide +kernel
theorem dL_acts_194 : decode cL_acts 194 = .ok (.bipush 19, 2) := by decide +kernel
theorem dL_acts_196 : decode cL_acts 196 = .ok (.iconst 1, 1) := by decide +kernel
theorem dL_acts_197 : decode cL_acts 197 = .ok (.invokestatic 184, 3) := by decide +kernel
theorem dL_acts_200 : decode cL_acts 200 = .ok (.istore 8, 2) := by decide +kernel
theorem dL_acts_202 : decode cL_acts 202 = .ok (.aload_n 0, 1) := by decide +kernel
theorem dL_acts_203 : decode cL_acts 203 = .ok (.iload_n 3, 1) := by decide +kernel
theorem dL_acts_204 : decode cL_acts 204 = .ok (.iload 4, 2) := by decide +kernel
theorem dL_acts_206 : decode cL_acts 206 = .ok (.aload 6, 2) := by decide +kernel
theorem dL_acts_208 : decode cL_acts 208 = .ok (.iload 8, 2) := by decide +kernel
theorem dL_acts_210 : decode cL_acts 210 = .ok (.iconst 0, 1) := by decide +kernel
theorem dL_acts_211 : decode cL_acts 211 = .ok (.invokevirtual 143, 3) := by decide +kernel
theorem dL_acts_214 : decode cL_acts 214 = .ok (.aload_n 1, 1) := by decide +kernel
theorem dL_acts_215 : decode cL_acts 215 = .ok (.iload_n 3, 1) := by decide +kernel
theorem dL_acts_216 : decode cL_acts 216 = .ok (.iload 4, 2) := by decide +kernel
theorem dL_acts_218 : decode cL_acts 218 = .ok (.iload 7, 2) := by decide +kernel
theorem dL_acts_220 : decode cL_acts 220 = .ok (.iload 8, 2) := by decide +kernel
theorem dL_acts_222 : decode cL_acts 222 = .ok (.iconst 1, 1) := by decide +kernel
theorem dL_acts_223 : decode cL_acts 223 = .ok (.if_icmp .ne 7, 3) := by decide +kernel
theorem dL_acts_226 : decode cL_acts 226 = .ok (.iconst 1, 1) := by decide +kernel
theorem dL_acts_227 : decode cL_acts 227 = .ok (.goto 4, 3) := by decide +kernel
theorem dL_acts_230 : decode cL_acts 230 = .ok (.iconst 0, 1) := by decide +kernel
theorem dL_acts_231 : decode cL_acts 231 = .ok (.invokevirtual 178, 3) := by decide +kernel
theorem dL_acts_234 : decode cL_acts 234 = .ok (.aload_n 0, 1) := by decide +kernel
theorem dL_acts_235 : decode cL_acts 235 = .ok (.getfield 103, 3) := by decide +kernel
theorem dL_acts_238 : decode cL_acts 238 = .ok (.iconst 1, 1) := by decide +kernel
theorem dL_acts_239 : decode cL_acts 239 = .ok (.isub, 1) := by decide +kernel
theorem dL_acts_240 : decode cL_acts 240 = .ok (.if_icmp .ne 7, 3) := by decide +kernel
theorem dL_acts_243 : decode cL_acts 243 = .ok (.iconst 1, 1) := by decide +kernel
theorem dL_acts_244 : decode cL_acts 244 = .ok (.goto 4, 3) := by decide +kernel
theorem dL_acts_247 : decode cL_acts 247 = .ok (.iconst 0, 1) := by decide +kernel
theorem dL_acts_248 : decode cL_acts 248 = .ok (.ireturn, 1) := by decide +kernel
theorem dL_acts_249 : decode cL_acts 249 = .ok (.aload_n 0, 1) := by decide +kernel
theorem dL_acts_250 : decode cL_acts 250 = .ok (.getfield 30, 3) := by decide +kernel
theorem dL_acts_253 : decode cL_acts 253 = .ok (.iload_n 3, 1) := by decide +kernel
theorem dL_acts_254 : decode cL_acts 254 = .ok (.aaload, 1) := by decide +kernel
theorem dL_acts_255 : decode cL_acts 255 = .ok (.iload 4, 2) := by decide +kernel
theorem dL_acts_257 : decode cL_acts 257 = .ok (.iaload, 1) := by decide +kernel
theorem dL_acts_258 : decode cL_acts 258 = .ok (.ifCond .ne 12, 3) := by decide +kernel
theorem dL_acts_261 : decode cL_acts 261 = .ok (.aload_n 1, 1) := by decide +kernel
theorem dL_acts_262 : decode cL_acts 262 = .ok (.iconst 0, 1) := by decide +kernel
theorem dL_acts_263 : decode cL_acts 263 = .ok (.iload_n 3, 1) := by decide +kernel
theorem dL_acts_264 : decode cL_acts 264 = .ok (.iload 4, 2) := by decide +kernel
theorem dL_acts_266 : decode cL_acts 266 = .ok (.invokestatic 188, 3) := by decide +kernel
theorem dL_acts_269 : decode cL_acts 269 = .ok (.ireturn, 1) := by decide +kernel
theorem dL_acts_270 : decode cL_acts 270 = .ok (.iload_n 2, 1) := by decide +kernel
theorem dL_acts_271 : decode cL_acts 271 = .ok (.bipush 12, 2) := by decide +kernel
theorem dL_acts_273 : decode cL_acts 273 = .ok (.iconst 2, 1) := by decide +kernel
theorem dL_acts_274 : decode cL_acts 274 = .ok (.invokestatic 184, 3) := by decide +kernel
theorem dL_acts_277 : decode cL_acts 277 = .ok (.ifCond .le 5, 3) := by decide +kernel
theorem dL_acts_280 : decode cL_acts 280 = .ok (.iconst 1, 1) := by decide +kernel
theorem dL_acts_281 : decode cL_acts 281 = .ok (.ireturn, 1) := by decide +kernel
theorem dL_acts_282 : decode cL_acts 282 = .ok (.aload_n 0, 1) := by decide +kernel
theorem dL_acts_283 : decode cL_acts 283 = .ok (.getfield 30, 3) := by decide +kernel
theorem dL_acts_286 : decode cL_acts 286 = .ok (.iload_n 3, 1) := by decide +kernel
theorem dL_acts_287 : decode cL_acts 287 = .ok (.aaload, 1) := by decide +kernel
theorem dL_acts_288 : decode cL_acts 288 = .ok (.iload 4, 2) := by decide +kernel
theorem dL_acts_290 : decode cL_acts 290 = .ok (.iconst 0, 1) := by decide +kernel
theorem dL_acts_291 : decode cL_acts 291 = .ok (.iastore, 1) := by decide +kernel
theorem dL_acts_292 : decode cL_acts 292 = .ok (.aload_n 0, 1) := by decide +kernel
theorem dL_acts_293 : decode cL_acts 293 = .ok (.getfield 30, 3) := by decide +kernel
theorem dL_acts_296 : decode cL_acts 296 = .ok (.iload 4, 2) := by decide +kernel
theorem dL_acts_298 : decode cL_acts 298 = .ok (.aaload, 1) := by decide +kernel
theorem dL_acts_299 : decode cL_acts 299 = .ok (.iload_n 3, 1) := by decide +kernel
theorem dL_acts_300 : decode cL_acts 300 = .ok (.iconst 0, 1) := by decide +kernel
theorem dL_acts_301 : decode cL_acts 301 = .ok (.iastore, 1) := by decide +kernel
theorem dL_acts_302 : decode cL_acts 302 = .ok (.aload_n 0, 1) := by decide +kernel
theorem dL_acts_303 : decode cL_acts 303 = .ok (.invokevirtual 192, 3) := by decide +kernel
theorem dL_acts_306 : decode cL_acts 306 = .ok (.aload_n 1, 1) := by decide +kernel
theorem dL_acts_307 : decode cL_acts 307 = .ok (.iload_n 3, 1) := by decide +kernel
theorem dL_acts_308 : decode cL_acts 308 = .ok (.iload 4, 2) := by decide +kernel
theorem dL_acts_310 : decode cL_acts 310 = .ok (.invokevirtual 175, 3) := by decide +kernel
theorem dL_acts_313 : decode cL_acts 313 = .ok (.ifCond .lt 7, 3) := by decide +kernel
theorem dL_acts_316 : decode cL_acts 316 = .ok (.iconst 1, 1) := by decide +kernel
theorem dL_acts_317 : decode cL_acts 317 = .ok (.goto 4, 3) := by decide +kernel
theorem dL_acts_320 : decode cL_acts 320 = .ok (.iconst 0, 1) := by decide +kernel
theorem dL_acts_321 : decode cL_acts 321 = .ok (.ireturn, 1) := by decide +kernel
theorem dL_acts_322 : decode cL_acts 322 = .ok (.aload_n 0, 1) := by decide +kernel
theorem dL_acts_323 : decode cL_acts 323 = .ok (.getfield 119, 3) := by decide +kernel
theorem dL_acts_326 : decode cL_acts 326 = .ok (.istore 5, 2) := by decide +kernel
theorem dL_acts_328 : decode cL_acts 328 = .ok (.aload_n 0, 1) := by decide +kernel
theorem dL_acts_329 : decode cL_acts 329 = .ok (.iload_n 2, 1) := by decide +kernel
theorem dL_acts_330 : decode cL_acts 330 = .ok (.bipush 12, 2) := by decide +kernel
theorem dL_acts_332 : decode cL_acts 332 = .ok (.iconst 4, 1) := by decide +kernel
theorem dL_acts_333 : decode cL_acts 333 = .ok (.invokestatic 184, 3) := by decide +kernel
theorem dL_acts_336 : decode cL_acts 336 = .ok (.bipush 10, 2) := by decide +kernel
theorem dL_acts_338 : decode cL_acts 338 = .ok (.irem, 1) := by decide +kernel
theorem dL_acts_339 : decode cL_acts 339 = .ok (.putfield 119, 3) := by decide +kernel
theorem dL_acts_342 : decode cL_acts 342 = .ok (.aload_n 1, 1) := by decide +kernel
theorem dL_acts_343 : decode cL_acts 343 = .ok (.bipush 8, 2) := by decide +kernel
theorem dL_acts_345 : decode cL_acts 345 = .ok (.aload_n 0, 1) := by decide +kernel
theorem dL_acts_346 : decode cL_acts 346 = .ok (.getfield 119, 3) := by decide +kernel
theorem dL_acts_349 : decode cL_acts 349 = .ok (.invokevirtual 195, 3) := by decide +kernel
theorem dL_acts_352 : decode cL_acts 352 = .ok (.iload 5, 2) := by decide +kernel
theorem dL_acts_354 : decode cL_acts 354 = .ok (.if_icmp .ne 7, 3) := by decide +kernel
theorem dL_acts_357 : decode cL_acts 357 = .ok (.iconst 1, 1) := by decide +kernel
theorem dL_acts_358 : decode cL_acts 358 = .ok (.goto 4, 3) := by decide +kernel
theorem dL_acts_361 : decode cL_acts 361 = .ok (.iconst 0, 1) := by decide +kernel
theorem dL_acts_362 : decode cL_acts 362 = .ok (.ireturn, 1) := by decide +kernel
theorem dL_acts_363 : decode cL_acts 363 = .ok (.iconst 1, 1) := by decide +kernel
theorem dL_acts_364 : decode cL_acts 364 = .ok (.iload_n 2, 1) := by decide +kernel
theorem dL_acts_365 : decode cL_acts 365 = .ok (.bipush 12, 2) := by decide +kernel
theorem dL_acts_367 : decode cL_acts 367 = .ok (.iconst 4, 1) := by decide +kernel
theorem dL_acts_368 : decode cL_acts 368 = .ok (.invokestatic 184, 3) := by decide +kernel
theorem dL_acts_371 : decode cL_acts 371 = .ok (.iadd, 1) := by decide +kernel
theorem dL_acts_372 : decode cL_acts 372 = .ok (.istore 5, 2) := by decide +kernel
theorem dL_acts_374 : decode cL_acts 374 = .ok (.aload_n 0, 1) := by decide +kernel
theorem dL_acts_375 : decode cL_acts 375 = .ok (.getfield 19, 3) := by decide +kernel
theorem dL_acts_378 : decode cL_acts 378 = .ok (.iload_n 3, 1) := by decide +kernel
theorem dL_acts_379 : decode cL_acts 379 = .ok (.dup2, 1) := by decide +kernel
theorem dL_acts_380 : decode cL_acts 380 = .ok (.iaload, 1) := by decide +kernel
theorem dL_acts_381 : decode cL_acts 381 = .ok (.iload 5, 2) := by decide +kernel
theorem dL_acts_383 : decode cL_acts 383 = .ok (.iadd, 1) := by decide +kernel
theorem dL_acts_384 : decode cL_acts 384 = .ok (.iastore, 1) := by decide +kernel
theorem dL_acts_385 : decode cL_acts 385 = .ok (.aload_n 1, 1) := by decide +kernel
theorem dL_acts_386 : decode cL_acts 386 = .ok (.iload_n 3, 1) := by decide +kernel
theorem dL_acts_387 : decode cL_acts 387 = .ok (.iload 5, 2) := by decide +kernel
theorem dL_acts_389 : decode cL_acts 389 = .ok (.invokevirtual 198, 3) := by decide +kernel
theorem dL_acts_392 : decode cL_acts 392 = .ok (.aload_n 0, 1) := by decide +kernel
theorem dL_acts_393 : decode cL_acts 393 = .ok (.getfield 19, 3) := by decide +kernel
theorem dL_acts_396 : decode cL_acts 396 = .ok (.iload_n 3, 1) := by decide +kernel
theorem dL_acts_397 : decode cL_acts 397 = .ok (.iaload, 1) := by decide +kernel
theorem dL_acts_398 : decode cL_acts 398 = .ok (.if_icmp .ne 7, 3) := by decide +kernel
theorem dL_acts_401 : decode cL_acts 401 = .ok (.iconst 1, 1) := by decide +kernel
theorem dL_acts_402 : decode cL_acts 402 = .ok (.goto 4, 3) := by decide +kernel
theorem dL_acts_405 : decode cL_acts 405 = .ok (.iconst 0, 1) := by decide +kernel
theorem dL_acts_406 : decode cL_acts 406 = .ok (.ireturn, 1) := by decide +kernel
theorem dL_acts_407 : decode cL_acts 407 = .ok (.iconst 1, 1) := by decide +kernel
theorem dL_acts_408 : decode cL_acts 408 = .ok (.iload_n 2, 1) := by decide +kernel
theorem dL_acts_409 : decode cL_acts 409 = .ok (.bipush 12, 2) := by decide +kernel
theorem dL_acts_411 : decode cL_acts 411 = .ok (.iconst 3, 1) := by decide +kernel
theorem dL_acts_412 : decode cL_acts 412 = .ok (.invokestatic 184, 3) := by decide +kernel
theorem dL_acts_415 : decode cL_acts 415 = .ok (.iadd, 1) := by decide +kernel
theorem dL_acts_416 : decode cL_acts 416 = .ok (.istore 5, 2) := by decide +kernel
theorem dL_acts_418 : decode cL_acts 418 = .ok (.aload_n 0, 1) := by decide +kernel
theorem dL_acts_419 : decode cL_acts 419 = .ok (.getfield 137, 3) := by decide +kernel
theorem dL_acts_422 : decode cL_acts 422 = .ok (.istore 6, 2) := by decide +kernel
theorem dL_acts_424 : decode cL_acts 424 = .ok (.iconst 0, 1) := by decide +kernel
theorem dL_acts_425 : decode cL_acts 425 = .ok (.istore 7, 2) := by decide +kernel
theorem dL_acts_427 : decode cL_acts 427 = .ok (.iload 7, 2) := by decide +kernel
theorem dL_acts_429 : decode cL_acts 429 = .ok (.iload 5, 2) := by decide +kernel
theorem dL_acts_431 : decode cL_acts 431 = .ok (.if_icmp .ge 13, 3) := by decide +kernel
theorem dL_acts_434 : decode cL_acts 434 = .ok (.aload_n 0, 1) := by decide +kernel
theorem dL_acts_435 : decode cL_acts 435 = .ok (.invokevirtual 201, 3) := by decide +kernel
theorem dL_acts_438 : decode cL_acts 438 = .ok (.iinc 7 1, 3) := by decide +kernel
theorem dL_acts_441 : decode cL_acts 441 = .ok (.goto (-14), 3) := by decide +kernel
theorem dL_acts_444 : decode cL_acts 444 = .ok (.aload_n 1, 1) := by decide +kernel
theorem dL_acts_445 : decode cL_acts 445 = .ok (.iload 5, 2) := by decide +kernel
theorem dL_acts_447 : decode cL_acts 447 = .ok (.invokevirtual 204, 3) := by decide +kernel
theorem dL_acts_450 : decode cL_acts 450 = .ok (.aload_n 0, 1) := by decide +kernel
theorem dL_acts_451 : decode cL_acts 451 = .ok (.getfield 137, 3) := by decide +kernel
theorem dL_acts_454 : decode cL_acts 454 = .ok (.iload 6, 2) := by decide +kernel
theorem dL_acts_456 : decode cL_acts 456 = .ok (.isub, 1) := by decide +kernel
theorem dL_acts_457 : decode cL_acts 457 = .ok (.if_icmp .ne 7, 3) := by decide +kernel
theorem dL_acts_460 : decode cL_acts 460 = .ok (.iconst 1, 1) := by decide +kernel
theorem dL_acts_461 : decode cL_acts 461 = .ok (.goto 4, 3) := by decide +kernel
theorem dL_acts_464 : decode cL_acts 464 = .ok (.iconst 0, 1) := by decide +kernel
theorem dL_acts_465 : decode cL_acts 465 = .ok (.ireturn, 1) := by decide +kernel
theorem dL_isLike_0 : decode cL_isLike 0 = .ok (.aload_n 1, 1) := by decide +kernel
theorem dL_isLike_1 : decode cL_isLike 1 = .ok (.iconst 2, 1) := by decide +kernel
theorem dL_isLike_2 : decode cL_isLike 2 = .ok (.invokevirtual 207, 3) := by decide +kernel
theorem dL_isLike_5 : decode cL_isLike 5 = .ok (.aload_n 0, 1) := by decide +kernel
theorem dL_isLike_6 : decode cL_isLike 6 = .ok (.getfield 103, 3) := by decide +kernel
theorem dL_isLike_9 : decode cL_isLike 9 = .ok (.if_icmp .ne 116, 3) := by decide +kernel
theorem dL_isLike_12 : decode cL_isLike 12 = .ok (.aload_n 1, 1) := by decide +kernel
theorem dL_isLike_13 : decode cL_isLike 13 = .ok (.bipush 7, 2) := by decide +kernel
theorem dL_isLike_15 : decode cL_isLike 15 = .ok (.invokevirtual 207, 3) := by decide +kernel
theorem dL_isLike_18 : decode cL_isLike 18 = .ok (.aload_n 0, 1) := by decide +kernel
theorem dL_isLike_19 : decode cL_isLike 19 = .ok (.getfield 154, 3) := by decide +kernel
theorem dL_isLike_22 : decode cL_isLike 22 = .ok (.if_icmp .ne 103, 3) := by decide +kernel
theorem dL_isLike_25 : decode cL_isLike 25 = .ok (.aload_n 1, 1) := by decide +kernel
theorem dL_isLike_26 : decode cL_isLike 26 = .ok (.iconst 2, 1) := by decide +kernel
theorem dL_isLike_27 : decode cL_isLike 27 = .ok (.invokevirtual 210, 3) := by decide +kernel
theorem dL_isLike_30 : decode cL_isLike 30 = .ok (.aload_n 0, 1) := by decide +kernel
theorem dL_isLike_31 : decode cL_isLike 31 = .ok (.getfield 110, 3) := by decide +kernel
theorem dL_isLike_34 : decode cL_isLike 34 = .ok (.if_icmp .ne 91, 3) := by decide +kernel
theorem dL_isLike_37 : decode cL_isLike 37 = .ok (.aload_n 1, 1) := by decide +kernel
theorem dL_isLike_38 : decode cL_isLike 38 = .ok (.iconst 3, 1) := by decide +kernel
theorem dL_isLike_39 : decode cL_isLike 39 = .ok (.invokevirtual 210, 3) := by decide +kernel
theorem dL_isLike_42 : decode cL_isLike 42 = .ok (.aload_n 0, 1) := by decide +kernel
theorem dL_isLike_43 : decode cL_isLike 43 = .ok (.getfield 169, 3) := by decide +kernel
theorem dL_isLike_46 : decode cL_isLike 46 = .ok (.if_icmp .ne 79, 3) := by decide +kernel
theorem dL_isLike_49 : decode cL_isLike 49 = .ok (.aload_n 1, 1) := by decide +kernel
theorem dL_isLike_50 : decode cL_isLike 50 = .ok (.iconst 4, 1) := by decide +kernel
theorem dL_isLike_51 : decode cL_isLike 51 = .ok (.invokevirtual 210, 3) := by decide +kernel
theorem dL_isLike_54 : decode cL_isLike 54 = .ok (.aload_n 0, 1) := by decide +kernel
theorem dL_isLike_55 : decode cL_isLike 55 = .ok (.getfield 125, 3) := by decide +kernel
theorem dL_isLike_58 : decode cL_isLike 58 = .ok (.if_icmp .ne 67, 3) := by decide +kernel
theorem dL_isLike_61 : decode cL_isLike 61 = .ok (.aload_n 1, 1) := by decide +kernel
theorem dL_isLike_62 : decode cL_isLike 62 = .ok (.iconst 5, 1) := by decide +kernel
theorem dL_isLike_63 : decode cL_isLike 63 = .ok (.invokevirtual 210, 3) := by decide +kernel
theorem dL_isLike_66 : decode cL_isLike 66 = .ok (.aload_n 0, 1) := by decide +kernel
theorem dL_isLike_67 : decode cL_isLike 67 = .ok (.getfield 137, 3) := by decide +kernel
theorem dL_isLike_70 : decode cL_isLike 70 = .ok (.if_icmp .ne 55, 3) := by decide +kernel
theorem dL_isLike_73 : decode cL_isLike 73 = .ok (.aload_n 1, 1) := by decide +kernel
theorem dL_isLike_74 : decode cL_isLike 74 = .ok (.bipush 6, 2) := by decide +kernel
theorem dL_isLike_76 : decode cL_isLike 76 = .ok (.invokevirtual 210, 3) := by decide +kernel
theorem dL_isLike_79 : decode cL_isLike 79 = .ok (.aload_n 0, 1) := by decide +kernel
theorem dL_isLike_80 : decode cL_isLike 80 = .ok (.getfield 140, 3) := by decide +kernel
theorem dL_isLike_83 : decode cL_isLike 83 = .ok (.if_icmp .ne 42, 3) := by decide +kernel
theorem dL_isLike_86 : decode cL_isLike 86 = .ok (.aload_n 1, 1) := by decide +kernel
theorem dL_isLike_87 : decode cL_isLike 87 = .ok (.bipush 7, 2) := by decide +kernel
theorem dL_isLike_89 : decode cL_isLike 89 = .ok (.invokevirtual 210, 3) := by decide +kernel
theorem dL_isLike_92 : decode cL_isLike 92 = .ok (.aload_n 0, 1) := by decide +kernel
theorem dL_isLike_93 : decode cL_isLike 93 = .ok (.getfield 134, 3) := by decide +kernel
theorem dL_isLike_96 : decode cL_isLike 96 = .ok (.if_icmp .ne 29, 3) := by decide +kernel
theorem dL_isLike_99 : decode cL_isLike 99 = .ok (.aload_n 1, 1) := by decide +kernel
theorem dL_isLike_100 : decode cL_isLike 100 = .ok (.bipush 8, 2) := by decide +kernel
theorem dL_isLike_102 : decode cL_isLike 102 = .ok (.invokevirtual 210, 3) := by decide +kernel
theorem dL_isLike_105 : decode cL_isLike 105 = .ok (.aload_n 0, 1) := by decide +kernel
theorem dL_isLike_106 : decode cL_isLike 106 = .ok (.getfield 172, 3) := by decide +kernel
theorem dL_isLike_109 : decode cL_isLike 109 = .ok (.if_icmp .ne 16, 3) := by decide +kernel
theorem dL_isLike_112 : decode cL_isLike 112 = .ok (.aload_n 1, 1) := by decide +kernel
theorem dL_isLike_113 : decode cL_isLike 113 = .ok (.bipush 9, 2) := by decide +kernel
theorem dL_isLike_115 : decode cL_isLike 115 = .ok (.invokevirtual 210, 3) := by decide +kernel
theorem dL_isLike_118 : decode cL_isLike 118 = .ok (.aload_n 0, 1) := by decide +kernel
theorem dL_isLike_119 : decode cL_isLike 119 = .ok (.getfield 166, 3) := by decide +kernel
theorem dL_isLike_122 : decode cL_isLike 122 = .ok (.if_icmp .eq 5, 3) := by decide +kernel
theorem dL_isLike_125 : decode cL_isLike 125 = .ok (.iconst 0, 1) := by decide +kernel
theorem dL_isLike_126 : decode cL_isLike 126 = .ok (.ireturn, 1) := by decide +kernel
theorem dL_isLike_127 : decode cL_isLike 127 = .ok (.iconst 0, 1) := by decide +kernel
theorem dL_isLike_128 : decode cL_isLike 128 = .ok (.istore_n 2, 1) := by decide +kernel
theorem dL_isLike_129 : decode cL_isLike 129 = .ok (.iload_n 2, 1) := by decide +kernel
theorem dL_isLike_130 : decode cL_isLike 130 = .ok (.aload_n 0, 1) := by decide +kernel
theorem dL_isLike_131 : decode cL_isLike 131 = .ok (.getfield 93, 3) := by decide +kernel
theorem dL_isLike_134 : decode cL_isLike 134 = .ok (.if_icmp .ge 134, 3) := by decide +kernel
theorem dL_isLike_137 : decode cL_isLike 137 = .ok (.aload_n 1, 1) := by decide +kernel
theorem dL_isLike_138 : decode cL_isLike 138 = .ok (.iload_n 2, 1) := by decide +kernel
theorem dL_isLike_139 : decode cL_isLike 139 = .ok (.iconst 3, 1) := by decide +kernel
theorem dL_isLike_140 : decode cL_isLike 140 = .ok (.invokevirtual 213, 3) := by decide +kernel
theorem dL_isLike_143 : decode cL_isLike 143 = .ok (.aload_n 0, 1) := by decide +kernel
theorem dL_isLike_144 : decode cL_isLike 144 = .ok (.getfield 19, 3) := by decide +kernel
theorem dL_isLike_147 : decode cL_isLike 147 = .ok (.iload_n 2, 1) := by decide +kernel
theorem dL_isLike_148 : decode cL_isLike 148 = .ok (.iaload, 1) := by decide +kernel
theorem dL_isLike_149 : decode cL_isLike 149 = .ok (.if_icmp .ne 43, 3) := by decide +kernel
theorem dL_isLike_152 : decode cL_isLike 152 = .ok (.aload_n 1, 1) := by decide +kernel
theorem dL_isLike_153 : decode cL_isLike 153 = .ok (.iload_n 2, 1) := by decide +kernel
theorem dL_isLike_154 : decode cL_isLike 154 = .ok (.iconst 4, 1) := by decide +kernel
theorem dL_isLike_155 : decode cL_isLike 155 = .ok (.invokevirtual 213, 3) := by decide +kernel
theorem dL_isLike_158 : decode cL_isLike 158 = .ok (.iconst 0, 1) := by decide +kernel
theorem dL_isLike_159 : decode cL_isLike 159 = .ok (.aload_n 0, 1) := by decide +kernel
theorem dL_isLike_160 : decode cL_isLike 160 = .ok (.getfield 22, 3) := by decide +kernel
theorem dL_isLike_163 : decode cL_isLike 163 = .ok (.iload_n 2, 1) := by decide +kernel
theorem dL_isLike_164 : decode cL_isLike 164 = .ok (.iaload, 1) := by decide +kernel
theorem dL_isLike_165 : decode cL_isLike 165 = .ok (.aload_n 0, 1) := by decide +kernel
theorem dL_isLike_166 : decode cL_isLike 166 = .ok (.getfield 154, 3) := by decide +kernel
theorem dL_isLike_169 : decode cL_isLike 169 = .ok (.isub, 1) := by decide +kernel
theorem dL_isLike_170 : decode cL_isLike 170 = .ok (.invokestatic 122, 3) := by decide +kernel
theorem dL_isLike_173 : decode cL_isLike 173 = .ok (.if_icmp .ne 19, 3) := by decide +kernel
theorem dL_isLike_176 : decode cL_isLike 176 = .ok (.aload_n 1, 1) := by decide +kernel
theorem dL_isLike_177 : decode cL_isLike 177 = .ok (.iload_n 2, 1) := by decide +kernel
theorem dL_isLike_178 : decode cL_isLike 178 = .ok (.bipush 7, 2) := by decide +kernel
theorem dL_isLike_180 : decode cL_isLike 180 = .ok (.invokevirtual 213, 3) := by decide +kernel
theorem dL_isLike_183 : decode cL_isLike 183 = .ok (.aload_n 0, 1) := by decide +kernel
theorem dL_isLike_184 : decode cL_isLike 184 = .ok (.getfield 25, 3) := by decide +kernel
theorem dL_isLike_187 : decode cL_isLike 187 = .ok (.iload_n 2, 1) := by decide +kernel
theorem dL_isLike_188 : decode cL_isLike 188 = .ok (.iaload, 1) := by decide +kernel
theorem dL_isLike_189 : decode cL_isLike 189 = .ok (.if_icmp .eq 5, 3) := by decide +kernel
theorem dL_isLike_192 : decode cL_isLike 192 = .ok (.iconst 0, 1) := by decide +kernel
theorem dL_isLike_193 : decode cL_isLike 193 = .ok (.ireturn, 1) := by decide +kernel
theorem dL_isLike_194 : decode cL_isLike 194 = .ok (.iconst 0, 1) := by decide +kernel
theorem dL_isLike_195 : decode cL_isLike 195 = .ok (.istore_n 3, 1) := by decide +kernel
theorem dL_isLike_196 : decode cL_isLike 196 = .ok (.iload_n 3, 1) := by decide +kernel
theorem dL_isLike_197 : decode cL_isLike 197 = .ok (.aload_n 0, 1) := by decide +kernel
theorem dL_isLike_198 : decode cL_isLike 198 = .ok (.getfield 93, 3) := by decide +kernel
theorem dL_isLike_201 : decode cL_isLike 201 = .ok (.if_icmp .ge 61, 3) := by decide +kernel
theorem dL_isLike_204 : decode cL_isLike 204 = .ok (.aload_n 1, 1) := by decide +kernel
theorem dL_isLike_205 : decode cL_isLike 205 = .ok (.iload_n 2, 1) := by decide +kernel
theorem dL_isLike_206 : decode cL_isLike 206 = .ok (.iload_n 3, 1) := by decide +kernel
theorem dL_isLike_207 : decode cL_isLike 207 = .ok (.invokevirtual 216, 3) := by decide +kernel
theorem dL_isLike_210 : decode cL_isLike 210 = .ok (.aload_n 0, 1) := by decide +kernel
theorem dL_isLike_211 : decode cL_isLike 211 = .ok (.getfield 33, 3) := by decide +kernel
theorem dL_isLike_214 : decode cL_isLike 214 = .ok (.iload_n 2, 1) := by decide +kernel
theorem dL_isLike_215 : decode cL_isLike 215 = .ok (.aaload, 1) := by decide +kernel
theorem dL_isLike_216 : decode cL_isLike 216 = .ok (.iload_n 3, 1) := by decide +kernel
theorem dL_isLike_217 : decode cL_isLike 217 = .ok (.iaload, 1) := by decide +kernel
theorem dL_isLike_218 : decode cL_isLike 218 = .ok (.sipush 9999, 3) := by decide +kernel
theorem dL_isLike_221 : decode cL_isLike 221 = .ok (.if_icmp .ge 14, 3) := by decide +kernel
theorem dL_isLike_224 : decode cL_isLike 224 = .ok (.aload_n 0, 1) := by decide +kernel
theorem dL_isLike_225 : decode cL_isLike 225 = .ok (.getfield 33, 3) := by decide +kernel
theorem dL_isLike_228 : decode cL_isLike 228 = .ok (.iload_n 2, 1) := by decide +kernel
theorem dL_isLike_229 : decode cL_isLike 229 = .ok (.aaload, 1) := by decide +kernel
theorem dL_isLike_230 : decode cL_isLike 230 = .ok (.iload_n 3, 1) := by decide +kernel
theorem dL_isLike_231 : decode cL_isLike 231 = .ok (.iaload, 1) := by decide +kernel
theorem dL_isLike_232 : decode cL_isLike 232 = .ok (.goto 4, 3) := by decide +kernel
theorem dL_isLike_235 : decode cL_isLike 235 = .ok (.iconst (-1), 1) := by decide +kernel
theorem dL_isLike_236 : decode cL_isLike 236 = .ok (.if_icmp .ne 18, 3) := by decide +kernel
theorem dL_isLike_239 : decode cL_isLike 239 = .ok (.aload_n 1, 1) := by decide +kernel
theorem dL_isLike_240 : decode cL_isLike 240 = .ok (.iload_n 2, 1) := by decide +kernel
theorem dL_isLike_241 : decode cL_isLike 241 = .ok (.iload_n 3, 1) := by decide +kernel
theorem dL_isLike_242 : decode cL_isLike 242 = .ok (.invokevirtual 219, 3) := by decide +kernel
theorem dL_isLike_245 : decode cL_isLike 245 = .ok (.aload_n 0, 1) := by decide +kernel
theorem dL_isLike_246 : decode cL_isLike 246 = .ok (.iload_n 2, 1) := by decide +kernel
theorem dL_isLike_247 : decode cL_isLike 247 = .ok (.iload_n 3, 1) := by decide +kernel
theorem dL_isLike_248 : decode cL_isLike 248 = .ok (.invokevirtual 147, 3) := by decide +kernel
theorem dL_isLike_251 : decode cL_isLike 251 = .ok (.if_icmp .eq 5, 3) := by decide +kernel
theorem dL_isLike_254 : decode cL_isLike 254 = .ok (.iconst 0, 1) := by decide +kernel
theorem dL_isLike_255 : decode cL_isLike 255 = .ok (.ireturn, 1) := by decide +kernel
theorem dL_isLike_256 : decode cL_isLike 256 = .ok (.iinc 3 1, 3) := by decide +kernel
theorem dL_isLike_259 : decode cL_isLike 259 = .ok (.goto (-63), 3) := by decide +kernel
theorem dL_isLike_262 : decode cL_isLike 262 = .ok (.iinc 2 1, 3) := by decide +kernel
theorem dL_isLike_265 : decode cL_isLike 265 = .ok (.goto (-136), 3) := by decide +kernel
theorem dL_isLike_268 : decode cL_isLike 268 = .ok (.iconst 0, 1) := by decide +kernel
theorem dL_isLike_269 : decode cL_isLike 269 = .ok (.istore_n 2, 1) := by decide +kernel
theorem dL_isLike_270 : decode cL_isLike 270 = .ok (.iload_n 2, 1) := by decide +kernel
theorem dL_isLike_271 : decode cL_isLike 271 = .ok (.aload_n 0, 1) := by decide +kernel
theorem dL_isLike_272 : decode cL_isLike 272 = .ok (.getfield 103, 3) := by decide +kernel
theorem dL_isLike_275 : decode cL_isLike 275 = .ok (.if_icmp .ge 190, 3) := by decide +kernel
theorem dL_isLike_278 : decode cL_isLike 278 = .ok (.aload_n 1, 1) := by decide +kernel
theorem dL_isLike_279 : decode cL_isLike 279 = .ok (.iload_n 2, 1) := by decide +kernel
theorem dL_isLike_280 : decode cL_isLike 280 = .ok (.iconst 0, 1) := by decide +kernel
theorem dL_isLike_281 : decode cL_isLike 281 = .ok (.invokevirtual 220, 3) := by decide +kernel
theorem dL_isLike_284 : decode cL_isLike 284 = .ok (.aload_n 0, 1) := by decide +kernel
theorem dL_isLike_285 : decode cL_isLike 285 = .ok (.getfield 36, 3) := by decide +kernel
theorem dL_isLike_288 : decode cL_isLike 288 = .ok (.iload_n 2, 1) := by decide +kernel
theorem dL_isLike_289 : decode cL_isLike 289 = .ok (.iaload, 1) := by decide +kernel
theorem dL_isLike_290 : decode cL_isLike 290 = .ok (.if_icmp .ne 110, 3) := by decide +kernel
theorem dL_isLike_293 : decode cL_isLike 293 = .ok (.aload_n 1, 1) := by decide +kernel
theorem dL_isLike_294 : decode cL_isLike 294 = .ok (.iload_n 2, 1) := by decide +kernel
theorem dL_isLike_295 : decode cL_isLike 295 = .ok (.iconst 3, 1) := by decide +kernel
theorem dL_isLike_296 : decode cL_isLike 296 = .ok (.invokevirtual 220, 3) := by decide +kernel
theorem dL_isLike_299 : decode cL_isLike 299 = .ok (.aload_n 0, 1) := by decide +kernel
theorem dL_isLike_300 : decode cL_isLike 300 = .ok (.getfield 42, 3) := by decide +kernel
theorem dL_isLike_303 : decode cL_isLike 303 = .ok (.iload_n 2, 1) := by decide +kernel
theorem dL_isLike_304 : decode cL_isLike 304 = .ok (.iaload, 1) := by decide +kernel
theorem dL_isLike_305 : decode cL_isLike 305 = .ok (.if_icmp .ne 95, 3) := by decide +kernel
theorem dL_isLike_308 : decode cL_isLike 308 = .ok (.aload_n 1, 1) := by decide +kernel
theorem dL_isLike_309 : decode cL_isLike 309 = .ok (.iload_n 2, 1) := by decide +kernel
theorem dL_isLike_310 : decode cL_isLike 310 = .ok (.iconst 4, 1) := by decide +kernel
theorem dL_isLike_311 : decode cL_isLike 311 = .ok (.invokevirtual 220, 3) := by decide +kernel
theorem dL_isLike_314 : decode cL_isLike 314 = .ok (.aload_n 0, 1) := by decide +kernel
theorem dL_isLike_315 : decode cL_isLike 315 = .ok (.getfield 45, 3) := by decide +kernel
theorem dL_isLike_318 : decode cL_isLike 318 = .ok (.iload_n 2, 1) := by decide +kernel
theorem dL_isLike_319 : decode cL_isLike 319 = .ok (.iaload, 1) := by decide +kernel
theorem dL_isLike_320 : decode cL_isLike 320 = .ok (.if_icmp .ne 80, 3) := by decide +kernel
theorem dL_isLike_323 : decode cL_isLike 323 = .ok (.aload_n 1, 1) := by decide +kernel
theorem dL_isLike_324 : decode cL_isLike 324 = .ok (.iload_n 2, 1) := by decide +kernel
theorem dL_isLike_325 : decode cL_isLike 325 = .ok (.iconst 5, 1) := by decide +kernel
theorem dL_isLike_326 : decode cL_isLike 326 = .ok (.invokevirtual 220, 3) := by decide +kernel
theorem dL_isLike_329 : decode cL_isLike 329 = .ok (.aload_n 0, 1) := by decide +kernel
theorem dL_isLike_330 : decode cL_isLike 330 = .ok (.getfield 42, 3) := by decide +kernel
theorem dL_isLike_333 : decode cL_isLike 333 = .ok (.iload_n 2, 1) := by decide +kernel
theorem dL_isLike_334 : decode cL_isLike 334 = .ok (.iaload, 1) := by decide +kernel
theorem dL_isLike_335 : decode cL_isLike 335 = .ok (.iconst 1, 1) := by decide +kernel
theorem dL_isLike_336 : decode cL_isLike 336 = .ok (.if_icmp .ne 12, 3) := by decide +kernel
theorem dL_isLike_339 : decode cL_isLike 339 = .ok (.aload_n 0, 1) := by decide +kernel
theorem dL_isLike_340 : decode cL_isLike 340 = .ok (.getfield 48, 3) := by decide +kernel
theorem dL_isLike_343 : decode cL_isLike 343 = .ok (.iload_n 2, 1) := by decide +kernel
theorem dL_isLike_344 : decode cL_isLike 344 = .ok (.iaload, 1) := by decide +kernel
theorem dL_isLike_345 : decode cL_isLike 345 = .ok (.goto 4, 3) := by decide +kernel
theorem dL_isLike_348 : decode cL_isLike 348 = .ok (.iconst (-1), 1) := by decide +kernel
theorem dL_isLike_349 : decode cL_isLike 349 = .ok (.if_icmp .ne 51, 3) := by decide +kernel
theorem dL_isLike_352 : decode cL_isLike 352 = .ok (.aload_n 1, 1) := by decide +kernel
theorem dL_isLike_353 : decode cL_isLike 353 = .ok (.iload_n 2, 1) := by decide +kernel
theorem dL_isLike_354 : decode cL_isLike 354 = .ok (.bipush 6, 2) := by decide +kernel
theorem dL_isLike_356 : decode cL_isLike 356 = .ok (.invokevirtual 220, 3) := by decide +kernel
theorem dL_isLike_359 : decode cL_isLike 359 = .ok (.aload_n 0, 1) := by decide +kernel
theorem dL_isLike_360 : decode cL_isLike 360 = .ok (.getfield 63, 3) := by decide +kernel
theorem dL_isLike_363 : decode cL_isLike 363 = .ok (.iload_n 2, 1) := by decide +kernel
theorem dL_isLike_364 : decode cL_isLike 364 = .ok (.iaload, 1) := by decide +kernel
theorem dL_isLike_365 : decode cL_isLike 365 = .ok (.if_icmp .ne 35, 3) := by decide +kernel
theorem dL_isLike_368 : decode cL_isLike 368 = .ok (.aload_n 1, 1) := by decide +kernel
theorem dL_isLike_369 : decode cL_isLike 369 = .ok (.iload_n 2, 1) := by decide +kernel
theorem dL_isLike_370 : decode cL_isLike 370 = .ok (.bipush 8, 2) := by decide +kernel
theorem dL_isLike_372 : decode cL_isLike 372 = .ok (.invokevirtual 220, 3) := by decide +kernel
theorem dL_isLike_375 : decode cL_isLike 375 = .ok (.aload_n 0, 1) := by decide +kernel
theorem dL_isLike_376 : decode cL_isLike 376 = .ok (.getfield 54, 3) := by decide +kernel
theorem dL_isLike_379 : decode cL_isLike 379 = .ok (.iload_n 2, 1) := by decide +kernel
theorem dL_isLike_380 : decode cL_isLike 380 = .ok (.iaload, 1) := by decide +kernel
theorem dL_isLike_381 : decode cL_isLike 381 = .ok (.if_icmp .ne 19, 3) := by decide +kernel
theorem dL_isLike_384 : decode cL_isLike 384 = .ok (.aload_n 1, 1) := by decide +kernel
theorem dL_isLike_385 : decode cL_isLike 385 = .ok (.iload_n 2, 1) := by decide +kernel
theorem dL_isLike_386 : decode cL_isLike 386 = .ok (.bipush 11, 2) := by decide +kernel
theorem dL_isLike_388 : decode cL_isLike 388 = .ok (.invokevirtual 220, 3) := by decide +kernel
theorem dL_isLike_391 : decode cL_isLike 391 = .ok (.aload_n 0, 1) := by decide +kernel
end
section
theorem dL_isLike_392 : decode cL_isLike 392 = .ok (.getfield 57, 3) := by decide +kernel
theorem dL_isLike_395 : decode cL_isLike 395 = .ok (.iload_n 2, 1) := by decide +kernel
theorem dL_isLike_396 : decode cL_isLike 396 = .ok (.iaload, 1) := by decide +kernel
theorem dL_isLike_397 : decode cL_isLike 397 = .ok (.if_icmp .eq 5, 3) := by decide +kernel
theorem dL_isLike_400 : decode cL_isLike 400 = .ok (.iconst 0, 1) := by decide +kernel
theorem dL_isLike_401 : decode cL_isLike 401 = .ok (.ireturn, 1) := by decide +kernel
theorem dL_isLike_402 : decode cL_isLike 402 = .ok (.iconst 0, 1) := by decide +kernel
theorem dL_isLike_403 : decode cL_isLike 403 = .ok (.istore_n 3, 1) := by decide +kernel
theorem dL_isLike_404 : decode cL_isLike 404 = .ok (.iload_n 3, 1) := by decide +kernel
theorem dL_isLike_405 : decode cL_isLike 405 = .ok (.aload_n 0, 1) := by decide +kernel
theorem dL_isLike_406 : decode cL_isLike 406 = .ok (.getfield 67, 3) := by decide +kernel
theorem dL_isLike_409 : decode cL_isLike 409 = .ok (.iload_n 2, 1) := by decide +kernel
theorem dL_isLike_410 : decode cL_isLike 410 = .ok (.aaload, 1) := by decide +kernel
theorem dL_isLike_411 : decode cL_isLike 411 = .ok (.arraylength, 1) := by decide +kernel
theorem dL_isLike_412 : decode cL_isLike 412 = .ok (.if_icmp .ge 47, 3) := by decide +kernel
theorem dL_isLike_415 : decode cL_isLike 415 = .ok (.aload_n 1, 1) := by decide +kernel
theorem dL_isLike_416 : decode cL_isLike 416 = .ok (.iload_n 2, 1) := by decide +kernel
theorem dL_isLike_417 : decode cL_isLike 417 = .ok (.iload_n 3, 1) := by decide +kernel
theorem dL_isLike_418 : decode cL_isLike 418 = .ok (.iconst 1, 1) := by decide +kernel
theorem dL_isLike_419 : decode cL_isLike 419 = .ok (.invokevirtual 223, 3) := by decide +kernel
theorem dL_isLike_422 : decode cL_isLike 422 = .ok (.aload_n 0, 1) := by decide +kernel
theorem dL_isLike_423 : decode cL_isLike 423 = .ok (.getfield 70, 3) := by decide +kernel
theorem dL_isLike_426 : decode cL_isLike 426 = .ok (.iload_n 2, 1) := by decide +kernel
theorem dL_isLike_427 : decode cL_isLike 427 = .ok (.aaload, 1) := by decide +kernel
theorem dL_isLike_428 : decode cL_isLike 428 = .ok (.iload_n 3, 1) := by decide +kernel
theorem dL_isLike_429 : decode cL_isLike 429 = .ok (.iaload, 1) := by decide +kernel
theorem dL_isLike_430 : decode cL_isLike 430 = .ok (.if_icmp .ne 21, 3) := by decide +kernel
theorem dL_isLike_433 : decode cL_isLike 433 = .ok (.aload_n 1, 1) := by decide +kernel
theorem dL_isLike_434 : decode cL_isLike 434 = .ok (.iload_n 2, 1) := by decide +kernel
theorem dL_isLike_435 : decode cL_isLike 435 = .ok (.iload_n 3, 1) := by decide +kernel
theorem dL_isLike_436 : decode cL_isLike 436 = .ok (.iconst 0, 1) := by decide +kernel
theorem dL_isLike_437 : decode cL_isLike 437 = .ok (.invokevirtual 223, 3) := by decide +kernel
theorem dL_isLike_440 : decode cL_isLike 440 = .ok (.aload_n 0, 1) := by decide +kernel
theorem dL_isLike_441 : decode cL_isLike 441 = .ok (.getfield 67, 3) := by decide +kernel
theorem dL_isLike_444 : decode cL_isLike 444 = .ok (.iload_n 2, 1) := by decide +kernel
theorem dL_isLike_445 : decode cL_isLike 445 = .ok (.aaload, 1) := by decide +kernel
theorem dL_isLike_446 : decode cL_isLike 446 = .ok (.iload_n 3, 1) := by decide +kernel
theorem dL_isLike_447 : decode cL_isLike 447 = .ok (.iaload, 1) := by decide +kernel
theorem dL_isLike_448 : decode cL_isLike 448 = .ok (.if_icmp .eq 5, 3) := by decide +kernel
theorem dL_isLike_451 : decode cL_isLike 451 = .ok (.iconst 0, 1) := by decide +kernel
theorem dL_isLike_452 : decode cL_isLike 452 = .ok (.ireturn, 1) := by decide +kernel
theorem dL_isLike_453 : decode cL_isLike 453 = .ok (.iinc 3 1, 3) := by decide +kernel
theorem dL_isLike_456 : decode cL_isLike 456 = .ok (.goto (-52), 3) := by decide +kernel
theorem dL_isLike_459 : decode cL_isLike 459 = .ok (.iinc 2 1, 3) := by decide +kernel
theorem dL_isLike_462 : decode cL_isLike 462 = .ok (.goto (-192), 3) := by decide +kernel
theorem dL_isLike_465 : decode cL_isLike 465 = .ok (.aload_n 1, 1) := by decide +kernel
theorem dL_isLike_466 : decode cL_isLike 466 = .ok (.invokevirtual 227, 3) := by decide +kernel
theorem dL_isLike_469 : decode cL_isLike 469 = .ok (.ireturn, 1) := by decide +kernel
theorem dL_law_0 : decode cL_law 0 = .ok (.new 84, 3) := by decide +kernel
theorem dL_law_3 : decode cL_law 3 = .ok (.dup, 1) := by decide +kernel
theorem dL_law_4 : decode cL_law 4 = .ok (.invokespecial 231, 3) := by decide +kernel
theorem dL_law_7 : decode cL_law 7 = .ok (.astore_n 1, 1) := by decide +kernel
theorem dL_law_8 : decode cL_law 8 = .ok (.new 8, 3) := by decide +kernel
theorem dL_law_11 : decode cL_law 11 = .ok (.dup, 1) := by decide +kernel
theorem dL_law_12 : decode cL_law 12 = .ok (.invokespecial 232, 3) := by decide +kernel
theorem dL_law_15 : decode cL_law 15 = .ok (.astore_n 2, 1) := by decide +kernel
theorem dL_law_16 : decode cL_law 16 = .ok (.aload_n 0, 1) := by decide +kernel
theorem dL_law_17 : decode cL_law 17 = .ok (.iconst 0, 1) := by decide +kernel
theorem dL_law_18 : decode cL_law 18 = .ok (.invokestatic 233, 3) := by decide +kernel
theorem dL_law_21 : decode cL_law 21 = .ok (.istore_n 3, 1) := by decide +kernel
theorem dL_law_22 : decode cL_law 22 = .ok (.aload_n 2, 1) := by decide +kernel
theorem dL_law_23 : decode cL_law 23 = .ok (.iconst 3, 1) := by decide +kernel
theorem dL_law_24 : decode cL_law 24 = .ok (.iload_n 3, 1) := by decide +kernel
theorem dL_law_25 : decode cL_law 25 = .ok (.iconst 0, 1) := by decide +kernel
theorem dL_law_26 : decode cL_law 26 = .ok (.iconst 4, 1) := by decide +kernel
theorem dL_law_27 : decode cL_law 27 = .ok (.invokestatic 184, 3) := by decide +kernel
theorem dL_law_30 : decode cL_law 30 = .ok (.iconst 3, 1) := by decide +kernel
theorem dL_law_31 : decode cL_law 31 = .ok (.irem, 1) := by decide +kernel
theorem dL_law_32 : decode cL_law 32 = .ok (.iadd, 1) := by decide +kernel
theorem dL_law_33 : decode cL_law 33 = .ok (.putfield 93, 3) := by decide +kernel
theorem dL_law_36 : decode cL_law 36 = .ok (.aload_n 2, 1) := by decide +kernel
theorem dL_law_37 : decode cL_law 37 = .ok (.iload_n 3, 1) := by decide +kernel
theorem dL_law_38 : decode cL_law 38 = .ok (.iconst 4, 1) := by decide +kernel
theorem dL_law_39 : decode cL_law 39 = .ok (.iconst 4, 1) := by decide +kernel
theorem dL_law_40 : decode cL_law 40 = .ok (.invokestatic 184, 3) := by decide +kernel
theorem dL_law_43 : decode cL_law 43 = .ok (.bipush 10, 2) := by decide +kernel
theorem dL_law_45 : decode cL_law 45 = .ok (.irem, 1) := by decide +kernel
theorem dL_law_46 : decode cL_law 46 = .ok (.putfield 119, 3) := by decide +kernel
theorem dL_law_49 : decode cL_law 49 = .ok (.aload_n 2, 1) := by decide +kernel
theorem dL_law_50 : decode cL_law 50 = .ok (.bipush 20, 2) := by decide +kernel
theorem dL_law_52 : decode cL_law 52 = .ok (.iload_n 3, 1) := by decide +kernel
theorem dL_law_53 : decode cL_law 53 = .ok (.bipush 8, 2) := by decide +kernel
theorem dL_law_55 : decode cL_law 55 = .ok (.iconst 5, 1) := by decide +kernel
theorem dL_law_56 : decode cL_law 56 = .ok (.invokestatic 184, 3) := by decide +kernel
theorem dL_law_59 : decode cL_law 59 = .ok (.iadd, 1) := by decide +kernel
theorem dL_law_60 : decode cL_law 60 = .ok (.putfield 160, 3) := by decide +kernel
theorem dL_law_63 : decode cL_law 63 = .ok (.aload_n 2, 1) := by decide +kernel
theorem dL_law_64 : decode cL_law 64 = .ok (.iload_n 3, 1) := by decide +kernel
theorem dL_law_65 : decode cL_law 65 = .ok (.bipush 13, 2) := by decide +kernel
theorem dL_law_67 : decode cL_law 67 = .ok (.iconst 2, 1) := by decide +kernel
theorem dL_law_68 : decode cL_law 68 = .ok (.invokestatic 184, 3) := by decide +kernel
theorem dL_law_71 : decode cL_law 71 = .ok (.putfield 131, 3) := by decide +kernel
theorem dL_law_74 : decode cL_law 74 = .ok (.new 237, 3) := by decide +kernel
theorem dL_law_77 : decode cL_law 77 = .ok (.dup, 1) := by decide +kernel
theorem dL_law_78 : decode cL_law 78 = .ok (.invokespecial 239, 3) := by decide +kernel
theorem dL_law_81 : decode cL_law 81 = .ok (.astore 4, 2) := by decide +kernel
theorem dL_law_83 : decode cL_law 83 = .ok (.iconst 0, 1) := by decide +kernel
theorem dL_law_84 : decode cL_law 84 = .ok (.istore 5, 2) := by decide +kernel
theorem dL_law_86 : decode cL_law 86 = .ok (.iload 5, 2) := by decide +kernel
theorem dL_law_88 : decode cL_law 88 = .ok (.aload_n 2, 1) := by decide +kernel
theorem dL_law_89 : decode cL_law 89 = .ok (.getfield 93, 3) := by decide +kernel
theorem dL_law_92 : decode cL_law 92 = .ok (.if_icmp .ge 164, 3) := by decide +kernel
theorem dL_law_95 : decode cL_law 95 = .ok (.aload_n 0, 1) := by decide +kernel
theorem dL_law_96 : decode cL_law 96 = .ok (.iconst 1, 1) := by decide +kernel
theorem dL_law_97 : decode cL_law 97 = .ok (.iload 5, 2) := by decide +kernel
theorem dL_law_99 : decode cL_law 99 = .ok (.iadd, 1) := by decide +kernel
theorem dL_law_100 : decode cL_law 100 = .ok (.invokestatic 233, 3) := by decide +kernel
theorem dL_law_103 : decode cL_law 103 = .ok (.istore 6, 2) := by decide +kernel
theorem dL_law_105 : decode cL_law 105 = .ok (.aload_n 2, 1) := by decide +kernel
theorem dL_law_106 : decode cL_law 106 = .ok (.getfield 7, 3) := by decide +kernel
theorem dL_law_109 : decode cL_law 109 = .ok (.iload 5, 2) := by decide +kernel
theorem dL_law_111 : decode cL_law 111 = .ok (.iconst 1, 1) := by decide +kernel
theorem dL_law_112 : decode cL_law 112 = .ok (.iload 6, 2) := by decide +kernel
theorem dL_law_114 : decode cL_law 114 = .ok (.iconst 0, 1) := by decide +kernel
theorem dL_law_115 : decode cL_law 115 = .ok (.iconst 3, 1) := by decide +kernel
theorem dL_law_116 : decode cL_law 116 = .ok (.invokestatic 184, 3) := by decide +kernel
theorem dL_law_119 : decode cL_law 119 = .ok (.iadd, 1) := by decide +kernel
theorem dL_law_120 : decode cL_law 120 = .ok (.iastore, 1) := by decide +kernel
theorem dL_law_121 : decode cL_law 121 = .ok (.aload_n 2, 1) := by decide +kernel
theorem dL_law_122 : decode cL_law 122 = .ok (.getfield 13, 3) := by decide +kernel
theorem dL_law_125 : decode cL_law 125 = .ok (.iload 5, 2) := by decide +kernel
theorem dL_law_127 : decode cL_law 127 = .ok (.iload 6, 2) := by decide +kernel
theorem dL_law_129 : decode cL_law 129 = .ok (.iconst 3, 1) := by decide +kernel
theorem dL_law_130 : decode cL_law 130 = .ok (.iconst 4, 1) := by decide +kernel
theorem dL_law_131 : decode cL_law 131 = .ok (.invokestatic 184, 3) := by decide +kernel
theorem dL_law_134 : decode cL_law 134 = .ok (.bipush 10, 2) := by decide +kernel
theorem dL_law_136 : decode cL_law 136 = .ok (.irem, 1) := by decide +kernel
theorem dL_law_137 : decode cL_law 137 = .ok (.iastore, 1) := by decide +kernel
theorem dL_law_138 : decode cL_law 138 = .ok (.aload_n 2, 1) := by decide +kernel
theorem dL_law_139 : decode cL_law 139 = .ok (.getfield 16, 3) := by decide +kernel
theorem dL_law_142 : decode cL_law 142 = .ok (.iload 5, 2) := by decide +kernel
theorem dL_law_144 : decode cL_law 144 = .ok (.iload 6, 2) := by decide +kernel
theorem dL_law_146 : decode cL_law 146 = .ok (.bipush 7, 2) := by decide +kernel
theorem dL_law_148 : decode cL_law 148 = .ok (.iconst 2, 1) := by decide +kernel
theorem dL_law_149 : decode cL_law 149 = .ok (.invokestatic 184, 3) := by decide +kernel
theorem dL_law_152 : decode cL_law 152 = .ok (.iastore, 1) := by decide +kernel
theorem dL_law_153 : decode cL_law 153 = .ok (.aload_n 2, 1) := by decide +kernel
theorem dL_law_154 : decode cL_law 154 = .ok (.getfield 19, 3) := by decide +kernel
theorem dL_law_157 : decode cL_law 157 = .ok (.iload 5, 2) := by decide +kernel
theorem dL_law_159 : decode cL_law 159 = .ok (.iload 6, 2) := by decide +kernel
theorem dL_law_161 : decode cL_law 161 = .ok (.bipush 9, 2) := by decide +kernel
theorem dL_law_163 : decode cL_law 163 = .ok (.iconst 5, 1) := by decide +kernel
theorem dL_law_164 : decode cL_law 164 = .ok (.invokestatic 184, 3) := by decide +kernel
theorem dL_law_167 : decode cL_law 167 = .ok (.iastore, 1) := by decide +kernel
theorem dL_law_168 : decode cL_law 168 = .ok (.aload 4, 2) := by decide +kernel
theorem dL_law_170 : decode cL_law 170 = .ok (.ldc 240, 2) := by decide +kernel
theorem dL_law_172 : decode cL_law 172 = .ok (.invokevirtual 242, 3) := by decide +kernel
theorem dL_law_175 : decode cL_law 175 = .ok (.bipush 97, 2) := by decide +kernel
theorem dL_law_177 : decode cL_law 177 = .ok (.iload 5, 2) := by decide +kernel
theorem dL_law_179 : decode cL_law 179 = .ok (.iadd, 1) := by decide +kernel
theorem dL_law_180 : decode cL_law 180 = .ok (.i2c, 1) := by decide +kernel
theorem dL_law_181 : decode cL_law 181 = .ok (.invokevirtual 246, 3) := by decide +kernel
theorem dL_law_184 : decode cL_law 184 = .ok (.bipush 32, 2) := by decide +kernel
theorem dL_law_186 : decode cL_law 186 = .ok (.invokevirtual 246, 3) := by decide +kernel
theorem dL_law_189 : decode cL_law 189 = .ok (.aload_n 2, 1) := by decide +kernel
theorem dL_law_190 : decode cL_law 190 = .ok (.getfield 7, 3) := by decide +kernel
theorem dL_law_193 : decode cL_law 193 = .ok (.iload 5, 2) := by decide +kernel
theorem dL_law_195 : decode cL_law 195 = .ok (.iaload, 1) := by decide +kernel
theorem dL_law_196 : decode cL_law 196 = .ok (.invokevirtual 249, 3) := by decide +kernel
theorem dL_law_199 : decode cL_law 199 = .ok (.bipush 32, 2) := by decide +kernel
theorem dL_law_201 : decode cL_law 201 = .ok (.invokevirtual 246, 3) := by decide +kernel
theorem dL_law_204 : decode cL_law 204 = .ok (.aload_n 2, 1) := by decide +kernel
theorem dL_law_205 : decode cL_law 205 = .ok (.getfield 13, 3) := by decide +kernel
theorem dL_law_208 : decode cL_law 208 = .ok (.iload 5, 2) := by decide +kernel
theorem dL_law_210 : decode cL_law 210 = .ok (.iaload, 1) := by decide +kernel
theorem dL_law_211 : decode cL_law 211 = .ok (.invokevirtual 249, 3) := by decide +kernel
theorem dL_law_214 : decode cL_law 214 = .ok (.bipush 32, 2) := by decide +kernel
theorem dL_law_216 : decode cL_law 216 = .ok (.invokevirtual 246, 3) := by decide +kernel
theorem dL_law_219 : decode cL_law 219 = .ok (.aload_n 2, 1) := by decide +kernel
theorem dL_law_220 : decode cL_law 220 = .ok (.getfield 16, 3) := by decide +kernel
theorem dL_law_223 : decode cL_law 223 = .ok (.iload 5, 2) := by decide +kernel
theorem dL_law_225 : decode cL_law 225 = .ok (.iaload, 1) := by decide +kernel
theorem dL_law_226 : decode cL_law 226 = .ok (.invokevirtual 249, 3) := by decide +kernel
theorem dL_law_229 : decode cL_law 229 = .ok (.bipush 32, 2) := by decide +kernel
theorem dL_law_231 : decode cL_law 231 = .ok (.invokevirtual 246, 3) := by decide +kernel
theorem dL_law_234 : decode cL_law 234 = .ok (.aload_n 2, 1) := by decide +kernel
theorem dL_law_235 : decode cL_law 235 = .ok (.getfield 19, 3) := by decide +kernel
theorem dL_law_238 : decode cL_law 238 = .ok (.iload 5, 2) := by decide +kernel
theorem dL_law_240 : decode cL_law 240 = .ok (.iaload, 1) := by decide +kernel
theorem dL_law_241 : decode cL_law 241 = .ok (.invokevirtual 249, 3) := by decide +kernel
theorem dL_law_244 : decode cL_law 244 = .ok (.bipush 59, 2) := by decide +kernel
theorem dL_law_246 : decode cL_law 246 = .ok (.invokevirtual 246, 3) := by decide +kernel
theorem dL_law_249 : decode cL_law 249 = .ok (.pop, 1) := by decide +kernel
theorem dL_law_250 : decode cL_law 250 = .ok (.iinc 5 1, 3) := by decide +kernel
theorem dL_law_253 : decode cL_law 253 = .ok (.goto (-167), 3) := by decide +kernel
theorem dL_law_256 : decode cL_law 256 = .ok (.iconst 0, 1) := by decide +kernel
theorem dL_law_257 : decode cL_law 257 = .ok (.istore 5, 2) := by decide +kernel
theorem dL_law_259 : decode cL_law 259 = .ok (.iconst 0, 1) := by decide +kernel
theorem dL_law_260 : decode cL_law 260 = .ok (.istore 6, 2) := by decide +kernel
theorem dL_law_262 : decode cL_law 262 = .ok (.iload 6, 2) := by decide +kernel
theorem dL_law_264 : decode cL_law 264 = .ok (.aload_n 2, 1) := by decide +kernel
theorem dL_law_265 : decode cL_law 265 = .ok (.getfield 93, 3) := by decide +kernel
theorem dL_law_268 : decode cL_law 268 = .ok (.if_icmp .ge 158, 3) := by decide +kernel
theorem dL_law_271 : decode cL_law 271 = .ok (.iload 6, 2) := by decide +kernel
theorem dL_law_273 : decode cL_law 273 = .ok (.iconst 1, 1) := by decide +kernel
theorem dL_law_274 : decode cL_law 274 = .ok (.iadd, 1) := by decide +kernel
theorem dL_law_275 : decode cL_law 275 = .ok (.istore 7, 2) := by decide +kernel
theorem dL_law_277 : decode cL_law 277 = .ok (.iload 7, 2) := by decide +kernel
theorem dL_law_279 : decode cL_law 279 = .ok (.aload_n 2, 1) := by decide +kernel
theorem dL_law_280 : decode cL_law 280 = .ok (.getfield 93, 3) := by decide +kernel
theorem dL_law_283 : decode cL_law 283 = .ok (.if_icmp .ge 137, 3) := by decide +kernel
theorem dL_law_286 : decode cL_law 286 = .ok (.aload_n 0, 1) := by decide +kernel
theorem dL_law_287 : decode cL_law 287 = .ok (.bipush 6, 2) := by decide +kernel
theorem dL_law_289 : decode cL_law 289 = .ok (.iconst 5, 1) := by decide +kernel
theorem dL_law_290 : decode cL_law 290 = .ok (.iload 6, 2) := by decide +kernel
theorem dL_law_292 : decode cL_law 292 = .ok (.imul, 1) := by decide +kernel
theorem dL_law_293 : decode cL_law 293 = .ok (.iadd, 1) := by decide +kernel
theorem dL_law_294 : decode cL_law 294 = .ok (.iload 7, 2) := by decide +kernel
theorem dL_law_296 : decode cL_law 296 = .ok (.iadd, 1) := by decide +kernel
theorem dL_law_297 : decode cL_law 297 = .ok (.invokestatic 233, 3) := by decide +kernel
theorem dL_law_300 : decode cL_law 300 = .ok (.istore 8, 2) := by decide +kernel
theorem dL_law_302 : decode cL_law 302 = .ok (.iload 8, 2) := by decide +kernel
theorem dL_law_304 : decode cL_law 304 = .ok (.iconst 0, 1) := by decide +kernel
theorem dL_law_305 : decode cL_law 305 = .ok (.iconst 2, 1) := by decide +kernel
theorem dL_law_306 : decode cL_law 306 = .ok (.invokestatic 184, 3) := by decide +kernel
theorem dL_law_309 : decode cL_law 309 = .ok (.ifCond .ne 6, 3) := by decide +kernel
theorem dL_law_312 : decode cL_law 312 = .ok (.goto 102, 3) := by decide +kernel
theorem dL_law_315 : decode cL_law 315 = .ok (.aload_n 2, 1) := by decide +kernel
theorem dL_law_316 : decode cL_law 316 = .ok (.getfield 30, 3) := by decide +kernel
theorem dL_law_319 : decode cL_law 319 = .ok (.iload 6, 2) := by decide +kernel
theorem dL_law_321 : decode cL_law 321 = .ok (.aaload, 1) := by decide +kernel
theorem dL_law_322 : decode cL_law 322 = .ok (.iload 7, 2) := by decide +kernel
theorem dL_law_324 : decode cL_law 324 = .ok (.iconst 1, 1) := by decide +kernel
theorem dL_law_325 : decode cL_law 325 = .ok (.iload 8, 2) := by decide +kernel
theorem dL_law_327 : decode cL_law 327 = .ok (.iconst 2, 1) := by decide +kernel
theorem dL_law_328 : decode cL_law 328 = .ok (.iconst 4, 1) := by decide +kernel
theorem dL_law_329 : decode cL_law 329 = .ok (.invokestatic 184, 3) := by decide +kernel
theorem dL_law_332 : decode cL_law 332 = .ok (.bipush 9, 2) := by decide +kernel
theorem dL_law_334 : decode cL_law 334 = .ok (.irem, 1) := by decide +kernel
theorem dL_law_335 : decode cL_law 335 = .ok (.iadd, 1) := by decide +kernel
theorem dL_law_336 : decode cL_law 336 = .ok (.iastore, 1) := by decide +kernel
theorem dL_law_337 : decode cL_law 337 = .ok (.aload_n 2, 1) := by decide +kernel
theorem dL_law_338 : decode cL_law 338 = .ok (.getfield 30, 3) := by decide +kernel
theorem dL_law_341 : decode cL_law 341 = .ok (.iload 7, 2) := by decide +kernel
theorem dL_law_343 : decode cL_law 343 = .ok (.aaload, 1) := by decide +kernel
theorem dL_law_344 : decode cL_law 344 = .ok (.iload 6, 2) := by decide +kernel
theorem dL_law_346 : decode cL_law 346 = .ok (.aload_n 2, 1) := by decide +kernel
theorem dL_law_347 : decode cL_law 347 = .ok (.getfield 30, 3) := by decide +kernel
theorem dL_law_350 : decode cL_law 350 = .ok (.iload 6, 2) := by decide +kernel
theorem dL_law_352 : decode cL_law 352 = .ok (.aaload, 1) := by decide +kernel
theorem dL_law_353 : decode cL_law 353 = .ok (.iload 7, 2) := by decide +kernel
theorem dL_law_355 : decode cL_law 355 = .ok (.iaload, 1) := by decide +kernel
theorem dL_law_356 : decode cL_law 356 = .ok (.iastore, 1) := by decide +kernel
theorem dL_law_357 : decode cL_law 357 = .ok (.aload 4, 2) := by decide +kernel
theorem dL_law_359 : decode cL_law 359 = .ok (.ldc 252, 2) := by decide +kernel
theorem dL_law_361 : decode cL_law 361 = .ok (.invokevirtual 242, 3) := by decide +kernel
theorem dL_law_364 : decode cL_law 364 = .ok (.bipush 97, 2) := by decide +kernel
theorem dL_law_366 : decode cL_law 366 = .ok (.iload 7, 2) := by decide +kernel
theorem dL_law_368 : decode cL_law 368 = .ok (.iadd, 1) := by decide +kernel
theorem dL_law_369 : decode cL_law 369 = .ok (.i2c, 1) := by decide +kernel
theorem dL_law_370 : decode cL_law 370 = .ok (.invokevirtual 246, 3) := by decide +kernel
theorem dL_law_373 : decode cL_law 373 = .ok (.bipush 32, 2) := by decide +kernel
theorem dL_law_375 : decode cL_law 375 = .ok (.invokevirtual 246, 3) := by decide +kernel
theorem dL_law_378 : decode cL_law 378 = .ok (.bipush 97, 2) := by decide +kernel
theorem dL_law_380 : decode cL_law 380 = .ok (.iload 6, 2) := by decide +kernel
theorem dL_law_382 : decode cL_law 382 = .ok (.iadd, 1) := by decide +kernel
theorem dL_law_383 : decode cL_law 383 = .ok (.i2c, 1) := by decide +kernel
theorem dL_law_384 : decode cL_law 384 = .ok (.invokevirtual 246, 3) := by decide +kernel
theorem dL_law_387 : decode cL_law 387 = .ok (.bipush 32, 2) := by decide +kernel
theorem dL_law_389 : decode cL_law 389 = .ok (.invokevirtual 246, 3) := by decide +kernel
theorem dL_law_392 : decode cL_law 392 = .ok (.aload_n 2, 1) := by decide +kernel
theorem dL_law_393 : decode cL_law 393 = .ok (.getfield 30, 3) := by decide +kernel
theorem dL_law_396 : decode cL_law 396 = .ok (.iload 6, 2) := by decide +kernel
theorem dL_law_398 : decode cL_law 398 = .ok (.aaload, 1) := by decide +kernel
theorem dL_law_399 : decode cL_law 399 = .ok (.iload 7, 2) := by decide +kernel
theorem dL_law_401 : decode cL_law 401 = .ok (.iaload, 1) := by decide +kernel
theorem dL_law_402 : decode cL_law 402 = .ok (.invokevirtual 249, 3) := by decide +kernel
theorem dL_law_405 : decode cL_law 405 = .ok (.bipush 59, 2) := by decide +kernel
theorem dL_law_407 : decode cL_law 407 = .ok (.invokevirtual 246, 3) := by decide +kernel
theorem dL_law_410 : decode cL_law 410 = .ok (.pop, 1) := by decide +kernel
theorem dL_law_411 : decode cL_law 411 = .ok (.iinc 5 1, 3) := by decide +kernel
theorem dL_law_414 : decode cL_law 414 = .ok (.iinc 7 1, 3) := by decide +kernel
theorem dL_law_417 : decode cL_law 417 = .ok (.goto (-140), 3) := by decide +kernel
theorem dL_law_420 : decode cL_law 420 = .ok (.iinc 6 1, 3) := by decide +kernel
theorem dL_law_423 : decode cL_law 423 = .ok (.goto (-161), 3) := by decide +kernel
theorem dL_law_426 : decode cL_law 426 = .ok (.aload_n 2, 1) := by decide +kernel
theorem dL_law_427 : decode cL_law 427 = .ok (.invokevirtual 192, 3) := by decide +kernel
theorem dL_law_430 : decode cL_law 430 = .ok (.aload_n 1, 1) := by decide +kernel
theorem dL_law_431 : decode cL_law 431 = .ok (.aload 4, 2) := by decide +kernel
theorem dL_law_433 : decode cL_law 433 = .ok (.ldc 254, 2) := by decide +kernel
theorem dL_law_435 : decode cL_law 435 = .ok (.invokevirtual 242, 3) := by decide +kernel
theorem dL_law_438 : decode cL_law 438 = .ok (.aload_n 2, 1) := by decide +kernel
theorem dL_law_439 : decode cL_law 439 = .ok (.getfield 119, 3) := by decide +kernel
theorem dL_law_442 : decode cL_law 442 = .ok (.invokevirtual 249, 3) := by decide +kernel
theorem dL_law_445 : decode cL_law 445 = .ok (.ldc_w 256, 3) := by decide +kernel
theorem dL_law_448 : decode cL_law 448 = .ok (.invokevirtual 242, 3) := by decide +kernel
theorem dL_law_451 : decode cL_law 451 = .ok (.aload_n 2, 1) := by decide +kernel
theorem dL_law_452 : decode cL_law 452 = .ok (.getfield 160, 3) := by decide +kernel
theorem dL_law_455 : decode cL_law 455 = .ok (.invokevirtual 249, 3) := by decide +kernel
theorem dL_law_458 : decode cL_law 458 = .ok (.ldc_w 258, 3) := by decide +kernel
theorem dL_law_461 : decode cL_law 461 = .ok (.invokevirtual 242, 3) := by decide +kernel
theorem dL_law_464 : decode cL_law 464 = .ok (.aload_n 2, 1) := by decide +kernel
theorem dL_law_465 : decode cL_law 465 = .ok (.getfield 131, 3) := by decide +kernel
theorem dL_law_468 : decode cL_law 468 = .ok (.invokevirtual 249, 3) := by decide +kernel
theorem dL_law_471 : decode cL_law 471 = .ok (.bipush 59, 2) := by decide +kernel
theorem dL_law_473 : decode cL_law 473 = .ok (.invokevirtual 246, 3) := by decide +kernel
theorem dL_law_476 : decode cL_law 476 = .ok (.invokevirtual 260, 3) := by decide +kernel
theorem dL_law_479 : decode cL_law 479 = .ok (.invokestatic 264, 3) := by decide +kernel
theorem dL_law_482 : decode cL_law 482 = .ok (.aload_n 1, 1) := by decide +kernel
theorem dL_law_483 : decode cL_law 483 = .ok (.invokevirtual 268, 3) := by decide +kernel
theorem dL_law_486 : decode cL_law 486 = .ok (.iload 5, 2) := by decide +kernel
theorem dL_law_488 : decode cL_law 488 = .ok (.if_icmp .ne 11, 3) := by decide +kernel
theorem dL_law_491 : decode cL_law 491 = .ok (.aload_n 2, 1) := by decide +kernel
theorem dL_law_492 : decode cL_law 492 = .ok (.aload_n 1, 1) := by decide +kernel
theorem dL_law_493 : decode cL_law 493 = .ok (.invokevirtual 271, 3) := by decide +kernel
theorem dL_law_496 : decode cL_law 496 = .ok (.ifCond .ne 5, 3) := by decide +kernel
theorem dL_law_499 : decode cL_law 499 = .ok (.iconst 0, 1) := by decide +kernel
theorem dL_law_500 : decode cL_law 500 = .ok (.ireturn, 1) := by decide +kernel
theorem dL_law_501 : decode cL_law 501 = .ok (.iconst 0, 1) := by decide +kernel
theorem dL_law_502 : decode cL_law 502 = .ok (.istore 6, 2) := by decide +kernel
theorem dL_law_504 : decode cL_law 504 = .ok (.iload 6, 2) := by decide +kernel
theorem dL_law_506 : decode cL_law 506 = .ok (.bipush 36, 2) := by decide +kernel
theorem dL_law_508 : decode cL_law 508 = .ok (.if_icmp .ge 46, 3) := by decide +kernel
theorem dL_law_511 : decode cL_law 511 = .ok (.aload_n 2, 1) := by decide +kernel
theorem dL_law_512 : decode cL_law 512 = .ok (.aload_n 1, 1) := by decide +kernel
theorem dL_law_513 : decode cL_law 513 = .ok (.aload_n 0, 1) := by decide +kernel
theorem dL_law_514 : decode cL_law 514 = .ok (.bipush 12, 2) := by decide +kernel
theorem dL_law_516 : decode cL_law 516 = .ok (.iload 6, 2) := by decide +kernel
theorem dL_law_518 : decode cL_law 518 = .ok (.iadd, 1) := by decide +kernel
theorem dL_law_519 : decode cL_law 519 = .ok (.invokestatic 233, 3) := by decide +kernel
theorem dL_law_522 : decode cL_law 522 = .ok (.invokevirtual 275, 3) := by decide +kernel
theorem dL_law_525 : decode cL_law 525 = .ok (.ifCond .ne 5, 3) := by decide +kernel
theorem dL_law_528 : decode cL_law 528 = .ok (.iconst 0, 1) := by decide +kernel
theorem dL_law_529 : decode cL_law 529 = .ok (.ireturn, 1) := by decide +kernel
theorem dL_law_530 : decode cL_law 530 = .ok (.iload 6, 2) := by decide +kernel
theorem dL_law_532 : decode cL_law 532 = .ok (.iconst 4, 1) := by decide +kernel
theorem dL_law_533 : decode cL_law 533 = .ok (.irem, 1) := by decide +kernel
theorem dL_law_534 : decode cL_law 534 = .ok (.iconst 3, 1) := by decide +kernel
theorem dL_law_535 : decode cL_law 535 = .ok (.if_icmp .ne 13, 3) := by decide +kernel
theorem dL_law_538 : decode cL_law 538 = .ok (.aload_n 2, 1) := by decide +kernel
theorem dL_law_539 : decode cL_law 539 = .ok (.aload_n 1, 1) := by decide +kernel
theorem dL_law_540 : decode cL_law 540 = .ok (.invokevirtual 271, 3) := by decide +kernel
theorem dL_law_543 : decode cL_law 543 = .ok (.ifCond .ne 5, 3) := by decide +kernel
theorem dL_law_546 : decode cL_law 546 = .ok (.iconst 0, 1) := by decide +kernel
theorem dL_law_547 : decode cL_law 547 = .ok (.ireturn, 1) := by decide +kernel
theorem dL_law_548 : decode cL_law 548 = .ok (.iinc 6 1, 3) := by decide +kernel
theorem dL_law_551 : decode cL_law 551 = .ok (.goto (-47), 3) := by decide +kernel
theorem dL_law_554 : decode cL_law 554 = .ok (.iconst 1, 1) := by decide +kernel
theorem dL_law_555 : decode cL_law 555 = .ok (.ireturn, 1) := by decide +kernel
end
section
/-! rows of the tables, by their places -/
def Gw : List Cond := lw_tbl.filter goodWord
theorem gw_in (i : Nat) {w : Cond} (h : lw_tbl[i]? = some w) (g : goodWord w = true) : w ∈ Gw := List.mem_filter.mpr ⟨List.mem_of_getElem? h, g⟩
theorem gw_good : ∀ w ∈ Gw, goodWord w = true := fun _ h => (List.mem_filter.mp h).2
theorem gw_lw : ∀ w ∈ Gw, w ∈ lw_tbl := fun _ h => (List.mem_filter.mp h).1
theorem g0 : (Cond.selects "WhistlePosts$Setup" yX5_isStatementRead yX5_isStatementRead) ∈ Gw := gw_in 0 (by decide +kernel) (by decide +kernel)
theorem g1 : (Cond.selects "WhistlePosts$Setup" yX5_isRoofRead yX5_isRoofRead) ∈ Gw := gw_in 1 (by decide +kernel) (by decide +kernel)
theorem g2 : (Cond.selects "WhistlePosts$Setup" yX5_isWayRead yX5_isWayRead) ∈ Gw := gw_in 2 (by decide +kernel) (by decide +kernel)
theorem g3 : (Cond.selects "WhistlePosts$Setup" yX5_isSettingRead yX5_isSettingRead) ∈ Gw := gw_in 3 (by decide +kernel) (by decide +kernel)
theorem g4 : (Cond.selects "WhistlePosts$Roads" yX3_layNone yX3_layNone) ∈ Gw := gw_in 4 (by decide +kernel) (by decide +kernel)
theorem g5 : (Cond.selects "WhistlePosts$Roads" yX3_layWay yX3_layWay) ∈ Gw := gw_in 5 (by decide +kernel) (by decide +kernel)
theorem g6 : (Cond.selects "WhistlePosts$Roads" yX3_shorten yX3_shorten) ∈ Gw := gw_in 6 (by decide +kernel) (by decide +kernel)
theorem g7 : (Cond.selects "WhistlePosts$Roads" yX3_pointAll yX3_pointAll) ∈ Gw := gw_in 7 (by decide +kernel) (by decide +kernel)
theorem g8 : (Cond.selects "WhistlePosts$Roads" yX3_beginOf yX3_beginOf) ∈ Gw := gw_in 8 (by decide +kernel) (by decide +kernel)
theorem g9 : (Cond.selects "WhistlePosts" yX10_appendFour yX10_appendFour) ∈ Gw := gw_in 9 (by decide +kernel) (by decide +kernel)
theorem g10 : (Cond.selects "WhistlePostsLaw" yL_reckon yL_reckon) ∈ Gw := gw_in 10 (by decide +kernel) (by decide +kernel)
theorem g11 : (Cond.selects "WhistlePostsLaw" yL_acts yL_acts) ∈ Gw := gw_in 11 (by decide +kernel) (by decide +kernel)
theorem g12 : (Cond.selects "WhistlePosts" yX10_needRoof yX10_needRoof) ∈ Gw := gw_in 12 (by decide +kernel) (by decide +kernel)
theorem g13 : (Cond.selects "java/lang/Throwable" ⟨"java/lang/Throwable", "fillInStackTrace", "(I)Ljava/lang/Throwable;"⟩ ⟨"java/lang/Throwable", "fillInStackTrace", "(I)Ljava/lang/Throwable;"⟩) ∈ Gw := gw_in 13 (by decide +kernel) (by decide +kernel)
theorem g14 : (Cond.selects "WhistlePosts$Past" yX1_postAt yX1_postAt) ∈ Gw := gw_in 14 (by decide +kernel) (by decide +kernel)
theorem g15 : (Cond.selects "WhistlePosts" yX10_needNumber yX10_needNumber) ∈ Gw := gw_in 15 (by decide +kernel) (by decide +kernel)
theorem g16 : (Cond.selects "WhistlePostsLaw" yL_sends yL_sends) ∈ Gw := gw_in 16 (by decide +kernel) (by decide +kernel)
theorem g17 : (Cond.selects "WhistlePostsLaw" yL_resets yL_resets) ∈ Gw := gw_in 17 (by decide +kernel) (by decide +kernel)
theorem g18 : (Cond.selects "WhistlePostsLaw" yL_ticks yL_ticks) ∈ Gw := gw_in 18 (by decide +kernel) (by decide +kernel)
theorem g19 : (Cond.selects "WhistlePostsLaw" yL_lands yL_lands) ∈ Gw := gw_in 19 (by decide +kernel) (by decide +kernel)
theorem g20 : (Cond.selects "WhistlePostsLaw" yL_isRight yL_isRight) ∈ Gw := gw_in 20 (by decide +kernel) (by decide +kernel)
theorem g21 : (Cond.selects "WhistlePostsLaw" yL_first yL_first) ∈ Gw := gw_in 21 (by decide +kernel) (by decide +kernel)
theorem g22 : (Cond.selects "WhistlePostsLaw" yL_next yL_next) ∈ Gw := gw_in 22 (by decide +kernel) (by decide +kernel)
theorem g23 : (Cond.selects "WhistlePostsLaw" yL_bars yL_bars) ∈ Gw := gw_in 23 (by decide +kernel) (by decide +kernel)
theorem g24 : (Cond.selects "WhistlePostsLaw" yL_isLike yL_isLike) ∈ Gw := gw_in 24 (by decide +kernel) (by decide +kernel)
theorem g25 : (Cond.selects "WhistlePosts" yX10_needTune yX10_needTune) ∈ Gw := gw_in 25 (by decide +kernel) (by decide +kernel)
theorem g26 : (Cond.initialized "WhistlePostsLaw") ∈ Gw := gw_in 26 (by decide +kernel) (by decide +kernel)
theorem g27 : (Cond.initialized "WhistlePosts") ∈ Gw := gw_in 27 (by decide +kernel) (by decide +kernel)
theorem g28 : (Cond.initialized "WhistlePosts$Bytes") ∈ Gw := gw_in 28 (by decide +kernel) (by decide +kernel)
theorem g29 : (Cond.initialized "WhistlePosts$Post") ∈ Gw := gw_in 29 (by decide +kernel) (by decide +kernel)
theorem g30 : (Cond.initialized "WhistlePosts$Table") ∈ Gw := gw_in 30 (by decide +kernel) (by decide +kernel)
theorem g31 : (Cond.initialized "WhistlePosts$Roads") ∈ Gw := gw_in 31 (by decide +kernel) (by decide +kernel)
theorem g32 : (Cond.initialized "WhistlePosts$Past") ∈ Gw := gw_in 32 (by decide +kernel) (by decide +kernel)
theorem g33 : (Cond.initialized "WhistlePosts$Tokens") ∈ Gw := gw_in 33 (by decide +kernel) (by decide +kernel)
theorem g34 : (Cond.initialized "WhistlePosts$Setup") ∈ Gw := gw_in 34 (by decide +kernel) (by decide +kernel)
theorem g35 : (Cond.initialized "WhistlePosts$Script") ∈ Gw := gw_in 35 (by decide +kernel) (by decide +kernel)
theorem g36 : (Cond.initialized "java/lang/String") ∈ Gw := gw_in 36 (by decide +kernel) (by decide +kernel)
theorem g37 : (Cond.initialized "java/lang/StringLatin1") ∈ Gw := gw_in 37 (by decide +kernel) (by decide +kernel)
theorem g38 : (Cond.initialized "jdk/internal/util/Preconditions") ∈ Gw := gw_in 38 (by decide +kernel) (by decide +kernel)
theorem g39 : (Cond.initialized "java/lang/StringUTF16") ∈ Gw := gw_in 39 (by decide +kernel) (by decide +kernel)
theorem g40 : (Cond.initialized "java/lang/Math") ∈ Gw := gw_in 40 (by decide +kernel) (by decide +kernel)
theorem g41 : (Cond.initialized "java/lang/System") ∈ Gw := gw_in 41 (by decide +kernel) (by decide +kernel)
theorem g42 : (Cond.initialized "java/lang/AbstractStringBuilder") ∈ Gw := gw_in 42 (by decide +kernel) (by decide +kernel)
theorem g43 : (Cond.initialized "java/lang/StringBuilder") ∈ Gw := gw_in 43 (by decide +kernel) (by decide +kernel)
theorem g44 : (Cond.initialized "jdk/internal/util/ArraysSupport") ∈ Gw := gw_in 44 (by decide +kernel) (by decide +kernel)
theorem g45 : (Cond.initialized "java/util/Arrays") ∈ Gw := gw_in 45 (by decide +kernel) (by decide +kernel)
theorem g46 : (Cond.initialized "java/lang/Number") ∈ Gw := gw_in 46 (by decide +kernel) (by decide +kernel)
theorem g47 : (Cond.initialized "java/lang/Integer") ∈ Gw := gw_in 47 (by decide +kernel) (by decide +kernel)
theorem g48 : (Cond.initialized "java/lang/Throwable") ∈ Gw := gw_in 48 (by decide +kernel) (by decide +kernel)
theorem g49 : (Cond.initialized "java/lang/Exception") ∈ Gw := gw_in 49 (by decide +kernel) (by decide +kernel)
theorem g50 : (Cond.initialized "java/lang/RuntimeException") ∈ Gw := gw_in 50 (by decide +kernel) (by decide +kernel)
theorem g51 : (Cond.initialized "java/lang/IllegalArgumentException") ∈ Gw := gw_in 51 (by decide +kernel) (by decide +kernel)
theorem g52 : (Cond.initialized "java/lang/IndexOutOfBoundsException") ∈ Gw := gw_in 52 (by decide +kernel) (by decide +kernel)
theorem g53 : (Cond.initialized "WhistlePosts$Survey") ∈ Gw := gw_in 53 (by decide +kernel) (by decide +kernel)
theorem g54 : (Cond.initialized "java/lang/IllegalStateException") ∈ Gw := gw_in 54 (by decide +kernel) (by decide +kernel)
theorem g55 : (Cond.initialized "WhistlePosts$Ticks") ∈ Gw := gw_in 55 (by decide +kernel) (by decide +kernel)
theorem g56 : (Cond.classLink "WhistlePostsLaw" 84 "WhistlePosts") ∈ Gw := gw_in 56 (by decide +kernel) (by decide +kernel)
theorem g58 : (Cond.methodLink "WhistlePostsLaw" 231 yX10_init) ∈ Gw := gw_in 58 (by decide +kernel) (by decide +kernel)
theorem g59 : (Cond.instanceMethod yX10_init) ∈ Gw := gw_in 59 (by decide +kernel) (by decide +kernel)
theorem g60 : (Cond.code yX10_init prog_1_method_1_code 1 (Option.none : Option Jvm.ClassFile.FieldType)) ∈ Gw := gw_in 60 (by decide +kernel) (by decide +kernel)
theorem g61 : (Cond.methodLink "WhistlePosts" 1 ⟨"java/lang/Object", "<init>", "()V"⟩) ∈ Gw := gw_in 61 (by decide +kernel) (by decide +kernel)
theorem g62 : (Cond.instanceMethod ⟨"java/lang/Object", "<init>", "()V"⟩) ∈ Gw := gw_in 62 (by decide +kernel) (by decide +kernel)
theorem g63 : (Cond.code ⟨"java/lang/Object", "<init>", "()V"⟩ object_method_1_code 1 (Option.none : Option Jvm.ClassFile.FieldType)) ∈ Gw := gw_in 63 (by decide +kernel) (by decide +kernel)
theorem g64 : (Cond.classLink "WhistlePosts" 7 "WhistlePosts$Bytes") ∈ Gw := gw_in 64 (by decide +kernel) (by decide +kernel)
theorem g66 : (Cond.methodLink "WhistlePosts" 11 yX0_init) ∈ Gw := gw_in 66 (by decide +kernel) (by decide +kernel)
theorem g67 : (Cond.instanceMethod yX0_init) ∈ Gw := gw_in 67 (by decide +kernel) (by decide +kernel)
theorem g68 : (Cond.code yX0_init prog_2_method_1_code 2 (Option.none : Option Jvm.ClassFile.FieldType)) ∈ Gw := gw_in 68 (by decide +kernel) (by decide +kernel)
theorem g69 : (Cond.methodLink "WhistlePosts$Bytes" 3 ⟨"java/lang/Object", "<init>", "()V"⟩) ∈ Gw := gw_in 69 (by decide +kernel) (by decide +kernel)
theorem g70 : (Cond.fieldLink "WhistlePosts$Bytes" 9 "WhistlePosts$Bytes" "cells" "[I") ∈ Gw := gw_in 70 (by decide +kernel) (by decide +kernel)
theorem g71 : (Cond.fieldLink "WhistlePosts$Bytes" 15 "WhistlePosts$Bytes" "size" "I") ∈ Gw := gw_in 71 (by decide +kernel) (by decide +kernel)
theorem g78 : (Cond.classLink "WhistlePosts" 21 "WhistlePosts$Post") ∈ Gw := gw_in 78 (by decide +kernel) (by decide +kernel)
theorem g80 : (Cond.methodLink "WhistlePosts" 23 yX2_init) ∈ Gw := gw_in 80 (by decide +kernel) (by decide +kernel)
theorem g81 : (Cond.instanceMethod yX2_init) ∈ Gw := gw_in 81 (by decide +kernel) (by decide +kernel)
theorem g82 : (Cond.code yX2_init prog_4_method_1_code 1 (Option.none : Option Jvm.ClassFile.FieldType)) ∈ Gw := gw_in 82 (by decide +kernel) (by decide +kernel)
theorem g83 : (Cond.methodLink "WhistlePosts$Post" 3 ⟨"java/lang/Object", "<init>", "()V"⟩) ∈ Gw := gw_in 83 (by decide +kernel) (by decide +kernel)
theorem g84 : (Cond.classLink "WhistlePosts$Post" 9 "WhistlePosts$Table") ∈ Gw := gw_in 84 (by decide +kernel) (by decide +kernel)
theorem g86 : (Cond.methodLink "WhistlePosts$Post" 13 yX7_init) ∈ Gw := gw_in 86 (by decide +kernel) (by decide +kernel)
theorem g87 : (Cond.instanceMethod yX7_init) ∈ Gw := gw_in 87 (by decide +kernel) (by decide +kernel)
theorem g88 : (Cond.code yX7_init prog_9_method_1_code 4 (Option.none : Option Jvm.ClassFile.FieldType)) ∈ Gw := gw_in 88 (by decide +kernel) (by decide +kernel)
theorem g89 : (Cond.methodLink "WhistlePosts$Table" 3 ⟨"java/lang/Object", "<init>", "()V"⟩) ∈ Gw := gw_in 89 (by decide +kernel) (by decide +kernel)
theorem g90 : (Cond.fieldLink "WhistlePosts$Table" 11 "WhistlePosts$Table" "rows" "I") ∈ Gw := gw_in 90 (by decide +kernel) (by decide +kernel)
theorem g91 : (Cond.fieldLink "WhistlePosts$Table" 15 "WhistlePosts$Table" "columns" "I") ∈ Gw := gw_in 91 (by decide +kernel) (by decide +kernel)
theorem g92 : (Cond.fieldLink "WhistlePosts$Table" 18 "WhistlePosts$Table" "cells" "[I") ∈ Gw := gw_in 92 (by decide +kernel) (by decide +kernel)
theorem g100 : (Cond.classLink "WhistlePosts$Post" 32 "WhistlePosts$Roads") ∈ Gw := gw_in 100 (by decide +kernel) (by decide +kernel)
theorem g102 : (Cond.methodLink "WhistlePosts$Post" 34 yX3_init) ∈ Gw := gw_in 102 (by decide +kernel) (by decide +kernel)
theorem g103 : (Cond.instanceMethod yX3_init) ∈ Gw := gw_in 103 (by decide +kernel) (by decide +kernel)
theorem g104 : (Cond.code yX3_init prog_5_method_1_code 1 (Option.none : Option Jvm.ClassFile.FieldType)) ∈ Gw := gw_in 104 (by decide +kernel) (by decide +kernel)
theorem g105 : (Cond.methodLink "WhistlePosts$Roads" 3 ⟨"java/lang/Object", "<init>", "()V"⟩) ∈ Gw := gw_in 105 (by decide +kernel) (by decide +kernel)
theorem g106 : (Cond.classLink "WhistlePosts$Roads" 9 "WhistlePosts$Table") ∈ Gw := gw_in 106 (by decide +kernel) (by decide +kernel)
theorem g107 : (Cond.methodLink "WhistlePosts$Roads" 11 yX7_init) ∈ Gw := gw_in 107 (by decide +kernel) (by decide +kernel)
theorem g108 : (Cond.fieldLink "WhistlePosts$Roads" 14 "WhistlePosts$Roads" "fars" "LWhistlePosts$Table;") ∈ Gw := gw_in 108 (by decide +kernel) (by decide +kernel)
theorem g109 : (Cond.fieldLink "WhistlePosts$Ticks" 110 "WhistlePosts$Roads" "fars" "LWhistlePosts$Table;") ∈ Gw := gw_in 109 (by decide +kernel) (by decide +kernel)
theorem g110 : (Cond.fieldLink "WhistlePosts$Roads" 20 "WhistlePosts$Roads" "sums" "LWhistlePosts$Table;") ∈ Gw := gw_in 110 (by decide +kernel) (by decide +kernel)
theorem g111 : (Cond.fieldLink "WhistlePosts" 202 "WhistlePosts$Roads" "sums" "LWhistlePosts$Table;") ∈ Gw := gw_in 111 (by decide +kernel) (by decide +kernel)
theorem g112 : (Cond.fieldLink "WhistlePosts$Roads" 23 "WhistlePosts$Roads" "nexts" "LWhistlePosts$Table;") ∈ Gw := gw_in 112 (by decide +kernel) (by decide +kernel)
theorem g113 : (Cond.fieldLink "WhistlePosts" 207 "WhistlePosts$Roads" "nexts" "LWhistlePosts$Table;") ∈ Gw := gw_in 113 (by decide +kernel) (by decide +kernel)
theorem g114 : (Cond.fieldLink "WhistlePosts$Post" 139 "WhistlePosts$Roads" "nexts" "LWhistlePosts$Table;") ∈ Gw := gw_in 114 (by decide +kernel) (by decide +kernel)
theorem g122 : (Cond.fieldLink "WhistlePosts$Post" 39 "WhistlePosts$Post" "time" "I") ∈ Gw := gw_in 122 (by decide +kernel) (by decide +kernel)
theorem g123 : (Cond.fieldLink "WhistlePosts$Ticks" 9 "WhistlePosts$Post" "time" "I") ∈ Gw := gw_in 123 (by decide +kernel) (by decide +kernel)
theorem g124 : (Cond.fieldLink "WhistlePosts$Post" 43 "WhistlePosts$Post" "roofs" "I") ∈ Gw := gw_in 124 (by decide +kernel) (by decide +kernel)
theorem g125 : (Cond.fieldLink "WhistlePosts$Setup" 37 "WhistlePosts$Post" "roofs" "I") ∈ Gw := gw_in 125 (by decide +kernel) (by decide +kernel)
theorem g126 : (Cond.fieldLink "WhistlePosts$Roads" 51 "WhistlePosts$Post" "roofs" "I") ∈ Gw := gw_in 126 (by decide +kernel) (by decide +kernel)
theorem g127 : (Cond.fieldLink "WhistlePosts$Ticks" 83 "WhistlePosts$Post" "roofs" "I") ∈ Gw := gw_in 127 (by decide +kernel) (by decide +kernel)
theorem g128 : (Cond.fieldLink "WhistlePosts$Survey" 73 "WhistlePosts$Post" "roofs" "I") ∈ Gw := gw_in 128 (by decide +kernel) (by decide +kernel)
theorem g129 : (Cond.fieldLink "WhistlePosts" 249 "WhistlePosts$Post" "roofs" "I") ∈ Gw := gw_in 129 (by decide +kernel) (by decide +kernel)
theorem g130 : (Cond.fieldLink "WhistlePosts$Post" 46 "WhistlePosts$Post" "ways" "I") ∈ Gw := gw_in 130 (by decide +kernel) (by decide +kernel)
theorem g131 : (Cond.fieldLink "WhistlePosts$Roads" 34 "WhistlePosts$Post" "ways" "I") ∈ Gw := gw_in 131 (by decide +kernel) (by decide +kernel)
theorem g132 : (Cond.fieldLink "WhistlePosts$Setup" 96 "WhistlePosts$Post" "ways" "I") ∈ Gw := gw_in 132 (by decide +kernel) (by decide +kernel)
theorem g133 : (Cond.fieldLink "WhistlePosts" 104 "WhistlePosts$Post" "ways" "I") ∈ Gw := gw_in 133 (by decide +kernel) (by decide +kernel)
theorem g134 : (Cond.fieldLink "WhistlePosts$Post" 49 "WhistlePosts$Post" "tunes" "I") ∈ Gw := gw_in 134 (by decide +kernel) (by decide +kernel)
theorem g135 : (Cond.fieldLink "WhistlePosts$Ticks" 35 "WhistlePosts$Post" "tunes" "I") ∈ Gw := gw_in 135 (by decide +kernel) (by decide +kernel)
theorem g136 : (Cond.fieldLink "WhistlePosts$Survey" 88 "WhistlePosts$Post" "tunes" "I") ∈ Gw := gw_in 136 (by decide +kernel) (by decide +kernel)
theorem g137 : (Cond.fieldLink "WhistlePosts" 155 "WhistlePosts$Post" "tunes" "I") ∈ Gw := gw_in 137 (by decide +kernel) (by decide +kernel)
theorem g138 : (Cond.fieldLink "WhistlePosts$Post" 16 "WhistlePosts$Post" "roofRows" "LWhistlePosts$Table;") ∈ Gw := gw_in 138 (by decide +kernel) (by decide +kernel)
theorem g139 : (Cond.fieldLink "WhistlePosts$Survey" 36 "WhistlePosts$Post" "roofRows" "LWhistlePosts$Table;") ∈ Gw := gw_in 139 (by decide +kernel) (by decide +kernel)
theorem g140 : (Cond.fieldLink "WhistlePosts$Ticks" 97 "WhistlePosts$Post" "roofRows" "LWhistlePosts$Table;") ∈ Gw := gw_in 140 (by decide +kernel) (by decide +kernel)
theorem g141 : (Cond.fieldLink "WhistlePosts" 292 "WhistlePosts$Post" "roofRows" "LWhistlePosts$Table;") ∈ Gw := gw_in 141 (by decide +kernel) (by decide +kernel)
theorem g142 : (Cond.fieldLink "WhistlePosts$Post" 20 "WhistlePosts$Post" "wayRows" "LWhistlePosts$Table;") ∈ Gw := gw_in 142 (by decide +kernel) (by decide +kernel)
theorem g143 : (Cond.fieldLink "WhistlePosts$Roads" 40 "WhistlePosts$Post" "wayRows" "LWhistlePosts$Table;") ∈ Gw := gw_in 143 (by decide +kernel) (by decide +kernel)
theorem g144 : (Cond.fieldLink "WhistlePosts$Post" 23 "WhistlePosts$Post" "tuneRows" "LWhistlePosts$Table;") ∈ Gw := gw_in 144 (by decide +kernel) (by decide +kernel)
theorem g145 : (Cond.fieldLink "WhistlePosts$Ticks" 38 "WhistlePosts$Post" "tuneRows" "LWhistlePosts$Table;") ∈ Gw := gw_in 145 (by decide +kernel) (by decide +kernel)
theorem g146 : (Cond.fieldLink "WhistlePosts$Survey" 9 "WhistlePosts$Post" "tuneRows" "LWhistlePosts$Table;") ∈ Gw := gw_in 146 (by decide +kernel) (by decide +kernel)
theorem g147 : (Cond.fieldLink "WhistlePosts" 216 "WhistlePosts$Post" "tuneRows" "LWhistlePosts$Table;") ∈ Gw := gw_in 147 (by decide +kernel) (by decide +kernel)
theorem g148 : (Cond.fieldLink "WhistlePosts$Post" 26 "WhistlePosts$Post" "settings" "LWhistlePosts$Table;") ∈ Gw := gw_in 148 (by decide +kernel) (by decide +kernel)
theorem g149 : (Cond.fieldLink "WhistlePosts$Post" 29 "WhistlePosts$Post" "accounts" "LWhistlePosts$Table;") ∈ Gw := gw_in 149 (by decide +kernel) (by decide +kernel)
theorem g150 : (Cond.fieldLink "WhistlePosts$Survey" 91 "WhistlePosts$Post" "accounts" "LWhistlePosts$Table;") ∈ Gw := gw_in 150 (by decide +kernel) (by decide +kernel)
theorem g151 : (Cond.fieldLink "WhistlePosts" 177 "WhistlePosts$Post" "accounts" "LWhistlePosts$Table;") ∈ Gw := gw_in 151 (by decide +kernel) (by decide +kernel)
theorem g152 : (Cond.fieldLink "WhistlePosts$Post" 35 "WhistlePosts$Post" "roads" "LWhistlePosts$Roads;") ∈ Gw := gw_in 152 (by decide +kernel) (by decide +kernel)
theorem g153 : (Cond.fieldLink "WhistlePosts$Setup" 44 "WhistlePosts$Post" "roads" "LWhistlePosts$Roads;") ∈ Gw := gw_in 153 (by decide +kernel) (by decide +kernel)
theorem g154 : (Cond.fieldLink "WhistlePosts$Ticks" 106 "WhistlePosts$Post" "roads" "LWhistlePosts$Roads;") ∈ Gw := gw_in 154 (by decide +kernel) (by decide +kernel)
theorem g155 : (Cond.fieldLink "WhistlePosts" 198 "WhistlePosts$Post" "roads" "LWhistlePosts$Roads;") ∈ Gw := gw_in 155 (by decide +kernel) (by decide +kernel)
theorem g177 : (Cond.classLink "WhistlePosts" 34 "WhistlePosts$Past") ∈ Gw := gw_in 177 (by decide +kernel) (by decide +kernel)
theorem g179 : (Cond.methodLink "WhistlePosts" 36 yX1_init) ∈ Gw := gw_in 179 (by decide +kernel) (by decide +kernel)
theorem g180 : (Cond.instanceMethod yX1_init) ∈ Gw := gw_in 180 (by decide +kernel) (by decide +kernel)
theorem g181 : (Cond.code yX1_init prog_3_method_1_code 2 (Option.none : Option Jvm.ClassFile.FieldType)) ∈ Gw := gw_in 181 (by decide +kernel) (by decide +kernel)
theorem g182 : (Cond.methodLink "WhistlePosts$Past" 3 ⟨"java/lang/Object", "<init>", "()V"⟩) ∈ Gw := gw_in 182 (by decide +kernel) (by decide +kernel)
theorem g183 : (Cond.classLink "WhistlePosts$Past" 9 "WhistlePosts$Post") ∈ Gw := gw_in 183 (by decide +kernel) (by decide +kernel)
theorem g185 : (Cond.methodLink "WhistlePosts$Past" 17 yX2_init) ∈ Gw := gw_in 185 (by decide +kernel) (by decide +kernel)
theorem g186 : (Cond.fieldLink "WhistlePosts$Past" 11 "WhistlePosts$Past" "posts" "[LWhistlePosts$Post;") ∈ Gw := gw_in 186 (by decide +kernel) (by decide +kernel)
theorem g187 : (Cond.fieldLink "WhistlePosts$Past" 18 "WhistlePosts$Past" "first" "I") ∈ Gw := gw_in 187 (by decide +kernel) (by decide +kernel)
theorem g188 : (Cond.fieldLink "WhistlePosts$Past" 22 "WhistlePosts$Past" "kept" "I") ∈ Gw := gw_in 188 (by decide +kernel) (by decide +kernel)
theorem g196 : (Cond.classLink "WhistlePosts" 41 "WhistlePosts$Tokens") ∈ Gw := gw_in 196 (by decide +kernel) (by decide +kernel)
theorem g198 : (Cond.methodLink "WhistlePosts" 43 yX9_init) ∈ Gw := gw_in 198 (by decide +kernel) (by decide +kernel)
theorem g199 : (Cond.instanceMethod yX9_init) ∈ Gw := gw_in 199 (by decide +kernel) (by decide +kernel)
theorem g200 : (Cond.code yX9_init prog_11_method_1_code 2 (Option.none : Option Jvm.ClassFile.FieldType)) ∈ Gw := gw_in 200 (by decide +kernel) (by decide +kernel)
theorem g201 : (Cond.methodLink "WhistlePosts$Tokens" 3 ⟨"java/lang/Object", "<init>", "()V"⟩) ∈ Gw := gw_in 201 (by decide +kernel) (by decide +kernel)
theorem g202 : (Cond.fieldLink "WhistlePosts$Tokens" 9 "WhistlePosts$Tokens" "text" "LWhistlePosts$Bytes;") ∈ Gw := gw_in 202 (by decide +kernel) (by decide +kernel)
theorem g203 : (Cond.fieldLink "WhistlePosts$Tokens" 28 "WhistlePosts$Tokens" "start" "I") ∈ Gw := gw_in 203 (by decide +kernel) (by decide +kernel)
theorem g204 : (Cond.fieldLink "WhistlePosts$Tokens" 22 "WhistlePosts$Tokens" "behind" "I") ∈ Gw := gw_in 204 (by decide +kernel) (by decide +kernel)
theorem g205 : (Cond.fieldLink "WhistlePosts$Setup" 29 "WhistlePosts$Tokens" "kind" "I") ∈ Gw := gw_in 205 (by decide +kernel) (by decide +kernel)
theorem g206 : (Cond.fieldLink "WhistlePosts$Tokens" 44 "WhistlePosts$Tokens" "kind" "I") ∈ Gw := gw_in 206 (by decide +kernel) (by decide +kernel)
theorem g207 : (Cond.fieldLink "WhistlePosts$Tokens" 47 "WhistlePosts$Tokens" "number" "I") ∈ Gw := gw_in 207 (by decide +kernel) (by decide +kernel)
theorem g208 : (Cond.fieldLink "WhistlePosts$Tokens" 15 "WhistlePosts$Tokens" "error" "I") ∈ Gw := gw_in 208 (by decide +kernel) (by decide +kernel)
theorem g209 : (Cond.fieldLink "WhistlePosts$Tokens" 19 "WhistlePosts$Tokens" "errorAt" "I") ∈ Gw := gw_in 209 (by decide +kernel) (by decide +kernel)
theorem g225 : (Cond.classLink "WhistlePosts" 50 "WhistlePosts$Setup") ∈ Gw := gw_in 225 (by decide +kernel) (by decide +kernel)
theorem g227 : (Cond.methodLink "WhistlePosts" 52 yX5_init) ∈ Gw := gw_in 227 (by decide +kernel) (by decide +kernel)
theorem g228 : (Cond.instanceMethod yX5_init) ∈ Gw := gw_in 228 (by decide +kernel) (by decide +kernel)
theorem g229 : (Cond.code yX5_init prog_7_method_1_code 3 (Option.none : Option Jvm.ClassFile.FieldType)) ∈ Gw := gw_in 229 (by decide +kernel) (by decide +kernel)
theorem g230 : (Cond.methodLink "WhistlePosts$Setup" 3 ⟨"java/lang/Object", "<init>", "()V"⟩) ∈ Gw := gw_in 230 (by decide +kernel) (by decide +kernel)
theorem g231 : (Cond.fieldLink "WhistlePosts$Setup" 9 "WhistlePosts$Setup" "tokens" "LWhistlePosts$Tokens;") ∈ Gw := gw_in 231 (by decide +kernel) (by decide +kernel)
theorem g232 : (Cond.fieldLink "WhistlePosts$Setup" 15 "WhistlePosts$Setup" "draft" "LWhistlePosts$Post;") ∈ Gw := gw_in 232 (by decide +kernel) (by decide +kernel)
theorem g238 : (Cond.classLink "WhistlePosts" 59 "WhistlePosts$Script") ∈ Gw := gw_in 238 (by decide +kernel) (by decide +kernel)
theorem g240 : (Cond.methodLink "WhistlePosts" 61 yX4_init) ∈ Gw := gw_in 240 (by decide +kernel) (by decide +kernel)
theorem g241 : (Cond.instanceMethod yX4_init) ∈ Gw := gw_in 241 (by decide +kernel) (by decide +kernel)
theorem g242 : (Cond.code yX4_init prog_6_method_1_code 3 (Option.none : Option Jvm.ClassFile.FieldType)) ∈ Gw := gw_in 242 (by decide +kernel) (by decide +kernel)
theorem g243 : (Cond.methodLink "WhistlePosts$Script" 3 ⟨"java/lang/Object", "<init>", "()V"⟩) ∈ Gw := gw_in 243 (by decide +kernel) (by decide +kernel)
theorem g244 : (Cond.classLink "WhistlePosts$Script" 19 "WhistlePosts$Table") ∈ Gw := gw_in 244 (by decide +kernel) (by decide +kernel)
theorem g245 : (Cond.methodLink "WhistlePosts$Script" 21 yX7_init) ∈ Gw := gw_in 245 (by decide +kernel) (by decide +kernel)
theorem g246 : (Cond.fieldLink "WhistlePosts$Script" 9 "WhistlePosts$Script" "tokens" "LWhistlePosts$Tokens;") ∈ Gw := gw_in 246 (by decide +kernel) (by decide +kernel)
theorem g247 : (Cond.fieldLink "WhistlePosts$Script" 15 "WhistlePosts$Script" "post" "LWhistlePosts$Post;") ∈ Gw := gw_in 247 (by decide +kernel) (by decide +kernel)
theorem g248 : (Cond.fieldLink "WhistlePosts$Script" 24 "WhistlePosts$Script" "rows" "LWhistlePosts$Table;") ∈ Gw := gw_in 248 (by decide +kernel) (by decide +kernel)
theorem g249 : (Cond.fieldLink "WhistlePosts$Script" 28 "WhistlePosts$Script" "statements" "I") ∈ Gw := gw_in 249 (by decide +kernel) (by decide +kernel)
theorem g260 : (Cond.methodLink "WhistlePosts" 72 yX0_addText) ∈ Gw := gw_in 260 (by decide +kernel) (by decide +kernel)
theorem g261 : (Cond.instanceMethod yX0_addText) ∈ Gw := gw_in 261 (by decide +kernel) (by decide +kernel)
theorem g262 : (Cond.selects "WhistlePosts$Bytes" yX0_addText yX0_addText) ∈ Gw := gw_in 262 (by decide +kernel) (by decide +kernel)
theorem g263 : (Cond.code yX0_addText prog_2_method_5_code 3 (Option.none : Option Jvm.ClassFile.FieldType)) ∈ Gw := gw_in 263 (by decide +kernel) (by decide +kernel)
theorem g264 : (Cond.methodLink "WhistlePosts$Bytes" 19 yJ0_length_8abf5) ∈ Gw := gw_in 264 (by decide +kernel) (by decide +kernel)
theorem g265 : (Cond.instanceMethod yJ0_length_8abf5) ∈ Gw := gw_in 265 (by decide +kernel) (by decide +kernel)
theorem g266 : (Cond.selects "java/lang/String" yJ0_length_8abf5 yJ0_length_8abf5) ∈ Gw := gw_in 266 (by decide +kernel) (by decide +kernel)
theorem g267 : (Cond.code yJ0_length_8abf5 prog_24_method_54_code 1 (Option.some Jvm.ClassFile.FieldType.int)) ∈ Gw := gw_in 267 (by decide +kernel) (by decide +kernel)
theorem g268 : (Cond.methodLink "java/lang/String" 335 yJ0_coder_7d493) ∈ Gw := gw_in 268 (by decide +kernel) (by decide +kernel)
theorem g269 : (Cond.instanceMethod yJ0_coder_7d493) ∈ Gw := gw_in 269 (by decide +kernel) (by decide +kernel)
theorem g270 : (Cond.selects "java/lang/String" yJ0_coder_7d493 yJ0_coder_7d493) ∈ Gw := gw_in 270 (by decide +kernel) (by decide +kernel)
theorem g271 : (Cond.code yJ0_coder_7d493 prog_24_method_152_code 1 (Option.some Jvm.ClassFile.FieldType.byte)) ∈ Gw := gw_in 271 (by decide +kernel) (by decide +kernel)
theorem g272 : (Cond.fieldLink "java/lang/String" 38 "java/lang/String" "COMPACT_STRINGS" "Z") ∈ Gw := gw_in 272 (by decide +kernel) (by decide +kernel)
theorem g274 : (Cond.methodLink "WhistlePosts$Bytes" 25 yJ0_charAt_5068e) ∈ Gw := gw_in 274 (by decide +kernel) (by decide +kernel)
theorem g275 : (Cond.instanceMethod yJ0_charAt_5068e) ∈ Gw := gw_in 275 (by decide +kernel) (by decide +kernel)
theorem g276 : (Cond.selects "java/lang/String" yJ0_charAt_5068e yJ0_charAt_5068e) ∈ Gw := gw_in 276 (by decide +kernel) (by decide +kernel)
theorem g277 : (Cond.code yJ0_charAt_5068e prog_24_method_56_code 2 (Option.some Jvm.ClassFile.FieldType.char)) ∈ Gw := gw_in 277 (by decide +kernel) (by decide +kernel)
theorem g278 : (Cond.methodLink "java/lang/String" 492 yJ0_isLatin1_aae02) ∈ Gw := gw_in 278 (by decide +kernel) (by decide +kernel)
theorem g279 : (Cond.instanceMethod yJ0_isLatin1_aae02) ∈ Gw := gw_in 279 (by decide +kernel) (by decide +kernel)
theorem g280 : (Cond.selects "java/lang/String" yJ0_isLatin1_aae02 yJ0_isLatin1_aae02) ∈ Gw := gw_in 280 (by decide +kernel) (by decide +kernel)
theorem g281 : (Cond.code yJ0_isLatin1_aae02 prog_24_method_154_code 1 (Option.some Jvm.ClassFile.FieldType.boolean)) ∈ Gw := gw_in 281 (by decide +kernel) (by decide +kernel)
theorem g282 : (Cond.methodLink "java/lang/String" 495 yJ1_charAt_3b067) ∈ Gw := gw_in 282 (by decide +kernel) (by decide +kernel)
theorem g283 : (Cond.static yJ1_charAt_3b067) ∈ Gw := gw_in 283 (by decide +kernel) (by decide +kernel)
theorem g284 : (Cond.code yJ1_charAt_3b067 prog_26_method_2_code 2 (Option.some Jvm.ClassFile.FieldType.char)) ∈ Gw := gw_in 284 (by decide +kernel) (by decide +kernel)
theorem g285 : (Cond.methodLink "java/lang/StringLatin1" 9 yJ0_checkIndex_df160) ∈ Gw := gw_in 285 (by decide +kernel) (by decide +kernel)
theorem g286 : (Cond.static yJ0_checkIndex_df160) ∈ Gw := gw_in 286 (by decide +kernel) (by decide +kernel)
theorem g287 : (Cond.code yJ0_checkIndex_df160 prog_24_method_155_code 2 (Option.none : Option Jvm.ClassFile.FieldType)) ∈ Gw := gw_in 287 (by decide +kernel) (by decide +kernel)
theorem g288 : (Cond.fieldLink "java/lang/String" 1053 "jdk/internal/util/Preconditions" "SIOOBE_FORMATTER" "Ljava/util/function/BiFunction;") ∈ Gw := gw_in 288 (by decide +kernel) (by decide +kernel)
theorem g290 : (Cond.methodLink "java/lang/String" 1059 yJ3_checkIndex_8e157) ∈ Gw := gw_in 290 (by decide +kernel) (by decide +kernel)
theorem g291 : (Cond.static yJ3_checkIndex_8e157) ∈ Gw := gw_in 291 (by decide +kernel) (by decide +kernel)
theorem g292 : (Cond.code yJ3_checkIndex_8e157 prog_32_method_11_code 3 (Option.some Jvm.ClassFile.FieldType.int)) ∈ Gw := gw_in 292 (by decide +kernel) (by decide +kernel)
theorem g293 : (Cond.methodLink "java/lang/String" 498 yJ2_charAt_3b067) ∈ Gw := gw_in 293 (by decide +kernel) (by decide +kernel)
theorem g294 : (Cond.static yJ2_charAt_3b067) ∈ Gw := gw_in 294 (by decide +kernel) (by decide +kernel)
theorem g295 : (Cond.code yJ2_charAt_3b067 prog_27_method_83_code 2 (Option.some Jvm.ClassFile.FieldType.char)) ∈ Gw := gw_in 295 (by decide +kernel) (by decide +kernel)
theorem g296 : (Cond.methodLink "java/lang/StringUTF16" 67 yJ2_checkIndex_2214a) ∈ Gw := gw_in 296 (by decide +kernel) (by decide +kernel)
theorem g297 : (Cond.static yJ2_checkIndex_2214a) ∈ Gw := gw_in 297 (by decide +kernel) (by decide +kernel)
theorem g298 : (Cond.code yJ2_checkIndex_2214a prog_27_method_91_code 2 (Option.none : Option Jvm.ClassFile.FieldType)) ∈ Gw := gw_in 298 (by decide +kernel) (by decide +kernel)
theorem g299 : (Cond.methodLink "java/lang/StringUTF16" 48 yJ2_length_9d52b) ∈ Gw := gw_in 299 (by decide +kernel) (by decide +kernel)
theorem g300 : (Cond.static yJ2_length_9d52b) ∈ Gw := gw_in 300 (by decide +kernel) (by decide +kernel)
theorem g301 : (Cond.code yJ2_length_9d52b prog_27_method_6_code 1 (Option.some Jvm.ClassFile.FieldType.int)) ∈ Gw := gw_in 301 (by decide +kernel) (by decide +kernel)
theorem g302 : (Cond.methodLink "java/lang/StringUTF16" 414 yJ0_checkIndex_df160) ∈ Gw := gw_in 302 (by decide +kernel) (by decide +kernel)
theorem g303 : (Cond.methodLink "java/lang/StringUTF16" 71 yJ2_getChar_3b067) ∈ Gw := gw_in 303 (by decide +kernel) (by decide +kernel)
theorem g304 : (Cond.static yJ2_getChar_3b067) ∈ Gw := gw_in 304 (by decide +kernel) (by decide +kernel)
theorem g305 : (Cond.code yJ2_getChar_3b067 prog_27_method_5_code 2 (Option.some Jvm.ClassFile.FieldType.char)) ∈ Gw := gw_in 305 (by decide +kernel) (by decide +kernel)
theorem g306 : (Cond.fieldLink "java/lang/StringUTF16" 44 "java/lang/StringUTF16" "$assertionsDisabled" "Z") ∈ Gw := gw_in 306 (by decide +kernel) (by decide +kernel)
theorem g308 : (Cond.fieldLink "java/lang/StringUTF16" 59 "java/lang/StringUTF16" "HI_BYTE_SHIFT" "I") ∈ Gw := gw_in 308 (by decide +kernel) (by decide +kernel)
theorem g310 : (Cond.fieldLink "java/lang/StringUTF16" 63 "java/lang/StringUTF16" "LO_BYTE_SHIFT" "I") ∈ Gw := gw_in 310 (by decide +kernel) (by decide +kernel)
theorem g312 : (Cond.methodLink "WhistlePosts$Bytes" 29 yX0_add) ∈ Gw := gw_in 312 (by decide +kernel) (by decide +kernel)
theorem g313 : (Cond.instanceMethod yX0_add) ∈ Gw := gw_in 313 (by decide +kernel) (by decide +kernel)
theorem g314 : (Cond.selects "WhistlePosts$Bytes" yX0_add yX0_add) ∈ Gw := gw_in 314 (by decide +kernel) (by decide +kernel)
theorem g315 : (Cond.code yX0_add prog_2_method_4_code 2 (Option.none : Option Jvm.ClassFile.FieldType)) ∈ Gw := gw_in 315 (by decide +kernel) (by decide +kernel)
theorem g316 : (Cond.methodLink "WhistlePosts" 76 yX5_isRead) ∈ Gw := gw_in 316 (by decide +kernel) (by decide +kernel)
theorem g317 : (Cond.instanceMethod yX5_isRead) ∈ Gw := gw_in 317 (by decide +kernel) (by decide +kernel)
theorem g318 : (Cond.selects "WhistlePosts$Setup" yX5_isRead yX5_isRead) ∈ Gw := gw_in 318 (by decide +kernel) (by decide +kernel)
theorem g319 : (Cond.code yX5_isRead prog_7_method_2_code 2 (Option.some Jvm.ClassFile.FieldType.boolean)) ∈ Gw := gw_in 319 (by decide +kernel) (by decide +kernel)
theorem g320 : (Cond.methodLink "WhistlePosts$Setup" 19 yX2_clear) ∈ Gw := gw_in 320 (by decide +kernel) (by decide +kernel)
theorem g321 : (Cond.instanceMethod yX2_clear) ∈ Gw := gw_in 321 (by decide +kernel) (by decide +kernel)
theorem g322 : (Cond.selects "WhistlePosts$Post" yX2_clear yX2_clear) ∈ Gw := gw_in 322 (by decide +kernel) (by decide +kernel)
theorem g323 : (Cond.code yX2_clear prog_4_method_2_code 1 (Option.none : Option Jvm.ClassFile.FieldType)) ∈ Gw := gw_in 323 (by decide +kernel) (by decide +kernel)
theorem g324 : (Cond.methodLink "WhistlePosts$Post" 52 yX2_settle) ∈ Gw := gw_in 324 (by decide +kernel) (by decide +kernel)
theorem g325 : (Cond.instanceMethod yX2_settle) ∈ Gw := gw_in 325 (by decide +kernel) (by decide +kernel)
theorem g326 : (Cond.selects "WhistlePosts$Post" yX2_settle yX2_settle) ∈ Gw := gw_in 326 (by decide +kernel) (by decide +kernel)
theorem g327 : (Cond.code yX2_settle prog_4_method_7_code 3 (Option.none : Option Jvm.ClassFile.FieldType)) ∈ Gw := gw_in 327 (by decide +kernel) (by decide +kernel)
theorem g328 : (Cond.methodLink "WhistlePosts$Post" 70 yX7_put) ∈ Gw := gw_in 328 (by decide +kernel) (by decide +kernel)
theorem g329 : (Cond.instanceMethod yX7_put) ∈ Gw := gw_in 329 (by decide +kernel) (by decide +kernel)
theorem g330 : (Cond.selects "WhistlePosts$Table" yX7_put yX7_put) ∈ Gw := gw_in 330 (by decide +kernel) (by decide +kernel)
theorem g331 : (Cond.code yX7_put prog_9_method_3_code 5 (Option.none : Option Jvm.ClassFile.FieldType)) ∈ Gw := gw_in 331 (by decide +kernel) (by decide +kernel)
theorem g332 : (Cond.methodLink "WhistlePosts$Post" 55 yX7_clearTo) ∈ Gw := gw_in 332 (by decide +kernel) (by decide +kernel)
theorem g333 : (Cond.instanceMethod yX7_clearTo) ∈ Gw := gw_in 333 (by decide +kernel) (by decide +kernel)
theorem g334 : (Cond.selects "WhistlePosts$Table" yX7_clearTo yX7_clearTo) ∈ Gw := gw_in 334 (by decide +kernel) (by decide +kernel)
theorem g335 : (Cond.code yX7_clearTo prog_9_method_5_code 3 (Option.none : Option Jvm.ClassFile.FieldType)) ∈ Gw := gw_in 335 (by decide +kernel) (by decide +kernel)
theorem g336 : (Cond.methodLink "WhistlePosts$Setup" 24 yX9_open) ∈ Gw := gw_in 336 (by decide +kernel) (by decide +kernel)
theorem g337 : (Cond.instanceMethod yX9_open) ∈ Gw := gw_in 337 (by decide +kernel) (by decide +kernel)
theorem g338 : (Cond.selects "WhistlePosts$Tokens" yX9_open yX9_open) ∈ Gw := gw_in 338 (by decide +kernel) (by decide +kernel)
theorem g339 : (Cond.code yX9_open prog_11_method_2_code 1 (Option.none : Option Jvm.ClassFile.FieldType)) ∈ Gw := gw_in 339 (by decide +kernel) (by decide +kernel)
theorem g340 : (Cond.methodLink "WhistlePosts$Tokens" 25 yX9_step) ∈ Gw := gw_in 340 (by decide +kernel) (by decide +kernel)
theorem g341 : (Cond.instanceMethod yX9_step) ∈ Gw := gw_in 341 (by decide +kernel) (by decide +kernel)
theorem g342 : (Cond.selects "WhistlePosts$Tokens" yX9_step yX9_step) ∈ Gw := gw_in 342 (by decide +kernel) (by decide +kernel)
theorem g343 : (Cond.code yX9_step prog_11_method_5_code 3 (Option.none : Option Jvm.ClassFile.FieldType)) ∈ Gw := gw_in 343 (by decide +kernel) (by decide +kernel)
theorem g344 : (Cond.methodLink "WhistlePosts$Tokens" 31 yX0_size) ∈ Gw := gw_in 344 (by decide +kernel) (by decide +kernel)
theorem g345 : (Cond.instanceMethod yX0_size) ∈ Gw := gw_in 345 (by decide +kernel) (by decide +kernel)
theorem g346 : (Cond.selects "WhistlePosts$Bytes" yX0_size yX0_size) ∈ Gw := gw_in 346 (by decide +kernel) (by decide +kernel)
theorem g347 : (Cond.code yX0_size prog_2_method_2_code 1 (Option.some Jvm.ClassFile.FieldType.int)) ∈ Gw := gw_in 347 (by decide +kernel) (by decide +kernel)
theorem g348 : (Cond.methodLink "WhistlePosts$Tokens" 37 yX0_get) ∈ Gw := gw_in 348 (by decide +kernel) (by decide +kernel)
theorem g349 : (Cond.instanceMethod yX0_get) ∈ Gw := gw_in 349 (by decide +kernel) (by decide +kernel)
theorem g350 : (Cond.selects "WhistlePosts$Bytes" yX0_get yX0_get) ∈ Gw := gw_in 350 (by decide +kernel) (by decide +kernel)
theorem g351 : (Cond.code yX0_get prog_2_method_3_code 2 (Option.some Jvm.ClassFile.FieldType.int)) ∈ Gw := gw_in 351 (by decide +kernel) (by decide +kernel)
theorem g352 : (Cond.methodLink "WhistlePosts$Tokens" 41 yX9_kindOf) ∈ Gw := gw_in 352 (by decide +kernel) (by decide +kernel)
theorem g353 : (Cond.static yX9_kindOf) ∈ Gw := gw_in 353 (by decide +kernel) (by decide +kernel)
theorem g354 : (Cond.code yX9_kindOf prog_11_method_4_code 1 (Option.some Jvm.ClassFile.FieldType.int)) ∈ Gw := gw_in 354 (by decide +kernel) (by decide +kernel)
theorem g355 : (Cond.methodLink "WhistlePosts$Setup" 33 yX5_isStatementRead) ∈ Gw := gw_in 355 (by decide +kernel) (by decide +kernel)
theorem g357 : (Cond.instanceMethod yX5_isStatementRead) ∈ Gw := gw_in 357 (by decide +kernel) (by decide +kernel)
theorem g358 : (Cond.code yX5_isStatementRead prog_7_method_3_code 2 (Option.some Jvm.ClassFile.FieldType.boolean)) ∈ Gw := gw_in 358 (by decide +kernel) (by decide +kernel)
theorem g360 : (Cond.methodLink "WhistlePosts$Setup" 56 yX9_isWord) ∈ Gw := gw_in 360 (by decide +kernel) (by decide +kernel)
theorem g361 : (Cond.instanceMethod yX9_isWord) ∈ Gw := gw_in 361 (by decide +kernel) (by decide +kernel)
theorem g362 : (Cond.selects "WhistlePosts$Tokens" yX9_isWord yX9_isWord) ∈ Gw := gw_in 362 (by decide +kernel) (by decide +kernel)
theorem g363 : (Cond.code yX9_isWord prog_11_method_6_code 3 (Option.some Jvm.ClassFile.FieldType.boolean)) ∈ Gw := gw_in 363 (by decide +kernel) (by decide +kernel)
theorem g364 : (Cond.methodLink "WhistlePosts$Tokens" 50 yJ0_length_8abf5) ∈ Gw := gw_in 364 (by decide +kernel) (by decide +kernel)
theorem g365 : (Cond.methodLink "WhistlePosts$Tokens" 55 yJ0_charAt_5068e) ∈ Gw := gw_in 365 (by decide +kernel) (by decide +kernel)
theorem g366 : (Cond.methodLink "WhistlePosts$Setup" 60 yX5_isRoofRead) ∈ Gw := gw_in 366 (by decide +kernel) (by decide +kernel)
theorem g368 : (Cond.instanceMethod yX5_isRoofRead) ∈ Gw := gw_in 368 (by decide +kernel) (by decide +kernel)
theorem g369 : (Cond.code yX5_isRoofRead prog_7_method_4_code 6 (Option.some Jvm.ClassFile.FieldType.boolean)) ∈ Gw := gw_in 369 (by decide +kernel) (by decide +kernel)
theorem g370 : (Cond.methodLink "WhistlePosts$Setup" 40 yX9_fail) ∈ Gw := gw_in 370 (by decide +kernel) (by decide +kernel)
theorem g371 : (Cond.instanceMethod yX9_fail) ∈ Gw := gw_in 371 (by decide +kernel) (by decide +kernel)
theorem g372 : (Cond.selects "WhistlePosts$Tokens" yX9_fail yX9_fail) ∈ Gw := gw_in 372 (by decide +kernel) (by decide +kernel)
theorem g373 : (Cond.code yX9_fail prog_11_method_3_code 2 (Option.some Jvm.ClassFile.FieldType.boolean)) ∈ Gw := gw_in 373 (by decide +kernel) (by decide +kernel)
theorem g374 : (Cond.methodLink "WhistlePosts$Setup" 75 yX9_step) ∈ Gw := gw_in 374 (by decide +kernel) (by decide +kernel)
theorem g375 : (Cond.methodLink "WhistlePosts$Setup" 78 yX9_nameHere) ∈ Gw := gw_in 375 (by decide +kernel) (by decide +kernel)
theorem g376 : (Cond.instanceMethod yX9_nameHere) ∈ Gw := gw_in 376 (by decide +kernel) (by decide +kernel)
theorem g377 : (Cond.selects "WhistlePosts$Tokens" yX9_nameHere yX9_nameHere) ∈ Gw := gw_in 377 (by decide +kernel) (by decide +kernel)
theorem g378 : (Cond.code yX9_nameHere prog_11_method_8_code 3 (Option.some Jvm.ClassFile.FieldType.int)) ∈ Gw := gw_in 378 (by decide +kernel) (by decide +kernel)
theorem g379 : (Cond.methodLink "WhistlePosts$Tokens" 69 yX9_fail) ∈ Gw := gw_in 379 (by decide +kernel) (by decide +kernel)
theorem g380 : (Cond.methodLink "WhistlePosts$Setup" 81 yX2_roofNamed) ∈ Gw := gw_in 380 (by decide +kernel) (by decide +kernel)
theorem g381 : (Cond.instanceMethod yX2_roofNamed) ∈ Gw := gw_in 381 (by decide +kernel) (by decide +kernel)
theorem g382 : (Cond.selects "WhistlePosts$Post" yX2_roofNamed yX2_roofNamed) ∈ Gw := gw_in 382 (by decide +kernel) (by decide +kernel)
theorem g383 : (Cond.code yX2_roofNamed prog_4_method_16_code 3 (Option.some Jvm.ClassFile.FieldType.int)) ∈ Gw := gw_in 383 (by decide +kernel) (by decide +kernel)
theorem g384 : (Cond.methodLink "WhistlePosts$Post" 66 yX7_get) ∈ Gw := gw_in 384 (by decide +kernel) (by decide +kernel)
theorem g385 : (Cond.instanceMethod yX7_get) ∈ Gw := gw_in 385 (by decide +kernel) (by decide +kernel)
theorem g386 : (Cond.selects "WhistlePosts$Table" yX7_get yX7_get) ∈ Gw := gw_in 386 (by decide +kernel) (by decide +kernel)
theorem g387 : (Cond.code yX7_get prog_9_method_2_code 4 (Option.some Jvm.ClassFile.FieldType.int)) ∈ Gw := gw_in 387 (by decide +kernel) (by decide +kernel)
theorem g388 : (Cond.methodLink "WhistlePosts$Setup" 85 yX9_takeNumber) ∈ Gw := gw_in 388 (by decide +kernel) (by decide +kernel)
theorem g389 : (Cond.instanceMethod yX9_takeNumber) ∈ Gw := gw_in 389 (by decide +kernel) (by decide +kernel)
theorem g390 : (Cond.selects "WhistlePosts$Tokens" yX9_takeNumber yX9_takeNumber) ∈ Gw := gw_in 390 (by decide +kernel) (by decide +kernel)
theorem g391 : (Cond.code yX9_takeNumber prog_11_method_11_code 4 (Option.some Jvm.ClassFile.FieldType.int)) ∈ Gw := gw_in 391 (by decide +kernel) (by decide +kernel)
theorem g392 : (Cond.methodLink "WhistlePosts$Tokens" 81 yX9_isNumberHere) ∈ Gw := gw_in 392 (by decide +kernel) (by decide +kernel)
theorem g393 : (Cond.instanceMethod yX9_isNumberHere) ∈ Gw := gw_in 393 (by decide +kernel) (by decide +kernel)
theorem g394 : (Cond.selects "WhistlePosts$Tokens" yX9_isNumberHere yX9_isNumberHere) ∈ Gw := gw_in 394 (by decide +kernel) (by decide +kernel)
theorem g395 : (Cond.code yX9_isNumberHere prog_11_method_10_code 3 (Option.some Jvm.ClassFile.FieldType.boolean)) ∈ Gw := gw_in 395 (by decide +kernel) (by decide +kernel)
theorem g396 : (Cond.methodLink "WhistlePosts$Setup" 89 yX9_isSemicolonTaken) ∈ Gw := gw_in 396 (by decide +kernel) (by decide +kernel)
theorem g397 : (Cond.instanceMethod yX9_isSemicolonTaken) ∈ Gw := gw_in 397 (by decide +kernel) (by decide +kernel)
theorem g398 : (Cond.selects "WhistlePosts$Tokens" yX9_isSemicolonTaken yX9_isSemicolonTaken) ∈ Gw := gw_in 398 (by decide +kernel) (by decide +kernel)
theorem g399 : (Cond.code yX9_isSemicolonTaken prog_11_method_12_code 1 (Option.some Jvm.ClassFile.FieldType.boolean)) ∈ Gw := gw_in 399 (by decide +kernel) (by decide +kernel)
theorem g400 : (Cond.methodLink "WhistlePosts$Setup" 92 yX2_addRoof) ∈ Gw := gw_in 400 (by decide +kernel) (by decide +kernel)
theorem g401 : (Cond.instanceMethod yX2_addRoof) ∈ Gw := gw_in 401 (by decide +kernel) (by decide +kernel)
theorem g402 : (Cond.selects "WhistlePosts$Post" yX2_addRoof yX2_addRoof) ∈ Gw := gw_in 402 (by decide +kernel) (by decide +kernel)
theorem g403 : (Cond.code yX2_addRoof prog_4_method_9_code 7 (Option.none : Option Jvm.ClassFile.FieldType)) ∈ Gw := gw_in 403 (by decide +kernel) (by decide +kernel)
theorem g405 : (Cond.methodLink "WhistlePosts$Setup" 65 yX5_isWayRead) ∈ Gw := gw_in 405 (by decide +kernel) (by decide +kernel)
theorem g407 : (Cond.instanceMethod yX5_isWayRead) ∈ Gw := gw_in 407 (by decide +kernel) (by decide +kernel)
theorem g408 : (Cond.code yX5_isWayRead prog_7_method_5_code 4 (Option.some Jvm.ClassFile.FieldType.boolean)) ∈ Gw := gw_in 408 (by decide +kernel) (by decide +kernel)
theorem g409 : (Cond.methodLink "WhistlePosts$Setup" 99 yX9_roofHere) ∈ Gw := gw_in 409 (by decide +kernel) (by decide +kernel)
theorem g410 : (Cond.instanceMethod yX9_roofHere) ∈ Gw := gw_in 410 (by decide +kernel) (by decide +kernel)
theorem g411 : (Cond.selects "WhistlePosts$Tokens" yX9_roofHere yX9_roofHere) ∈ Gw := gw_in 411 (by decide +kernel) (by decide +kernel)
theorem g412 : (Cond.code yX9_roofHere prog_11_method_9_code 5 (Option.some Jvm.ClassFile.FieldType.int)) ∈ Gw := gw_in 412 (by decide +kernel) (by decide +kernel)
theorem g413 : (Cond.methodLink "WhistlePosts$Tokens" 73 yX9_nameHere) ∈ Gw := gw_in 413 (by decide +kernel) (by decide +kernel)
theorem g414 : (Cond.methodLink "WhistlePosts$Tokens" 76 yX2_roofNamed) ∈ Gw := gw_in 414 (by decide +kernel) (by decide +kernel)
theorem g415 : (Cond.methodLink "WhistlePosts$Setup" 103 yX2_wayBetween) ∈ Gw := gw_in 415 (by decide +kernel) (by decide +kernel)
theorem g416 : (Cond.instanceMethod yX2_wayBetween) ∈ Gw := gw_in 416 (by decide +kernel) (by decide +kernel)
theorem g417 : (Cond.selects "WhistlePosts$Post" yX2_wayBetween yX2_wayBetween) ∈ Gw := gw_in 417 (by decide +kernel) (by decide +kernel)
theorem g418 : (Cond.code yX2_wayBetween prog_4_method_19_code 4 (Option.some Jvm.ClassFile.FieldType.int)) ∈ Gw := gw_in 418 (by decide +kernel) (by decide +kernel)
theorem g419 : (Cond.methodLink "WhistlePosts$Post" 92 yX2_acrossFrom) ∈ Gw := gw_in 419 (by decide +kernel) (by decide +kernel)
theorem g420 : (Cond.instanceMethod yX2_acrossFrom) ∈ Gw := gw_in 420 (by decide +kernel) (by decide +kernel)
theorem g421 : (Cond.selects "WhistlePosts$Post" yX2_acrossFrom yX2_acrossFrom) ∈ Gw := gw_in 421 (by decide +kernel) (by decide +kernel)
theorem g422 : (Cond.code yX2_acrossFrom prog_4_method_18_code 5 (Option.some Jvm.ClassFile.FieldType.int)) ∈ Gw := gw_in 422 (by decide +kernel) (by decide +kernel)
theorem g423 : (Cond.methodLink "WhistlePosts$Setup" 106 yX2_addWay) ∈ Gw := gw_in 423 (by decide +kernel) (by decide +kernel)
theorem g424 : (Cond.instanceMethod yX2_addWay) ∈ Gw := gw_in 424 (by decide +kernel) (by decide +kernel)
theorem g425 : (Cond.selects "WhistlePosts$Post" yX2_addWay yX2_addWay) ∈ Gw := gw_in 425 (by decide +kernel) (by decide +kernel)
theorem g426 : (Cond.code yX2_addWay prog_4_method_10_code 4 (Option.none : Option Jvm.ClassFile.FieldType)) ∈ Gw := gw_in 426 (by decide +kernel) (by decide +kernel)
theorem g427 : (Cond.methodLink "WhistlePosts$Setup" 68 yX9_settingWord) ∈ Gw := gw_in 427 (by decide +kernel) (by decide +kernel)
theorem g428 : (Cond.instanceMethod yX9_settingWord) ∈ Gw := gw_in 428 (by decide +kernel) (by decide +kernel)
theorem g429 : (Cond.selects "WhistlePosts$Tokens" yX9_settingWord yX9_settingWord) ∈ Gw := gw_in 429 (by decide +kernel) (by decide +kernel)
theorem g430 : (Cond.code yX9_settingWord prog_11_method_7_code 1 (Option.some Jvm.ClassFile.FieldType.int)) ∈ Gw := gw_in 430 (by decide +kernel) (by decide +kernel)
theorem g432 : (Cond.methodLink "WhistlePosts$Tokens" 61 yX9_isWord) ∈ Gw := gw_in 432 (by decide +kernel) (by decide +kernel)
theorem g435 : (Cond.methodLink "WhistlePosts$Setup" 72 yX5_isSettingRead) ∈ Gw := gw_in 435 (by decide +kernel) (by decide +kernel)
theorem g437 : (Cond.instanceMethod yX5_isSettingRead) ∈ Gw := gw_in 437 (by decide +kernel) (by decide +kernel)
theorem g438 : (Cond.code yX5_isSettingRead prog_7_method_6_code 3 (Option.some Jvm.ClassFile.FieldType.boolean)) ∈ Gw := gw_in 438 (by decide +kernel) (by decide +kernel)
theorem g439 : (Cond.methodLink "WhistlePosts$Setup" 110 yX2_leastOf) ∈ Gw := gw_in 439 (by decide +kernel) (by decide +kernel)
theorem g440 : (Cond.static yX2_leastOf) ∈ Gw := gw_in 440 (by decide +kernel) (by decide +kernel)
theorem g441 : (Cond.code yX2_leastOf prog_4_method_4_code 1 (Option.some Jvm.ClassFile.FieldType.int)) ∈ Gw := gw_in 441 (by decide +kernel) (by decide +kernel)
theorem g442 : (Cond.methodLink "WhistlePosts$Setup" 113 yX2_mostOf) ∈ Gw := gw_in 442 (by decide +kernel) (by decide +kernel)
theorem g443 : (Cond.static yX2_mostOf) ∈ Gw := gw_in 443 (by decide +kernel) (by decide +kernel)
theorem g444 : (Cond.code yX2_mostOf prog_4_method_5_code 1 (Option.some Jvm.ClassFile.FieldType.int)) ∈ Gw := gw_in 444 (by decide +kernel) (by decide +kernel)
theorem g445 : (Cond.methodLink "WhistlePosts$Setup" 116 yX2_settle) ∈ Gw := gw_in 445 (by decide +kernel) (by decide +kernel)
theorem g446 : (Cond.methodLink "WhistlePosts$Setup" 48 yX3_lay) ∈ Gw := gw_in 446 (by decide +kernel) (by decide +kernel)
theorem g447 : (Cond.instanceMethod yX3_lay) ∈ Gw := gw_in 447 (by decide +kernel) (by decide +kernel)
theorem g448 : (Cond.selects "WhistlePosts$Roads" yX3_lay yX3_lay) ∈ Gw := gw_in 448 (by decide +kernel) (by decide +kernel)
theorem g449 : (Cond.code yX3_lay prog_5_method_3_code 5 (Option.none : Option Jvm.ClassFile.FieldType)) ∈ Gw := gw_in 449 (by decide +kernel) (by decide +kernel)
theorem g450 : (Cond.methodLink "WhistlePosts$Roads" 30 yX3_layNone) ∈ Gw := gw_in 450 (by decide +kernel) (by decide +kernel)
theorem g452 : (Cond.instanceMethod yX3_layNone) ∈ Gw := gw_in 452 (by decide +kernel) (by decide +kernel)
theorem g453 : (Cond.code yX3_layNone prog_5_method_5_code 3 (Option.none : Option Jvm.ClassFile.FieldType)) ∈ Gw := gw_in 453 (by decide +kernel) (by decide +kernel)
theorem g454 : (Cond.methodLink "WhistlePosts$Roads" 60 yX7_clearTo) ∈ Gw := gw_in 454 (by decide +kernel) (by decide +kernel)
theorem g455 : (Cond.methodLink "WhistlePosts$Roads" 64 yX7_put) ∈ Gw := gw_in 455 (by decide +kernel) (by decide +kernel)
theorem g456 : (Cond.methodLink "WhistlePosts$Roads" 43 yX7_get) ∈ Gw := gw_in 456 (by decide +kernel) (by decide +kernel)
theorem g457 : (Cond.methodLink "WhistlePosts$Roads" 47 yX3_layWay) ∈ Gw := gw_in 457 (by decide +kernel) (by decide +kernel)
theorem g459 : (Cond.instanceMethod yX3_layWay) ∈ Gw := gw_in 459 (by decide +kernel) (by decide +kernel)
theorem g460 : (Cond.code yX3_layWay prog_5_method_6_code 4 (Option.none : Option Jvm.ClassFile.FieldType)) ∈ Gw := gw_in 460 (by decide +kernel) (by decide +kernel)
theorem g461 : (Cond.methodLink "WhistlePosts$Roads" 54 yX3_shorten) ∈ Gw := gw_in 461 (by decide +kernel) (by decide +kernel)
theorem g463 : (Cond.instanceMethod yX3_shorten) ∈ Gw := gw_in 463 (by decide +kernel) (by decide +kernel)
theorem g464 : (Cond.code yX3_shorten prog_5_method_7_code 4 (Option.none : Option Jvm.ClassFile.FieldType)) ∈ Gw := gw_in 464 (by decide +kernel) (by decide +kernel)
theorem g465 : (Cond.methodLink "WhistlePosts$Roads" 57 yX3_pointAll) ∈ Gw := gw_in 465 (by decide +kernel) (by decide +kernel)
theorem g467 : (Cond.instanceMethod yX3_pointAll) ∈ Gw := gw_in 467 (by decide +kernel) (by decide +kernel)
theorem g468 : (Cond.code yX3_pointAll prog_5_method_8_code 4 (Option.none : Option Jvm.ClassFile.FieldType)) ∈ Gw := gw_in 468 (by decide +kernel) (by decide +kernel)
theorem g469 : (Cond.methodLink "WhistlePosts$Roads" 67 yX3_beginOf) ∈ Gw := gw_in 469 (by decide +kernel) (by decide +kernel)
theorem g471 : (Cond.instanceMethod yX3_beginOf) ∈ Gw := gw_in 471 (by decide +kernel) (by decide +kernel)
theorem g472 : (Cond.code yX3_beginOf prog_5_method_9_code 5 (Option.some Jvm.ClassFile.FieldType.int)) ∈ Gw := gw_in 472 (by decide +kernel) (by decide +kernel)
theorem g473 : (Cond.methodLink "WhistlePosts" 80 yX2_copyFrom) ∈ Gw := gw_in 473 (by decide +kernel) (by decide +kernel)
theorem g474 : (Cond.instanceMethod yX2_copyFrom) ∈ Gw := gw_in 474 (by decide +kernel) (by decide +kernel)
theorem g475 : (Cond.selects "WhistlePosts$Post" yX2_copyFrom yX2_copyFrom) ∈ Gw := gw_in 475 (by decide +kernel) (by decide +kernel)
theorem g476 : (Cond.code yX2_copyFrom prog_4_method_3_code 2 (Option.none : Option Jvm.ClassFile.FieldType)) ∈ Gw := gw_in 476 (by decide +kernel) (by decide +kernel)
theorem g477 : (Cond.methodLink "WhistlePosts$Post" 59 yX7_copyFrom) ∈ Gw := gw_in 477 (by decide +kernel) (by decide +kernel)
theorem g478 : (Cond.instanceMethod yX7_copyFrom) ∈ Gw := gw_in 478 (by decide +kernel) (by decide +kernel)
theorem g479 : (Cond.selects "WhistlePosts$Table" yX7_copyFrom yX7_copyFrom) ∈ Gw := gw_in 479 (by decide +kernel) (by decide +kernel)
theorem g480 : (Cond.code yX7_copyFrom prog_9_method_6_code 2 (Option.none : Option Jvm.ClassFile.FieldType)) ∈ Gw := gw_in 480 (by decide +kernel) (by decide +kernel)
theorem g481 : (Cond.methodLink "WhistlePosts$Table" 22 yJ9_min_7cf53) ∈ Gw := gw_in 481 (by decide +kernel) (by decide +kernel)
theorem g482 : (Cond.static yJ9_min_7cf53) ∈ Gw := gw_in 482 (by decide +kernel) (by decide +kernel)
theorem g483 : (Cond.code yJ9_min_7cf53 prog_21_method_69_code 2 (Option.some Jvm.ClassFile.FieldType.int)) ∈ Gw := gw_in 483 (by decide +kernel) (by decide +kernel)
theorem g484 : (Cond.methodLink "WhistlePosts$Table" 28 ⟨"java/lang/System", "arraycopy", "(Ljava/lang/Object;ILjava/lang/Object;II)V"⟩) ∈ Gw := gw_in 484 (by decide +kernel) (by decide +kernel)
theorem g485 : (Cond.static ⟨"java/lang/System", "arraycopy", "(Ljava/lang/Object;ILjava/lang/Object;II)V"⟩) ∈ Gw := gw_in 485 (by decide +kernel) (by decide +kernel)
theorem g486 : (Cond.native ⟨"java/lang/System", "arraycopy", "(Ljava/lang/Object;ILjava/lang/Object;II)V"⟩) ∈ Gw := gw_in 486 (by decide +kernel) (by decide +kernel)
theorem g487 : (Cond.methodLink "WhistlePosts$Post" 63 yX3_copyFrom) ∈ Gw := gw_in 487 (by decide +kernel) (by decide +kernel)
theorem g488 : (Cond.instanceMethod yX3_copyFrom) ∈ Gw := gw_in 488 (by decide +kernel) (by decide +kernel)
theorem g489 : (Cond.selects "WhistlePosts$Roads" yX3_copyFrom yX3_copyFrom) ∈ Gw := gw_in 489 (by decide +kernel) (by decide +kernel)
theorem g490 : (Cond.code yX3_copyFrom prog_5_method_2_code 2 (Option.none : Option Jvm.ClassFile.FieldType)) ∈ Gw := gw_in 490 (by decide +kernel) (by decide +kernel)
theorem g491 : (Cond.methodLink "WhistlePosts$Roads" 26 yX7_copyFrom) ∈ Gw := gw_in 491 (by decide +kernel) (by decide +kernel)
theorem g492 : (Cond.methodLink "WhistlePosts" 84 yX0_clear) ∈ Gw := gw_in 492 (by decide +kernel) (by decide +kernel)
theorem g493 : (Cond.instanceMethod yX0_clear) ∈ Gw := gw_in 493 (by decide +kernel) (by decide +kernel)
theorem g494 : (Cond.selects "WhistlePosts$Bytes" yX0_clear yX0_clear) ∈ Gw := gw_in 494 (by decide +kernel) (by decide +kernel)
theorem g495 : (Cond.code yX0_clear prog_2_method_8_code 1 (Option.none : Option Jvm.ClassFile.FieldType)) ∈ Gw := gw_in 495 (by decide +kernel) (by decide +kernel)
theorem g496 : (Cond.fieldLink "WhistlePosts" 14 "WhistlePosts" "input" "LWhistlePosts$Bytes;") ∈ Gw := gw_in 496 (by decide +kernel) (by decide +kernel)
theorem g497 : (Cond.fieldLink "WhistlePosts" 18 "WhistlePosts" "output" "LWhistlePosts$Bytes;") ∈ Gw := gw_in 497 (by decide +kernel) (by decide +kernel)
theorem g498 : (Cond.fieldLink "WhistlePosts" 46 "WhistlePosts" "tokens" "LWhistlePosts$Tokens;") ∈ Gw := gw_in 498 (by decide +kernel) (by decide +kernel)
theorem g499 : (Cond.fieldLink "WhistlePosts" 55 "WhistlePosts" "setup" "LWhistlePosts$Setup;") ∈ Gw := gw_in 499 (by decide +kernel) (by decide +kernel)
theorem g500 : (Cond.fieldLink "WhistlePosts" 62 "WhistlePosts" "script" "LWhistlePosts$Script;") ∈ Gw := gw_in 500 (by decide +kernel) (by decide +kernel)
theorem g501 : (Cond.fieldLink "WhistlePosts" 24 "WhistlePosts" "now" "LWhistlePosts$Post;") ∈ Gw := gw_in 501 (by decide +kernel) (by decide +kernel)
theorem g502 : (Cond.fieldLink "WhistlePosts" 28 "WhistlePosts" "saved" "LWhistlePosts$Post;") ∈ Gw := gw_in 502 (by decide +kernel) (by decide +kernel)
theorem g503 : (Cond.fieldLink "WhistlePosts" 31 "WhistlePosts" "spare" "LWhistlePosts$Post;") ∈ Gw := gw_in 503 (by decide +kernel) (by decide +kernel)
theorem g504 : (Cond.fieldLink "WhistlePosts" 37 "WhistlePosts" "past" "LWhistlePosts$Past;") ∈ Gw := gw_in 504 (by decide +kernel) (by decide +kernel)
theorem g505 : (Cond.fieldLink "WhistlePosts" 66 "WhistlePosts" "isSaved" "Z") ∈ Gw := gw_in 505 (by decide +kernel) (by decide +kernel)
theorem g528 : (Cond.methodLink "WhistlePostsLaw" 268 yX10_loadPost) ∈ Gw := gw_in 528 (by decide +kernel) (by decide +kernel)
theorem g529 : (Cond.instanceMethod yX10_loadPost) ∈ Gw := gw_in 529 (by decide +kernel) (by decide +kernel)
theorem g530 : (Cond.selects "WhistlePosts" yX10_loadPost yX10_loadPost) ∈ Gw := gw_in 530 (by decide +kernel) (by decide +kernel)
theorem g531 : (Cond.code yX10_loadPost prog_1_method_5_code 2 (Option.some Jvm.ClassFile.FieldType.int)) ∈ Gw := gw_in 531 (by decide +kernel) (by decide +kernel)
theorem g532 : (Cond.methodLink "WhistlePosts" 101 yX1_forget) ∈ Gw := gw_in 532 (by decide +kernel) (by decide +kernel)
theorem g533 : (Cond.instanceMethod yX1_forget) ∈ Gw := gw_in 533 (by decide +kernel) (by decide +kernel)
theorem g534 : (Cond.selects "WhistlePosts$Past" yX1_forget yX1_forget) ∈ Gw := gw_in 534 (by decide +kernel) (by decide +kernel)
theorem g535 : (Cond.code yX1_forget prog_3_method_3_code 1 (Option.none : Option Jvm.ClassFile.FieldType)) ∈ Gw := gw_in 535 (by decide +kernel) (by decide +kernel)
theorem g536 : (Cond.classLink "WhistlePostsLaw" 8 "WhistlePostsLaw") ∈ Gw := gw_in 536 (by decide +kernel) (by decide +kernel)
theorem g538 : (Cond.methodLink "WhistlePostsLaw" 232 yL_init) ∈ Gw := gw_in 538 (by decide +kernel) (by decide +kernel)
theorem g539 : (Cond.instanceMethod yL_init) ∈ Gw := gw_in 539 (by decide +kernel) (by decide +kernel)
theorem g540 : (Cond.code yL_init method_1_code 1 (Option.none : Option Jvm.ClassFile.FieldType)) ∈ Gw := gw_in 540 (by decide +kernel) (by decide +kernel)
theorem g541 : (Cond.methodLink "WhistlePostsLaw" 1 ⟨"java/lang/Object", "<init>", "()V"⟩) ∈ Gw := gw_in 541 (by decide +kernel) (by decide +kernel)
theorem g542 : (Cond.classLink "WhistlePostsLaw" 28 "[[I") ∈ Gw := gw_in 542 (by decide +kernel) (by decide +kernel)
theorem g544 : (Cond.classLink "WhistlePostsLaw" 66 "[I") ∈ Gw := gw_in 544 (by decide +kernel) (by decide +kernel)
theorem g545 : (Cond.fieldLink "WhistlePostsLaw" 7 "WhistlePostsLaw" "breath" "[I") ∈ Gw := gw_in 545 (by decide +kernel) (by decide +kernel)
theorem g546 : (Cond.fieldLink "WhistlePostsLaw" 13 "WhistlePostsLaw" "ear" "[I") ∈ Gw := gw_in 546 (by decide +kernel) (by decide +kernel)
theorem g547 : (Cond.fieldLink "WhistlePostsLaw" 16 "WhistlePostsLaw" "fee" "[I") ∈ Gw := gw_in 547 (by decide +kernel) (by decide +kernel)
theorem g548 : (Cond.fieldLink "WhistlePostsLaw" 19 "WhistlePostsLaw" "purse" "[I") ∈ Gw := gw_in 548 (by decide +kernel) (by decide +kernel)
theorem g549 : (Cond.fieldLink "WhistlePostsLaw" 22 "WhistlePostsLaw" "until" "[I") ∈ Gw := gw_in 549 (by decide +kernel) (by decide +kernel)
theorem g550 : (Cond.fieldLink "WhistlePostsLaw" 25 "WhistlePostsLaw" "whistled" "[I") ∈ Gw := gw_in 550 (by decide +kernel) (by decide +kernel)
theorem g551 : (Cond.fieldLink "WhistlePostsLaw" 30 "WhistlePostsLaw" "way" "[[I") ∈ Gw := gw_in 551 (by decide +kernel) (by decide +kernel)
theorem g552 : (Cond.fieldLink "WhistlePostsLaw" 33 "WhistlePostsLaw" "sum" "[[I") ∈ Gw := gw_in 552 (by decide +kernel) (by decide +kernel)
theorem g553 : (Cond.fieldLink "WhistlePostsLaw" 36 "WhistlePostsLaw" "from" "[I") ∈ Gw := gw_in 553 (by decide +kernel) (by decide +kernel)
theorem g554 : (Cond.fieldLink "WhistlePostsLaw" 39 "WhistlePostsLaw" "goal" "[I") ∈ Gw := gw_in 554 (by decide +kernel) (by decide +kernel)
theorem g555 : (Cond.fieldLink "WhistlePostsLaw" 42 "WhistlePostsLaw" "state" "[I") ∈ Gw := gw_in 555 (by decide +kernel) (by decide +kernel)
theorem g556 : (Cond.fieldLink "WhistlePostsLaw" 45 "WhistlePostsLaw" "at" "[I") ∈ Gw := gw_in 556 (by decide +kernel) (by decide +kernel)
theorem g557 : (Cond.fieldLink "WhistlePostsLaw" 48 "WhistlePostsLaw" "end" "[I") ∈ Gw := gw_in 557 (by decide +kernel) (by decide +kernel)
theorem g558 : (Cond.fieldLink "WhistlePostsLaw" 51 "WhistlePostsLaw" "far" "[I") ∈ Gw := gw_in 558 (by decide +kernel) (by decide +kernel)
theorem g559 : (Cond.fieldLink "WhistlePostsLaw" 54 "WhistlePostsLaw" "tries" "[I") ∈ Gw := gw_in 559 (by decide +kernel) (by decide +kernel)
theorem g560 : (Cond.fieldLink "WhistlePostsLaw" 57 "WhistlePostsLaw" "hops" "[I") ∈ Gw := gw_in 560 (by decide +kernel) (by decide +kernel)
theorem g561 : (Cond.fieldLink "WhistlePostsLaw" 60 "WhistlePostsLaw" "wants" "[I") ∈ Gw := gw_in 561 (by decide +kernel) (by decide +kernel)
theorem g562 : (Cond.fieldLink "WhistlePostsLaw" 63 "WhistlePostsLaw" "reply" "[I") ∈ Gw := gw_in 562 (by decide +kernel) (by decide +kernel)
theorem g563 : (Cond.fieldLink "WhistlePostsLaw" 67 "WhistlePostsLaw" "sent" "[[I") ∈ Gw := gw_in 563 (by decide +kernel) (by decide +kernel)
theorem g564 : (Cond.fieldLink "WhistlePostsLaw" 70 "WhistlePostsLaw" "heard" "[[I") ∈ Gw := gw_in 564 (by decide +kernel) (by decide +kernel)
theorem g565 : (Cond.fieldLink "WhistlePostsLaw" 93 "WhistlePostsLaw" "roofs" "I") ∈ Gw := gw_in 565 (by decide +kernel) (by decide +kernel)
theorem g566 : (Cond.fieldLink "WhistlePostsLaw" 103 "WhistlePostsLaw" "tunes" "I") ∈ Gw := gw_in 566 (by decide +kernel) (by decide +kernel)
theorem g567 : (Cond.fieldLink "WhistlePostsLaw" 154 "WhistlePostsLaw" "time" "I") ∈ Gw := gw_in 567 (by decide +kernel) (by decide +kernel)
theorem g568 : (Cond.fieldLink "WhistlePostsLaw" 119 "WhistlePostsLaw" "wind" "I") ∈ Gw := gw_in 568 (by decide +kernel) (by decide +kernel)
theorem g569 : (Cond.fieldLink "WhistlePostsLaw" 160 "WhistlePostsLaw" "dusk" "I") ∈ Gw := gw_in 569 (by decide +kernel) (by decide +kernel)
theorem g570 : (Cond.fieldLink "WhistlePostsLaw" 131 "WhistlePostsLaw" "again" "I") ∈ Gw := gw_in 570 (by decide +kernel) (by decide +kernel)
theorem g571 : (Cond.fieldLink "WhistlePostsLaw" 110 "WhistlePostsLaw" "replies" "I") ∈ Gw := gw_in 571 (by decide +kernel) (by decide +kernel)
theorem g572 : (Cond.fieldLink "WhistlePostsLaw" 125 "WhistlePostsLaw" "wrong" "I") ∈ Gw := gw_in 572 (by decide +kernel) (by decide +kernel)
theorem g573 : (Cond.fieldLink "WhistlePostsLaw" 137 "WhistlePostsLaw" "arrived" "I") ∈ Gw := gw_in 573 (by decide +kernel) (by decide +kernel)
theorem g574 : (Cond.fieldLink "WhistlePostsLaw" 140 "WhistlePostsLaw" "right" "I") ∈ Gw := gw_in 574 (by decide +kernel) (by decide +kernel)
theorem g575 : (Cond.fieldLink "WhistlePostsLaw" 134 "WhistlePostsLaw" "anew" "I") ∈ Gw := gw_in 575 (by decide +kernel) (by decide +kernel)
theorem g576 : (Cond.fieldLink "WhistlePostsLaw" 172 "WhistlePostsLaw" "lost" "I") ∈ Gw := gw_in 576 (by decide +kernel) (by decide +kernel)
theorem g577 : (Cond.fieldLink "WhistlePostsLaw" 166 "WhistlePostsLaw" "fees" "I") ∈ Gw := gw_in 577 (by decide +kernel) (by decide +kernel)
theorem g578 : (Cond.fieldLink "WhistlePostsLaw" 169 "WhistlePostsLaw" "flown" "I") ∈ Gw := gw_in 578 (by decide +kernel) (by decide +kernel)
theorem g648 : (Cond.methodLink "WhistlePostsLaw" 233 yL_cell) ∈ Gw := gw_in 648 (by decide +kernel) (by decide +kernel)
theorem g649 : (Cond.static yL_cell) ∈ Gw := gw_in 649 (by decide +kernel) (by decide +kernel)
theorem g650 : (Cond.code yL_cell method_2_code 2 (Option.some Jvm.ClassFile.FieldType.int)) ∈ Gw := gw_in 650 (by decide +kernel) (by decide +kernel)
theorem g651 : (Cond.methodLink "WhistlePostsLaw" 184 yL_bits) ∈ Gw := gw_in 651 (by decide +kernel) (by decide +kernel)
theorem g652 : (Cond.static yL_bits) ∈ Gw := gw_in 652 (by decide +kernel) (by decide +kernel)
theorem g653 : (Cond.code yL_bits method_3_code 3 (Option.some Jvm.ClassFile.FieldType.int)) ∈ Gw := gw_in 653 (by decide +kernel) (by decide +kernel)
theorem g654 : (Cond.methodLink "WhistlePostsLaw" 264 yL_told) ∈ Gw := gw_in 654 (by decide +kernel) (by decide +kernel)
theorem g655 : (Cond.static yL_told) ∈ Gw := gw_in 655 (by decide +kernel) (by decide +kernel)
theorem g656 : (Cond.code yL_told method_4_code 5 (Option.none : Option Jvm.ClassFile.FieldType)) ∈ Gw := gw_in 656 (by decide +kernel) (by decide +kernel)
theorem g657 : (Cond.methodLink "WhistlePostsLaw" 73 yJ0_length_8abf5) ∈ Gw := gw_in 657 (by decide +kernel) (by decide +kernel)
theorem g658 : (Cond.methodLink "WhistlePostsLaw" 79 yJ0_charAt_5068e) ∈ Gw := gw_in 658 (by decide +kernel) (by decide +kernel)
theorem g659 : (Cond.methodLink "WhistlePostsLaw" 83 yX10_appendInput) ∈ Gw := gw_in 659 (by decide +kernel) (by decide +kernel)
theorem g660 : (Cond.instanceMethod yX10_appendInput) ∈ Gw := gw_in 660 (by decide +kernel) (by decide +kernel)
theorem g661 : (Cond.selects "WhistlePosts" yX10_appendInput yX10_appendInput) ∈ Gw := gw_in 661 (by decide +kernel) (by decide +kernel)
theorem g662 : (Cond.code yX10_appendInput prog_1_method_2_code 6 (Option.some Jvm.ClassFile.FieldType.int)) ∈ Gw := gw_in 662 (by decide +kernel) (by decide +kernel)
theorem g663 : (Cond.methodLink "WhistlePosts" 87 yX0_size) ∈ Gw := gw_in 663 (by decide +kernel) (by decide +kernel)
theorem g664 : (Cond.methodLink "WhistlePosts" 91 yX10_appendFour) ∈ Gw := gw_in 664 (by decide +kernel) (by decide +kernel)
theorem g666 : (Cond.instanceMethod yX10_appendFour) ∈ Gw := gw_in 666 (by decide +kernel) (by decide +kernel)
theorem g667 : (Cond.code yX10_appendFour prog_1_method_3_code 3 (Option.none : Option Jvm.ClassFile.FieldType)) ∈ Gw := gw_in 667 (by decide +kernel) (by decide +kernel)
theorem g668 : (Cond.methodLink "WhistlePosts" 94 yX0_add) ∈ Gw := gw_in 668 (by decide +kernel) (by decide +kernel)
theorem g669 : (Cond.methodLink "WhistlePostsLaw" 89 yX10_truncateInput) ∈ Gw := gw_in 669 (by decide +kernel) (by decide +kernel)
theorem g670 : (Cond.instanceMethod yX10_truncateInput) ∈ Gw := gw_in 670 (by decide +kernel) (by decide +kernel)
theorem g671 : (Cond.selects "WhistlePosts" yX10_truncateInput yX10_truncateInput) ∈ Gw := gw_in 671 (by decide +kernel) (by decide +kernel)
theorem g672 : (Cond.code yX10_truncateInput prog_1_method_4_code 2 (Option.some Jvm.ClassFile.FieldType.boolean)) ∈ Gw := gw_in 672 (by decide +kernel) (by decide +kernel)
theorem g673 : (Cond.methodLink "WhistlePosts" 97 yX0_cutTo) ∈ Gw := gw_in 673 (by decide +kernel) (by decide +kernel)
theorem g674 : (Cond.instanceMethod yX0_cutTo) ∈ Gw := gw_in 674 (by decide +kernel) (by decide +kernel)
theorem g675 : (Cond.selects "WhistlePosts$Bytes" yX0_cutTo yX0_cutTo) ∈ Gw := gw_in 675 (by decide +kernel) (by decide +kernel)
theorem g676 : (Cond.code yX0_cutTo prog_2_method_7_code 2 (Option.some Jvm.ClassFile.FieldType.boolean)) ∈ Gw := gw_in 676 (by decide +kernel) (by decide +kernel)
theorem g677 : (Cond.methodLink "WhistlePostsLaw" 192 yL_reckon) ∈ Gw := gw_in 677 (by decide +kernel) (by decide +kernel)
theorem g679 : (Cond.instanceMethod yL_reckon) ∈ Gw := gw_in 679 (by decide +kernel) (by decide +kernel)
theorem g680 : (Cond.code yL_reckon method_5_code 4 (Option.none : Option Jvm.ClassFile.FieldType)) ∈ Gw := gw_in 680 (by decide +kernel) (by decide +kernel)
theorem g681 : (Cond.methodLink "WhistlePostsLaw" 97 yJ9_min_7cf53) ∈ Gw := gw_in 681 (by decide +kernel) (by decide +kernel)
theorem g682 : (Cond.methodLink "WhistlePostsLaw" 275 yL_acts) ∈ Gw := gw_in 682 (by decide +kernel) (by decide +kernel)
theorem g684 : (Cond.instanceMethod yL_acts) ∈ Gw := gw_in 684 (by decide +kernel) (by decide +kernel)
theorem g685 : (Cond.code yL_acts method_15_code 9 (Option.some Jvm.ClassFile.FieldType.boolean)) ∈ Gw := gw_in 685 (by decide +kernel) (by decide +kernel)
theorem g686 : (Cond.methodLink "WhistlePostsLaw" 188 yL_isRefused) ∈ Gw := gw_in 686 (by decide +kernel) (by decide +kernel)
theorem g687 : (Cond.static yL_isRefused) ∈ Gw := gw_in 687 (by decide +kernel) (by decide +kernel)
theorem g689 : (Cond.classLink "WhistlePostsLaw" 182 "java/lang/IllegalStateException") ∈ Gw := gw_in 689 (by decide +kernel) (by decide +kernel)
theorem g690 : (Cond.methodLink "WhistlePostsLaw" 175 yX10_cut) ∈ Gw := gw_in 690 (by decide +kernel) (by decide +kernel)
theorem g691 : (Cond.instanceMethod yX10_cut) ∈ Gw := gw_in 691 (by decide +kernel) (by decide +kernel)
theorem g692 : (Cond.selects "WhistlePosts" yX10_cut yX10_cut) ∈ Gw := gw_in 692 (by decide +kernel) (by decide +kernel)
theorem g693 : (Cond.code yX10_cut prog_1_method_38_code 3 (Option.some Jvm.ClassFile.FieldType.int)) ∈ Gw := gw_in 693 (by decide +kernel) (by decide +kernel)
theorem g694 : (Cond.methodLink "WhistlePosts" 180 yX10_needRoof) ∈ Gw := gw_in 694 (by decide +kernel) (by decide +kernel)
theorem g696 : (Cond.instanceMethod yX10_needRoof) ∈ Gw := gw_in 696 (by decide +kernel) (by decide +kernel)
theorem g697 : (Cond.code yX10_needRoof prog_1_method_47_code 2 (Option.none : Option Jvm.ClassFile.FieldType)) ∈ Gw := gw_in 697 (by decide +kernel) (by decide +kernel)
theorem g698 : (Cond.classLink "WhistlePosts" 189 "java/lang/IndexOutOfBoundsException") ∈ Gw := gw_in 698 (by decide +kernel) (by decide +kernel)
theorem g707 : (Cond.selects "java/lang/IndexOutOfBoundsException" ⟨"java/lang/Throwable", "fillInStackTrace", "(I)Ljava/lang/Throwable;"⟩ ⟨"java/lang/Throwable", "fillInStackTrace", "(I)Ljava/lang/Throwable;"⟩) ∈ Gw := gw_in 707 (by decide +kernel) (by decide +kernel)
theorem g708 : (Cond.selects "java/lang/IndexOutOfBoundsException" ⟨"java/lang/Throwable", "fillInStackTrace", "()Ljava/lang/Throwable;"⟩ ⟨"java/lang/Throwable", "fillInStackTrace", "()Ljava/lang/Throwable;"⟩) ∈ Gw := gw_in 708 (by decide +kernel) (by decide +kernel)
theorem g719 : (Cond.fieldLink "java/lang/Throwable" 198 "java/lang/Throwable" "backtrace" "Ljava/lang/Object;") ∈ Gw := gw_in 719 (by decide +kernel) (by decide +kernel)
theorem g721 : (Cond.instanceMethod ⟨"java/lang/Throwable", "<init>", "()V"⟩) ∈ Gw := gw_in 721 (by decide +kernel) (by decide +kernel)
theorem g722 : (Cond.code ⟨"java/lang/Throwable", "<init>", "()V"⟩ prog_29_method_1_code 1 (Option.none : Option Jvm.ClassFile.FieldType)) ∈ Gw := gw_in 722 (by decide +kernel) (by decide +kernel)
theorem g723 : (Cond.methodLink "java/lang/Throwable" 1 ⟨"java/lang/Object", "<init>", "()V"⟩) ∈ Gw := gw_in 723 (by decide +kernel) (by decide +kernel)
theorem g724 : (Cond.fieldLink "java/lang/Throwable" 13 "java/lang/Throwable" "UNASSIGNED_STACK" "[Ljava/lang/StackTraceElement;") ∈ Gw := gw_in 724 (by decide +kernel) (by decide +kernel)
theorem g726 : (Cond.fieldLink "java/lang/Throwable" 20 "java/lang/Throwable" "SUPPRESSED_SENTINEL" "Ljava/util/List;") ∈ Gw := gw_in 726 (by decide +kernel) (by decide +kernel)
theorem g728 : (Cond.methodLink "java/lang/Throwable" 27 ⟨"java/lang/Throwable", "fillInStackTrace", "()Ljava/lang/Throwable;"⟩) ∈ Gw := gw_in 728 (by decide +kernel) (by decide +kernel)
theorem g729 : (Cond.instanceMethod ⟨"java/lang/Throwable", "fillInStackTrace", "()Ljava/lang/Throwable;"⟩) ∈ Gw := gw_in 729 (by decide +kernel) (by decide +kernel)
theorem g731 : (Cond.selects "java/lang/IllegalArgumentException" ⟨"java/lang/Throwable", "fillInStackTrace", "()Ljava/lang/Throwable;"⟩ ⟨"java/lang/Throwable", "fillInStackTrace", "()Ljava/lang/Throwable;"⟩) ∈ Gw := gw_in 731 (by decide +kernel) (by decide +kernel)
theorem g732 : (Cond.selects "java/lang/IllegalStateException" ⟨"java/lang/Throwable", "fillInStackTrace", "()Ljava/lang/Throwable;"⟩ ⟨"java/lang/Throwable", "fillInStackTrace", "()Ljava/lang/Throwable;"⟩) ∈ Gw := gw_in 732 (by decide +kernel) (by decide +kernel)
theorem g734 : (Cond.methodLink "java/lang/Throwable" 202 ⟨"java/lang/Throwable", "fillInStackTrace", "(I)Ljava/lang/Throwable;"⟩) ∈ Gw := gw_in 734 (by decide +kernel) (by decide +kernel)
theorem g736 : (Cond.instanceMethod ⟨"java/lang/Throwable", "fillInStackTrace", "(I)Ljava/lang/Throwable;"⟩) ∈ Gw := gw_in 736 (by decide +kernel) (by decide +kernel)
theorem g738 : (Cond.native ⟨"java/lang/Throwable", "fillInStackTrace", "(I)Ljava/lang/Throwable;"⟩) ∈ Gw := gw_in 738 (by decide +kernel) (by decide +kernel)
theorem g740 : (Cond.methodLink "WhistlePosts" 193 ⟨"java/lang/IndexOutOfBoundsException", "<init>", "(Ljava/lang/String;)V"⟩) ∈ Gw := gw_in 740 (by decide +kernel) (by decide +kernel)
theorem g741 : (Cond.instanceMethod ⟨"java/lang/IndexOutOfBoundsException", "<init>", "(Ljava/lang/String;)V"⟩) ∈ Gw := gw_in 741 (by decide +kernel) (by decide +kernel)
theorem g742 : (Cond.code ⟨"java/lang/IndexOutOfBoundsException", "<init>", "(Ljava/lang/String;)V"⟩ prog_19_method_2_code 2 (Option.none : Option Jvm.ClassFile.FieldType)) ∈ Gw := gw_in 742 (by decide +kernel) (by decide +kernel)
theorem g743 : (Cond.methodLink "java/lang/IndexOutOfBoundsException" 7 ⟨"java/lang/RuntimeException", "<init>", "(Ljava/lang/String;)V"⟩) ∈ Gw := gw_in 743 (by decide +kernel) (by decide +kernel)
theorem g744 : (Cond.instanceMethod ⟨"java/lang/RuntimeException", "<init>", "(Ljava/lang/String;)V"⟩) ∈ Gw := gw_in 744 (by decide +kernel) (by decide +kernel)
theorem g745 : (Cond.code ⟨"java/lang/RuntimeException", "<init>", "(Ljava/lang/String;)V"⟩ prog_23_method_2_code 2 (Option.none : Option Jvm.ClassFile.FieldType)) ∈ Gw := gw_in 745 (by decide +kernel) (by decide +kernel)
theorem g746 : (Cond.methodLink "java/lang/RuntimeException" 7 ⟨"java/lang/Exception", "<init>", "(Ljava/lang/String;)V"⟩) ∈ Gw := gw_in 746 (by decide +kernel) (by decide +kernel)
theorem g747 : (Cond.instanceMethod ⟨"java/lang/Exception", "<init>", "(Ljava/lang/String;)V"⟩) ∈ Gw := gw_in 747 (by decide +kernel) (by decide +kernel)
theorem g748 : (Cond.code ⟨"java/lang/Exception", "<init>", "(Ljava/lang/String;)V"⟩ prog_16_method_2_code 2 (Option.none : Option Jvm.ClassFile.FieldType)) ∈ Gw := gw_in 748 (by decide +kernel) (by decide +kernel)
theorem g749 : (Cond.methodLink "java/lang/Exception" 7 ⟨"java/lang/Throwable", "<init>", "(Ljava/lang/String;)V"⟩) ∈ Gw := gw_in 749 (by decide +kernel) (by decide +kernel)
theorem g750 : (Cond.instanceMethod ⟨"java/lang/Throwable", "<init>", "(Ljava/lang/String;)V"⟩) ∈ Gw := gw_in 750 (by decide +kernel) (by decide +kernel)
theorem g751 : (Cond.code ⟨"java/lang/Throwable", "<init>", "(Ljava/lang/String;)V"⟩ prog_29_method_2_code 2 (Option.none : Option Jvm.ClassFile.FieldType)) ∈ Gw := gw_in 751 (by decide +kernel) (by decide +kernel)
theorem g752 : (Cond.fieldLink "java/lang/Throwable" 198 "java/lang/Throwable" "backtrace" "Ljava/lang/Object;") ∈ Gw := gw_in 752 (by decide +kernel) (by decide +kernel)
theorem g753 : (Cond.fieldLink "java/lang/Throwable" 31 "java/lang/Throwable" "detailMessage" "Ljava/lang/String;") ∈ Gw := gw_in 753 (by decide +kernel) (by decide +kernel)
theorem g754 : (Cond.fieldLink "java/lang/Throwable" 7 "java/lang/Throwable" "cause" "Ljava/lang/Throwable;") ∈ Gw := gw_in 754 (by decide +kernel) (by decide +kernel)
theorem g755 : (Cond.fieldLink "java/lang/Throwable" 17 "java/lang/Throwable" "stackTrace" "[Ljava/lang/StackTraceElement;") ∈ Gw := gw_in 755 (by decide +kernel) (by decide +kernel)
theorem g756 : (Cond.fieldLink "java/lang/Throwable" 24 "java/lang/Throwable" "suppressedExceptions" "Ljava/util/List;") ∈ Gw := gw_in 756 (by decide +kernel) (by decide +kernel)
theorem g765 : (Cond.methodLink "WhistlePosts" 295 yX2_wayBetween) ∈ Gw := gw_in 765 (by decide +kernel) (by decide +kernel)
theorem g766 : (Cond.classLink "WhistlePosts" 277 "java/lang/IllegalStateException") ∈ Gw := gw_in 766 (by decide +kernel) (by decide +kernel)
theorem g769 : (Cond.selects "java/lang/IllegalStateException" ⟨"java/lang/Throwable", "fillInStackTrace", "(I)Ljava/lang/Throwable;"⟩ ⟨"java/lang/Throwable", "fillInStackTrace", "(I)Ljava/lang/Throwable;"⟩) ∈ Gw := gw_in 769 (by decide +kernel) (by decide +kernel)
theorem g776 : (Cond.methodLink "WhistlePosts" 281 ⟨"java/lang/IllegalStateException", "<init>", "(Ljava/lang/String;)V"⟩) ∈ Gw := gw_in 776 (by decide +kernel) (by decide +kernel)
theorem g777 : (Cond.instanceMethod ⟨"java/lang/IllegalStateException", "<init>", "(Ljava/lang/String;)V"⟩) ∈ Gw := gw_in 777 (by decide +kernel) (by decide +kernel)
theorem g778 : (Cond.code ⟨"java/lang/IllegalStateException", "<init>", "(Ljava/lang/String;)V"⟩ prog_18_method_2_code 2 (Option.none : Option Jvm.ClassFile.FieldType)) ∈ Gw := gw_in 778 (by decide +kernel) (by decide +kernel)
theorem g779 : (Cond.methodLink "java/lang/IllegalStateException" 7 ⟨"java/lang/RuntimeException", "<init>", "(Ljava/lang/String;)V"⟩) ∈ Gw := gw_in 779 (by decide +kernel) (by decide +kernel)
theorem g782 : (Cond.methodLink "WhistlePosts" 109 yX1_keep) ∈ Gw := gw_in 782 (by decide +kernel) (by decide +kernel)
theorem g783 : (Cond.instanceMethod yX1_keep) ∈ Gw := gw_in 783 (by decide +kernel) (by decide +kernel)
theorem g784 : (Cond.selects "WhistlePosts$Past" yX1_keep yX1_keep) ∈ Gw := gw_in 784 (by decide +kernel) (by decide +kernel)
theorem g785 : (Cond.code yX1_keep prog_3_method_5_code 3 (Option.none : Option Jvm.ClassFile.FieldType)) ∈ Gw := gw_in 785 (by decide +kernel) (by decide +kernel)
theorem g786 : (Cond.methodLink "WhistlePosts$Past" 25 yX1_postAt) ∈ Gw := gw_in 786 (by decide +kernel) (by decide +kernel)
theorem g788 : (Cond.instanceMethod yX1_postAt) ∈ Gw := gw_in 788 (by decide +kernel) (by decide +kernel)
theorem g789 : (Cond.code yX1_postAt prog_3_method_4_code 3 (Option.some (Jvm.ClassFile.FieldType.object "WhistlePosts$Post"))) ∈ Gw := gw_in 789 (by decide +kernel) (by decide +kernel)
theorem g790 : (Cond.methodLink "WhistlePosts$Past" 29 yX2_copyFrom) ∈ Gw := gw_in 790 (by decide +kernel) (by decide +kernel)
theorem g791 : (Cond.methodLink "WhistlePosts" 149 yX2_cutWay) ∈ Gw := gw_in 791 (by decide +kernel) (by decide +kernel)
theorem g792 : (Cond.instanceMethod yX2_cutWay) ∈ Gw := gw_in 792 (by decide +kernel) (by decide +kernel)
theorem g793 : (Cond.selects "WhistlePosts$Post" yX2_cutWay yX2_cutWay) ∈ Gw := gw_in 793 (by decide +kernel) (by decide +kernel)
theorem g794 : (Cond.code yX2_cutWay prog_4_method_15_code 4 (Option.some Jvm.ClassFile.FieldType.boolean)) ∈ Gw := gw_in 794 (by decide +kernel) (by decide +kernel)
theorem g795 : (Cond.methodLink "WhistlePosts$Post" 80 yX2_wayBetween) ∈ Gw := gw_in 795 (by decide +kernel) (by decide +kernel)
theorem g796 : (Cond.methodLink "WhistlePosts$Post" 83 yX7_removeRow) ∈ Gw := gw_in 796 (by decide +kernel) (by decide +kernel)
theorem g797 : (Cond.instanceMethod yX7_removeRow) ∈ Gw := gw_in 797 (by decide +kernel) (by decide +kernel)
theorem g798 : (Cond.selects "WhistlePosts$Table" yX7_removeRow yX7_removeRow) ∈ Gw := gw_in 798 (by decide +kernel) (by decide +kernel)
theorem g799 : (Cond.code yX7_removeRow prog_9_method_7_code 4 (Option.none : Option Jvm.ClassFile.FieldType)) ∈ Gw := gw_in 799 (by decide +kernel) (by decide +kernel)
theorem g800 : (Cond.methodLink "WhistlePosts$Table" 34 yX7_get) ∈ Gw := gw_in 800 (by decide +kernel) (by decide +kernel)
theorem g801 : (Cond.methodLink "WhistlePosts$Table" 37 yX7_put) ∈ Gw := gw_in 801 (by decide +kernel) (by decide +kernel)
theorem g802 : (Cond.methodLink "WhistlePosts$Post" 86 yX3_lay) ∈ Gw := gw_in 802 (by decide +kernel) (by decide +kernel)
theorem g803 : (Cond.methodLink "WhistlePostsLaw" 178 yX10_send) ∈ Gw := gw_in 803 (by decide +kernel) (by decide +kernel)
theorem g804 : (Cond.instanceMethod yX10_send) ∈ Gw := gw_in 804 (by decide +kernel) (by decide +kernel)
theorem g805 : (Cond.selects "WhistlePosts" yX10_send yX10_send) ∈ Gw := gw_in 805 (by decide +kernel) (by decide +kernel)
theorem g806 : (Cond.code yX10_send prog_1_method_31_code 5 (Option.some Jvm.ClassFile.FieldType.int)) ∈ Gw := gw_in 806 (by decide +kernel) (by decide +kernel)
theorem g807 : (Cond.classLink "WhistlePosts" 266 "java/lang/IllegalArgumentException") ∈ Gw := gw_in 807 (by decide +kernel) (by decide +kernel)
theorem g810 : (Cond.selects "java/lang/IllegalArgumentException" ⟨"java/lang/Throwable", "fillInStackTrace", "(I)Ljava/lang/Throwable;"⟩ ⟨"java/lang/Throwable", "fillInStackTrace", "(I)Ljava/lang/Throwable;"⟩) ∈ Gw := gw_in 810 (by decide +kernel) (by decide +kernel)
theorem g817 : (Cond.methodLink "WhistlePosts" 270 ⟨"java/lang/IllegalArgumentException", "<init>", "(Ljava/lang/String;)V"⟩) ∈ Gw := gw_in 817 (by decide +kernel) (by decide +kernel)
theorem g818 : (Cond.instanceMethod ⟨"java/lang/IllegalArgumentException", "<init>", "(Ljava/lang/String;)V"⟩) ∈ Gw := gw_in 818 (by decide +kernel) (by decide +kernel)
theorem g819 : (Cond.code ⟨"java/lang/IllegalArgumentException", "<init>", "(Ljava/lang/String;)V"⟩ prog_17_method_2_code 2 (Option.none : Option Jvm.ClassFile.FieldType)) ∈ Gw := gw_in 819 (by decide +kernel) (by decide +kernel)
theorem g820 : (Cond.methodLink "java/lang/IllegalArgumentException" 7 ⟨"java/lang/RuntimeException", "<init>", "(Ljava/lang/String;)V"⟩) ∈ Gw := gw_in 820 (by decide +kernel) (by decide +kernel)
theorem g823 : (Cond.constant "WhistlePosts" 271 (77777777 : Int32)) ∈ Gw := gw_in 823 (by decide +kernel) (by decide +kernel)
theorem g824 : (Cond.methodLink "WhistlePosts" 168 yX10_needNumber) ∈ Gw := gw_in 824 (by decide +kernel) (by decide +kernel)
theorem g826 : (Cond.instanceMethod yX10_needNumber) ∈ Gw := gw_in 826 (by decide +kernel) (by decide +kernel)
theorem g827 : (Cond.code yX10_needNumber prog_1_method_49_code 4 (Option.none : Option Jvm.ClassFile.FieldType)) ∈ Gw := gw_in 827 (by decide +kernel) (by decide +kernel)
theorem g829 : (Cond.methodLink "WhistlePosts" 272 yX10_areDigitsNotes) ∈ Gw := gw_in 829 (by decide +kernel) (by decide +kernel)
theorem g830 : (Cond.static yX10_areDigitsNotes) ∈ Gw := gw_in 830 (by decide +kernel) (by decide +kernel)
theorem g831 : (Cond.code yX10_areDigitsNotes prog_1_method_32_code 2 (Option.some Jvm.ClassFile.FieldType.boolean)) ∈ Gw := gw_in 831 (by decide +kernel) (by decide +kernel)
theorem g834 : (Cond.methodLink "WhistlePosts" 282 yX10_digitsOf) ∈ Gw := gw_in 834 (by decide +kernel) (by decide +kernel)
theorem g835 : (Cond.static yX10_digitsOf) ∈ Gw := gw_in 835 (by decide +kernel) (by decide +kernel)
theorem g836 : (Cond.code yX10_digitsOf prog_1_method_33_code 3 (Option.some Jvm.ClassFile.FieldType.int)) ∈ Gw := gw_in 836 (by decide +kernel) (by decide +kernel)
theorem g837 : (Cond.methodLink "WhistlePosts" 285 yX10_notesOfDigits) ∈ Gw := gw_in 837 (by decide +kernel) (by decide +kernel)
theorem g838 : (Cond.static yX10_notesOfDigits) ∈ Gw := gw_in 838 (by decide +kernel) (by decide +kernel)
theorem g839 : (Cond.code yX10_notesOfDigits prog_1_method_34_code 3 (Option.some Jvm.ClassFile.FieldType.int)) ∈ Gw := gw_in 839 (by decide +kernel) (by decide +kernel)
theorem g840 : (Cond.methodLink "WhistlePosts" 158 yX2_addTune) ∈ Gw := gw_in 840 (by decide +kernel) (by decide +kernel)
theorem g841 : (Cond.instanceMethod yX2_addTune) ∈ Gw := gw_in 841 (by decide +kernel) (by decide +kernel)
theorem g842 : (Cond.selects "WhistlePosts$Post" yX2_addTune yX2_addTune) ∈ Gw := gw_in 842 (by decide +kernel) (by decide +kernel)
theorem g843 : (Cond.code yX2_addTune prog_4_method_11_code 8 (Option.some Jvm.ClassFile.FieldType.int)) ∈ Gw := gw_in 843 (by decide +kernel) (by decide +kernel)
theorem g844 : (Cond.methodLink "WhistlePosts$Post" 77 yX2_enter) ∈ Gw := gw_in 844 (by decide +kernel) (by decide +kernel)
theorem g845 : (Cond.instanceMethod yX2_enter) ∈ Gw := gw_in 845 (by decide +kernel) (by decide +kernel)
theorem g846 : (Cond.selects "WhistlePosts$Post" yX2_enter yX2_enter) ∈ Gw := gw_in 846 (by decide +kernel) (by decide +kernel)
theorem g847 : (Cond.code yX2_enter prog_4_method_8_code 3 (Option.none : Option Jvm.ClassFile.FieldType)) ∈ Gw := gw_in 847 (by decide +kernel) (by decide +kernel)
theorem g848 : (Cond.methodLink "WhistlePosts$Post" 74 yX7_grow) ∈ Gw := gw_in 848 (by decide +kernel) (by decide +kernel)
theorem g849 : (Cond.instanceMethod yX7_grow) ∈ Gw := gw_in 849 (by decide +kernel) (by decide +kernel)
theorem g850 : (Cond.selects "WhistlePosts$Table" yX7_grow yX7_grow) ∈ Gw := gw_in 850 (by decide +kernel) (by decide +kernel)
theorem g851 : (Cond.code yX7_grow prog_9_method_4_code 5 (Option.none : Option Jvm.ClassFile.FieldType)) ∈ Gw := gw_in 851 (by decide +kernel) (by decide +kernel)
theorem g852 : (Cond.methodLink "WhistlePostsLaw" 143 yL_sends) ∈ Gw := gw_in 852 (by decide +kernel) (by decide +kernel)
theorem g854 : (Cond.instanceMethod yL_sends) ∈ Gw := gw_in 854 (by decide +kernel) (by decide +kernel)
theorem g855 : (Cond.code yL_sends method_9_code 6 (Option.none : Option Jvm.ClassFile.FieldType)) ∈ Gw := gw_in 855 (by decide +kernel) (by decide +kernel)
theorem g856 : (Cond.methodLink "WhistlePostsLaw" 106 yL_resets) ∈ Gw := gw_in 856 (by decide +kernel) (by decide +kernel)
theorem g858 : (Cond.instanceMethod yL_resets) ∈ Gw := gw_in 858 (by decide +kernel) (by decide +kernel)
theorem g859 : (Cond.code yL_resets method_10_code 2 (Option.none : Option Jvm.ClassFile.FieldType)) ∈ Gw := gw_in 859 (by decide +kernel) (by decide +kernel)
theorem g860 : (Cond.methodLink "WhistlePostsLaw" 113 ⟨"java/lang/System", "arraycopy", "(Ljava/lang/Object;ILjava/lang/Object;II)V"⟩) ∈ Gw := gw_in 860 (by decide +kernel) (by decide +kernel)
theorem g861 : (Cond.methodLink "WhistlePostsLaw" 195 yX10_set) ∈ Gw := gw_in 861 (by decide +kernel) (by decide +kernel)
theorem g862 : (Cond.instanceMethod yX10_set) ∈ Gw := gw_in 862 (by decide +kernel) (by decide +kernel)
theorem g863 : (Cond.selects "WhistlePosts" yX10_set yX10_set) ∈ Gw := gw_in 863 (by decide +kernel) (by decide +kernel)
theorem g864 : (Cond.code yX10_set prog_1_method_39_code 4 (Option.some Jvm.ClassFile.FieldType.int)) ∈ Gw := gw_in 864 (by decide +kernel) (by decide +kernel)
theorem g865 : (Cond.methodLink "WhistlePosts" 300 yX2_leastOf) ∈ Gw := gw_in 865 (by decide +kernel) (by decide +kernel)
theorem g866 : (Cond.methodLink "WhistlePosts" 303 yX2_mostOf) ∈ Gw := gw_in 866 (by decide +kernel) (by decide +kernel)
theorem g867 : (Cond.methodLink "WhistlePosts" 235 yX2_setting) ∈ Gw := gw_in 867 (by decide +kernel) (by decide +kernel)
theorem g868 : (Cond.instanceMethod yX2_setting) ∈ Gw := gw_in 868 (by decide +kernel) (by decide +kernel)
theorem g869 : (Cond.selects "WhistlePosts$Post" yX2_setting yX2_setting) ∈ Gw := gw_in 869 (by decide +kernel) (by decide +kernel)
theorem g870 : (Cond.code yX2_setting prog_4_method_6_code 2 (Option.some Jvm.ClassFile.FieldType.int)) ∈ Gw := gw_in 870 (by decide +kernel) (by decide +kernel)
theorem g871 : (Cond.methodLink "WhistlePosts" 152 yX2_settle) ∈ Gw := gw_in 871 (by decide +kernel) (by decide +kernel)
theorem g872 : (Cond.methodLink "WhistlePostsLaw" 198 yX10_give) ∈ Gw := gw_in 872 (by decide +kernel) (by decide +kernel)
theorem g873 : (Cond.instanceMethod yX10_give) ∈ Gw := gw_in 873 (by decide +kernel) (by decide +kernel)
theorem g874 : (Cond.selects "WhistlePosts" yX10_give yX10_give) ∈ Gw := gw_in 874 (by decide +kernel) (by decide +kernel)
theorem g875 : (Cond.code yX10_give prog_1_method_37_code 3 (Option.some Jvm.ClassFile.FieldType.int)) ∈ Gw := gw_in 875 (by decide +kernel) (by decide +kernel)
theorem g876 : (Cond.methodLink "WhistlePosts" 141 yX2_hasRoomFor) ∈ Gw := gw_in 876 (by decide +kernel) (by decide +kernel)
theorem g877 : (Cond.instanceMethod yX2_hasRoomFor) ∈ Gw := gw_in 877 (by decide +kernel) (by decide +kernel)
theorem g878 : (Cond.selects "WhistlePosts$Post" yX2_hasRoomFor yX2_hasRoomFor) ∈ Gw := gw_in 878 (by decide +kernel) (by decide +kernel)
theorem g879 : (Cond.code yX2_hasRoomFor prog_4_method_13_code 3 (Option.some Jvm.ClassFile.FieldType.boolean)) ∈ Gw := gw_in 879 (by decide +kernel) (by decide +kernel)
theorem g881 : (Cond.methodLink "WhistlePosts" 145 yX2_takeCoins) ∈ Gw := gw_in 881 (by decide +kernel) (by decide +kernel)
theorem g882 : (Cond.instanceMethod yX2_takeCoins) ∈ Gw := gw_in 882 (by decide +kernel) (by decide +kernel)
theorem g883 : (Cond.selects "WhistlePosts$Post" yX2_takeCoins yX2_takeCoins) ∈ Gw := gw_in 883 (by decide +kernel) (by decide +kernel)
theorem g884 : (Cond.code yX2_takeCoins prog_4_method_14_code 3 (Option.none : Option Jvm.ClassFile.FieldType)) ∈ Gw := gw_in 884 (by decide +kernel) (by decide +kernel)
theorem g885 : (Cond.methodLink "WhistlePosts" 122 yX7_get) ∈ Gw := gw_in 885 (by decide +kernel) (by decide +kernel)
theorem g886 : (Cond.methodLink "WhistlePostsLaw" 201 yL_ticks) ∈ Gw := gw_in 886 (by decide +kernel) (by decide +kernel)
theorem g888 : (Cond.instanceMethod yL_ticks) ∈ Gw := gw_in 888 (by decide +kernel) (by decide +kernel)
theorem g889 : (Cond.code yL_ticks method_13_code 7 (Option.none : Option Jvm.ClassFile.FieldType)) ∈ Gw := gw_in 889 (by decide +kernel) (by decide +kernel)
theorem g890 : (Cond.methodLink "WhistlePostsLaw" 157 yL_lands) ∈ Gw := gw_in 890 (by decide +kernel) (by decide +kernel)
theorem g892 : (Cond.instanceMethod yL_lands) ∈ Gw := gw_in 892 (by decide +kernel) (by decide +kernel)
theorem g893 : (Cond.code yL_lands method_11_code 6 (Option.none : Option Jvm.ClassFile.FieldType)) ∈ Gw := gw_in 893 (by decide +kernel) (by decide +kernel)
theorem g894 : (Cond.methodLink "WhistlePostsLaw" 122 yJ9_max_7cf53) ∈ Gw := gw_in 894 (by decide +kernel) (by decide +kernel)
theorem g895 : (Cond.static yJ9_max_7cf53) ∈ Gw := gw_in 895 (by decide +kernel) (by decide +kernel)
theorem g896 : (Cond.code yJ9_max_7cf53 prog_21_method_65_code 2 (Option.some Jvm.ClassFile.FieldType.int)) ∈ Gw := gw_in 896 (by decide +kernel) (by decide +kernel)
theorem g897 : (Cond.methodLink "WhistlePostsLaw" 128 yL_isRight) ∈ Gw := gw_in 897 (by decide +kernel) (by decide +kernel)
theorem g899 : (Cond.instanceMethod yL_isRight) ∈ Gw := gw_in 899 (by decide +kernel) (by decide +kernel)
theorem g900 : (Cond.code yL_isRight method_8_code 3 (Option.some Jvm.ClassFile.FieldType.boolean)) ∈ Gw := gw_in 900 (by decide +kernel) (by decide +kernel)
theorem g901 : (Cond.methodLink "WhistlePostsLaw" 163 yL_first) ∈ Gw := gw_in 901 (by decide +kernel) (by decide +kernel)
theorem g903 : (Cond.instanceMethod yL_first) ∈ Gw := gw_in 903 (by decide +kernel) (by decide +kernel)
theorem g904 : (Cond.code yL_first method_12_code 4 (Option.some Jvm.ClassFile.FieldType.int)) ∈ Gw := gw_in 904 (by decide +kernel) (by decide +kernel)
theorem g905 : (Cond.methodLink "WhistlePostsLaw" 147 yL_next) ∈ Gw := gw_in 905 (by decide +kernel) (by decide +kernel)
theorem g907 : (Cond.instanceMethod yL_next) ∈ Gw := gw_in 907 (by decide +kernel) (by decide +kernel)
theorem g908 : (Cond.code yL_next method_6_code 4 (Option.some Jvm.ClassFile.FieldType.int)) ∈ Gw := gw_in 908 (by decide +kernel) (by decide +kernel)
theorem g909 : (Cond.methodLink "WhistlePostsLaw" 150 yL_bars) ∈ Gw := gw_in 909 (by decide +kernel) (by decide +kernel)
theorem g911 : (Cond.instanceMethod yL_bars) ∈ Gw := gw_in 911 (by decide +kernel) (by decide +kernel)
theorem g912 : (Cond.code yL_bars method_7_code 2 (Option.some Jvm.ClassFile.FieldType.int)) ∈ Gw := gw_in 912 (by decide +kernel) (by decide +kernel)
theorem g913 : (Cond.methodLink "WhistlePostsLaw" 204 yX10_tick) ∈ Gw := gw_in 913 (by decide +kernel) (by decide +kernel)
theorem g914 : (Cond.instanceMethod yX10_tick) ∈ Gw := gw_in 914 (by decide +kernel) (by decide +kernel)
theorem g915 : (Cond.selects "WhistlePosts" yX10_tick yX10_tick) ∈ Gw := gw_in 915 (by decide +kernel) (by decide +kernel)
theorem g916 : (Cond.code yX10_tick prog_1_method_36_code 3 (Option.some Jvm.ClassFile.FieldType.int)) ∈ Gw := gw_in 916 (by decide +kernel) (by decide +kernel)
theorem g917 : (Cond.methodLink "WhistlePosts" 132 yX2_hasTimeFor) ∈ Gw := gw_in 917 (by decide +kernel) (by decide +kernel)
theorem g918 : (Cond.instanceMethod yX2_hasTimeFor) ∈ Gw := gw_in 918 (by decide +kernel) (by decide +kernel)
theorem g919 : (Cond.selects "WhistlePosts$Post" yX2_hasTimeFor yX2_hasTimeFor) ∈ Gw := gw_in 919 (by decide +kernel) (by decide +kernel)
theorem g920 : (Cond.code yX2_hasTimeFor prog_4_method_12_code 2 (Option.some Jvm.ClassFile.FieldType.boolean)) ∈ Gw := gw_in 920 (by decide +kernel) (by decide +kernel)
theorem g922 : (Cond.methodLink "WhistlePosts" 135 yX8_run) ∈ Gw := gw_in 922 (by decide +kernel) (by decide +kernel)
theorem g923 : (Cond.static yX8_run) ∈ Gw := gw_in 923 (by decide +kernel) (by decide +kernel)
theorem g924 : (Cond.code yX8_run prog_10_method_2_code 3 (Option.none : Option Jvm.ClassFile.FieldType)) ∈ Gw := gw_in 924 (by decide +kernel) (by decide +kernel)
theorem g925 : (Cond.methodLink "WhistlePosts$Ticks" 15 yX2_enter) ∈ Gw := gw_in 925 (by decide +kernel) (by decide +kernel)
theorem g926 : (Cond.methodLink "WhistlePosts$Ticks" 19 yX8_landAll) ∈ Gw := gw_in 926 (by decide +kernel) (by decide +kernel)
theorem g927 : (Cond.static yX8_landAll) ∈ Gw := gw_in 927 (by decide +kernel) (by decide +kernel)
theorem g928 : (Cond.code yX8_landAll prog_10_method_3_code 3 (Option.none : Option Jvm.ClassFile.FieldType)) ∈ Gw := gw_in 928 (by decide +kernel) (by decide +kernel)
theorem g929 : (Cond.methodLink "WhistlePosts$Ticks" 42 yX7_get) ∈ Gw := gw_in 929 (by decide +kernel) (by decide +kernel)
theorem g930 : (Cond.methodLink "WhistlePosts$Ticks" 48 yX8_land) ∈ Gw := gw_in 930 (by decide +kernel) (by decide +kernel)
theorem g931 : (Cond.static yX8_land) ∈ Gw := gw_in 931 (by decide +kernel) (by decide +kernel)
theorem g932 : (Cond.code yX8_land prog_10_method_4_code 6 (Option.none : Option Jvm.ClassFile.FieldType)) ∈ Gw := gw_in 932 (by decide +kernel) (by decide +kernel)
theorem g933 : (Cond.methodLink "WhistlePosts$Ticks" 25 yX2_setting) ∈ Gw := gw_in 933 (by decide +kernel) (by decide +kernel)
theorem g934 : (Cond.methodLink "WhistlePosts$Ticks" 55 yX2_wrongOf) ∈ Gw := gw_in 934 (by decide +kernel) (by decide +kernel)
theorem g935 : (Cond.instanceMethod yX2_wrongOf) ∈ Gw := gw_in 935 (by decide +kernel) (by decide +kernel)
theorem g936 : (Cond.selects "WhistlePosts$Post" yX2_wrongOf yX2_wrongOf) ∈ Gw := gw_in 936 (by decide +kernel) (by decide +kernel)
theorem g937 : (Cond.code yX2_wrongOf prog_4_method_37_code 6 (Option.some Jvm.ClassFile.FieldType.int)) ∈ Gw := gw_in 937 (by decide +kernel) (by decide +kernel)
theorem g938 : (Cond.methodLink "WhistlePosts$Post" 113 yJ9_max_7cf53) ∈ Gw := gw_in 938 (by decide +kernel) (by decide +kernel)
theorem g939 : (Cond.methodLink "WhistlePosts$Post" 148 yJ9_min_7cf53) ∈ Gw := gw_in 939 (by decide +kernel) (by decide +kernel)
theorem g940 : (Cond.methodLink "WhistlePosts$Ticks" 59 yX8_raised) ∈ Gw := gw_in 940 (by decide +kernel) (by decide +kernel)
theorem g941 : (Cond.static yX8_raised) ∈ Gw := gw_in 941 (by decide +kernel) (by decide +kernel)
theorem g942 : (Cond.code yX8_raised prog_10_method_5_code 4 (Option.some Jvm.ClassFile.FieldType.int)) ∈ Gw := gw_in 942 (by decide +kernel) (by decide +kernel)
theorem g944 : (Cond.static yX10_noteOf) ∈ Gw := gw_in 944 (by decide +kernel) (by decide +kernel)
theorem g945 : (Cond.code yX10_noteOf prog_1_method_35_code 2 (Option.some Jvm.ClassFile.FieldType.int)) ∈ Gw := gw_in 945 (by decide +kernel) (by decide +kernel)
theorem g946 : (Cond.methodLink "WhistlePosts$Ticks" 62 yX7_put) ∈ Gw := gw_in 946 (by decide +kernel) (by decide +kernel)
theorem g947 : (Cond.methodLink "WhistlePosts$Ticks" 52 yX8_reachGoal) ∈ Gw := gw_in 947 (by decide +kernel) (by decide +kernel)
theorem g948 : (Cond.static yX8_reachGoal) ∈ Gw := gw_in 948 (by decide +kernel) (by decide +kernel)
theorem g949 : (Cond.code yX8_reachGoal prog_10_method_6_code 5 (Option.none : Option Jvm.ClassFile.FieldType)) ∈ Gw := gw_in 949 (by decide +kernel) (by decide +kernel)
theorem g950 : (Cond.methodLink "WhistlePosts$Ticks" 69 yX7_grow) ∈ Gw := gw_in 950 (by decide +kernel) (by decide +kernel)
theorem g951 : (Cond.methodLink "WhistlePosts$Ticks" 72 yX8_turned) ∈ Gw := gw_in 951 (by decide +kernel) (by decide +kernel)
theorem g952 : (Cond.static yX8_turned) ∈ Gw := gw_in 952 (by decide +kernel) (by decide +kernel)
theorem g953 : (Cond.code yX8_turned prog_10_method_7_code 4 (Option.some Jvm.ClassFile.FieldType.int)) ∈ Gw := gw_in 953 (by decide +kernel) (by decide +kernel)
theorem g954 : (Cond.methodLink "WhistlePosts$Ticks" 75 yX2_addTune) ∈ Gw := gw_in 954 (by decide +kernel) (by decide +kernel)
theorem g955 : (Cond.methodLink "WhistlePosts$Ticks" 29 yX8_whistleAll) ∈ Gw := gw_in 955 (by decide +kernel) (by decide +kernel)
theorem g956 : (Cond.static yX8_whistleAll) ∈ Gw := gw_in 956 (by decide +kernel) (by decide +kernel)
theorem g957 : (Cond.code yX8_whistleAll prog_10_method_8_code 4 (Option.none : Option Jvm.ClassFile.FieldType)) ∈ Gw := gw_in 957 (by decide +kernel) (by decide +kernel)
theorem g958 : (Cond.methodLink "WhistlePosts$Ticks" 79 yX8_roofsWithTunes) ∈ Gw := gw_in 958 (by decide +kernel) (by decide +kernel)
theorem g959 : (Cond.static yX8_roofsWithTunes) ∈ Gw := gw_in 959 (by decide +kernel) (by decide +kernel)
theorem g960 : (Cond.code yX8_roofsWithTunes prog_10_method_9_code 3 (Option.some Jvm.ClassFile.FieldType.int)) ∈ Gw := gw_in 960 (by decide +kernel) (by decide +kernel)
theorem g961 : (Cond.methodLink "WhistlePosts$Ticks" 86 yX2_isBusy) ∈ Gw := gw_in 961 (by decide +kernel) (by decide +kernel)
theorem g962 : (Cond.instanceMethod yX2_isBusy) ∈ Gw := gw_in 962 (by decide +kernel) (by decide +kernel)
theorem g963 : (Cond.selects "WhistlePosts$Post" yX2_isBusy yX2_isBusy) ∈ Gw := gw_in 963 (by decide +kernel) (by decide +kernel)
theorem g964 : (Cond.code yX2_isBusy prog_4_method_23_code 3 (Option.some Jvm.ClassFile.FieldType.boolean)) ∈ Gw := gw_in 964 (by decide +kernel) (by decide +kernel)
theorem g965 : (Cond.methodLink "WhistlePosts$Ticks" 90 yX2_firstToGoFrom) ∈ Gw := gw_in 965 (by decide +kernel) (by decide +kernel)
theorem g966 : (Cond.instanceMethod yX2_firstToGoFrom) ∈ Gw := gw_in 966 (by decide +kernel) (by decide +kernel)
theorem g967 : (Cond.selects "WhistlePosts$Post" yX2_firstToGoFrom yX2_firstToGoFrom) ∈ Gw := gw_in 967 (by decide +kernel) (by decide +kernel)
theorem g968 : (Cond.code yX2_firstToGoFrom prog_4_method_36_code 4 (Option.some Jvm.ClassFile.FieldType.int)) ∈ Gw := gw_in 968 (by decide +kernel) (by decide +kernel)
theorem g969 : (Cond.methodLink "WhistlePosts$Post" 124 yX2_isWaitingAt) ∈ Gw := gw_in 969 (by decide +kernel) (by decide +kernel)
theorem g970 : (Cond.instanceMethod yX2_isWaitingAt) ∈ Gw := gw_in 970 (by decide +kernel) (by decide +kernel)
theorem g971 : (Cond.selects "WhistlePosts$Post" yX2_isWaitingAt yX2_isWaitingAt) ∈ Gw := gw_in 971 (by decide +kernel) (by decide +kernel)
theorem g972 : (Cond.code yX2_isWaitingAt prog_4_method_28_code 3 (Option.some Jvm.ClassFile.FieldType.boolean)) ∈ Gw := gw_in 972 (by decide +kernel) (by decide +kernel)
theorem g973 : (Cond.methodLink "WhistlePosts$Post" 142 yX2_nextOf) ∈ Gw := gw_in 973 (by decide +kernel) (by decide +kernel)
theorem g974 : (Cond.instanceMethod yX2_nextOf) ∈ Gw := gw_in 974 (by decide +kernel) (by decide +kernel)
theorem g975 : (Cond.selects "WhistlePosts$Post" yX2_nextOf yX2_nextOf) ∈ Gw := gw_in 975 (by decide +kernel) (by decide +kernel)
theorem g976 : (Cond.code yX2_nextOf prog_4_method_34_code 2 (Option.some Jvm.ClassFile.FieldType.int)) ∈ Gw := gw_in 976 (by decide +kernel) (by decide +kernel)
theorem g977 : (Cond.methodLink "WhistlePosts$Post" 145 yX2_lackOf) ∈ Gw := gw_in 977 (by decide +kernel) (by decide +kernel)
theorem g978 : (Cond.instanceMethod yX2_lackOf) ∈ Gw := gw_in 978 (by decide +kernel) (by decide +kernel)
theorem g979 : (Cond.selects "WhistlePosts$Post" yX2_lackOf yX2_lackOf) ∈ Gw := gw_in 979 (by decide +kernel) (by decide +kernel)
theorem g980 : (Cond.code yX2_lackOf prog_4_method_35_code 3 (Option.some Jvm.ClassFile.FieldType.int)) ∈ Gw := gw_in 980 (by decide +kernel) (by decide +kernel)
theorem g981 : (Cond.methodLink "WhistlePosts$Post" 133 yX2_barsOf) ∈ Gw := gw_in 981 (by decide +kernel) (by decide +kernel)
theorem g982 : (Cond.static yX2_barsOf) ∈ Gw := gw_in 982 (by decide +kernel) (by decide +kernel)
theorem g983 : (Cond.code yX2_barsOf prog_4_method_31_code 1 (Option.some Jvm.ClassFile.FieldType.int)) ∈ Gw := gw_in 983 (by decide +kernel) (by decide +kernel)
theorem g984 : (Cond.methodLink "WhistlePosts$Post" 127 yX2_barsOfTune) ∈ Gw := gw_in 984 (by decide +kernel) (by decide +kernel)
theorem g985 : (Cond.instanceMethod yX2_barsOfTune) ∈ Gw := gw_in 985 (by decide +kernel) (by decide +kernel)
theorem g986 : (Cond.selects "WhistlePosts$Post" yX2_barsOfTune yX2_barsOfTune) ∈ Gw := gw_in 986 (by decide +kernel) (by decide +kernel)
theorem g987 : (Cond.code yX2_barsOfTune prog_4_method_32_code 2 (Option.some Jvm.ClassFile.FieldType.int)) ∈ Gw := gw_in 987 (by decide +kernel) (by decide +kernel)
theorem g988 : (Cond.methodLink "WhistlePosts$Ticks" 93 yX8_whistle) ∈ Gw := gw_in 988 (by decide +kernel) (by decide +kernel)
theorem g989 : (Cond.static yX8_whistle) ∈ Gw := gw_in 989 (by decide +kernel) (by decide +kernel)
theorem g990 : (Cond.code yX8_whistle prog_10_method_10_code 7 (Option.none : Option Jvm.ClassFile.FieldType)) ∈ Gw := gw_in 990 (by decide +kernel) (by decide +kernel)
theorem g991 : (Cond.methodLink "WhistlePosts$Ticks" 100 yX2_barsOfTune) ∈ Gw := gw_in 991 (by decide +kernel) (by decide +kernel)
theorem g992 : (Cond.methodLink "WhistlePosts$Ticks" 103 yX2_nextOf) ∈ Gw := gw_in 992 (by decide +kernel) (by decide +kernel)
theorem g993 : (Cond.methodLink "WhistlePosts$Ticks" 115 yX8_breathsFor) ∈ Gw := gw_in 993 (by decide +kernel) (by decide +kernel)
theorem g994 : (Cond.static yX8_breathsFor) ∈ Gw := gw_in 994 (by decide +kernel) (by decide +kernel)
theorem g995 : (Cond.code yX8_breathsFor prog_10_method_11_code 4 (Option.some Jvm.ClassFile.FieldType.int)) ∈ Gw := gw_in 995 (by decide +kernel) (by decide +kernel)
theorem g996 : (Cond.methodLink "WhistlePosts$Ticks" 119 yJ9_max_7cf53) ∈ Gw := gw_in 996 (by decide +kernel) (by decide +kernel)
theorem g997 : (Cond.methodLink "WhistlePosts$Ticks" 32 yX8_loseAll) ∈ Gw := gw_in 997 (by decide +kernel) (by decide +kernel)
theorem g998 : (Cond.static yX8_loseAll) ∈ Gw := gw_in 998 (by decide +kernel) (by decide +kernel)
theorem g999 : (Cond.code yX8_loseAll prog_10_method_12_code 2 (Option.none : Option Jvm.ClassFile.FieldType)) ∈ Gw := gw_in 999 (by decide +kernel) (by decide +kernel)
theorem g1000 : (Cond.methodLink "WhistlePostsLaw" 271 yL_isLike) ∈ Gw := gw_in 1000 (by decide +kernel) (by decide +kernel)
theorem g1002 : (Cond.instanceMethod yL_isLike) ∈ Gw := gw_in 1002 (by decide +kernel) (by decide +kernel)
theorem g1003 : (Cond.code yL_isLike method_16_code 4 (Option.some Jvm.ClassFile.FieldType.boolean)) ∈ Gw := gw_in 1003 (by decide +kernel) (by decide +kernel)
theorem g1004 : (Cond.methodLink "WhistlePostsLaw" 207 yX10_count) ∈ Gw := gw_in 1004 (by decide +kernel) (by decide +kernel)
theorem g1005 : (Cond.instanceMethod yX10_count) ∈ Gw := gw_in 1005 (by decide +kernel) (by decide +kernel)
theorem g1006 : (Cond.selects "WhistlePosts" yX10_count yX10_count) ∈ Gw := gw_in 1006 (by decide +kernel) (by decide +kernel)
theorem g1007 : (Cond.code yX10_count prog_1_method_11_code 2 (Option.some Jvm.ClassFile.FieldType.int)) ∈ Gw := gw_in 1007 (by decide +kernel) (by decide +kernel)
theorem g1008 : (Cond.methodLink "WhistlePosts" 172 yX1_size) ∈ Gw := gw_in 1008 (by decide +kernel) (by decide +kernel)
theorem g1009 : (Cond.instanceMethod yX1_size) ∈ Gw := gw_in 1009 (by decide +kernel) (by decide +kernel)
theorem g1010 : (Cond.selects "WhistlePosts$Past" yX1_size yX1_size) ∈ Gw := gw_in 1010 (by decide +kernel) (by decide +kernel)
theorem g1011 : (Cond.code yX1_size prog_3_method_2_code 1 (Option.some Jvm.ClassFile.FieldType.int)) ∈ Gw := gw_in 1011 (by decide +kernel) (by decide +kernel)
theorem g1012 : (Cond.methodLink "WhistlePosts" 173 yX2_numberOfAll) ∈ Gw := gw_in 1012 (by decide +kernel) (by decide +kernel)
theorem g1013 : (Cond.instanceMethod yX2_numberOfAll) ∈ Gw := gw_in 1013 (by decide +kernel) (by decide +kernel)
theorem g1014 : (Cond.selects "WhistlePosts$Post" yX2_numberOfAll yX2_numberOfAll) ∈ Gw := gw_in 1014 (by decide +kernel) (by decide +kernel)
theorem g1015 : (Cond.code yX2_numberOfAll prog_4_method_20_code 2 (Option.some Jvm.ClassFile.FieldType.int)) ∈ Gw := gw_in 1015 (by decide +kernel) (by decide +kernel)
theorem g1016 : (Cond.methodLink "WhistlePosts$Post" 95 yX2_tunesIn) ∈ Gw := gw_in 1016 (by decide +kernel) (by decide +kernel)
theorem g1017 : (Cond.instanceMethod yX2_tunesIn) ∈ Gw := gw_in 1017 (by decide +kernel) (by decide +kernel)
theorem g1018 : (Cond.selects "WhistlePosts$Post" yX2_tunesIn yX2_tunesIn) ∈ Gw := gw_in 1018 (by decide +kernel) (by decide +kernel)
theorem g1019 : (Cond.code yX2_tunesIn prog_4_method_21_code 4 (Option.some Jvm.ClassFile.FieldType.int)) ∈ Gw := gw_in 1019 (by decide +kernel) (by decide +kernel)
theorem g1020 : (Cond.methodLink "WhistlePosts$Post" 99 yX2_busyWhistlers) ∈ Gw := gw_in 1020 (by decide +kernel) (by decide +kernel)
theorem g1021 : (Cond.instanceMethod yX2_busyWhistlers) ∈ Gw := gw_in 1021 (by decide +kernel) (by decide +kernel)
theorem g1022 : (Cond.selects "WhistlePosts$Post" yX2_busyWhistlers yX2_busyWhistlers) ∈ Gw := gw_in 1022 (by decide +kernel) (by decide +kernel)
theorem g1023 : (Cond.code yX2_busyWhistlers prog_4_method_22_code 3 (Option.some Jvm.ClassFile.FieldType.int)) ∈ Gw := gw_in 1023 (by decide +kernel) (by decide +kernel)
theorem g1024 : (Cond.methodLink "WhistlePosts$Post" 109 yX2_isBusy) ∈ Gw := gw_in 1024 (by decide +kernel) (by decide +kernel)
theorem g1025 : (Cond.methodLink "WhistlePosts$Post" 103 yX2_pursesTogether) ∈ Gw := gw_in 1025 (by decide +kernel) (by decide +kernel)
theorem g1026 : (Cond.instanceMethod yX2_pursesTogether) ∈ Gw := gw_in 1026 (by decide +kernel) (by decide +kernel)
theorem g1027 : (Cond.selects "WhistlePosts$Post" yX2_pursesTogether yX2_pursesTogether) ∈ Gw := gw_in 1027 (by decide +kernel) (by decide +kernel)
theorem g1028 : (Cond.code yX2_pursesTogether prog_4_method_24_code 3 (Option.some Jvm.ClassFile.FieldType.int)) ∈ Gw := gw_in 1028 (by decide +kernel) (by decide +kernel)
theorem g1029 : (Cond.methodLink "WhistlePosts$Post" 106 yX2_setting) ∈ Gw := gw_in 1029 (by decide +kernel) (by decide +kernel)
theorem g1030 : (Cond.methodLink "WhistlePostsLaw" 210 yX10_account) ∈ Gw := gw_in 1030 (by decide +kernel) (by decide +kernel)
theorem g1031 : (Cond.instanceMethod yX10_account) ∈ Gw := gw_in 1031 (by decide +kernel) (by decide +kernel)
theorem g1032 : (Cond.selects "WhistlePosts" yX10_account yX10_account) ∈ Gw := gw_in 1032 (by decide +kernel) (by decide +kernel)
theorem g1033 : (Cond.code yX10_account prog_1_method_12_code 2 (Option.some Jvm.ClassFile.FieldType.int)) ∈ Gw := gw_in 1033 (by decide +kernel) (by decide +kernel)
theorem g1034 : (Cond.methodLink "WhistlePostsLaw" 213 yX10_roof) ∈ Gw := gw_in 1034 (by decide +kernel) (by decide +kernel)
theorem g1035 : (Cond.instanceMethod yX10_roof) ∈ Gw := gw_in 1035 (by decide +kernel) (by decide +kernel)
theorem g1036 : (Cond.selects "WhistlePosts" yX10_roof yX10_roof) ∈ Gw := gw_in 1036 (by decide +kernel) (by decide +kernel)
theorem g1037 : (Cond.code yX10_roof prog_1_method_14_code 3 (Option.some Jvm.ClassFile.FieldType.int)) ∈ Gw := gw_in 1037 (by decide +kernel) (by decide +kernel)
theorem g1038 : (Cond.methodLink "WhistlePosts" 186 yX2_numberOfRoof) ∈ Gw := gw_in 1038 (by decide +kernel) (by decide +kernel)
theorem g1039 : (Cond.instanceMethod yX2_numberOfRoof) ∈ Gw := gw_in 1039 (by decide +kernel) (by decide +kernel)
theorem g1040 : (Cond.selects "WhistlePosts$Post" yX2_numberOfRoof yX2_numberOfRoof) ∈ Gw := gw_in 1040 (by decide +kernel) (by decide +kernel)
theorem g1041 : (Cond.code yX2_numberOfRoof prog_4_method_25_code 3 (Option.some Jvm.ClassFile.FieldType.int)) ∈ Gw := gw_in 1041 (by decide +kernel) (by decide +kernel)
theorem g1042 : (Cond.methodLink "WhistlePosts$Post" 118 yX2_tunesAt) ∈ Gw := gw_in 1042 (by decide +kernel) (by decide +kernel)
theorem g1043 : (Cond.instanceMethod yX2_tunesAt) ∈ Gw := gw_in 1043 (by decide +kernel) (by decide +kernel)
theorem g1044 : (Cond.selects "WhistlePosts$Post" yX2_tunesAt yX2_tunesAt) ∈ Gw := gw_in 1044 (by decide +kernel) (by decide +kernel)
theorem g1045 : (Cond.code yX2_tunesAt prog_4_method_26_code 4 (Option.some Jvm.ClassFile.FieldType.int)) ∈ Gw := gw_in 1045 (by decide +kernel) (by decide +kernel)
theorem g1046 : (Cond.methodLink "WhistlePosts$Post" 121 yX2_waysAt) ∈ Gw := gw_in 1046 (by decide +kernel) (by decide +kernel)
theorem g1047 : (Cond.instanceMethod yX2_waysAt) ∈ Gw := gw_in 1047 (by decide +kernel) (by decide +kernel)
theorem g1048 : (Cond.selects "WhistlePosts$Post" yX2_waysAt yX2_waysAt) ∈ Gw := gw_in 1048 (by decide +kernel) (by decide +kernel)
theorem g1049 : (Cond.code yX2_waysAt prog_4_method_27_code 4 (Option.some Jvm.ClassFile.FieldType.int)) ∈ Gw := gw_in 1049 (by decide +kernel) (by decide +kernel)
theorem g1050 : (Cond.methodLink "WhistlePostsLaw" 216 yX10_route) ∈ Gw := gw_in 1050 (by decide +kernel) (by decide +kernel)
theorem g1051 : (Cond.instanceMethod yX10_route) ∈ Gw := gw_in 1051 (by decide +kernel) (by decide +kernel)
theorem g1052 : (Cond.selects "WhistlePosts" yX10_route yX10_route) ∈ Gw := gw_in 1052 (by decide +kernel) (by decide +kernel)
theorem g1053 : (Cond.code yX10_route prog_1_method_16_code 4 (Option.some Jvm.ClassFile.FieldType.int)) ∈ Gw := gw_in 1053 (by decide +kernel) (by decide +kernel)
theorem g1054 : (Cond.methodLink "WhistlePostsLaw" 219 yX10_next) ∈ Gw := gw_in 1054 (by decide +kernel) (by decide +kernel)
theorem g1055 : (Cond.instanceMethod yX10_next) ∈ Gw := gw_in 1055 (by decide +kernel) (by decide +kernel)
theorem g1056 : (Cond.selects "WhistlePosts" yX10_next yX10_next) ∈ Gw := gw_in 1056 (by decide +kernel) (by decide +kernel)
theorem g1057 : (Cond.code yX10_next prog_1_method_17_code 3 (Option.some Jvm.ClassFile.FieldType.int)) ∈ Gw := gw_in 1057 (by decide +kernel) (by decide +kernel)
theorem g1058 : (Cond.methodLink "WhistlePostsLaw" 220 yX10_tune) ∈ Gw := gw_in 1058 (by decide +kernel) (by decide +kernel)
theorem g1059 : (Cond.instanceMethod yX10_tune) ∈ Gw := gw_in 1059 (by decide +kernel) (by decide +kernel)
theorem g1060 : (Cond.selects "WhistlePosts" yX10_tune yX10_tune) ∈ Gw := gw_in 1060 (by decide +kernel) (by decide +kernel)
theorem g1061 : (Cond.code yX10_tune prog_1_method_18_code 3 (Option.some Jvm.ClassFile.FieldType.int)) ∈ Gw := gw_in 1061 (by decide +kernel) (by decide +kernel)
theorem g1062 : (Cond.methodLink "WhistlePosts" 210 yX10_needTune) ∈ Gw := gw_in 1062 (by decide +kernel) (by decide +kernel)
theorem g1064 : (Cond.instanceMethod yX10_needTune) ∈ Gw := gw_in 1064 (by decide +kernel) (by decide +kernel)
theorem g1065 : (Cond.code yX10_needTune prog_1_method_48_code 2 (Option.none : Option Jvm.ClassFile.FieldType)) ∈ Gw := gw_in 1065 (by decide +kernel) (by decide +kernel)
theorem g1067 : (Cond.methodLink "WhistlePosts" 213 yX2_numberOfTune) ∈ Gw := gw_in 1067 (by decide +kernel) (by decide +kernel)
theorem g1068 : (Cond.instanceMethod yX2_numberOfTune) ∈ Gw := gw_in 1068 (by decide +kernel) (by decide +kernel)
theorem g1069 : (Cond.selects "WhistlePosts$Post" yX2_numberOfTune yX2_numberOfTune) ∈ Gw := gw_in 1069 (by decide +kernel) (by decide +kernel)
theorem g1070 : (Cond.code yX2_numberOfTune prog_4_method_30_code 3 (Option.some Jvm.ClassFile.FieldType.int)) ∈ Gw := gw_in 1070 (by decide +kernel) (by decide +kernel)
theorem g1071 : (Cond.methodLink "WhistlePosts$Post" 130 yX2_notesUnlikeSent) ∈ Gw := gw_in 1071 (by decide +kernel) (by decide +kernel)
theorem g1072 : (Cond.instanceMethod yX2_notesUnlikeSent) ∈ Gw := gw_in 1072 (by decide +kernel) (by decide +kernel)
theorem g1073 : (Cond.selects "WhistlePosts$Post" yX2_notesUnlikeSent yX2_notesUnlikeSent) ∈ Gw := gw_in 1073 (by decide +kernel) (by decide +kernel)
theorem g1074 : (Cond.code yX2_notesUnlikeSent prog_4_method_33_code 6 (Option.some Jvm.ClassFile.FieldType.int)) ∈ Gw := gw_in 1074 (by decide +kernel) (by decide +kernel)
theorem g1076 : (Cond.methodLink "WhistlePostsLaw" 223 yX10_note) ∈ Gw := gw_in 1076 (by decide +kernel) (by decide +kernel)
theorem g1077 : (Cond.instanceMethod yX10_note) ∈ Gw := gw_in 1077 (by decide +kernel) (by decide +kernel)
theorem g1078 : (Cond.selects "WhistlePosts" yX10_note yX10_note) ∈ Gw := gw_in 1078 (by decide +kernel) (by decide +kernel)
theorem g1079 : (Cond.code yX10_note prog_1_method_19_code 4 (Option.some Jvm.ClassFile.FieldType.int)) ∈ Gw := gw_in 1079 (by decide +kernel) (by decide +kernel)
theorem g1080 : (Cond.methodLink "WhistlePosts" 219 yX10_noteOf) ∈ Gw := gw_in 1080 (by decide +kernel) (by decide +kernel)
theorem g1081 : (Cond.methodLink "WhistlePostsLaw" 227 yX10_agree) ∈ Gw := gw_in 1081 (by decide +kernel) (by decide +kernel)
theorem g1082 : (Cond.instanceMethod yX10_agree) ∈ Gw := gw_in 1082 (by decide +kernel) (by decide +kernel)
theorem g1083 : (Cond.selects "WhistlePosts" yX10_agree yX10_agree) ∈ Gw := gw_in 1083 (by decide +kernel) (by decide +kernel)
theorem g1084 : (Cond.code yX10_agree prog_1_method_28_code 1 (Option.some Jvm.ClassFile.FieldType.boolean)) ∈ Gw := gw_in 1084 (by decide +kernel) (by decide +kernel)
theorem g1085 : (Cond.methodLink "WhistlePosts" 246 yX3_sumByWays) ∈ Gw := gw_in 1085 (by decide +kernel) (by decide +kernel)
theorem g1086 : (Cond.instanceMethod yX3_sumByWays) ∈ Gw := gw_in 1086 (by decide +kernel) (by decide +kernel)
theorem g1087 : (Cond.selects "WhistlePosts$Roads" yX3_sumByWays yX3_sumByWays) ∈ Gw := gw_in 1087 (by decide +kernel) (by decide +kernel)
theorem g1088 : (Cond.code yX3_sumByWays prog_5_method_4_code 8 (Option.none : Option Jvm.ClassFile.FieldType)) ∈ Gw := gw_in 1088 (by decide +kernel) (by decide +kernel)
theorem g1089 : (Cond.methodLink "WhistlePosts" 252 yX3_hasSameSums) ∈ Gw := gw_in 1089 (by decide +kernel) (by decide +kernel)
theorem g1090 : (Cond.instanceMethod yX3_hasSameSums) ∈ Gw := gw_in 1090 (by decide +kernel) (by decide +kernel)
theorem g1091 : (Cond.selects "WhistlePosts$Roads" yX3_hasSameSums yX3_hasSameSums) ∈ Gw := gw_in 1091 (by decide +kernel) (by decide +kernel)
theorem g1092 : (Cond.code yX3_hasSameSums prog_5_method_10_code 5 (Option.some Jvm.ClassFile.FieldType.boolean)) ∈ Gw := gw_in 1092 (by decide +kernel) (by decide +kernel)
theorem g1093 : (Cond.methodLink "WhistlePosts" 256 yX6_areTunesRight) ∈ Gw := gw_in 1093 (by decide +kernel) (by decide +kernel)
theorem g1094 : (Cond.static yX6_areTunesRight) ∈ Gw := gw_in 1094 (by decide +kernel) (by decide +kernel)
theorem g1095 : (Cond.code yX6_areTunesRight prog_8_method_8_code 4 (Option.some Jvm.ClassFile.FieldType.boolean)) ∈ Gw := gw_in 1095 (by decide +kernel) (by decide +kernel)
theorem g1096 : (Cond.methodLink "WhistlePosts$Survey" 15 yX7_get) ∈ Gw := gw_in 1096 (by decide +kernel) (by decide +kernel)
theorem g1097 : (Cond.methodLink "WhistlePosts" 260 yX6_areAccountsRight) ∈ Gw := gw_in 1097 (by decide +kernel) (by decide +kernel)
theorem g1098 : (Cond.static yX6_areAccountsRight) ∈ Gw := gw_in 1098 (by decide +kernel) (by decide +kernel)
theorem g1099 : (Cond.code yX6_areAccountsRight prog_8_method_9_code 4 (Option.some Jvm.ClassFile.FieldType.boolean)) ∈ Gw := gw_in 1099 (by decide +kernel) (by decide +kernel)
theorem g1100 : (Cond.methodLink "WhistlePosts$Survey" 94 yX2_tunesIn) ∈ Gw := gw_in 1100 (by decide +kernel) (by decide +kernel)
theorem g1101 : (Cond.methodLink "WhistlePosts$Survey" 97 yX2_pursesTogether) ∈ Gw := gw_in 1101 (by decide +kernel) (by decide +kernel)
theorem g1102 : (Cond.classLink "WhistlePostsLaw" 237 "java/lang/StringBuilder") ∈ Gw := gw_in 1102 (by decide +kernel) (by decide +kernel)
theorem g1104 : (Cond.methodLink "WhistlePostsLaw" 239 yJ4_init_da8c8) ∈ Gw := gw_in 1104 (by decide +kernel) (by decide +kernel)
theorem g1105 : (Cond.instanceMethod yJ4_init_da8c8) ∈ Gw := gw_in 1105 (by decide +kernel) (by decide +kernel)
theorem g1106 : (Cond.code yJ4_init_da8c8 prog_25_method_1_code 1 (Option.none : Option Jvm.ClassFile.FieldType)) ∈ Gw := gw_in 1106 (by decide +kernel) (by decide +kernel)
theorem g1107 : (Cond.methodLink "java/lang/StringBuilder" 1 yJ5_init_d00df) ∈ Gw := gw_in 1107 (by decide +kernel) (by decide +kernel)
theorem g1108 : (Cond.instanceMethod yJ5_init_d00df) ∈ Gw := gw_in 1108 (by decide +kernel) (by decide +kernel)
theorem g1109 : (Cond.code yJ5_init_d00df prog_14_method_2_code 2 (Option.none : Option Jvm.ClassFile.FieldType)) ∈ Gw := gw_in 1109 (by decide +kernel) (by decide +kernel)
theorem g1110 : (Cond.methodLink "java/lang/AbstractStringBuilder" 3 ⟨"java/lang/Object", "<init>", "()V"⟩) ∈ Gw := gw_in 1110 (by decide +kernel) (by decide +kernel)
theorem g1111 : (Cond.fieldLink "java/lang/AbstractStringBuilder" 18 "java/lang/String" "COMPACT_STRINGS" "Z") ∈ Gw := gw_in 1111 (by decide +kernel) (by decide +kernel)
theorem g1112 : (Cond.methodLink "java/lang/AbstractStringBuilder" 26 yJ2_newBytesFor_77867) ∈ Gw := gw_in 1112 (by decide +kernel) (by decide +kernel)
theorem g1113 : (Cond.static yJ2_newBytesFor_77867) ∈ Gw := gw_in 1113 (by decide +kernel) (by decide +kernel)
theorem g1114 : (Cond.code yJ2_newBytesFor_77867 prog_27_method_2_code 1 (Option.some (Jvm.ClassFile.FieldType.array Jvm.ClassFile.FieldType.byte))) ∈ Gw := gw_in 1114 (by decide +kernel) (by decide +kernel)
theorem g1115 : (Cond.methodLink "java/lang/StringUTF16" 11 yJ2_newBytesLength_0f7a4) ∈ Gw := gw_in 1115 (by decide +kernel) (by decide +kernel)
theorem g1116 : (Cond.static yJ2_newBytesLength_0f7a4) ∈ Gw := gw_in 1116 (by decide +kernel) (by decide +kernel)
theorem g1117 : (Cond.code yJ2_newBytesLength_0f7a4 prog_27_method_3_code 1 (Option.some Jvm.ClassFile.FieldType.int)) ∈ Gw := gw_in 1117 (by decide +kernel) (by decide +kernel)
theorem g1118 : (Cond.constant "java/lang/StringUTF16" 20 (1073741823 : Int32)) ∈ Gw := gw_in 1118 (by decide +kernel) (by decide +kernel)
theorem g1119 : (Cond.fieldLink "java/lang/AbstractStringBuilder" 15 "java/lang/AbstractStringBuilder" "value" "[B") ∈ Gw := gw_in 1119 (by decide +kernel) (by decide +kernel)
theorem g1120 : (Cond.fieldLink "java/lang/AbstractStringBuilder" 22 "java/lang/AbstractStringBuilder" "coder" "B") ∈ Gw := gw_in 1120 (by decide +kernel) (by decide +kernel)
theorem g1121 : (Cond.fieldLink "java/lang/String" 1048 "java/lang/AbstractStringBuilder" "maybeLatin1" "Z") ∈ Gw := gw_in 1121 (by decide +kernel) (by decide +kernel)
theorem g1122 : (Cond.fieldLink "java/lang/AbstractStringBuilder" 79 "java/lang/AbstractStringBuilder" "count" "I") ∈ Gw := gw_in 1122 (by decide +kernel) (by decide +kernel)
theorem g1132 : (Cond.methodLink "WhistlePostsLaw" 242 yJ4_append_15ec4) ∈ Gw := gw_in 1132 (by decide +kernel) (by decide +kernel)
theorem g1133 : (Cond.instanceMethod yJ4_append_15ec4) ∈ Gw := gw_in 1133 (by decide +kernel) (by decide +kernel)
theorem g1134 : (Cond.selects "java/lang/StringBuilder" yJ4_append_15ec4 yJ4_append_15ec4) ∈ Gw := gw_in 1134 (by decide +kernel) (by decide +kernel)
theorem g1135 : (Cond.code yJ4_append_15ec4 prog_25_method_7_code 2 (Option.some (Jvm.ClassFile.FieldType.object "java/lang/StringBuilder"))) ∈ Gw := gw_in 1135 (by decide +kernel) (by decide +kernel)
theorem g1136 : (Cond.methodLink "java/lang/StringBuilder" 29 yJ5_append_cf1ce) ∈ Gw := gw_in 1136 (by decide +kernel) (by decide +kernel)
theorem g1137 : (Cond.instanceMethod yJ5_append_cf1ce) ∈ Gw := gw_in 1137 (by decide +kernel) (by decide +kernel)
theorem g1138 : (Cond.code yJ5_append_cf1ce prog_14_method_22_code 3 (Option.some (Jvm.ClassFile.FieldType.object "java/lang/AbstractStringBuilder"))) ∈ Gw := gw_in 1138 (by decide +kernel) (by decide +kernel)
theorem g1139 : (Cond.methodLink "java/lang/AbstractStringBuilder" 204 yJ5_appendNull_278bc) ∈ Gw := gw_in 1139 (by decide +kernel) (by decide +kernel)
theorem g1141 : (Cond.instanceMethod yJ5_appendNull_278bc) ∈ Gw := gw_in 1141 (by decide +kernel) (by decide +kernel)
theorem g1142 : (Cond.code yJ5_appendNull_278bc prog_14_method_26_code 3 (Option.some (Jvm.ClassFile.FieldType.object "java/lang/AbstractStringBuilder"))) ∈ Gw := gw_in 1142 (by decide +kernel) (by decide +kernel)
theorem g1143 : (Cond.methodLink "java/lang/AbstractStringBuilder" 100 yJ5_ensureCapacityInternal_d00df) ∈ Gw := gw_in 1143 (by decide +kernel) (by decide +kernel)
theorem g1145 : (Cond.instanceMethod yJ5_ensureCapacityInternal_d00df) ∈ Gw := gw_in 1145 (by decide +kernel) (by decide +kernel)
theorem g1146 : (Cond.code yJ5_ensureCapacityInternal_d00df prog_14_method_9_code 3 (Option.none : Option Jvm.ClassFile.FieldType)) ∈ Gw := gw_in 1146 (by decide +kernel) (by decide +kernel)
theorem g1147 : (Cond.methodLink "java/lang/AbstractStringBuilder" 104 yJ5_newCapacity_0f7a4) ∈ Gw := gw_in 1147 (by decide +kernel) (by decide +kernel)
theorem g1149 : (Cond.instanceMethod yJ5_newCapacity_0f7a4) ∈ Gw := gw_in 1149 (by decide +kernel) (by decide +kernel)
theorem g1150 : (Cond.code yJ5_newCapacity_0f7a4 prog_14_method_10_code 6 (Option.some Jvm.ClassFile.FieldType.int)) ∈ Gw := gw_in 1150 (by decide +kernel) (by decide +kernel)
theorem g1151 : (Cond.methodLink "java/lang/AbstractStringBuilder" 114 yJ8_newLength_cabcc) ∈ Gw := gw_in 1151 (by decide +kernel) (by decide +kernel)
theorem g1152 : (Cond.static yJ8_newLength_cabcc) ∈ Gw := gw_in 1152 (by decide +kernel) (by decide +kernel)
theorem g1153 : (Cond.code yJ8_newLength_cabcc prog_31_method_27_code 4 (Option.some Jvm.ClassFile.FieldType.int)) ∈ Gw := gw_in 1153 (by decide +kernel) (by decide +kernel)
theorem g1154 : (Cond.methodLink "jdk/internal/util/ArraysSupport" 194 yJ9_max_7cf53) ∈ Gw := gw_in 1154 (by decide +kernel) (by decide +kernel)
theorem g1155 : (Cond.constant "jdk/internal/util/ArraysSupport" 200 (2147483639 : Int32)) ∈ Gw := gw_in 1155 (by decide +kernel) (by decide +kernel)
theorem g1156 : (Cond.methodLink "jdk/internal/util/ArraysSupport" 201 yJ8_hugeLength_7cf53) ∈ Gw := gw_in 1156 (by decide +kernel) (by decide +kernel)
theorem g1157 : (Cond.static yJ8_hugeLength_7cf53) ∈ Gw := gw_in 1157 (by decide +kernel) (by decide +kernel)
theorem g1158 : (Cond.code yJ8_hugeLength_7cf53 prog_31_method_28_code 3 (Option.some Jvm.ClassFile.FieldType.int)) ∈ Gw := gw_in 1158 (by decide +kernel) (by decide +kernel)
theorem g1159 : (Cond.constant "java/lang/AbstractStringBuilder" 39 (2147483647 : Int32)) ∈ Gw := gw_in 1159 (by decide +kernel) (by decide +kernel)
theorem g1160 : (Cond.methodLink "java/lang/AbstractStringBuilder" 108 yJ7_copyOf_9075b) ∈ Gw := gw_in 1160 (by decide +kernel) (by decide +kernel)
theorem g1161 : (Cond.static yJ7_copyOf_9075b) ∈ Gw := gw_in 1161 (by decide +kernel) (by decide +kernel)
theorem g1162 : (Cond.code yJ7_copyOf_9075b prog_30_method_121_code 3 (Option.some (Jvm.ClassFile.FieldType.array Jvm.ClassFile.FieldType.byte))) ∈ Gw := gw_in 1162 (by decide +kernel) (by decide +kernel)
theorem g1163 : (Cond.methodLink "java/util/Arrays" 310 ⟨"[B", "clone", "()Ljava/lang/Object;"⟩) ∈ Gw := gw_in 1163 (by decide +kernel) (by decide +kernel)
theorem g1165 : (Cond.native ⟨"java/lang/Object", "clone", "()Ljava/lang/Object;"⟩) ∈ Gw := gw_in 1165 (by decide +kernel) (by decide +kernel)
theorem g1166 : (Cond.instanceMethod ⟨"java/lang/Object", "clone", "()Ljava/lang/Object;"⟩) ∈ Gw := gw_in 1166 (by decide +kernel) (by decide +kernel)
theorem g1167 : (Cond.selects "[B" ⟨"[B", "clone", "()Ljava/lang/Object;"⟩ ⟨"java/lang/Object", "clone", "()Ljava/lang/Object;"⟩) ∈ Gw := gw_in 1167 (by decide +kernel) (by decide +kernel)
theorem g1169 : (Cond.classLink "java/util/Arrays" 311 "[B") ∈ Gw := gw_in 1169 (by decide +kernel) (by decide +kernel)
theorem g1170 : (Cond.methodLink "java/util/Arrays" 304 yJ9_min_7cf53) ∈ Gw := gw_in 1170 (by decide +kernel) (by decide +kernel)
theorem g1171 : (Cond.methodLink "java/util/Arrays" 150 ⟨"java/lang/System", "arraycopy", "(Ljava/lang/Object;ILjava/lang/Object;II)V"⟩) ∈ Gw := gw_in 1171 (by decide +kernel) (by decide +kernel)
theorem g1172 : (Cond.methodLink "java/lang/AbstractStringBuilder" 83 yJ5_isLatin1_aae02) ∈ Gw := gw_in 1172 (by decide +kernel) (by decide +kernel)
theorem g1173 : (Cond.instanceMethod yJ5_isLatin1_aae02) ∈ Gw := gw_in 1173 (by decide +kernel) (by decide +kernel)
theorem g1175 : (Cond.selects "java/lang/StringBuilder" yJ5_isLatin1_aae02 yJ5_isLatin1_aae02) ∈ Gw := gw_in 1175 (by decide +kernel) (by decide +kernel)
theorem g1176 : (Cond.code yJ5_isLatin1_aae02 prog_14_method_68_code 1 (Option.some Jvm.ClassFile.FieldType.boolean)) ∈ Gw := gw_in 1176 (by decide +kernel) (by decide +kernel)
theorem g1177 : (Cond.methodLink "java/lang/AbstractStringBuilder" 226 yJ2_putCharsAt_cd4e5) ∈ Gw := gw_in 1177 (by decide +kernel) (by decide +kernel)
theorem g1178 : (Cond.static yJ2_putCharsAt_cd4e5) ∈ Gw := gw_in 1178 (by decide +kernel) (by decide +kernel)
theorem g1179 : (Cond.code yJ2_putCharsAt_cd4e5 prog_27_method_81_code 7 (Option.some Jvm.ClassFile.FieldType.int)) ∈ Gw := gw_in 1179 (by decide +kernel) (by decide +kernel)
theorem g1180 : (Cond.methodLink "java/lang/StringUTF16" 96 yJ2_checkBoundsBeginEnd_d044e) ∈ Gw := gw_in 1180 (by decide +kernel) (by decide +kernel)
theorem g1181 : (Cond.static yJ2_checkBoundsBeginEnd_d044e) ∈ Gw := gw_in 1181 (by decide +kernel) (by decide +kernel)
theorem g1182 : (Cond.code yJ2_checkBoundsBeginEnd_d044e prog_27_method_93_code 3 (Option.none : Option Jvm.ClassFile.FieldType)) ∈ Gw := gw_in 1182 (by decide +kernel) (by decide +kernel)
theorem g1183 : (Cond.methodLink "java/lang/StringUTF16" 241 yJ0_checkBoundsBeginEnd_23922) ∈ Gw := gw_in 1183 (by decide +kernel) (by decide +kernel)
theorem g1184 : (Cond.static yJ0_checkBoundsBeginEnd_23922) ∈ Gw := gw_in 1184 (by decide +kernel) (by decide +kernel)
theorem g1185 : (Cond.code yJ0_checkBoundsBeginEnd_23922 prog_24_method_158_code 3 (Option.none : Option Jvm.ClassFile.FieldType)) ∈ Gw := gw_in 1185 (by decide +kernel) (by decide +kernel)
theorem g1186 : (Cond.methodLink "java/lang/String" 1062 yJ3_checkFromToIndex_8c36e) ∈ Gw := gw_in 1186 (by decide +kernel) (by decide +kernel)
theorem g1187 : (Cond.static yJ3_checkFromToIndex_8c36e) ∈ Gw := gw_in 1187 (by decide +kernel) (by decide +kernel)
theorem g1188 : (Cond.code yJ3_checkFromToIndex_8c36e prog_32_method_12_code 4 (Option.some Jvm.ClassFile.FieldType.int)) ∈ Gw := gw_in 1188 (by decide +kernel) (by decide +kernel)
theorem g1189 : (Cond.methodLink "java/lang/StringUTF16" 111 yJ2_putChar_b72d1) ∈ Gw := gw_in 1189 (by decide +kernel) (by decide +kernel)
theorem g1190 : (Cond.static yJ2_putChar_b72d1) ∈ Gw := gw_in 1190 (by decide +kernel) (by decide +kernel)
theorem g1191 : (Cond.code yJ2_putChar_b72d1 prog_27_method_4_code 3 (Option.none : Option Jvm.ClassFile.FieldType)) ∈ Gw := gw_in 1191 (by decide +kernel) (by decide +kernel)
theorem g1192 : (Cond.methodLink "java/lang/AbstractStringBuilder" 32 yJ0_length_8abf5) ∈ Gw := gw_in 1192 (by decide +kernel) (by decide +kernel)
theorem g1193 : (Cond.methodLink "java/lang/AbstractStringBuilder" 208 yJ5_putStringAt_47b60) ∈ Gw := gw_in 1193 (by decide +kernel) (by decide +kernel)
theorem g1195 : (Cond.instanceMethod yJ5_putStringAt_47b60) ∈ Gw := gw_in 1195 (by decide +kernel) (by decide +kernel)
theorem g1196 : (Cond.code yJ5_putStringAt_47b60 prog_14_method_73_code 3 (Option.none : Option Jvm.ClassFile.FieldType)) ∈ Gw := gw_in 1196 (by decide +kernel) (by decide +kernel)
theorem g1197 : (Cond.methodLink "java/lang/AbstractStringBuilder" 397 yJ5_inflateIfNeededFor_a7421) ∈ Gw := gw_in 1197 (by decide +kernel) (by decide +kernel)
theorem g1199 : (Cond.instanceMethod yJ5_inflateIfNeededFor_a7421) ∈ Gw := gw_in 1199 (by decide +kernel) (by decide +kernel)
theorem g1200 : (Cond.code yJ5_inflateIfNeededFor_a7421 prog_14_method_71_code 2 (Option.none : Option Jvm.ClassFile.FieldType)) ∈ Gw := gw_in 1200 (by decide +kernel) (by decide +kernel)
theorem g1201 : (Cond.methodLink "java/lang/AbstractStringBuilder" 40 yJ0_coder_7d493) ∈ Gw := gw_in 1201 (by decide +kernel) (by decide +kernel)
theorem g1202 : (Cond.methodLink "java/lang/AbstractStringBuilder" 195 yJ5_inflate_da8c8) ∈ Gw := gw_in 1202 (by decide +kernel) (by decide +kernel)
theorem g1204 : (Cond.instanceMethod yJ5_inflate_da8c8) ∈ Gw := gw_in 1204 (by decide +kernel) (by decide +kernel)
theorem g1205 : (Cond.code yJ5_inflate_da8c8 prog_14_method_11_code 2 (Option.none : Option Jvm.ClassFile.FieldType)) ∈ Gw := gw_in 1205 (by decide +kernel) (by decide +kernel)
theorem g1206 : (Cond.methodLink "java/lang/AbstractStringBuilder" 125 yJ1_inflate_0e8fd) ∈ Gw := gw_in 1206 (by decide +kernel) (by decide +kernel)
theorem g1207 : (Cond.static yJ1_inflate_0e8fd) ∈ Gw := gw_in 1207 (by decide +kernel) (by decide +kernel)
theorem g1208 : (Cond.code yJ1_inflate_0e8fd prog_26_method_50_code 5 (Option.none : Option Jvm.ClassFile.FieldType)) ∈ Gw := gw_in 1208 (by decide +kernel) (by decide +kernel)
theorem g1209 : (Cond.methodLink "java/lang/StringLatin1" 240 yJ2_inflate_0e8fd) ∈ Gw := gw_in 1209 (by decide +kernel) (by decide +kernel)
theorem g1210 : (Cond.static yJ2_inflate_0e8fd) ∈ Gw := gw_in 1210 (by decide +kernel) (by decide +kernel)
theorem g1211 : (Cond.code yJ2_inflate_0e8fd prog_27_method_86_code 6 (Option.none : Option Jvm.ClassFile.FieldType)) ∈ Gw := gw_in 1211 (by decide +kernel) (by decide +kernel)
theorem g1212 : (Cond.methodLink "java/lang/StringUTF16" 173 yJ2_checkBoundsOffCount_d044e) ∈ Gw := gw_in 1212 (by decide +kernel) (by decide +kernel)
theorem g1213 : (Cond.static yJ2_checkBoundsOffCount_d044e) ∈ Gw := gw_in 1213 (by decide +kernel) (by decide +kernel)
theorem g1214 : (Cond.code yJ2_checkBoundsOffCount_d044e prog_27_method_94_code 3 (Option.none : Option Jvm.ClassFile.FieldType)) ∈ Gw := gw_in 1214 (by decide +kernel) (by decide +kernel)
theorem g1215 : (Cond.methodLink "java/lang/StringUTF16" 419 yJ0_checkBoundsOffCount_cabcc) ∈ Gw := gw_in 1215 (by decide +kernel) (by decide +kernel)
theorem g1216 : (Cond.static yJ0_checkBoundsOffCount_cabcc) ∈ Gw := gw_in 1216 (by decide +kernel) (by decide +kernel)
theorem g1217 : (Cond.code yJ0_checkBoundsOffCount_cabcc prog_24_method_157_code 3 (Option.some Jvm.ClassFile.FieldType.int)) ∈ Gw := gw_in 1217 (by decide +kernel) (by decide +kernel)
theorem g1218 : (Cond.methodLink "java/lang/String" 1065 yJ3_checkFromIndexSize_8c36e) ∈ Gw := gw_in 1218 (by decide +kernel) (by decide +kernel)
theorem g1219 : (Cond.static yJ3_checkFromIndexSize_8c36e) ∈ Gw := gw_in 1219 (by decide +kernel) (by decide +kernel)
theorem g1220 : (Cond.code yJ3_checkFromIndexSize_8c36e prog_32_method_13_code 4 (Option.some Jvm.ClassFile.FieldType.int)) ∈ Gw := gw_in 1220 (by decide +kernel) (by decide +kernel)
theorem g1221 : (Cond.methodLink "java/lang/AbstractStringBuilder" 399 yJ0_getBytes_840e7) ∈ Gw := gw_in 1221 (by decide +kernel) (by decide +kernel)
theorem g1222 : (Cond.instanceMethod yJ0_getBytes_840e7) ∈ Gw := gw_in 1222 (by decide +kernel) (by decide +kernel)
theorem g1223 : (Cond.selects "java/lang/String" yJ0_getBytes_840e7 yJ0_getBytes_840e7) ∈ Gw := gw_in 1223 (by decide +kernel) (by decide +kernel)
theorem g1224 : (Cond.code yJ0_getBytes_840e7 prog_24_method_147_code 4 (Option.none : Option Jvm.ClassFile.FieldType)) ∈ Gw := gw_in 1224 (by decide +kernel) (by decide +kernel)
theorem g1225 : (Cond.methodLink "java/lang/String" 212 ⟨"java/lang/System", "arraycopy", "(Ljava/lang/Object;ILjava/lang/Object;II)V"⟩) ∈ Gw := gw_in 1225 (by decide +kernel) (by decide +kernel)
theorem g1226 : (Cond.methodLink "java/lang/String" 106 yJ1_inflate_0e8fd) ∈ Gw := gw_in 1226 (by decide +kernel) (by decide +kernel)
theorem g1227 : (Cond.methodLink "WhistlePostsLaw" 246 yJ4_append_cf468) ∈ Gw := gw_in 1227 (by decide +kernel) (by decide +kernel)
theorem g1228 : (Cond.instanceMethod yJ4_append_cf468) ∈ Gw := gw_in 1228 (by decide +kernel) (by decide +kernel)
theorem g1229 : (Cond.selects "java/lang/StringBuilder" yJ4_append_cf468 yJ4_append_cf468) ∈ Gw := gw_in 1229 (by decide +kernel) (by decide +kernel)
theorem g1230 : (Cond.code yJ4_append_cf468 prog_25_method_14_code 2 (Option.some (Jvm.ClassFile.FieldType.object "java/lang/StringBuilder"))) ∈ Gw := gw_in 1230 (by decide +kernel) (by decide +kernel)
theorem g1231 : (Cond.methodLink "java/lang/StringBuilder" 50 yJ5_append_3fe6f) ∈ Gw := gw_in 1231 (by decide +kernel) (by decide +kernel)
theorem g1232 : (Cond.instanceMethod yJ5_append_3fe6f) ∈ Gw := gw_in 1232 (by decide +kernel) (by decide +kernel)
theorem g1233 : (Cond.code yJ5_append_3fe6f prog_14_method_31_code 2 (Option.some (Jvm.ClassFile.FieldType.object "java/lang/AbstractStringBuilder"))) ∈ Gw := gw_in 1233 (by decide +kernel) (by decide +kernel)
theorem g1234 : (Cond.methodLink "java/lang/AbstractStringBuilder" 191 yJ1_canEncode_fc78d) ∈ Gw := gw_in 1234 (by decide +kernel) (by decide +kernel)
theorem g1235 : (Cond.static yJ1_canEncode_fc78d) ∈ Gw := gw_in 1235 (by decide +kernel) (by decide +kernel)
theorem g1236 : (Cond.code yJ1_canEncode_fc78d prog_26_method_3_code 1 (Option.some Jvm.ClassFile.FieldType.boolean)) ∈ Gw := gw_in 1236 (by decide +kernel) (by decide +kernel)
theorem g1237 : (Cond.methodLink "java/lang/AbstractStringBuilder" 197 yJ2_putCharSB_b72d1) ∈ Gw := gw_in 1237 (by decide +kernel) (by decide +kernel)
theorem g1238 : (Cond.static yJ2_putCharSB_b72d1) ∈ Gw := gw_in 1238 (by decide +kernel) (by decide +kernel)
theorem g1239 : (Cond.code yJ2_putCharSB_b72d1 prog_27_method_71_code 3 (Option.none : Option Jvm.ClassFile.FieldType)) ∈ Gw := gw_in 1239 (by decide +kernel) (by decide +kernel)
theorem g1240 : (Cond.methodLink "WhistlePostsLaw" 249 yJ4_append_bf812) ∈ Gw := gw_in 1240 (by decide +kernel) (by decide +kernel)
theorem g1241 : (Cond.instanceMethod yJ4_append_bf812) ∈ Gw := gw_in 1241 (by decide +kernel) (by decide +kernel)
theorem g1242 : (Cond.selects "java/lang/StringBuilder" yJ4_append_bf812 yJ4_append_bf812) ∈ Gw := gw_in 1242 (by decide +kernel) (by decide +kernel)
theorem g1243 : (Cond.code yJ4_append_bf812 prog_25_method_15_code 2 (Option.some (Jvm.ClassFile.FieldType.object "java/lang/StringBuilder"))) ∈ Gw := gw_in 1243 (by decide +kernel) (by decide +kernel)
theorem g1244 : (Cond.methodLink "java/lang/StringBuilder" 53 yJ5_append_c97b9) ∈ Gw := gw_in 1244 (by decide +kernel) (by decide +kernel)
theorem g1245 : (Cond.instanceMethod yJ5_append_c97b9) ∈ Gw := gw_in 1245 (by decide +kernel) (by decide +kernel)
theorem g1246 : (Cond.code yJ5_append_c97b9 prog_14_method_32_code 4 (Option.some (Jvm.ClassFile.FieldType.object "java/lang/AbstractStringBuilder"))) ∈ Gw := gw_in 1246 (by decide +kernel) (by decide +kernel)
theorem g1247 : (Cond.methodLink "java/lang/AbstractStringBuilder" 245 yJ6_stringSize_0f7a4) ∈ Gw := gw_in 1247 (by decide +kernel) (by decide +kernel)
theorem g1248 : (Cond.static yJ6_stringSize_0f7a4) ∈ Gw := gw_in 1248 (by decide +kernel) (by decide +kernel)
theorem g1249 : (Cond.code yJ6_stringSize_0f7a4 prog_20_method_13_code 4 (Option.some Jvm.ClassFile.FieldType.int)) ∈ Gw := gw_in 1249 (by decide +kernel) (by decide +kernel)
theorem g1250 : (Cond.methodLink "java/lang/AbstractStringBuilder" 248 yJ6_getChars_ba4f3) ∈ Gw := gw_in 1250 (by decide +kernel) (by decide +kernel)
theorem g1251 : (Cond.static yJ6_getChars_ba4f3) ∈ Gw := gw_in 1251 (by decide +kernel) (by decide +kernel)
theorem g1252 : (Cond.code yJ6_getChars_ba4f3 prog_20_method_12_code 7 (Option.some Jvm.ClassFile.FieldType.int)) ∈ Gw := gw_in 1252 (by decide +kernel) (by decide +kernel)
theorem g1253 : (Cond.fieldLink "java/lang/Integer" 83 "java/lang/Integer" "DigitOnes" "[B") ∈ Gw := gw_in 1253 (by decide +kernel) (by decide +kernel)
theorem g1255 : (Cond.fieldLink "java/lang/Integer" 87 "java/lang/Integer" "DigitTens" "[B") ∈ Gw := gw_in 1255 (by decide +kernel) (by decide +kernel)
theorem g1257 : (Cond.methodLink "java/lang/AbstractStringBuilder" 251 yJ2_getChars_46870) ∈ Gw := gw_in 1257 (by decide +kernel) (by decide +kernel)
theorem g1258 : (Cond.static yJ2_getChars_46870) ∈ Gw := gw_in 1258 (by decide +kernel) (by decide +kernel)
theorem g1259 : (Cond.code yJ2_getChars_46870 prog_27_method_77_code 5 (Option.some Jvm.ClassFile.FieldType.int)) ∈ Gw := gw_in 1259 (by decide +kernel) (by decide +kernel)
theorem g1260 : (Cond.methodLink "java/lang/StringUTF16" 393 yJ2_getChars_ba4f3) ∈ Gw := gw_in 1260 (by decide +kernel) (by decide +kernel)
theorem g1261 : (Cond.static yJ2_getChars_ba4f3) ∈ Gw := gw_in 1261 (by decide +kernel) (by decide +kernel)
theorem g1262 : (Cond.code yJ2_getChars_ba4f3 prog_27_method_89_code 7 (Option.some Jvm.ClassFile.FieldType.int)) ∈ Gw := gw_in 1262 (by decide +kernel) (by decide +kernel)
theorem g1263 : (Cond.fieldLink "java/lang/StringUTF16" 403 "java/lang/Integer" "DigitOnes" "[B") ∈ Gw := gw_in 1263 (by decide +kernel) (by decide +kernel)
theorem g1264 : (Cond.fieldLink "java/lang/StringUTF16" 407 "java/lang/Integer" "DigitTens" "[B") ∈ Gw := gw_in 1264 (by decide +kernel) (by decide +kernel)
theorem g1265 : (Cond.methodLink "WhistlePostsLaw" 260 yJ4_toString_0e30d) ∈ Gw := gw_in 1265 (by decide +kernel) (by decide +kernel)
theorem g1266 : (Cond.instanceMethod yJ4_toString_0e30d) ∈ Gw := gw_in 1266 (by decide +kernel) (by decide +kernel)
theorem g1267 : (Cond.selects "java/lang/StringBuilder" yJ4_toString_0e30d yJ4_toString_0e30d) ∈ Gw := gw_in 1267 (by decide +kernel) (by decide +kernel)
theorem g1268 : (Cond.code yJ4_toString_0e30d prog_25_method_42_code 1 (Option.some (Jvm.ClassFile.FieldType.object "java/lang/String"))) ∈ Gw := gw_in 1268 (by decide +kernel) (by decide +kernel)
theorem g1269 : (Cond.classLink "java/lang/StringBuilder" 18 "java/lang/String") ∈ Gw := gw_in 1269 (by decide +kernel) (by decide +kernel)
theorem g1271 : (Cond.methodLink "java/lang/StringBuilder" 137 yJ0_init_81219) ∈ Gw := gw_in 1271 (by decide +kernel) (by decide +kernel)
theorem g1272 : (Cond.instanceMethod yJ0_init_81219) ∈ Gw := gw_in 1272 (by decide +kernel) (by decide +kernel)
theorem g1273 : (Cond.code yJ0_init_81219 prog_24_method_53_code 2 (Option.none : Option Jvm.ClassFile.FieldType)) ∈ Gw := gw_in 1273 (by decide +kernel) (by decide +kernel)
theorem g1274 : (Cond.methodLink "java/lang/String" 489 yJ0_init_db425) ∈ Gw := gw_in 1274 (by decide +kernel) (by decide +kernel)
theorem g1275 : (Cond.instanceMethod yJ0_init_db425) ∈ Gw := gw_in 1275 (by decide +kernel) (by decide +kernel)
theorem g1276 : (Cond.code yJ0_init_db425 prog_24_method_150_code 5 (Option.none : Option Jvm.ClassFile.FieldType)) ∈ Gw := gw_in 1276 (by decide +kernel) (by decide +kernel)
theorem g1277 : (Cond.methodLink "java/lang/String" 1 ⟨"java/lang/Object", "<init>", "()V"⟩) ∈ Gw := gw_in 1277 (by decide +kernel) (by decide +kernel)
theorem g1278 : (Cond.methodLink "java/lang/String" 552 yJ5_getValue_6d5f1) ∈ Gw := gw_in 1278 (by decide +kernel) (by decide +kernel)
theorem g1279 : (Cond.instanceMethod yJ5_getValue_6d5f1) ∈ Gw := gw_in 1279 (by decide +kernel) (by decide +kernel)
theorem g1281 : (Cond.selects "java/lang/StringBuilder" yJ5_getValue_6d5f1 yJ5_getValue_6d5f1) ∈ Gw := gw_in 1281 (by decide +kernel) (by decide +kernel)
theorem g1282 : (Cond.code yJ5_getValue_6d5f1 prog_14_method_64_code 1 (Option.some (Jvm.ClassFile.FieldType.array Jvm.ClassFile.FieldType.byte))) ∈ Gw := gw_in 1282 (by decide +kernel) (by decide +kernel)
theorem g1283 : (Cond.methodLink "java/lang/String" 549 yJ5_length_8abf5) ∈ Gw := gw_in 1283 (by decide +kernel) (by decide +kernel)
theorem g1284 : (Cond.instanceMethod yJ5_length_8abf5) ∈ Gw := gw_in 1284 (by decide +kernel) (by decide +kernel)
theorem g1286 : (Cond.selects "java/lang/StringBuilder" yJ5_length_8abf5 yJ4_length_8abf5) ∈ Gw := gw_in 1286 (by decide +kernel) (by decide +kernel)
theorem g1287 : (Cond.instanceMethod yJ4_length_8abf5) ∈ Gw := gw_in 1287 (by decide +kernel) (by decide +kernel)
theorem g1288 : (Cond.code yJ4_length_8abf5 prog_25_method_93_code 1 (Option.some Jvm.ClassFile.FieldType.int)) ∈ Gw := gw_in 1288 (by decide +kernel) (by decide +kernel)
theorem g1289 : (Cond.methodLink "java/lang/StringBuilder" 343 yJ5_length_8abf5) ∈ Gw := gw_in 1289 (by decide +kernel) (by decide +kernel)
theorem g1290 : (Cond.code yJ5_length_8abf5 prog_14_method_6_code 1 (Option.some Jvm.ClassFile.FieldType.int)) ∈ Gw := gw_in 1290 (by decide +kernel) (by decide +kernel)
theorem g1291 : (Cond.methodLink "java/lang/String" 1047 yJ5_isLatin1_aae02) ∈ Gw := gw_in 1291 (by decide +kernel) (by decide +kernel)
theorem g1292 : (Cond.methodLink "java/lang/String" 54 yJ7_copyOfRange_39247) ∈ Gw := gw_in 1292 (by decide +kernel) (by decide +kernel)
theorem g1293 : (Cond.static yJ7_copyOfRange_39247) ∈ Gw := gw_in 1293 (by decide +kernel) (by decide +kernel)
theorem g1294 : (Cond.code yJ7_copyOfRange_39247 prog_30_method_132_code 3 (Option.some (Jvm.ClassFile.FieldType.array Jvm.ClassFile.FieldType.byte))) ∈ Gw := gw_in 1294 (by decide +kernel) (by decide +kernel)
theorem g1295 : (Cond.methodLink "java/util/Arrays" 339 yJ7_copyOfRangeByte_39247) ∈ Gw := gw_in 1295 (by decide +kernel) (by decide +kernel)
theorem g1296 : (Cond.static yJ7_copyOfRangeByte_39247) ∈ Gw := gw_in 1296 (by decide +kernel) (by decide +kernel)
theorem g1297 : (Cond.code yJ7_copyOfRangeByte_39247 prog_30_method_133_code 5 (Option.some (Jvm.ClassFile.FieldType.array Jvm.ClassFile.FieldType.byte))) ∈ Gw := gw_in 1297 (by decide +kernel) (by decide +kernel)
theorem g1298 : (Cond.methodLink "java/util/Arrays" 343 yJ7_checkLength_df160) ∈ Gw := gw_in 1298 (by decide +kernel) (by decide +kernel)
theorem g1299 : (Cond.static yJ7_checkLength_df160) ∈ Gw := gw_in 1299 (by decide +kernel) (by decide +kernel)
theorem g1300 : (Cond.code yJ7_checkLength_df160 prog_30_method_131_code 2 (Option.none : Option Jvm.ClassFile.FieldType)) ∈ Gw := gw_in 1300 (by decide +kernel) (by decide +kernel)
theorem g1301 : (Cond.methodLink "java/lang/String" 1051 yJ2_compress_39247) ∈ Gw := gw_in 1301 (by decide +kernel) (by decide +kernel)
theorem g1302 : (Cond.static yJ2_compress_39247) ∈ Gw := gw_in 1302 (by decide +kernel) (by decide +kernel)
theorem g1303 : (Cond.code yJ2_compress_39247 prog_27_method_17_code 6 (Option.some (Jvm.ClassFile.FieldType.array Jvm.ClassFile.FieldType.byte))) ∈ Gw := gw_in 1303 (by decide +kernel) (by decide +kernel)
theorem g1304 : (Cond.methodLink "java/lang/StringUTF16" 123 yJ2_compress_5af95) ∈ Gw := gw_in 1304 (by decide +kernel) (by decide +kernel)
theorem g1305 : (Cond.static yJ2_compress_5af95) ∈ Gw := gw_in 1305 (by decide +kernel) (by decide +kernel)
theorem g1306 : (Cond.code yJ2_compress_5af95 prog_27_method_22_code 7 (Option.some Jvm.ClassFile.FieldType.int)) ∈ Gw := gw_in 1306 (by decide +kernel) (by decide +kernel)
theorem g1307 : (Cond.methodLink "java/lang/StringUTF16" 126 yJ7_copyOfRange_39247) ∈ Gw := gw_in 1307 (by decide +kernel) (by decide +kernel)
theorem g1308 : (Cond.methodLink "java/lang/String" 47 yJ2_coderFromArrayLen_85cad) ∈ Gw := gw_in 1308 (by decide +kernel) (by decide +kernel)
theorem g1309 : (Cond.static yJ2_coderFromArrayLen_85cad) ∈ Gw := gw_in 1309 (by decide +kernel) (by decide +kernel)
theorem g1310 : (Cond.code yJ2_coderFromArrayLen_85cad prog_27_method_15_code 2 (Option.some Jvm.ClassFile.FieldType.byte)) ∈ Gw := gw_in 1310 (by decide +kernel) (by decide +kernel)
theorem g1311 : (Cond.fieldLink "java/lang/String" 9 "java/lang/String" "value" "[B") ∈ Gw := gw_in 1311 (by decide +kernel) (by decide +kernel)
theorem g1312 : (Cond.fieldLink "java/lang/String" 15 "java/lang/String" "coder" "B") ∈ Gw := gw_in 1312 (by decide +kernel) (by decide +kernel)
end
