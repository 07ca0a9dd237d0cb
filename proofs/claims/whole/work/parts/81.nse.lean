/-! ===== a throw of NoSuchElementException: its constructor hands its text on by another entry ===== -/
abbrev nsE : String := "java/util/NoSuchElementException"
abbrev nsR : String := "java/lang/RuntimeException"
abbrev nsB : ByteArray := prog_31_method_4_code
theorem nsB0 : decode nsB 0 = .ok (.aload_n 0, 1) := by decide +kernel
theorem nsB1 : decode nsB 1 = .ok (.aload_n 1, 1) := by decide +kernel
theorem nsB2 : decode nsB 2 = .ok (.invokespecial 13, 3) := by decide +kernel
theorem nsB5 : decode nsB 5 = .ok (.return_, 1) := by decide +kernel
/-- the words of such a throw: of Throwable, of the constructors, of the class -/
def nsC (own : String) (ic : Nat) : List Cond :=
  (Bundle.throwableAtoms ++ Bundle.throwableSAtoms) ++ (Bundle.passSAtoms nsE nsR 13 nsB ++ Bundle.chainSAtoms nsR ["java/lang/Exception"]) ++
  ([.methodLink own ic (Bundle.initS nsE), .instantiable nsE 6, .castable nsE nsE, .selects nsE Bundle.tFill0 Bundle.tFill0, .selects nsE Bundle.tFill Bundle.tFill] ++
   [.lays nsE Bundle.tN "cause" "Ljava/lang/Throwable;", .lays nsE Bundle.tN "stackTrace" Bundle.steD, .lays nsE Bundle.tN "suppressedExceptions" Bundle.listD, .lays nsE Bundle.tN "detailMessage" "Ljava/lang/String;", .lays nsE Bundle.tN "backtrace" "Ljava/lang/Object;"] ++
   [.isRef (.static Bundle.tN "UNASSIGNED_STACK" Bundle.steD), .isRef (.static Bundle.tN "SUPPRESSED_SENTINEL" Bundle.listD), .fieldLink Bundle.tN 198 Bundle.tN "backtrace" "Ljava/lang/Object;", .lays Bundle.tN Bundle.tN "backtrace" "Ljava/lang/Object;"])
def nsT (own : String) (ic : Nat) : List Cond := (nsC own ic).filter vx_no
def xthN (ik ic : Nat) : Prop := (∀ v ∈ (nsT "WhistlePosts" ic).filter goodWord, v ∈ Gw) ∧ (∀ v ∈ (nsT "WhistlePosts" ic).filter (fun v => !goodWord v), v ∈ xBad nsE) ∧ (∀ v ∈ Cond.classLink "WhistlePosts" ik nsE :: Cond.initialized nsE :: nsT "WhistlePosts" ic, vx_ot v = true) ∧ Cond.classLink "WhistlePosts" ik nsE ∈ Gw ∧ Cond.initialized nsE ∈ Gw
theorem xtN_z : xthN 306 310 := by
  have h3 : ∀ v ∈ (nsT "WhistlePosts" 310).filter goodWord, v ∈ lw_tbl := by decide +kernel
  exact ⟨fun v hv => List.mem_filter.mpr ⟨h3 v hv, (List.mem_filter.mp hv).2⟩, by decide +kernel, by decide +kernel, g1270, g133⟩
