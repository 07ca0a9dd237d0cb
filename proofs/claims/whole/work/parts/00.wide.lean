/-! ===== a name of the rest of the library, so that the claim is read over the whole of it from its first row ===== -/
theorem z_wide {a : UInt64} (h : FP.Core.DFin a) : FP.Core.dIsNaN a = false := h.notNaN
