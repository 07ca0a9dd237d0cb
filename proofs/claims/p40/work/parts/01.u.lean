/-! ===== a word that the printed names use and do not print ===== -/
def va_AOA (t : FieldType) (U : State) : Prop := (Cond.arrayOver (.array t)).before #[] U = true
theorem va_AOA.use {t : FieldType} {args : Array Value} {U : State} (h : va_AOA t U) : (Cond.arrayOver (.array t)).before args U = true := h
