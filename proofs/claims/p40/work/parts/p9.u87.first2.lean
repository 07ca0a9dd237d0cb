/-! ===== the text of the first post ===== -/
def B0z : Int → Int := fun k => ((xB 12).getD k.toNat 0).toInt
abbrev N0z : Int := 140
theorem N0z_len : ((xB 12).length : Int) = N0z := by decide +kernel
def R1z : Row := roofA R0z (10 - tS B0z N0z 4) (fun k => B0z (tS B0z N0z 4 + k)) (tV B0z N0z 10) (tV B0z N0z 12) (tV B0z N0z 14) (tV B0z N0z 16)
theorem fi_1 {F : Nat} {u : aI} (hF : 1000 ≤ F) (hc : CS u B0z N0z 0) (hD : DR u 48 R0z) (hW : DW R0z) : ∃ u', f_X5_isStatementRead F 6 u = some (true, u') ∧ CS u' B0z N0z 20 ∧ DR u' 48 R1z ∧ DW R1z ∧ FdzU u u' := by
  have h := c_fiRoof (F := F) (p1 := 4) (p2 := 10) (p3 := 12) (p4 := 14) (p5 := 16) (p6 := 19) hF hc hD hW (by decide +kernel) (by decide +kernel) (by decide +kernel) (by decide +kernel) (by decide +kernel) (by decide +kernel) (by decide +kernel) (by decide +kernel) (by decide +kernel) (by decide +kernel) (by decide +kernel) (by decide +kernel) (by decide +kernel) (by decide +kernel) (by decide +kernel)
  rw [show tE B0z N0z 19 = 20 by decide +kernel] at h
  exact h
def R2z : Row := roofA R1z (29 - tS B0z N0z 24) (fun k => B0z (tS B0z N0z 24 + k)) (tV B0z N0z 29) (tV B0z N0z 31) (tV B0z N0z 33) (tV B0z N0z 35)
theorem fi_2 {F : Nat} {u : aI} (hF : 1000 ≤ F) (hc : CS u B0z N0z 20) (hD : DR u 48 R1z) (hW : DW R1z) : ∃ u', f_X5_isStatementRead F 6 u = some (true, u') ∧ CS u' B0z N0z 39 ∧ DR u' 48 R2z ∧ DW R2z ∧ FdzU u u' := by
  have h := c_fiRoof (F := F) (p1 := 24) (p2 := 29) (p3 := 31) (p4 := 33) (p5 := 35) (p6 := 38) hF hc hD hW (by decide +kernel) (by decide +kernel) (by decide +kernel) (by decide +kernel) (by decide +kernel) (by decide +kernel) (by decide +kernel) (by decide +kernel) (by decide +kernel) (by decide +kernel) (by decide +kernel) (by decide +kernel) (by decide +kernel) (by decide +kernel) (by decide +kernel)
  rw [show tE B0z N0z 38 = 39 by decide +kernel] at h
  exact h
def R3z : Row := roofA R2z (48 - tS B0z N0z 43) (fun k => B0z (tS B0z N0z 43 + k)) (tV B0z N0z 48) (tV B0z N0z 50) (tV B0z N0z 52) (tV B0z N0z 54)
theorem fi_3 {F : Nat} {u : aI} (hF : 1000 ≤ F) (hc : CS u B0z N0z 39) (hD : DR u 48 R2z) (hW : DW R2z) : ∃ u', f_X5_isStatementRead F 6 u = some (true, u') ∧ CS u' B0z N0z 57 ∧ DR u' 48 R3z ∧ DW R3z ∧ FdzU u u' := by
  have h := c_fiRoof (F := F) (p1 := 43) (p2 := 48) (p3 := 50) (p4 := 52) (p5 := 54) (p6 := 56) hF hc hD hW (by decide +kernel) (by decide +kernel) (by decide +kernel) (by decide +kernel) (by decide +kernel) (by decide +kernel) (by decide +kernel) (by decide +kernel) (by decide +kernel) (by decide +kernel) (by decide +kernel) (by decide +kernel) (by decide +kernel) (by decide +kernel) (by decide +kernel)
  rw [show tE B0z N0z 56 = 57 by decide +kernel] at h
  exact h
def R4z : Row := roofA R3z (65 - tS B0z N0z 61) (fun k => B0z (tS B0z N0z 61 + k)) (tV B0z N0z 65) (tV B0z N0z 67) (tV B0z N0z 69) (tV B0z N0z 71)
theorem fi_4 {F : Nat} {u : aI} (hF : 1000 ≤ F) (hc : CS u B0z N0z 57) (hD : DR u 48 R3z) (hW : DW R3z) : ∃ u', f_X5_isStatementRead F 6 u = some (true, u') ∧ CS u' B0z N0z 75 ∧ DR u' 48 R4z ∧ DW R4z ∧ FdzU u u' := by
  have h := c_fiRoof (F := F) (p1 := 61) (p2 := 65) (p3 := 67) (p4 := 69) (p5 := 71) (p6 := 74) hF hc hD hW (by decide +kernel) (by decide +kernel) (by decide +kernel) (by decide +kernel) (by decide +kernel) (by decide +kernel) (by decide +kernel) (by decide +kernel) (by decide +kernel) (by decide +kernel) (by decide +kernel) (by decide +kernel) (by decide +kernel) (by decide +kernel) (by decide +kernel)
  rw [show tE B0z N0z 74 = 75 by decide +kernel] at h
  exact h
def R5z : Row := wayA R4z 0 1 (tV B0z N0z 89)
theorem fi_5 {F : Nat} {u : aI} (hF : 1000 ≤ F) (hc : CS u B0z N0z 75) (hD : DR u 48 R4z) (hW : DW R4z) : ∃ u', f_X5_isStatementRead F 6 u = some (true, u') ∧ CS u' B0z N0z 92 ∧ DR u' 48 R5z ∧ DW R5z ∧ FdzU u u' := by
  have h := c_fiWay (F := F) (p1 := 78) (p2 := 84) (p3 := 89) (p4 := 91) (x := 0) (y := 1) hF hc hD hW (by decide +kernel) (by decide +kernel) (by decide +kernel) (by decide +kernel) (by decide +kernel) (by decide +kernel) (by decide +kernel) (by decide +kernel) (by decide +kernel) (by decide +kernel) (by decide +kernel) (by decide +kernel) (by decide +kernel) (by decide +kernel)
  rw [show tE B0z N0z 91 = 92 by decide +kernel] at h
  exact h
def R6z : Row := wayA R5z 1 2 (tV B0z N0z 105)
theorem fi_6 {F : Nat} {u : aI} (hF : 1000 ≤ F) (hc : CS u B0z N0z 92) (hD : DR u 48 R5z) (hW : DW R5z) : ∃ u', f_X5_isStatementRead F 6 u = some (true, u') ∧ CS u' B0z N0z 108 ∧ DR u' 48 R6z ∧ DW R6z ∧ FdzU u u' := by
  have h := c_fiWay (F := F) (p1 := 95) (p2 := 100) (p3 := 105) (p4 := 107) (x := 1) (y := 2) hF hc hD hW (by decide +kernel) (by decide +kernel) (by decide +kernel) (by decide +kernel) (by decide +kernel) (by decide +kernel) (by decide +kernel) (by decide +kernel) (by decide +kernel) (by decide +kernel) (by decide +kernel) (by decide +kernel) (by decide +kernel) (by decide +kernel)
  rw [show tE B0z N0z 107 = 108 by decide +kernel] at h
  exact h
def R7z : Row := wayA R6z 0 2 (tV B0z N0z 122)
theorem fi_7 {F : Nat} {u : aI} (hF : 1000 ≤ F) (hc : CS u B0z N0z 108) (hD : DR u 48 R6z) (hW : DW R6z) : ∃ u', f_X5_isStatementRead F 6 u = some (true, u') ∧ CS u' B0z N0z 125 ∧ DR u' 48 R7z ∧ DW R7z ∧ FdzU u u' := by
  have h := c_fiWay (F := F) (p1 := 111) (p2 := 117) (p3 := 122) (p4 := 124) (x := 0) (y := 2) hF hc hD hW (by decide +kernel) (by decide +kernel) (by decide +kernel) (by decide +kernel) (by decide +kernel) (by decide +kernel) (by decide +kernel) (by decide +kernel) (by decide +kernel) (by decide +kernel) (by decide +kernel) (by decide +kernel) (by decide +kernel) (by decide +kernel)
  rw [show tE B0z N0z 124 = 125 by decide +kernel] at h
  exact h
def R8z : Row := wayA R7z 2 3 (tV B0z N0z 137)
theorem fi_8 {F : Nat} {u : aI} (hF : 1000 ≤ F) (hc : CS u B0z N0z 125) (hD : DR u 48 R7z) (hW : DW R7z) : ∃ u', f_X5_isStatementRead F 6 u = some (true, u') ∧ CS u' B0z N0z 140 ∧ DR u' 48 R8z ∧ DW R8z ∧ FdzU u u' := by
  have h := c_fiWay (F := F) (p1 := 128) (p2 := 133) (p3 := 137) (p4 := 139) (x := 2) (y := 3) hF hc hD hW (by decide +kernel) (by decide +kernel) (by decide +kernel) (by decide +kernel) (by decide +kernel) (by decide +kernel) (by decide +kernel) (by decide +kernel) (by decide +kernel) (by decide +kernel) (by decide +kernel) (by decide +kernel) (by decide +kernel) (by decide +kernel)
  rw [show tE B0z N0z 139 = 140 by decide +kernel] at h
  exact h
