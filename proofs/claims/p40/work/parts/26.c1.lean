/-! ===== the class: its posts, its tables ===== -/
def Pb (b : Nat) : Prop := b ∈ [12, 30, 48, 66, 84, 102, 120, 138, 156, 174, 192]
theorem Pb.of {P : Nat → Prop} (h : ∀ b ∈ [12, 30, 48, 66, 84, 102, 120, 138, 156, 174, 192], P b) {b : Nat} (hb : Pb b) : P b := h b hb
theorem pf4 {b : Nat} (h : Pb b) : shR b 4 = b + 1 := Pb.of (P := fun b => shR b 4 = b + 1) (by decide +kernel) h
theorem pf5 {b : Nat} (h : Pb b) : shR b 5 = b + 3 := Pb.of (P := fun b => shR b 5 = b + 3) (by decide +kernel) h
theorem pf6 {b : Nat} (h : Pb b) : shR b 6 = b + 5 := Pb.of (P := fun b => shR b 6 = b + 5) (by decide +kernel) h
theorem pf7 {b : Nat} (h : Pb b) : shR b 7 = b + 7 := Pb.of (P := fun b => shR b 7 = b + 7) (by decide +kernel) h
theorem pf8 {b : Nat} (h : Pb b) : shR b 8 = b + 9 := Pb.of (P := fun b => shR b 8 = b + 9) (by decide +kernel) h
theorem pf9 {b : Nat} (h : Pb b) : shR b 9 = b + 11 := Pb.of (P := fun b => shR b 9 = b + 11) (by decide +kernel) h
theorem pr0 {b : Nat} (h : Pb b) : shR (b + 11) 0 = b + 12 := Pb.of (P := fun b => shR (b + 11) 0 = b + 12) (by decide +kernel) h
theorem pr1 {b : Nat} (h : Pb b) : shR (b + 11) 1 = b + 14 := Pb.of (P := fun b => shR (b + 11) 1 = b + 14) (by decide +kernel) h
theorem pr2 {b : Nat} (h : Pb b) : shR (b + 11) 2 = b + 16 := Pb.of (P := fun b => shR (b + 11) 2 = b + 16) (by decide +kernel) h
theorem ptX {b : Nat} (h : Pb b) : shR (b + 1) 2 = b + 2 := Pb.of (P := fun b => shR (b + 1) 2 = b + 2) (by decide +kernel) h
theorem plX {b : Nat} (h : Pb b) : shL (b + 2) = 80 := Pb.of (P := fun b => shL (b + 2) = 80) (by decide +kernel) h
theorem ptW {b : Nat} (h : Pb b) : shR (b + 3) 2 = b + 4 := Pb.of (P := fun b => shR (b + 3) 2 = b + 4) (by decide +kernel) h
theorem plW {b : Nat} (h : Pb b) : shL (b + 4) = 60 := Pb.of (P := fun b => shL (b + 4) = 60) (by decide +kernel) h
theorem ptT {b : Nat} (h : Pb b) : shR (b + 5) 2 = b + 6 := Pb.of (P := fun b => shR (b + 5) 2 = b + 6) (by decide +kernel) h
theorem plT {b : Nat} (h : Pb b) : shL (b + 6) = 390 := Pb.of (P := fun b => shL (b + 6) = 390) (by decide +kernel) h
theorem ptS {b : Nat} (h : Pb b) : shR (b + 7) 2 = b + 8 := Pb.of (P := fun b => shR (b + 7) 2 = b + 8) (by decide +kernel) h
theorem plS {b : Nat} (h : Pb b) : shL (b + 8) = 3 := Pb.of (P := fun b => shL (b + 8) = 3) (by decide +kernel) h
theorem ptA {b : Nat} (h : Pb b) : shR (b + 9) 2 = b + 10 := Pb.of (P := fun b => shR (b + 9) 2 = b + 10) (by decide +kernel) h
theorem plA {b : Nat} (h : Pb b) : shL (b + 10) = 11 := Pb.of (P := fun b => shL (b + 10) = 11) (by decide +kernel) h
theorem ptF {b : Nat} (h : Pb b) : shR (b + 12) 2 = b + 13 := Pb.of (P := fun b => shR (b + 12) 2 = b + 13) (by decide +kernel) h
theorem plF {b : Nat} (h : Pb b) : shL (b + 13) = 100 := Pb.of (P := fun b => shL (b + 13) = 100) (by decide +kernel) h
theorem ptM {b : Nat} (h : Pb b) : shR (b + 14) 2 = b + 15 := Pb.of (P := fun b => shR (b + 14) 2 = b + 15) (by decide +kernel) h
theorem plM {b : Nat} (h : Pb b) : shL (b + 15) = 100 := Pb.of (P := fun b => shL (b + 15) = 100) (by decide +kernel) h
theorem ptN {b : Nat} (h : Pb b) : shR (b + 16) 2 = b + 17 := Pb.of (P := fun b => shR (b + 16) 2 = b + 17) (by decide +kernel) h
theorem plN {b : Nat} (h : Pb b) : shL (b + 17) = 100 := Pb.of (P := fun b => shL (b + 17) = 100) (by decide +kernel) h
/-- the tables' sides stand -/
def TOK (w : aI) (b : Nat) : Prop := w (b + 1) 0 = 10 ∧ w (b + 1) 1 = 8 ∧ w (b + 3) 0 = 20 ∧ w (b + 3) 1 = 3 ∧ w (b + 5) 0 = 30 ∧ w (b + 5) 1 = 13 ∧ w (b + 7) 0 = 1 ∧ w (b + 7) 1 = 3 ∧ w (b + 9) 0 = 1 ∧ w (b + 9) 1 = 11 ∧ w (b + 12) 0 = 10 ∧ w (b + 12) 1 = 10 ∧ w (b + 14) 0 = 10 ∧ w (b + 14) 1 = 10 ∧ w (b + 16) 0 = 10 ∧ w (b + 16) 1 = 10
theorem TOK.stc {w : aI} {b : Nat} (h : TOK w b) {a : Nat} {f : Int → Int} (ha : ¬ a = b + 1 ∧ ¬ a = b + 3 ∧ ¬ a = b + 5 ∧ ¬ a = b + 7 ∧ ¬ a = b + 9 ∧ ¬ a = b + 12 ∧ ¬ a = b + 14 ∧ ¬ a = b + 16) : TOK (stc w a f) b := by
  unfold TOK at h ⊢
  obtain ⟨h1, h3, h5, h7, h9, h12, h14, h16⟩ := ha
  rw [stc_ne (fun e => h1 e.symm), stc_ne (fun e => h3 e.symm), stc_ne (fun e => h5 e.symm), stc_ne (fun e => h7 e.symm), stc_ne (fun e => h9 e.symm), stc_ne (fun e => h12 e.symm), stc_ne (fun e => h14 e.symm), stc_ne (fun e => h16 e.symm)]
  exact h
theorem TOK.of {w w2 : aI} {b : Nat} (h : TOK w b) (he : ∀ a, b ≤ a → a < b + 18 → w2 a = w a) : TOK w2 b := by
  unfold TOK at h ⊢
  rw [he (b + 1) (by omega) (by omega), he (b + 3) (by omega) (by omega), he (b + 5) (by omega) (by omega), he (b + 7) (by omega) (by omega), he (b + 9) (by omega) (by omega), he (b + 12) (by omega) (by omega), he (b + 14) (by omega) (by omega), he (b + 16) (by omega) (by omega)]
  exact h
theorem TOK.rX {w : aI} {b : Nat} (h : TOK w b) : w (b + 1) 0 = 10 := h.1
theorem TOK.cX {w : aI} {b : Nat} (h : TOK w b) : w (b + 1) 1 = 8 := h.2.1
theorem TOK.rW {w : aI} {b : Nat} (h : TOK w b) : w (b + 3) 0 = 20 := h.2.2.1
theorem TOK.cW {w : aI} {b : Nat} (h : TOK w b) : w (b + 3) 1 = 3 := h.2.2.2.1
theorem TOK.rT {w : aI} {b : Nat} (h : TOK w b) : w (b + 5) 0 = 30 := h.2.2.2.2.1
theorem TOK.cT {w : aI} {b : Nat} (h : TOK w b) : w (b + 5) 1 = 13 := h.2.2.2.2.2.1
theorem TOK.rS {w : aI} {b : Nat} (h : TOK w b) : w (b + 7) 0 = 1 := h.2.2.2.2.2.2.1
theorem TOK.cS {w : aI} {b : Nat} (h : TOK w b) : w (b + 7) 1 = 3 := h.2.2.2.2.2.2.2.1
theorem TOK.rA {w : aI} {b : Nat} (h : TOK w b) : w (b + 9) 0 = 1 := h.2.2.2.2.2.2.2.2.1
theorem TOK.cA {w : aI} {b : Nat} (h : TOK w b) : w (b + 9) 1 = 11 := h.2.2.2.2.2.2.2.2.2.1
theorem TOK.rF {w : aI} {b : Nat} (h : TOK w b) : w (b + 12) 0 = 10 := h.2.2.2.2.2.2.2.2.2.2.1
theorem TOK.cF {w : aI} {b : Nat} (h : TOK w b) : w (b + 12) 1 = 10 := h.2.2.2.2.2.2.2.2.2.2.2.1
theorem TOK.rM {w : aI} {b : Nat} (h : TOK w b) : w (b + 14) 0 = 10 := h.2.2.2.2.2.2.2.2.2.2.2.2.1
theorem TOK.cM {w : aI} {b : Nat} (h : TOK w b) : w (b + 14) 1 = 10 := h.2.2.2.2.2.2.2.2.2.2.2.2.2.1
theorem TOK.rN {w : aI} {b : Nat} (h : TOK w b) : w (b + 16) 0 = 10 := h.2.2.2.2.2.2.2.2.2.2.2.2.2.2.1
theorem TOK.cN {w : aI} {b : Nat} (h : TOK w b) : w (b + 16) 1 = 10 := h.2.2.2.2.2.2.2.2.2.2.2.2.2.2.2
theorem getX {F : Nat} {b : Nat} (hP : Pb b) {w : aI} (hK : TOK w b) {i j : Int} (hi : 0 ≤ i ∧ i < 10) (hj : 0 ≤ j ∧ j < 8) : f_X7_get F (b + 1) i j w = some (w (b + 2) (8 * i + j)) := by
  have h1 := hK.rX
  have h2 := hK.cX
  unfold f_X7_get
  have h3 : (i * 8 + j : Int) = 8 * i + j := by omega
  simp (disch := omega) only [h1, h2, gd_t, if_neg, if_pos, ltI, ltM, ptX hP, plX hP, h3, is_stc]
theorem putX {F : Nat} {b : Nat} (hP : Pb b) {w : aI} (hK : TOK w b) {i j : Int} {v : Int} (hi : 0 ≤ i ∧ i < 10) (hj : 0 ≤ j ∧ j < 8) : f_X7_put F (b + 1) i j v w = some (stc w (b + 2) (rs (w (b + 2)) (8 * i + j) v)) := by
  have h1 := hK.rX
  have h2 := hK.cX
  unfold f_X7_put
  have h3 : (i * 8 + j : Int) = 8 * i + j := by omega
  simp (disch := omega) only [h1, h2, gd_t, if_neg, if_pos, ltI, ltM, ptX hP, plX hP, h3, is_stc]
theorem growX {F : Nat} {b : Nat} (hP : Pb b) {w : aI} (hK : TOK w b) {i j : Int} {v : Int} (hi : 0 ≤ i ∧ i < 10) (hj : 0 ≤ j ∧ j < 8) : f_X7_grow F (b + 1) i j v w = some (stc w (b + 2) (rs (w (b + 2)) (8 * i + j) (w (b + 2) (8 * i + j) + v))) := by
  have h1 := hK.rX
  have h2 := hK.cX
  unfold f_X7_grow
  have h3 : (i * 8 + j : Int) = 8 * i + j := by omega
  simp (disch := omega) only [h1, h2, gd_t, if_neg, if_pos, ltI, ltM, ptX hP, plX hP, h3, is_stc]
theorem getW {F : Nat} {b : Nat} (hP : Pb b) {w : aI} (hK : TOK w b) {i j : Int} (hi : 0 ≤ i ∧ i < 20) (hj : 0 ≤ j ∧ j < 3) : f_X7_get F (b + 3) i j w = some (w (b + 4) (3 * i + j)) := by
  have h1 := hK.rW
  have h2 := hK.cW
  unfold f_X7_get
  have h3 : (i * 3 + j : Int) = 3 * i + j := by omega
  simp (disch := omega) only [h1, h2, gd_t, if_neg, if_pos, ltI, ltM, ptW hP, plW hP, h3, is_stc]
theorem putW {F : Nat} {b : Nat} (hP : Pb b) {w : aI} (hK : TOK w b) {i j : Int} {v : Int} (hi : 0 ≤ i ∧ i < 20) (hj : 0 ≤ j ∧ j < 3) : f_X7_put F (b + 3) i j v w = some (stc w (b + 4) (rs (w (b + 4)) (3 * i + j) v)) := by
  have h1 := hK.rW
  have h2 := hK.cW
  unfold f_X7_put
  have h3 : (i * 3 + j : Int) = 3 * i + j := by omega
  simp (disch := omega) only [h1, h2, gd_t, if_neg, if_pos, ltI, ltM, ptW hP, plW hP, h3, is_stc]
theorem growW {F : Nat} {b : Nat} (hP : Pb b) {w : aI} (hK : TOK w b) {i j : Int} {v : Int} (hi : 0 ≤ i ∧ i < 20) (hj : 0 ≤ j ∧ j < 3) : f_X7_grow F (b + 3) i j v w = some (stc w (b + 4) (rs (w (b + 4)) (3 * i + j) (w (b + 4) (3 * i + j) + v))) := by
  have h1 := hK.rW
  have h2 := hK.cW
  unfold f_X7_grow
  have h3 : (i * 3 + j : Int) = 3 * i + j := by omega
  simp (disch := omega) only [h1, h2, gd_t, if_neg, if_pos, ltI, ltM, ptW hP, plW hP, h3, is_stc]
theorem getT {F : Nat} {b : Nat} (hP : Pb b) {w : aI} (hK : TOK w b) {i j : Int} (hi : 0 ≤ i ∧ i < 30) (hj : 0 ≤ j ∧ j < 13) : f_X7_get F (b + 5) i j w = some (w (b + 6) (13 * i + j)) := by
  have h1 := hK.rT
  have h2 := hK.cT
  unfold f_X7_get
  have h3 : (i * 13 + j : Int) = 13 * i + j := by omega
  simp (disch := omega) only [h1, h2, gd_t, if_neg, if_pos, ltI, ltM, ptT hP, plT hP, h3, is_stc]
theorem putT {F : Nat} {b : Nat} (hP : Pb b) {w : aI} (hK : TOK w b) {i j : Int} {v : Int} (hi : 0 ≤ i ∧ i < 30) (hj : 0 ≤ j ∧ j < 13) : f_X7_put F (b + 5) i j v w = some (stc w (b + 6) (rs (w (b + 6)) (13 * i + j) v)) := by
  have h1 := hK.rT
  have h2 := hK.cT
  unfold f_X7_put
  have h3 : (i * 13 + j : Int) = 13 * i + j := by omega
  simp (disch := omega) only [h1, h2, gd_t, if_neg, if_pos, ltI, ltM, ptT hP, plT hP, h3, is_stc]
theorem growT {F : Nat} {b : Nat} (hP : Pb b) {w : aI} (hK : TOK w b) {i j : Int} {v : Int} (hi : 0 ≤ i ∧ i < 30) (hj : 0 ≤ j ∧ j < 13) : f_X7_grow F (b + 5) i j v w = some (stc w (b + 6) (rs (w (b + 6)) (13 * i + j) (w (b + 6) (13 * i + j) + v))) := by
  have h1 := hK.rT
  have h2 := hK.cT
  unfold f_X7_grow
  have h3 : (i * 13 + j : Int) = 13 * i + j := by omega
  simp (disch := omega) only [h1, h2, gd_t, if_neg, if_pos, ltI, ltM, ptT hP, plT hP, h3, is_stc]
theorem getS {F : Nat} {b : Nat} (hP : Pb b) {w : aI} (hK : TOK w b) {j : Int} (hj : 0 ≤ j ∧ j < 3) : f_X7_get F (b + 7) 0 j w = some (w (b + 8) (j)) := by
  have h1 := hK.rS
  have h2 := hK.cS
  unfold f_X7_get
  have h3 : (0 * 3 + j : Int) = j := by omega
  simp (disch := omega) only [h1, h2, gd_t, if_neg, if_pos, ltI, ltM, ptS hP, plS hP, h3, is_stc]
theorem putS {F : Nat} {b : Nat} (hP : Pb b) {w : aI} (hK : TOK w b) {j : Int} {v : Int} (hj : 0 ≤ j ∧ j < 3) : f_X7_put F (b + 7) 0 j v w = some (stc w (b + 8) (rs (w (b + 8)) (j) v)) := by
  have h1 := hK.rS
  have h2 := hK.cS
  unfold f_X7_put
  have h3 : (0 * 3 + j : Int) = j := by omega
  simp (disch := omega) only [h1, h2, gd_t, if_neg, if_pos, ltI, ltM, ptS hP, plS hP, h3, is_stc]
theorem growS {F : Nat} {b : Nat} (hP : Pb b) {w : aI} (hK : TOK w b) {j : Int} {v : Int} (hj : 0 ≤ j ∧ j < 3) : f_X7_grow F (b + 7) 0 j v w = some (stc w (b + 8) (rs (w (b + 8)) (j) (w (b + 8) (j) + v))) := by
  have h1 := hK.rS
  have h2 := hK.cS
  unfold f_X7_grow
  have h3 : (0 * 3 + j : Int) = j := by omega
  simp (disch := omega) only [h1, h2, gd_t, if_neg, if_pos, ltI, ltM, ptS hP, plS hP, h3, is_stc]
theorem getA {F : Nat} {b : Nat} (hP : Pb b) {w : aI} (hK : TOK w b) {j : Int} (hj : 0 ≤ j ∧ j < 11) : f_X7_get F (b + 9) 0 j w = some (w (b + 10) (j)) := by
  have h1 := hK.rA
  have h2 := hK.cA
  unfold f_X7_get
  have h3 : (0 * 11 + j : Int) = j := by omega
  simp (disch := omega) only [h1, h2, gd_t, if_neg, if_pos, ltI, ltM, ptA hP, plA hP, h3, is_stc]
theorem putA {F : Nat} {b : Nat} (hP : Pb b) {w : aI} (hK : TOK w b) {j : Int} {v : Int} (hj : 0 ≤ j ∧ j < 11) : f_X7_put F (b + 9) 0 j v w = some (stc w (b + 10) (rs (w (b + 10)) (j) v)) := by
  have h1 := hK.rA
  have h2 := hK.cA
  unfold f_X7_put
  have h3 : (0 * 11 + j : Int) = j := by omega
  simp (disch := omega) only [h1, h2, gd_t, if_neg, if_pos, ltI, ltM, ptA hP, plA hP, h3, is_stc]
theorem growA {F : Nat} {b : Nat} (hP : Pb b) {w : aI} (hK : TOK w b) {j : Int} {v : Int} (hj : 0 ≤ j ∧ j < 11) : f_X7_grow F (b + 9) 0 j v w = some (stc w (b + 10) (rs (w (b + 10)) (j) (w (b + 10) (j) + v))) := by
  have h1 := hK.rA
  have h2 := hK.cA
  unfold f_X7_grow
  have h3 : (0 * 11 + j : Int) = j := by omega
  simp (disch := omega) only [h1, h2, gd_t, if_neg, if_pos, ltI, ltM, ptA hP, plA hP, h3, is_stc]
theorem getF {F : Nat} {b : Nat} (hP : Pb b) {w : aI} (hK : TOK w b) {i j : Int} (hi : 0 ≤ i ∧ i < 10) (hj : 0 ≤ j ∧ j < 10) : f_X7_get F (b + 12) i j w = some (w (b + 13) (10 * i + j)) := by
  have h1 := hK.rF
  have h2 := hK.cF
  unfold f_X7_get
  have h3 : (i * 10 + j : Int) = 10 * i + j := by omega
  simp (disch := omega) only [h1, h2, gd_t, if_neg, if_pos, ltI, ltM, ptF hP, plF hP, h3, is_stc]
theorem putF {F : Nat} {b : Nat} (hP : Pb b) {w : aI} (hK : TOK w b) {i j : Int} {v : Int} (hi : 0 ≤ i ∧ i < 10) (hj : 0 ≤ j ∧ j < 10) : f_X7_put F (b + 12) i j v w = some (stc w (b + 13) (rs (w (b + 13)) (10 * i + j) v)) := by
  have h1 := hK.rF
  have h2 := hK.cF
  unfold f_X7_put
  have h3 : (i * 10 + j : Int) = 10 * i + j := by omega
  simp (disch := omega) only [h1, h2, gd_t, if_neg, if_pos, ltI, ltM, ptF hP, plF hP, h3, is_stc]
theorem growF {F : Nat} {b : Nat} (hP : Pb b) {w : aI} (hK : TOK w b) {i j : Int} {v : Int} (hi : 0 ≤ i ∧ i < 10) (hj : 0 ≤ j ∧ j < 10) : f_X7_grow F (b + 12) i j v w = some (stc w (b + 13) (rs (w (b + 13)) (10 * i + j) (w (b + 13) (10 * i + j) + v))) := by
  have h1 := hK.rF
  have h2 := hK.cF
  unfold f_X7_grow
  have h3 : (i * 10 + j : Int) = 10 * i + j := by omega
  simp (disch := omega) only [h1, h2, gd_t, if_neg, if_pos, ltI, ltM, ptF hP, plF hP, h3, is_stc]
theorem getM {F : Nat} {b : Nat} (hP : Pb b) {w : aI} (hK : TOK w b) {i j : Int} (hi : 0 ≤ i ∧ i < 10) (hj : 0 ≤ j ∧ j < 10) : f_X7_get F (b + 14) i j w = some (w (b + 15) (10 * i + j)) := by
  have h1 := hK.rM
  have h2 := hK.cM
  unfold f_X7_get
  have h3 : (i * 10 + j : Int) = 10 * i + j := by omega
  simp (disch := omega) only [h1, h2, gd_t, if_neg, if_pos, ltI, ltM, ptM hP, plM hP, h3, is_stc]
theorem putM {F : Nat} {b : Nat} (hP : Pb b) {w : aI} (hK : TOK w b) {i j : Int} {v : Int} (hi : 0 ≤ i ∧ i < 10) (hj : 0 ≤ j ∧ j < 10) : f_X7_put F (b + 14) i j v w = some (stc w (b + 15) (rs (w (b + 15)) (10 * i + j) v)) := by
  have h1 := hK.rM
  have h2 := hK.cM
  unfold f_X7_put
  have h3 : (i * 10 + j : Int) = 10 * i + j := by omega
  simp (disch := omega) only [h1, h2, gd_t, if_neg, if_pos, ltI, ltM, ptM hP, plM hP, h3, is_stc]
theorem growM {F : Nat} {b : Nat} (hP : Pb b) {w : aI} (hK : TOK w b) {i j : Int} {v : Int} (hi : 0 ≤ i ∧ i < 10) (hj : 0 ≤ j ∧ j < 10) : f_X7_grow F (b + 14) i j v w = some (stc w (b + 15) (rs (w (b + 15)) (10 * i + j) (w (b + 15) (10 * i + j) + v))) := by
  have h1 := hK.rM
  have h2 := hK.cM
  unfold f_X7_grow
  have h3 : (i * 10 + j : Int) = 10 * i + j := by omega
  simp (disch := omega) only [h1, h2, gd_t, if_neg, if_pos, ltI, ltM, ptM hP, plM hP, h3, is_stc]
theorem getN {F : Nat} {b : Nat} (hP : Pb b) {w : aI} (hK : TOK w b) {i j : Int} (hi : 0 ≤ i ∧ i < 10) (hj : 0 ≤ j ∧ j < 10) : f_X7_get F (b + 16) i j w = some (w (b + 17) (10 * i + j)) := by
  have h1 := hK.rN
  have h2 := hK.cN
  unfold f_X7_get
  have h3 : (i * 10 + j : Int) = 10 * i + j := by omega
  simp (disch := omega) only [h1, h2, gd_t, if_neg, if_pos, ltI, ltM, ptN hP, plN hP, h3, is_stc]
theorem putN {F : Nat} {b : Nat} (hP : Pb b) {w : aI} (hK : TOK w b) {i j : Int} {v : Int} (hi : 0 ≤ i ∧ i < 10) (hj : 0 ≤ j ∧ j < 10) : f_X7_put F (b + 16) i j v w = some (stc w (b + 17) (rs (w (b + 17)) (10 * i + j) v)) := by
  have h1 := hK.rN
  have h2 := hK.cN
  unfold f_X7_put
  have h3 : (i * 10 + j : Int) = 10 * i + j := by omega
  simp (disch := omega) only [h1, h2, gd_t, if_neg, if_pos, ltI, ltM, ptN hP, plN hP, h3, is_stc]
theorem growN {F : Nat} {b : Nat} (hP : Pb b) {w : aI} (hK : TOK w b) {i j : Int} {v : Int} (hi : 0 ≤ i ∧ i < 10) (hj : 0 ≤ j ∧ j < 10) : f_X7_grow F (b + 16) i j v w = some (stc w (b + 17) (rs (w (b + 17)) (10 * i + j) (w (b + 17) (10 * i + j) + v))) := by
  have h1 := hK.rN
  have h2 := hK.cN
  unfold f_X7_grow
  have h3 : (i * 10 + j : Int) = 10 * i + j := by omega
  simp (disch := omega) only [h1, h2, gd_t, if_neg, if_pos, ltI, ltM, ptN hP, plN hP, h3, is_stc]
