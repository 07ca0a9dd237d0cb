/-! ===== what the class's constructor has made is its world ===== -/
def dR (n : Nat) : Int := if n = 80 then 10 else if n = 60 then 20 else if n = 390 then 30 else if n = 150 then 30 else if n = 100 then 10 else 1
def dC (n : Nat) : Int := if n = 80 then 8 else if n = 60 then 3 else if n = 390 then 13 else if n = 150 then 5 else if n = 100 then 10 else (n : Int)
def w0z : aI := fun a k => if shK a = 16 then (if k = 0 then dR (shL (a + 1)) else if k = 1 then dC (shL (a + 1)) else 0) else if a = 5 ∧ k = 6 then -1 else 0
def w1z : aI := iset w0z 999 0 210
def Fcz (ad : Nat → Nat) (aT : Nat → ClassId) (a : Nat) : Nat × va_E := (ad a, cve ad aT (cm w0z) a)
theorem cm_z0 {a : Nat} (h : ∀ k, w0z a k = 0) : cm w0z a = fun _ => 0 := by
  funext k
  show oI (w0z a k) = 0
  rw [h]
  rfl
theorem tabc (ad : Nat → Nat) (aT : Nat → ClassId) (a a1 n : Nat) (r c : Int) (rI cI : Int32) (h1 : shK a = 10 + 6) (hR : shR a 2 = a1) (h2 : w0z a 0 = r) (h3 : w0z a 1 = c) (hr : oI r = rI) (hc : oI c = cI) (h4 : shK a1 = 0) (h5 : shL a1 = n) (h6 : ¬ shK a1 = 16) (h7 : ¬ a1 = 5) : [Fcz ad aT a, Fcz ad aT a1] = wTab aT (ad a) (ad a1) rI cI n := by
  have e0 : cm w0z a1 = fun _ => 0 := cm_z0 (fun k => (if_neg h6).trans (if_neg (fun z => h7 z.1)))
  have e1 : fvv ad (cm w0z a) (shR a) (rfB 6) = [.int (oI (w0z a 0)), .int (oI (w0z a 1)), .ref (ad (shR a 2))] := rfl
  unfold Fcz
  rw [cve_obj (ci := 6) h1, cve_arr h4 (by decide), h5, e0, e1, h2, h3, hr, hc, hR]
  rfl
theorem bytc (ad : Nat → Nat) (aT : Nat → ClassId) (a a1 n : Nat) (h1 : shK a = 10 + 0) (hR : shR a 0 = a1) (h2 : w0z a 1 = 0) (h4 : shK a1 = 0) (h5 : shL a1 = n) (h6 : ¬ shK a1 = 16) (h7 : ¬ a1 = 5) : [Fcz ad aT a, Fcz ad aT a1] = wByt aT (ad a) (ad a1) n := by
  have e0 : cm w0z a1 = fun _ => 0 := cm_z0 (fun k => (if_neg h6).trans (if_neg (fun z => h7 z.1)))
  have e1 : fvv ad (cm w0z a) (shR a) (rfB 0) = [.ref (ad (shR a 0)), .int (oI (w0z a 1))] := rfl
  unfold Fcz
  rw [cve_obj (ci := 0) h1, cve_arr h4 (by decide), h5, e0, e1, h2, hR]
  rfl
theorem wPos_cg {aT : Nat → ClassId} {c d : Nat → Nat} (h : ∀ j, j < 18 → d j = c j) : wPos aT d = wPos aT c := by
  unfold wPos wRoa wTab
  simp only [Nat.reduceAdd, h 0 (by decide), h 1 (by decide), h 2 (by decide), h 3 (by decide), h 4 (by decide), h 5 (by decide), h 6 (by decide), h 7 (by decide), h 8 (by decide), h 9 (by decide), h 10 (by decide), h 11 (by decide), h 12 (by decide), h 13 (by decide), h 14 (by decide), h 15 (by decide), h 16 (by decide), h 17 (by decide)]

theorem pblk_12 (ad : Nat → Nat) (aT : Nat → ClassId) : ([12, 13, 14, 15, 16, 17, 18, 19, 20, 21, 22, 23, 24, 25, 26, 27, 28, 29] : List Nat).map (Fcz ad aT) = wPos aT (fun j => ad (12 + j)) := by
  have t1 := tabc ad aT 13 14 80 10 8 10 8 (by decide +kernel) (by decide +kernel) (by decide +kernel) (by decide +kernel) (by decide) (by decide) (by decide +kernel) (by decide +kernel) (by decide +kernel) (by decide)
  have t2 := tabc ad aT 15 16 60 20 3 20 3 (by decide +kernel) (by decide +kernel) (by decide +kernel) (by decide +kernel) (by decide) (by decide) (by decide +kernel) (by decide +kernel) (by decide +kernel) (by decide)
  have t3 := tabc ad aT 17 18 390 30 13 30 13 (by decide +kernel) (by decide +kernel) (by decide +kernel) (by decide +kernel) (by decide) (by decide) (by decide +kernel) (by decide +kernel) (by decide +kernel) (by decide)
  have t4 := tabc ad aT 19 20 3 1 3 1 3 (by decide +kernel) (by decide +kernel) (by decide +kernel) (by decide +kernel) (by decide) (by decide) (by decide +kernel) (by decide +kernel) (by decide +kernel) (by decide)
  have t5 := tabc ad aT 21 22 11 1 11 1 11 (by decide +kernel) (by decide +kernel) (by decide +kernel) (by decide +kernel) (by decide) (by decide) (by decide +kernel) (by decide +kernel) (by decide +kernel) (by decide)
  have t6 := tabc ad aT 24 25 100 10 10 10 10 (by decide +kernel) (by decide +kernel) (by decide +kernel) (by decide +kernel) (by decide) (by decide) (by decide +kernel) (by decide +kernel) (by decide +kernel) (by decide)
  have t7 := tabc ad aT 26 27 100 10 10 10 10 (by decide +kernel) (by decide +kernel) (by decide +kernel) (by decide +kernel) (by decide) (by decide) (by decide +kernel) (by decide +kernel) (by decide +kernel) (by decide)
  have t8 := tabc ad aT 28 29 100 10 10 10 10 (by decide +kernel) (by decide +kernel) (by decide +kernel) (by decide +kernel) (by decide) (by decide) (by decide +kernel) (by decide +kernel) (by decide +kernel) (by decide)
  have o1 : Fcz ad aT 12 = (ad 12, .inr (4, [.int 0, .int 0, .int 0, .int 0, .ref (ad 13), .ref (ad 15), .ref (ad 17), .ref (ad 19), .ref (ad 21), .ref (ad 23)])) := by
    have e1 : fvv ad (cm w0z 12) (shR 12) (rfB 2) = [.int (oI (w0z 12 0)), .int (oI (w0z 12 1)), .int (oI (w0z 12 2)), .int (oI (w0z 12 3)), .ref (ad (shR 12 4)), .ref (ad (shR 12 5)), .ref (ad (shR 12 6)), .ref (ad (shR 12 7)), .ref (ad (shR 12 8)), .ref (ad (shR 12 9))] := rfl
    unfold Fcz
    rw [cve_obj (ci := 2) (by decide +kernel), e1, show w0z 12 0 = 0 by decide +kernel, show w0z 12 1 = 0 by decide +kernel, show w0z 12 2 = 0 by decide +kernel, show w0z 12 3 = 0 by decide +kernel, show shR 12 4 = 13 by decide +kernel, show shR 12 5 = 15 by decide +kernel, show shR 12 6 = 17 by decide +kernel, show shR 12 7 = 19 by decide +kernel, show shR 12 8 = 21 by decide +kernel, show shR 12 9 = 23 by decide +kernel]
    rfl
  have o2 : Fcz ad aT 23 = (ad 23, .inr (5, [.ref (ad 24), .ref (ad 26), .ref (ad 28)])) := by
    have e1 : fvv ad (cm w0z 23) (shR 23) (rfB 3) = [.ref (ad (shR 23 0)), .ref (ad (shR 23 1)), .ref (ad (shR 23 2))] := rfl
    unfold Fcz
    rw [cve_obj (ci := 3) (by decide +kernel), e1, show shR 23 0 = 24 by decide +kernel, show shR 23 1 = 26 by decide +kernel, show shR 23 2 = 28 by decide +kernel]
    rfl
  show Fcz ad aT 12 :: ([Fcz ad aT 13, Fcz ad aT 14] ++ ([Fcz ad aT 15, Fcz ad aT 16] ++ ([Fcz ad aT 17, Fcz ad aT 18] ++ ([Fcz ad aT 19, Fcz ad aT 20] ++ ([Fcz ad aT 21, Fcz ad aT 22] ++ (Fcz ad aT 23 :: ([Fcz ad aT 24, Fcz ad aT 25] ++ ([Fcz ad aT 26, Fcz ad aT 27] ++ [Fcz ad aT 28, Fcz ad aT 29])))))))) = _
  rw [t1, t2, t3, t4, t5, t6, t7, t8, o1, o2]
  unfold wPos wRoa
  simp only [List.nil_append, List.append_assoc, List.cons_append, Nat.reduceAdd]
theorem pblk_30 (ad : Nat → Nat) (aT : Nat → ClassId) : ([30, 31, 32, 33, 34, 35, 36, 37, 38, 39, 40, 41, 42, 43, 44, 45, 46, 47] : List Nat).map (Fcz ad aT) = wPos aT (fun j => ad (30 + j)) := by
  have t1 := tabc ad aT 31 32 80 10 8 10 8 (by decide +kernel) (by decide +kernel) (by decide +kernel) (by decide +kernel) (by decide) (by decide) (by decide +kernel) (by decide +kernel) (by decide +kernel) (by decide)
  have t2 := tabc ad aT 33 34 60 20 3 20 3 (by decide +kernel) (by decide +kernel) (by decide +kernel) (by decide +kernel) (by decide) (by decide) (by decide +kernel) (by decide +kernel) (by decide +kernel) (by decide)
  have t3 := tabc ad aT 35 36 390 30 13 30 13 (by decide +kernel) (by decide +kernel) (by decide +kernel) (by decide +kernel) (by decide) (by decide) (by decide +kernel) (by decide +kernel) (by decide +kernel) (by decide)
  have t4 := tabc ad aT 37 38 3 1 3 1 3 (by decide +kernel) (by decide +kernel) (by decide +kernel) (by decide +kernel) (by decide) (by decide) (by decide +kernel) (by decide +kernel) (by decide +kernel) (by decide)
  have t5 := tabc ad aT 39 40 11 1 11 1 11 (by decide +kernel) (by decide +kernel) (by decide +kernel) (by decide +kernel) (by decide) (by decide) (by decide +kernel) (by decide +kernel) (by decide +kernel) (by decide)
  have t6 := tabc ad aT 42 43 100 10 10 10 10 (by decide +kernel) (by decide +kernel) (by decide +kernel) (by decide +kernel) (by decide) (by decide) (by decide +kernel) (by decide +kernel) (by decide +kernel) (by decide)
  have t7 := tabc ad aT 44 45 100 10 10 10 10 (by decide +kernel) (by decide +kernel) (by decide +kernel) (by decide +kernel) (by decide) (by decide) (by decide +kernel) (by decide +kernel) (by decide +kernel) (by decide)
  have t8 := tabc ad aT 46 47 100 10 10 10 10 (by decide +kernel) (by decide +kernel) (by decide +kernel) (by decide +kernel) (by decide) (by decide) (by decide +kernel) (by decide +kernel) (by decide +kernel) (by decide)
  have o1 : Fcz ad aT 30 = (ad 30, .inr (4, [.int 0, .int 0, .int 0, .int 0, .ref (ad 31), .ref (ad 33), .ref (ad 35), .ref (ad 37), .ref (ad 39), .ref (ad 41)])) := by
    have e1 : fvv ad (cm w0z 30) (shR 30) (rfB 2) = [.int (oI (w0z 30 0)), .int (oI (w0z 30 1)), .int (oI (w0z 30 2)), .int (oI (w0z 30 3)), .ref (ad (shR 30 4)), .ref (ad (shR 30 5)), .ref (ad (shR 30 6)), .ref (ad (shR 30 7)), .ref (ad (shR 30 8)), .ref (ad (shR 30 9))] := rfl
    unfold Fcz
    rw [cve_obj (ci := 2) (by decide +kernel), e1, show w0z 30 0 = 0 by decide +kernel, show w0z 30 1 = 0 by decide +kernel, show w0z 30 2 = 0 by decide +kernel, show w0z 30 3 = 0 by decide +kernel, show shR 30 4 = 31 by decide +kernel, show shR 30 5 = 33 by decide +kernel, show shR 30 6 = 35 by decide +kernel, show shR 30 7 = 37 by decide +kernel, show shR 30 8 = 39 by decide +kernel, show shR 30 9 = 41 by decide +kernel]
    rfl
  have o2 : Fcz ad aT 41 = (ad 41, .inr (5, [.ref (ad 42), .ref (ad 44), .ref (ad 46)])) := by
    have e1 : fvv ad (cm w0z 41) (shR 41) (rfB 3) = [.ref (ad (shR 41 0)), .ref (ad (shR 41 1)), .ref (ad (shR 41 2))] := rfl
    unfold Fcz
    rw [cve_obj (ci := 3) (by decide +kernel), e1, show shR 41 0 = 42 by decide +kernel, show shR 41 1 = 44 by decide +kernel, show shR 41 2 = 46 by decide +kernel]
    rfl
  show Fcz ad aT 30 :: ([Fcz ad aT 31, Fcz ad aT 32] ++ ([Fcz ad aT 33, Fcz ad aT 34] ++ ([Fcz ad aT 35, Fcz ad aT 36] ++ ([Fcz ad aT 37, Fcz ad aT 38] ++ ([Fcz ad aT 39, Fcz ad aT 40] ++ (Fcz ad aT 41 :: ([Fcz ad aT 42, Fcz ad aT 43] ++ ([Fcz ad aT 44, Fcz ad aT 45] ++ [Fcz ad aT 46, Fcz ad aT 47])))))))) = _
  rw [t1, t2, t3, t4, t5, t6, t7, t8, o1, o2]
  unfold wPos wRoa
  simp only [List.nil_append, List.append_assoc, List.cons_append, Nat.reduceAdd]
theorem pblk_48 (ad : Nat → Nat) (aT : Nat → ClassId) : ([48, 49, 50, 51, 52, 53, 54, 55, 56, 57, 58, 59, 60, 61, 62, 63, 64, 65] : List Nat).map (Fcz ad aT) = wPos aT (fun j => ad (48 + j)) := by
  have t1 := tabc ad aT 49 50 80 10 8 10 8 (by decide +kernel) (by decide +kernel) (by decide +kernel) (by decide +kernel) (by decide) (by decide) (by decide +kernel) (by decide +kernel) (by decide +kernel) (by decide)
  have t2 := tabc ad aT 51 52 60 20 3 20 3 (by decide +kernel) (by decide +kernel) (by decide +kernel) (by decide +kernel) (by decide) (by decide) (by decide +kernel) (by decide +kernel) (by decide +kernel) (by decide)
  have t3 := tabc ad aT 53 54 390 30 13 30 13 (by decide +kernel) (by decide +kernel) (by decide +kernel) (by decide +kernel) (by decide) (by decide) (by decide +kernel) (by decide +kernel) (by decide +kernel) (by decide)
  have t4 := tabc ad aT 55 56 3 1 3 1 3 (by decide +kernel) (by decide +kernel) (by decide +kernel) (by decide +kernel) (by decide) (by decide) (by decide +kernel) (by decide +kernel) (by decide +kernel) (by decide)
  have t5 := tabc ad aT 57 58 11 1 11 1 11 (by decide +kernel) (by decide +kernel) (by decide +kernel) (by decide +kernel) (by decide) (by decide) (by decide +kernel) (by decide +kernel) (by decide +kernel) (by decide)
  have t6 := tabc ad aT 60 61 100 10 10 10 10 (by decide +kernel) (by decide +kernel) (by decide +kernel) (by decide +kernel) (by decide) (by decide) (by decide +kernel) (by decide +kernel) (by decide +kernel) (by decide)
  have t7 := tabc ad aT 62 63 100 10 10 10 10 (by decide +kernel) (by decide +kernel) (by decide +kernel) (by decide +kernel) (by decide) (by decide) (by decide +kernel) (by decide +kernel) (by decide +kernel) (by decide)
  have t8 := tabc ad aT 64 65 100 10 10 10 10 (by decide +kernel) (by decide +kernel) (by decide +kernel) (by decide +kernel) (by decide) (by decide) (by decide +kernel) (by decide +kernel) (by decide +kernel) (by decide)
  have o1 : Fcz ad aT 48 = (ad 48, .inr (4, [.int 0, .int 0, .int 0, .int 0, .ref (ad 49), .ref (ad 51), .ref (ad 53), .ref (ad 55), .ref (ad 57), .ref (ad 59)])) := by
    have e1 : fvv ad (cm w0z 48) (shR 48) (rfB 2) = [.int (oI (w0z 48 0)), .int (oI (w0z 48 1)), .int (oI (w0z 48 2)), .int (oI (w0z 48 3)), .ref (ad (shR 48 4)), .ref (ad (shR 48 5)), .ref (ad (shR 48 6)), .ref (ad (shR 48 7)), .ref (ad (shR 48 8)), .ref (ad (shR 48 9))] := rfl
    unfold Fcz
    rw [cve_obj (ci := 2) (by decide +kernel), e1, show w0z 48 0 = 0 by decide +kernel, show w0z 48 1 = 0 by decide +kernel, show w0z 48 2 = 0 by decide +kernel, show w0z 48 3 = 0 by decide +kernel, show shR 48 4 = 49 by decide +kernel, show shR 48 5 = 51 by decide +kernel, show shR 48 6 = 53 by decide +kernel, show shR 48 7 = 55 by decide +kernel, show shR 48 8 = 57 by decide +kernel, show shR 48 9 = 59 by decide +kernel]
    rfl
  have o2 : Fcz ad aT 59 = (ad 59, .inr (5, [.ref (ad 60), .ref (ad 62), .ref (ad 64)])) := by
    have e1 : fvv ad (cm w0z 59) (shR 59) (rfB 3) = [.ref (ad (shR 59 0)), .ref (ad (shR 59 1)), .ref (ad (shR 59 2))] := rfl
    unfold Fcz
    rw [cve_obj (ci := 3) (by decide +kernel), e1, show shR 59 0 = 60 by decide +kernel, show shR 59 1 = 62 by decide +kernel, show shR 59 2 = 64 by decide +kernel]
    rfl
  show Fcz ad aT 48 :: ([Fcz ad aT 49, Fcz ad aT 50] ++ ([Fcz ad aT 51, Fcz ad aT 52] ++ ([Fcz ad aT 53, Fcz ad aT 54] ++ ([Fcz ad aT 55, Fcz ad aT 56] ++ ([Fcz ad aT 57, Fcz ad aT 58] ++ (Fcz ad aT 59 :: ([Fcz ad aT 60, Fcz ad aT 61] ++ ([Fcz ad aT 62, Fcz ad aT 63] ++ [Fcz ad aT 64, Fcz ad aT 65])))))))) = _
  rw [t1, t2, t3, t4, t5, t6, t7, t8, o1, o2]
  unfold wPos wRoa
  simp only [List.nil_append, List.append_assoc, List.cons_append, Nat.reduceAdd]
theorem pblk_66 (ad : Nat → Nat) (aT : Nat → ClassId) : ([66, 67, 68, 69, 70, 71, 72, 73, 74, 75, 76, 77, 78, 79, 80, 81, 82, 83] : List Nat).map (Fcz ad aT) = wPos aT (fun j => ad (66 + j)) := by
  have t1 := tabc ad aT 67 68 80 10 8 10 8 (by decide +kernel) (by decide +kernel) (by decide +kernel) (by decide +kernel) (by decide) (by decide) (by decide +kernel) (by decide +kernel) (by decide +kernel) (by decide)
  have t2 := tabc ad aT 69 70 60 20 3 20 3 (by decide +kernel) (by decide +kernel) (by decide +kernel) (by decide +kernel) (by decide) (by decide) (by decide +kernel) (by decide +kernel) (by decide +kernel) (by decide)
  have t3 := tabc ad aT 71 72 390 30 13 30 13 (by decide +kernel) (by decide +kernel) (by decide +kernel) (by decide +kernel) (by decide) (by decide) (by decide +kernel) (by decide +kernel) (by decide +kernel) (by decide)
  have t4 := tabc ad aT 73 74 3 1 3 1 3 (by decide +kernel) (by decide +kernel) (by decide +kernel) (by decide +kernel) (by decide) (by decide) (by decide +kernel) (by decide +kernel) (by decide +kernel) (by decide)
  have t5 := tabc ad aT 75 76 11 1 11 1 11 (by decide +kernel) (by decide +kernel) (by decide +kernel) (by decide +kernel) (by decide) (by decide) (by decide +kernel) (by decide +kernel) (by decide +kernel) (by decide)
  have t6 := tabc ad aT 78 79 100 10 10 10 10 (by decide +kernel) (by decide +kernel) (by decide +kernel) (by decide +kernel) (by decide) (by decide) (by decide +kernel) (by decide +kernel) (by decide +kernel) (by decide)
  have t7 := tabc ad aT 80 81 100 10 10 10 10 (by decide +kernel) (by decide +kernel) (by decide +kernel) (by decide +kernel) (by decide) (by decide) (by decide +kernel) (by decide +kernel) (by decide +kernel) (by decide)
  have t8 := tabc ad aT 82 83 100 10 10 10 10 (by decide +kernel) (by decide +kernel) (by decide +kernel) (by decide +kernel) (by decide) (by decide) (by decide +kernel) (by decide +kernel) (by decide +kernel) (by decide)
  have o1 : Fcz ad aT 66 = (ad 66, .inr (4, [.int 0, .int 0, .int 0, .int 0, .ref (ad 67), .ref (ad 69), .ref (ad 71), .ref (ad 73), .ref (ad 75), .ref (ad 77)])) := by
    have e1 : fvv ad (cm w0z 66) (shR 66) (rfB 2) = [.int (oI (w0z 66 0)), .int (oI (w0z 66 1)), .int (oI (w0z 66 2)), .int (oI (w0z 66 3)), .ref (ad (shR 66 4)), .ref (ad (shR 66 5)), .ref (ad (shR 66 6)), .ref (ad (shR 66 7)), .ref (ad (shR 66 8)), .ref (ad (shR 66 9))] := rfl
    unfold Fcz
    rw [cve_obj (ci := 2) (by decide +kernel), e1, show w0z 66 0 = 0 by decide +kernel, show w0z 66 1 = 0 by decide +kernel, show w0z 66 2 = 0 by decide +kernel, show w0z 66 3 = 0 by decide +kernel, show shR 66 4 = 67 by decide +kernel, show shR 66 5 = 69 by decide +kernel, show shR 66 6 = 71 by decide +kernel, show shR 66 7 = 73 by decide +kernel, show shR 66 8 = 75 by decide +kernel, show shR 66 9 = 77 by decide +kernel]
    rfl
  have o2 : Fcz ad aT 77 = (ad 77, .inr (5, [.ref (ad 78), .ref (ad 80), .ref (ad 82)])) := by
    have e1 : fvv ad (cm w0z 77) (shR 77) (rfB 3) = [.ref (ad (shR 77 0)), .ref (ad (shR 77 1)), .ref (ad (shR 77 2))] := rfl
    unfold Fcz
    rw [cve_obj (ci := 3) (by decide +kernel), e1, show shR 77 0 = 78 by decide +kernel, show shR 77 1 = 80 by decide +kernel, show shR 77 2 = 82 by decide +kernel]
    rfl
  show Fcz ad aT 66 :: ([Fcz ad aT 67, Fcz ad aT 68] ++ ([Fcz ad aT 69, Fcz ad aT 70] ++ ([Fcz ad aT 71, Fcz ad aT 72] ++ ([Fcz ad aT 73, Fcz ad aT 74] ++ ([Fcz ad aT 75, Fcz ad aT 76] ++ (Fcz ad aT 77 :: ([Fcz ad aT 78, Fcz ad aT 79] ++ ([Fcz ad aT 80, Fcz ad aT 81] ++ [Fcz ad aT 82, Fcz ad aT 83])))))))) = _
  rw [t1, t2, t3, t4, t5, t6, t7, t8, o1, o2]
  unfold wPos wRoa
  simp only [List.nil_append, List.append_assoc, List.cons_append, Nat.reduceAdd]
theorem pblk_84 (ad : Nat → Nat) (aT : Nat → ClassId) : ([84, 85, 86, 87, 88, 89, 90, 91, 92, 93, 94, 95, 96, 97, 98, 99, 100, 101] : List Nat).map (Fcz ad aT) = wPos aT (fun j => ad (84 + j)) := by
  have t1 := tabc ad aT 85 86 80 10 8 10 8 (by decide +kernel) (by decide +kernel) (by decide +kernel) (by decide +kernel) (by decide) (by decide) (by decide +kernel) (by decide +kernel) (by decide +kernel) (by decide)
  have t2 := tabc ad aT 87 88 60 20 3 20 3 (by decide +kernel) (by decide +kernel) (by decide +kernel) (by decide +kernel) (by decide) (by decide) (by decide +kernel) (by decide +kernel) (by decide +kernel) (by decide)
  have t3 := tabc ad aT 89 90 390 30 13 30 13 (by decide +kernel) (by decide +kernel) (by decide +kernel) (by decide +kernel) (by decide) (by decide) (by decide +kernel) (by decide +kernel) (by decide +kernel) (by decide)
  have t4 := tabc ad aT 91 92 3 1 3 1 3 (by decide +kernel) (by decide +kernel) (by decide +kernel) (by decide +kernel) (by decide) (by decide) (by decide +kernel) (by decide +kernel) (by decide +kernel) (by decide)
  have t5 := tabc ad aT 93 94 11 1 11 1 11 (by decide +kernel) (by decide +kernel) (by decide +kernel) (by decide +kernel) (by decide) (by decide) (by decide +kernel) (by decide +kernel) (by decide +kernel) (by decide)
  have t6 := tabc ad aT 96 97 100 10 10 10 10 (by decide +kernel) (by decide +kernel) (by decide +kernel) (by decide +kernel) (by decide) (by decide) (by decide +kernel) (by decide +kernel) (by decide +kernel) (by decide)
  have t7 := tabc ad aT 98 99 100 10 10 10 10 (by decide +kernel) (by decide +kernel) (by decide +kernel) (by decide +kernel) (by decide) (by decide) (by decide +kernel) (by decide +kernel) (by decide +kernel) (by decide)
  have t8 := tabc ad aT 100 101 100 10 10 10 10 (by decide +kernel) (by decide +kernel) (by decide +kernel) (by decide +kernel) (by decide) (by decide) (by decide +kernel) (by decide +kernel) (by decide +kernel) (by decide)
  have o1 : Fcz ad aT 84 = (ad 84, .inr (4, [.int 0, .int 0, .int 0, .int 0, .ref (ad 85), .ref (ad 87), .ref (ad 89), .ref (ad 91), .ref (ad 93), .ref (ad 95)])) := by
    have e1 : fvv ad (cm w0z 84) (shR 84) (rfB 2) = [.int (oI (w0z 84 0)), .int (oI (w0z 84 1)), .int (oI (w0z 84 2)), .int (oI (w0z 84 3)), .ref (ad (shR 84 4)), .ref (ad (shR 84 5)), .ref (ad (shR 84 6)), .ref (ad (shR 84 7)), .ref (ad (shR 84 8)), .ref (ad (shR 84 9))] := rfl
    unfold Fcz
    rw [cve_obj (ci := 2) (by decide +kernel), e1, show w0z 84 0 = 0 by decide +kernel, show w0z 84 1 = 0 by decide +kernel, show w0z 84 2 = 0 by decide +kernel, show w0z 84 3 = 0 by decide +kernel, show shR 84 4 = 85 by decide +kernel, show shR 84 5 = 87 by decide +kernel, show shR 84 6 = 89 by decide +kernel, show shR 84 7 = 91 by decide +kernel, show shR 84 8 = 93 by decide +kernel, show shR 84 9 = 95 by decide +kernel]
    rfl
  have o2 : Fcz ad aT 95 = (ad 95, .inr (5, [.ref (ad 96), .ref (ad 98), .ref (ad 100)])) := by
    have e1 : fvv ad (cm w0z 95) (shR 95) (rfB 3) = [.ref (ad (shR 95 0)), .ref (ad (shR 95 1)), .ref (ad (shR 95 2))] := rfl
    unfold Fcz
    rw [cve_obj (ci := 3) (by decide +kernel), e1, show shR 95 0 = 96 by decide +kernel, show shR 95 1 = 98 by decide +kernel, show shR 95 2 = 100 by decide +kernel]
    rfl
  show Fcz ad aT 84 :: ([Fcz ad aT 85, Fcz ad aT 86] ++ ([Fcz ad aT 87, Fcz ad aT 88] ++ ([Fcz ad aT 89, Fcz ad aT 90] ++ ([Fcz ad aT 91, Fcz ad aT 92] ++ ([Fcz ad aT 93, Fcz ad aT 94] ++ (Fcz ad aT 95 :: ([Fcz ad aT 96, Fcz ad aT 97] ++ ([Fcz ad aT 98, Fcz ad aT 99] ++ [Fcz ad aT 100, Fcz ad aT 101])))))))) = _
  rw [t1, t2, t3, t4, t5, t6, t7, t8, o1, o2]
  unfold wPos wRoa
  simp only [List.nil_append, List.append_assoc, List.cons_append, Nat.reduceAdd]
theorem pblk_102 (ad : Nat → Nat) (aT : Nat → ClassId) : ([102, 103, 104, 105, 106, 107, 108, 109, 110, 111, 112, 113, 114, 115, 116, 117, 118, 119] : List Nat).map (Fcz ad aT) = wPos aT (fun j => ad (102 + j)) := by
  have t1 := tabc ad aT 103 104 80 10 8 10 8 (by decide +kernel) (by decide +kernel) (by decide +kernel) (by decide +kernel) (by decide) (by decide) (by decide +kernel) (by decide +kernel) (by decide +kernel) (by decide)
  have t2 := tabc ad aT 105 106 60 20 3 20 3 (by decide +kernel) (by decide +kernel) (by decide +kernel) (by decide +kernel) (by decide) (by decide) (by decide +kernel) (by decide +kernel) (by decide +kernel) (by decide)
  have t3 := tabc ad aT 107 108 390 30 13 30 13 (by decide +kernel) (by decide +kernel) (by decide +kernel) (by decide +kernel) (by decide) (by decide) (by decide +kernel) (by decide +kernel) (by decide +kernel) (by decide)
  have t4 := tabc ad aT 109 110 3 1 3 1 3 (by decide +kernel) (by decide +kernel) (by decide +kernel) (by decide +kernel) (by decide) (by decide) (by decide +kernel) (by decide +kernel) (by decide +kernel) (by decide)
  have t5 := tabc ad aT 111 112 11 1 11 1 11 (by decide +kernel) (by decide +kernel) (by decide +kernel) (by decide +kernel) (by decide) (by decide) (by decide +kernel) (by decide +kernel) (by decide +kernel) (by decide)
  have t6 := tabc ad aT 114 115 100 10 10 10 10 (by decide +kernel) (by decide +kernel) (by decide +kernel) (by decide +kernel) (by decide) (by decide) (by decide +kernel) (by decide +kernel) (by decide +kernel) (by decide)
  have t7 := tabc ad aT 116 117 100 10 10 10 10 (by decide +kernel) (by decide +kernel) (by decide +kernel) (by decide +kernel) (by decide) (by decide) (by decide +kernel) (by decide +kernel) (by decide +kernel) (by decide)
  have t8 := tabc ad aT 118 119 100 10 10 10 10 (by decide +kernel) (by decide +kernel) (by decide +kernel) (by decide +kernel) (by decide) (by decide) (by decide +kernel) (by decide +kernel) (by decide +kernel) (by decide)
  have o1 : Fcz ad aT 102 = (ad 102, .inr (4, [.int 0, .int 0, .int 0, .int 0, .ref (ad 103), .ref (ad 105), .ref (ad 107), .ref (ad 109), .ref (ad 111), .ref (ad 113)])) := by
    have e1 : fvv ad (cm w0z 102) (shR 102) (rfB 2) = [.int (oI (w0z 102 0)), .int (oI (w0z 102 1)), .int (oI (w0z 102 2)), .int (oI (w0z 102 3)), .ref (ad (shR 102 4)), .ref (ad (shR 102 5)), .ref (ad (shR 102 6)), .ref (ad (shR 102 7)), .ref (ad (shR 102 8)), .ref (ad (shR 102 9))] := rfl
    unfold Fcz
    rw [cve_obj (ci := 2) (by decide +kernel), e1, show w0z 102 0 = 0 by decide +kernel, show w0z 102 1 = 0 by decide +kernel, show w0z 102 2 = 0 by decide +kernel, show w0z 102 3 = 0 by decide +kernel, show shR 102 4 = 103 by decide +kernel, show shR 102 5 = 105 by decide +kernel, show shR 102 6 = 107 by decide +kernel, show shR 102 7 = 109 by decide +kernel, show shR 102 8 = 111 by decide +kernel, show shR 102 9 = 113 by decide +kernel]
    rfl
  have o2 : Fcz ad aT 113 = (ad 113, .inr (5, [.ref (ad 114), .ref (ad 116), .ref (ad 118)])) := by
    have e1 : fvv ad (cm w0z 113) (shR 113) (rfB 3) = [.ref (ad (shR 113 0)), .ref (ad (shR 113 1)), .ref (ad (shR 113 2))] := rfl
    unfold Fcz
    rw [cve_obj (ci := 3) (by decide +kernel), e1, show shR 113 0 = 114 by decide +kernel, show shR 113 1 = 116 by decide +kernel, show shR 113 2 = 118 by decide +kernel]
    rfl
  show Fcz ad aT 102 :: ([Fcz ad aT 103, Fcz ad aT 104] ++ ([Fcz ad aT 105, Fcz ad aT 106] ++ ([Fcz ad aT 107, Fcz ad aT 108] ++ ([Fcz ad aT 109, Fcz ad aT 110] ++ ([Fcz ad aT 111, Fcz ad aT 112] ++ (Fcz ad aT 113 :: ([Fcz ad aT 114, Fcz ad aT 115] ++ ([Fcz ad aT 116, Fcz ad aT 117] ++ [Fcz ad aT 118, Fcz ad aT 119])))))))) = _
  rw [t1, t2, t3, t4, t5, t6, t7, t8, o1, o2]
  unfold wPos wRoa
  simp only [List.nil_append, List.append_assoc, List.cons_append, Nat.reduceAdd]
theorem pblk_120 (ad : Nat → Nat) (aT : Nat → ClassId) : ([120, 121, 122, 123, 124, 125, 126, 127, 128, 129, 130, 131, 132, 133, 134, 135, 136, 137] : List Nat).map (Fcz ad aT) = wPos aT (fun j => ad (120 + j)) := by
  have t1 := tabc ad aT 121 122 80 10 8 10 8 (by decide +kernel) (by decide +kernel) (by decide +kernel) (by decide +kernel) (by decide) (by decide) (by decide +kernel) (by decide +kernel) (by decide +kernel) (by decide)
  have t2 := tabc ad aT 123 124 60 20 3 20 3 (by decide +kernel) (by decide +kernel) (by decide +kernel) (by decide +kernel) (by decide) (by decide) (by decide +kernel) (by decide +kernel) (by decide +kernel) (by decide)
  have t3 := tabc ad aT 125 126 390 30 13 30 13 (by decide +kernel) (by decide +kernel) (by decide +kernel) (by decide +kernel) (by decide) (by decide) (by decide +kernel) (by decide +kernel) (by decide +kernel) (by decide)
  have t4 := tabc ad aT 127 128 3 1 3 1 3 (by decide +kernel) (by decide +kernel) (by decide +kernel) (by decide +kernel) (by decide) (by decide) (by decide +kernel) (by decide +kernel) (by decide +kernel) (by decide)
  have t5 := tabc ad aT 129 130 11 1 11 1 11 (by decide +kernel) (by decide +kernel) (by decide +kernel) (by decide +kernel) (by decide) (by decide) (by decide +kernel) (by decide +kernel) (by decide +kernel) (by decide)
  have t6 := tabc ad aT 132 133 100 10 10 10 10 (by decide +kernel) (by decide +kernel) (by decide +kernel) (by decide +kernel) (by decide) (by decide) (by decide +kernel) (by decide +kernel) (by decide +kernel) (by decide)
  have t7 := tabc ad aT 134 135 100 10 10 10 10 (by decide +kernel) (by decide +kernel) (by decide +kernel) (by decide +kernel) (by decide) (by decide) (by decide +kernel) (by decide +kernel) (by decide +kernel) (by decide)
  have t8 := tabc ad aT 136 137 100 10 10 10 10 (by decide +kernel) (by decide +kernel) (by decide +kernel) (by decide +kernel) (by decide) (by decide) (by decide +kernel) (by decide +kernel) (by decide +kernel) (by decide)
  have o1 : Fcz ad aT 120 = (ad 120, .inr (4, [.int 0, .int 0, .int 0, .int 0, .ref (ad 121), .ref (ad 123), .ref (ad 125), .ref (ad 127), .ref (ad 129), .ref (ad 131)])) := by
    have e1 : fvv ad (cm w0z 120) (shR 120) (rfB 2) = [.int (oI (w0z 120 0)), .int (oI (w0z 120 1)), .int (oI (w0z 120 2)), .int (oI (w0z 120 3)), .ref (ad (shR 120 4)), .ref (ad (shR 120 5)), .ref (ad (shR 120 6)), .ref (ad (shR 120 7)), .ref (ad (shR 120 8)), .ref (ad (shR 120 9))] := rfl
    unfold Fcz
    rw [cve_obj (ci := 2) (by decide +kernel), e1, show w0z 120 0 = 0 by decide +kernel, show w0z 120 1 = 0 by decide +kernel, show w0z 120 2 = 0 by decide +kernel, show w0z 120 3 = 0 by decide +kernel, show shR 120 4 = 121 by decide +kernel, show shR 120 5 = 123 by decide +kernel, show shR 120 6 = 125 by decide +kernel, show shR 120 7 = 127 by decide +kernel, show shR 120 8 = 129 by decide +kernel, show shR 120 9 = 131 by decide +kernel]
    rfl
  have o2 : Fcz ad aT 131 = (ad 131, .inr (5, [.ref (ad 132), .ref (ad 134), .ref (ad 136)])) := by
    have e1 : fvv ad (cm w0z 131) (shR 131) (rfB 3) = [.ref (ad (shR 131 0)), .ref (ad (shR 131 1)), .ref (ad (shR 131 2))] := rfl
    unfold Fcz
    rw [cve_obj (ci := 3) (by decide +kernel), e1, show shR 131 0 = 132 by decide +kernel, show shR 131 1 = 134 by decide +kernel, show shR 131 2 = 136 by decide +kernel]
    rfl
  show Fcz ad aT 120 :: ([Fcz ad aT 121, Fcz ad aT 122] ++ ([Fcz ad aT 123, Fcz ad aT 124] ++ ([Fcz ad aT 125, Fcz ad aT 126] ++ ([Fcz ad aT 127, Fcz ad aT 128] ++ ([Fcz ad aT 129, Fcz ad aT 130] ++ (Fcz ad aT 131 :: ([Fcz ad aT 132, Fcz ad aT 133] ++ ([Fcz ad aT 134, Fcz ad aT 135] ++ [Fcz ad aT 136, Fcz ad aT 137])))))))) = _
  rw [t1, t2, t3, t4, t5, t6, t7, t8, o1, o2]
  unfold wPos wRoa
  simp only [List.nil_append, List.append_assoc, List.cons_append, Nat.reduceAdd]
theorem pblk_138 (ad : Nat → Nat) (aT : Nat → ClassId) : ([138, 139, 140, 141, 142, 143, 144, 145, 146, 147, 148, 149, 150, 151, 152, 153, 154, 155] : List Nat).map (Fcz ad aT) = wPos aT (fun j => ad (138 + j)) := by
  have t1 := tabc ad aT 139 140 80 10 8 10 8 (by decide +kernel) (by decide +kernel) (by decide +kernel) (by decide +kernel) (by decide) (by decide) (by decide +kernel) (by decide +kernel) (by decide +kernel) (by decide)
  have t2 := tabc ad aT 141 142 60 20 3 20 3 (by decide +kernel) (by decide +kernel) (by decide +kernel) (by decide +kernel) (by decide) (by decide) (by decide +kernel) (by decide +kernel) (by decide +kernel) (by decide)
  have t3 := tabc ad aT 143 144 390 30 13 30 13 (by decide +kernel) (by decide +kernel) (by decide +kernel) (by decide +kernel) (by decide) (by decide) (by decide +kernel) (by decide +kernel) (by decide +kernel) (by decide)
  have t4 := tabc ad aT 145 146 3 1 3 1 3 (by decide +kernel) (by decide +kernel) (by decide +kernel) (by decide +kernel) (by decide) (by decide) (by decide +kernel) (by decide +kernel) (by decide +kernel) (by decide)
  have t5 := tabc ad aT 147 148 11 1 11 1 11 (by decide +kernel) (by decide +kernel) (by decide +kernel) (by decide +kernel) (by decide) (by decide) (by decide +kernel) (by decide +kernel) (by decide +kernel) (by decide)
  have t6 := tabc ad aT 150 151 100 10 10 10 10 (by decide +kernel) (by decide +kernel) (by decide +kernel) (by decide +kernel) (by decide) (by decide) (by decide +kernel) (by decide +kernel) (by decide +kernel) (by decide)
  have t7 := tabc ad aT 152 153 100 10 10 10 10 (by decide +kernel) (by decide +kernel) (by decide +kernel) (by decide +kernel) (by decide) (by decide) (by decide +kernel) (by decide +kernel) (by decide +kernel) (by decide)
  have t8 := tabc ad aT 154 155 100 10 10 10 10 (by decide +kernel) (by decide +kernel) (by decide +kernel) (by decide +kernel) (by decide) (by decide) (by decide +kernel) (by decide +kernel) (by decide +kernel) (by decide)
  have o1 : Fcz ad aT 138 = (ad 138, .inr (4, [.int 0, .int 0, .int 0, .int 0, .ref (ad 139), .ref (ad 141), .ref (ad 143), .ref (ad 145), .ref (ad 147), .ref (ad 149)])) := by
    have e1 : fvv ad (cm w0z 138) (shR 138) (rfB 2) = [.int (oI (w0z 138 0)), .int (oI (w0z 138 1)), .int (oI (w0z 138 2)), .int (oI (w0z 138 3)), .ref (ad (shR 138 4)), .ref (ad (shR 138 5)), .ref (ad (shR 138 6)), .ref (ad (shR 138 7)), .ref (ad (shR 138 8)), .ref (ad (shR 138 9))] := rfl
    unfold Fcz
    rw [cve_obj (ci := 2) (by decide +kernel), e1, show w0z 138 0 = 0 by decide +kernel, show w0z 138 1 = 0 by decide +kernel, show w0z 138 2 = 0 by decide +kernel, show w0z 138 3 = 0 by decide +kernel, show shR 138 4 = 139 by decide +kernel, show shR 138 5 = 141 by decide +kernel, show shR 138 6 = 143 by decide +kernel, show shR 138 7 = 145 by decide +kernel, show shR 138 8 = 147 by decide +kernel, show shR 138 9 = 149 by decide +kernel]
    rfl
  have o2 : Fcz ad aT 149 = (ad 149, .inr (5, [.ref (ad 150), .ref (ad 152), .ref (ad 154)])) := by
    have e1 : fvv ad (cm w0z 149) (shR 149) (rfB 3) = [.ref (ad (shR 149 0)), .ref (ad (shR 149 1)), .ref (ad (shR 149 2))] := rfl
    unfold Fcz
    rw [cve_obj (ci := 3) (by decide +kernel), e1, show shR 149 0 = 150 by decide +kernel, show shR 149 1 = 152 by decide +kernel, show shR 149 2 = 154 by decide +kernel]
    rfl
  show Fcz ad aT 138 :: ([Fcz ad aT 139, Fcz ad aT 140] ++ ([Fcz ad aT 141, Fcz ad aT 142] ++ ([Fcz ad aT 143, Fcz ad aT 144] ++ ([Fcz ad aT 145, Fcz ad aT 146] ++ ([Fcz ad aT 147, Fcz ad aT 148] ++ (Fcz ad aT 149 :: ([Fcz ad aT 150, Fcz ad aT 151] ++ ([Fcz ad aT 152, Fcz ad aT 153] ++ [Fcz ad aT 154, Fcz ad aT 155])))))))) = _
  rw [t1, t2, t3, t4, t5, t6, t7, t8, o1, o2]
  unfold wPos wRoa
  simp only [List.nil_append, List.append_assoc, List.cons_append, Nat.reduceAdd]
theorem pblk_156 (ad : Nat → Nat) (aT : Nat → ClassId) : ([156, 157, 158, 159, 160, 161, 162, 163, 164, 165, 166, 167, 168, 169, 170, 171, 172, 173] : List Nat).map (Fcz ad aT) = wPos aT (fun j => ad (156 + j)) := by
  have t1 := tabc ad aT 157 158 80 10 8 10 8 (by decide +kernel) (by decide +kernel) (by decide +kernel) (by decide +kernel) (by decide) (by decide) (by decide +kernel) (by decide +kernel) (by decide +kernel) (by decide)
  have t2 := tabc ad aT 159 160 60 20 3 20 3 (by decide +kernel) (by decide +kernel) (by decide +kernel) (by decide +kernel) (by decide) (by decide) (by decide +kernel) (by decide +kernel) (by decide +kernel) (by decide)
  have t3 := tabc ad aT 161 162 390 30 13 30 13 (by decide +kernel) (by decide +kernel) (by decide +kernel) (by decide +kernel) (by decide) (by decide) (by decide +kernel) (by decide +kernel) (by decide +kernel) (by decide)
  have t4 := tabc ad aT 163 164 3 1 3 1 3 (by decide +kernel) (by decide +kernel) (by decide +kernel) (by decide +kernel) (by decide) (by decide) (by decide +kernel) (by decide +kernel) (by decide +kernel) (by decide)
  have t5 := tabc ad aT 165 166 11 1 11 1 11 (by decide +kernel) (by decide +kernel) (by decide +kernel) (by decide +kernel) (by decide) (by decide) (by decide +kernel) (by decide +kernel) (by decide +kernel) (by decide)
  have t6 := tabc ad aT 168 169 100 10 10 10 10 (by decide +kernel) (by decide +kernel) (by decide +kernel) (by decide +kernel) (by decide) (by decide) (by decide +kernel) (by decide +kernel) (by decide +kernel) (by decide)
  have t7 := tabc ad aT 170 171 100 10 10 10 10 (by decide +kernel) (by decide +kernel) (by decide +kernel) (by decide +kernel) (by decide) (by decide) (by decide +kernel) (by decide +kernel) (by decide +kernel) (by decide)
  have t8 := tabc ad aT 172 173 100 10 10 10 10 (by decide +kernel) (by decide +kernel) (by decide +kernel) (by decide +kernel) (by decide) (by decide) (by decide +kernel) (by decide +kernel) (by decide +kernel) (by decide)
  have o1 : Fcz ad aT 156 = (ad 156, .inr (4, [.int 0, .int 0, .int 0, .int 0, .ref (ad 157), .ref (ad 159), .ref (ad 161), .ref (ad 163), .ref (ad 165), .ref (ad 167)])) := by
    have e1 : fvv ad (cm w0z 156) (shR 156) (rfB 2) = [.int (oI (w0z 156 0)), .int (oI (w0z 156 1)), .int (oI (w0z 156 2)), .int (oI (w0z 156 3)), .ref (ad (shR 156 4)), .ref (ad (shR 156 5)), .ref (ad (shR 156 6)), .ref (ad (shR 156 7)), .ref (ad (shR 156 8)), .ref (ad (shR 156 9))] := rfl
    unfold Fcz
    rw [cve_obj (ci := 2) (by decide +kernel), e1, show w0z 156 0 = 0 by decide +kernel, show w0z 156 1 = 0 by decide +kernel, show w0z 156 2 = 0 by decide +kernel, show w0z 156 3 = 0 by decide +kernel, show shR 156 4 = 157 by decide +kernel, show shR 156 5 = 159 by decide +kernel, show shR 156 6 = 161 by decide +kernel, show shR 156 7 = 163 by decide +kernel, show shR 156 8 = 165 by decide +kernel, show shR 156 9 = 167 by decide +kernel]
    rfl
  have o2 : Fcz ad aT 167 = (ad 167, .inr (5, [.ref (ad 168), .ref (ad 170), .ref (ad 172)])) := by
    have e1 : fvv ad (cm w0z 167) (shR 167) (rfB 3) = [.ref (ad (shR 167 0)), .ref (ad (shR 167 1)), .ref (ad (shR 167 2))] := rfl
    unfold Fcz
    rw [cve_obj (ci := 3) (by decide +kernel), e1, show shR 167 0 = 168 by decide +kernel, show shR 167 1 = 170 by decide +kernel, show shR 167 2 = 172 by decide +kernel]
    rfl
  show Fcz ad aT 156 :: ([Fcz ad aT 157, Fcz ad aT 158] ++ ([Fcz ad aT 159, Fcz ad aT 160] ++ ([Fcz ad aT 161, Fcz ad aT 162] ++ ([Fcz ad aT 163, Fcz ad aT 164] ++ ([Fcz ad aT 165, Fcz ad aT 166] ++ (Fcz ad aT 167 :: ([Fcz ad aT 168, Fcz ad aT 169] ++ ([Fcz ad aT 170, Fcz ad aT 171] ++ [Fcz ad aT 172, Fcz ad aT 173])))))))) = _
  rw [t1, t2, t3, t4, t5, t6, t7, t8, o1, o2]
  unfold wPos wRoa
  simp only [List.nil_append, List.append_assoc, List.cons_append, Nat.reduceAdd]
theorem pblk_174 (ad : Nat → Nat) (aT : Nat → ClassId) : ([174, 175, 176, 177, 178, 179, 180, 181, 182, 183, 184, 185, 186, 187, 188, 189, 190, 191] : List Nat).map (Fcz ad aT) = wPos aT (fun j => ad (174 + j)) := by
  have t1 := tabc ad aT 175 176 80 10 8 10 8 (by decide +kernel) (by decide +kernel) (by decide +kernel) (by decide +kernel) (by decide) (by decide) (by decide +kernel) (by decide +kernel) (by decide +kernel) (by decide)
  have t2 := tabc ad aT 177 178 60 20 3 20 3 (by decide +kernel) (by decide +kernel) (by decide +kernel) (by decide +kernel) (by decide) (by decide) (by decide +kernel) (by decide +kernel) (by decide +kernel) (by decide)
  have t3 := tabc ad aT 179 180 390 30 13 30 13 (by decide +kernel) (by decide +kernel) (by decide +kernel) (by decide +kernel) (by decide) (by decide) (by decide +kernel) (by decide +kernel) (by decide +kernel) (by decide)
  have t4 := tabc ad aT 181 182 3 1 3 1 3 (by decide +kernel) (by decide +kernel) (by decide +kernel) (by decide +kernel) (by decide) (by decide) (by decide +kernel) (by decide +kernel) (by decide +kernel) (by decide)
  have t5 := tabc ad aT 183 184 11 1 11 1 11 (by decide +kernel) (by decide +kernel) (by decide +kernel) (by decide +kernel) (by decide) (by decide) (by decide +kernel) (by decide +kernel) (by decide +kernel) (by decide)
  have t6 := tabc ad aT 186 187 100 10 10 10 10 (by decide +kernel) (by decide +kernel) (by decide +kernel) (by decide +kernel) (by decide) (by decide) (by decide +kernel) (by decide +kernel) (by decide +kernel) (by decide)
  have t7 := tabc ad aT 188 189 100 10 10 10 10 (by decide +kernel) (by decide +kernel) (by decide +kernel) (by decide +kernel) (by decide) (by decide) (by decide +kernel) (by decide +kernel) (by decide +kernel) (by decide)
  have t8 := tabc ad aT 190 191 100 10 10 10 10 (by decide +kernel) (by decide +kernel) (by decide +kernel) (by decide +kernel) (by decide) (by decide) (by decide +kernel) (by decide +kernel) (by decide +kernel) (by decide)
  have o1 : Fcz ad aT 174 = (ad 174, .inr (4, [.int 0, .int 0, .int 0, .int 0, .ref (ad 175), .ref (ad 177), .ref (ad 179), .ref (ad 181), .ref (ad 183), .ref (ad 185)])) := by
    have e1 : fvv ad (cm w0z 174) (shR 174) (rfB 2) = [.int (oI (w0z 174 0)), .int (oI (w0z 174 1)), .int (oI (w0z 174 2)), .int (oI (w0z 174 3)), .ref (ad (shR 174 4)), .ref (ad (shR 174 5)), .ref (ad (shR 174 6)), .ref (ad (shR 174 7)), .ref (ad (shR 174 8)), .ref (ad (shR 174 9))] := rfl
    unfold Fcz
    rw [cve_obj (ci := 2) (by decide +kernel), e1, show w0z 174 0 = 0 by decide +kernel, show w0z 174 1 = 0 by decide +kernel, show w0z 174 2 = 0 by decide +kernel, show w0z 174 3 = 0 by decide +kernel, show shR 174 4 = 175 by decide +kernel, show shR 174 5 = 177 by decide +kernel, show shR 174 6 = 179 by decide +kernel, show shR 174 7 = 181 by decide +kernel, show shR 174 8 = 183 by decide +kernel, show shR 174 9 = 185 by decide +kernel]
    rfl
  have o2 : Fcz ad aT 185 = (ad 185, .inr (5, [.ref (ad 186), .ref (ad 188), .ref (ad 190)])) := by
    have e1 : fvv ad (cm w0z 185) (shR 185) (rfB 3) = [.ref (ad (shR 185 0)), .ref (ad (shR 185 1)), .ref (ad (shR 185 2))] := rfl
    unfold Fcz
    rw [cve_obj (ci := 3) (by decide +kernel), e1, show shR 185 0 = 186 by decide +kernel, show shR 185 1 = 188 by decide +kernel, show shR 185 2 = 190 by decide +kernel]
    rfl
  show Fcz ad aT 174 :: ([Fcz ad aT 175, Fcz ad aT 176] ++ ([Fcz ad aT 177, Fcz ad aT 178] ++ ([Fcz ad aT 179, Fcz ad aT 180] ++ ([Fcz ad aT 181, Fcz ad aT 182] ++ ([Fcz ad aT 183, Fcz ad aT 184] ++ (Fcz ad aT 185 :: ([Fcz ad aT 186, Fcz ad aT 187] ++ ([Fcz ad aT 188, Fcz ad aT 189] ++ [Fcz ad aT 190, Fcz ad aT 191])))))))) = _
  rw [t1, t2, t3, t4, t5, t6, t7, t8, o1, o2]
  unfold wPos wRoa
  simp only [List.nil_append, List.append_assoc, List.cons_append, Nat.reduceAdd]
theorem pblk_192 (ad : Nat → Nat) (aT : Nat → ClassId) : ([192, 193, 194, 195, 196, 197, 198, 199, 200, 201, 202, 203, 204, 205, 206, 207, 208, 209] : List Nat).map (Fcz ad aT) = wPos aT (fun j => ad (192 + j)) := by
  have t1 := tabc ad aT 193 194 80 10 8 10 8 (by decide +kernel) (by decide +kernel) (by decide +kernel) (by decide +kernel) (by decide) (by decide) (by decide +kernel) (by decide +kernel) (by decide +kernel) (by decide)
  have t2 := tabc ad aT 195 196 60 20 3 20 3 (by decide +kernel) (by decide +kernel) (by decide +kernel) (by decide +kernel) (by decide) (by decide) (by decide +kernel) (by decide +kernel) (by decide +kernel) (by decide)
  have t3 := tabc ad aT 197 198 390 30 13 30 13 (by decide +kernel) (by decide +kernel) (by decide +kernel) (by decide +kernel) (by decide) (by decide) (by decide +kernel) (by decide +kernel) (by decide +kernel) (by decide)
  have t4 := tabc ad aT 199 200 3 1 3 1 3 (by decide +kernel) (by decide +kernel) (by decide +kernel) (by decide +kernel) (by decide) (by decide) (by decide +kernel) (by decide +kernel) (by decide +kernel) (by decide)
  have t5 := tabc ad aT 201 202 11 1 11 1 11 (by decide +kernel) (by decide +kernel) (by decide +kernel) (by decide +kernel) (by decide) (by decide) (by decide +kernel) (by decide +kernel) (by decide +kernel) (by decide)
  have t6 := tabc ad aT 204 205 100 10 10 10 10 (by decide +kernel) (by decide +kernel) (by decide +kernel) (by decide +kernel) (by decide) (by decide) (by decide +kernel) (by decide +kernel) (by decide +kernel) (by decide)
  have t7 := tabc ad aT 206 207 100 10 10 10 10 (by decide +kernel) (by decide +kernel) (by decide +kernel) (by decide +kernel) (by decide) (by decide) (by decide +kernel) (by decide +kernel) (by decide +kernel) (by decide)
  have t8 := tabc ad aT 208 209 100 10 10 10 10 (by decide +kernel) (by decide +kernel) (by decide +kernel) (by decide +kernel) (by decide) (by decide) (by decide +kernel) (by decide +kernel) (by decide +kernel) (by decide)
  have o1 : Fcz ad aT 192 = (ad 192, .inr (4, [.int 0, .int 0, .int 0, .int 0, .ref (ad 193), .ref (ad 195), .ref (ad 197), .ref (ad 199), .ref (ad 201), .ref (ad 203)])) := by
    have e1 : fvv ad (cm w0z 192) (shR 192) (rfB 2) = [.int (oI (w0z 192 0)), .int (oI (w0z 192 1)), .int (oI (w0z 192 2)), .int (oI (w0z 192 3)), .ref (ad (shR 192 4)), .ref (ad (shR 192 5)), .ref (ad (shR 192 6)), .ref (ad (shR 192 7)), .ref (ad (shR 192 8)), .ref (ad (shR 192 9))] := rfl
    unfold Fcz
    rw [cve_obj (ci := 2) (by decide +kernel), e1, show w0z 192 0 = 0 by decide +kernel, show w0z 192 1 = 0 by decide +kernel, show w0z 192 2 = 0 by decide +kernel, show w0z 192 3 = 0 by decide +kernel, show shR 192 4 = 193 by decide +kernel, show shR 192 5 = 195 by decide +kernel, show shR 192 6 = 197 by decide +kernel, show shR 192 7 = 199 by decide +kernel, show shR 192 8 = 201 by decide +kernel, show shR 192 9 = 203 by decide +kernel]
    rfl
  have o2 : Fcz ad aT 203 = (ad 203, .inr (5, [.ref (ad 204), .ref (ad 206), .ref (ad 208)])) := by
    have e1 : fvv ad (cm w0z 203) (shR 203) (rfB 3) = [.ref (ad (shR 203 0)), .ref (ad (shR 203 1)), .ref (ad (shR 203 2))] := rfl
    unfold Fcz
    rw [cve_obj (ci := 3) (by decide +kernel), e1, show shR 203 0 = 204 by decide +kernel, show shR 203 1 = 206 by decide +kernel, show shR 203 2 = 208 by decide +kernel]
    rfl
  show Fcz ad aT 192 :: ([Fcz ad aT 193, Fcz ad aT 194] ++ ([Fcz ad aT 195, Fcz ad aT 196] ++ ([Fcz ad aT 197, Fcz ad aT 198] ++ ([Fcz ad aT 199, Fcz ad aT 200] ++ ([Fcz ad aT 201, Fcz ad aT 202] ++ (Fcz ad aT 203 :: ([Fcz ad aT 204, Fcz ad aT 205] ++ ([Fcz ad aT 206, Fcz ad aT 207] ++ [Fcz ad aT 208, Fcz ad aT 209])))))))) = _
  rw [t1, t2, t3, t4, t5, t6, t7, t8, o1, o2]
  unfold wPos wRoa
  simp only [List.nil_append, List.append_assoc, List.cons_append, Nat.reduceAdd]
def sgz : List Nat := ([0, 1, 2, 3, 4] : List Nat) ++ (([12, 13, 14, 15, 16, 17, 18, 19, 20, 21, 22, 23, 24, 25, 26, 27, 28, 29] : List Nat) ++ (([30, 31, 32, 33, 34, 35, 36, 37, 38, 39, 40, 41, 42, 43, 44, 45, 46, 47] : List Nat) ++ (([48, 49, 50, 51, 52, 53, 54, 55, 56, 57, 58, 59, 60, 61, 62, 63, 64, 65] : List Nat) ++ (([10, 11] : List Nat) ++ (([66, 67, 68, 69, 70, 71, 72, 73, 74, 75, 76, 77, 78, 79, 80, 81, 82, 83] : List Nat) ++ (([84, 85, 86, 87, 88, 89, 90, 91, 92, 93, 94, 95, 96, 97, 98, 99, 100, 101] : List Nat) ++ (([102, 103, 104, 105, 106, 107, 108, 109, 110, 111, 112, 113, 114, 115, 116, 117, 118, 119] : List Nat) ++ (([120, 121, 122, 123, 124, 125, 126, 127, 128, 129, 130, 131, 132, 133, 134, 135, 136, 137] : List Nat) ++ (([138, 139, 140, 141, 142, 143, 144, 145, 146, 147, 148, 149, 150, 151, 152, 153, 154, 155] : List Nat) ++ (([156, 157, 158, 159, 160, 161, 162, 163, 164, 165, 166, 167, 168, 169, 170, 171, 172, 173] : List Nat) ++ (([174, 175, 176, 177, 178, 179, 180, 181, 182, 183, 184, 185, 186, 187, 188, 189, 190, 191] : List Nat) ++ (([192, 193, 194, 195, 196, 197, 198, 199, 200, 201, 202, 203, 204, 205, 206, 207, 208, 209] : List Nat) ++ (([5, 6, 7, 8, 9] : List Nat))))))))))))))
theorem sgz_map (ad : Nat → Nat) (aT : Nat → ClassId) : sgz.map (Fcz ad aT) = ([0, 1, 2, 3, 4] : List Nat).map (Fcz ad aT) ++ (([12, 13, 14, 15, 16, 17, 18, 19, 20, 21, 22, 23, 24, 25, 26, 27, 28, 29] : List Nat).map (Fcz ad aT) ++ (([30, 31, 32, 33, 34, 35, 36, 37, 38, 39, 40, 41, 42, 43, 44, 45, 46, 47] : List Nat).map (Fcz ad aT) ++ (([48, 49, 50, 51, 52, 53, 54, 55, 56, 57, 58, 59, 60, 61, 62, 63, 64, 65] : List Nat).map (Fcz ad aT) ++ (([10, 11] : List Nat).map (Fcz ad aT) ++ (([66, 67, 68, 69, 70, 71, 72, 73, 74, 75, 76, 77, 78, 79, 80, 81, 82, 83] : List Nat).map (Fcz ad aT) ++ (([84, 85, 86, 87, 88, 89, 90, 91, 92, 93, 94, 95, 96, 97, 98, 99, 100, 101] : List Nat).map (Fcz ad aT) ++ (([102, 103, 104, 105, 106, 107, 108, 109, 110, 111, 112, 113, 114, 115, 116, 117, 118, 119] : List Nat).map (Fcz ad aT) ++ (([120, 121, 122, 123, 124, 125, 126, 127, 128, 129, 130, 131, 132, 133, 134, 135, 136, 137] : List Nat).map (Fcz ad aT) ++ (([138, 139, 140, 141, 142, 143, 144, 145, 146, 147, 148, 149, 150, 151, 152, 153, 154, 155] : List Nat).map (Fcz ad aT) ++ (([156, 157, 158, 159, 160, 161, 162, 163, 164, 165, 166, 167, 168, 169, 170, 171, 172, 173] : List Nat).map (Fcz ad aT) ++ (([174, 175, 176, 177, 178, 179, 180, 181, 182, 183, 184, 185, 186, 187, 188, 189, 190, 191] : List Nat).map (Fcz ad aT) ++ (([192, 193, 194, 195, 196, 197, 198, 199, 200, 201, 202, 203, 204, 205, 206, 207, 208, 209] : List Nat).map (Fcz ad aT) ++ (([5, 6, 7, 8, 9] : List Nat).map (Fcz ad aT)))))))))))))) := by
  unfold sgz
  simp only [List.map_append]
theorem sgz_in : ∀ a, a < 210 → sgz[sgz.idxOf a]? = some a := by decide +kernel
theorem va_P_re {D : va_G} {cl : List vw_C} {X Y : va_W} {H : Heap} {a n : Nat} {cA : ClassId} {f g : Nat → Option Nat} (h : va_P D cl (X ++ (a, .inl (cA, n, .inr (.inr (.inr (.inr f))))) :: Y) H) (e : ∀ j, j < n → f j = g j) : va_P D cl (X ++ (a, .inl (cA, n, .inr (.inr (.inr (.inr g))))) :: Y) H := by
  rw [va_P_mem] at h ⊢
  intro q hq
  rcases List.mem_append.mp hq with h1 | h1
  · exact h q (List.mem_append.mpr (Or.inl h1))
  · rcases List.mem_cons.mp h1 with h2 | h2
    · subst h2
      have h3 := h _ (List.mem_append.mpr (Or.inr List.mem_cons_self))
      have h4 : H[a]? = some (arrV cA n (fun j => va_rf (f j))) := h3
      show H[a]? = some (arrV cA n (fun j => va_rf (g j)))
      rw [h4]
      unfold arrV
      congr 2
      exact congrArg Array.ofFn (funext fun j => congrArg va_rf (e j.val j.isLt))
    · exact h q (List.mem_append.mpr (Or.inr (List.mem_cons_of_mem _ h2)))

set_option maxHeartbeats 4000000 in
theorem cw_conc {D : va_G} {aT : Nat → ClassId} {A : Nat → Prop} {H0 H : Heap} {locs : List Loc} {h0 qi ai qo ao : Nat} {c1 c2 c3 : Nat → Nat} {qp pa : Nat} {cs : Nat → Nat → Nat} {tk su sc st sa : Nat} (ad0 : Nat → Nat) (hS : Sx D A H0 (wWp aT h0 qi ai qo ao c1 c2 c3 qp pa cs tk su sc st sa) H locs) :
    ∃ ad : Nat → Nat, ad 0 = h0 ∧ (∀ i, 223 ≤ i → ad i = ad0 i) ∧ Lx D ad aT 210 A H0 (cm w1z) [] H locs := by
  obtain ⟨ad, had⟩ : ∃ ad : Nat → Nat, ad = fun a => if a < 12 then [h0, qi, ai, qo, ao, tk, su, sc, st, sa, qp, pa].getD a 0 else if a < 30 then c1 (a - 12) else if a < 48 then c2 (a - 30) else if a < 66 then c3 (a - 48) else if a < 210 then cs ((a - 66) / 18) ((a - 66) % 18) else ad0 a := ⟨_, rfl⟩
  have l12 : ∀ a, a < 12 → ad a = [h0, qi, ai, qo, ao, tk, su, sc, st, sa, qp, pa].getD a 0 := fun a h => by rw [had]; exact if_pos h
  have a0 : ad 0 = h0 := l12 0 (by decide)
  have a1 : ad 1 = qi := l12 1 (by decide)
  have a2 : ad 2 = ai := l12 2 (by decide)
  have a3 : ad 3 = qo := l12 3 (by decide)
  have a4 : ad 4 = ao := l12 4 (by decide)
  have a5 : ad 5 = tk := l12 5 (by decide)
  have a6 : ad 6 = su := l12 6 (by decide)
  have a7 : ad 7 = sc := l12 7 (by decide)
  have a8 : ad 8 = st := l12 8 (by decide)
  have a9 : ad 9 = sa := l12 9 (by decide)
  have a10 : ad 10 = qp := l12 10 (by decide)
  have a11 : ad 11 = pa := l12 11 (by decide)
  have p1 : ∀ j, j < 18 → ad (12 + j) = c1 j := fun j h => by
    rw [had]
    dsimp only
    rw [if_neg (by omega), if_pos (by omega)]
    exact congrArg c1 (by omega)
  have p2 : ∀ j, j < 18 → ad (30 + j) = c2 j := fun j h => by
    rw [had]
    dsimp only
    rw [if_neg (by omega), if_neg (by omega), if_pos (by omega)]
    exact congrArg c2 (by omega)
  have p3 : ∀ j, j < 18 → ad (48 + j) = c3 j := fun j h => by
    rw [had]
    dsimp only
    rw [if_neg (by omega), if_neg (by omega), if_neg (by omega), if_pos (by omega)]
    exact congrArg c3 (by omega)
  have p4 : ∀ i b, i < 8 → b = 66 + 18 * i → ∀ j, j < 18 → ad (b + j) = cs i j := fun i b hi hb j h => by
    rw [had]
    dsimp only
    rw [if_neg (by omega), if_neg (by omega), if_neg (by omega), if_neg (by omega), if_pos (by omega), show (b + j - 66) / 18 = i by omega, show (b + j - 66) % 18 = j by omega]
  have q1 := p1 0 (by decide)
  have q2 := p2 0 (by decide)
  have q3 := p3 0 (by decide)
  refine ⟨ad, a0, fun i hi => ?_, ?_⟩
  · rw [had]
    dsimp only
    rw [if_neg (by omega), if_neg (by omega), if_neg (by omega), if_neg (by omega), if_neg (by omega)]
  obtain ⟨hP, hD, hSS⟩ := hS
  -- the row of the posts that are kept, as the world has it
  obtain ⟨X, hX⟩ : ∃ X : va_W, X = (h0, .inr (10, [.ref qi, .ref qo, .ref tk, .ref su, .ref sc, .ref (c1 0), .ref (c2 0), .ref (c3 0), .ref qp, .int 0])) :: (wByt aT qi ai 800 ++ (wByt aT qo ao 400 ++ (wPos aT c1 ++ (wPos aT c2 ++ (wPos aT c3 ++ [(qp, .inr (3, [.ref pa, .int 0, .int 0]))]))))) := ⟨_, rfl⟩
  obtain ⟨Y, hY⟩ : ∃ Y : va_W, Y = wPas aT cs 8 ++ ((tk, .inr (9, [.ref qi, .int 0, .int 0, .int 0, .int 0, .int 0, .int (-1)])) :: (su, .inr (7, [.ref tk, .ref (c3 0)])) :: (sc, .inr (6, [.ref tk, .ref (c1 0), .ref st, .int 0])) :: wTab aT st sa 30 5 150) := ⟨_, rfl⟩
  have eL : wWp aT h0 qi ai qo ao c1 c2 c3 qp pa cs tk su sc st sa = X ++ (pa, .inl (aT 1, 8, .inr (.inr (.inr (.inr (fPas cs 8)))))) :: Y := by
    rw [hX, hY]
    unfold wWp wPast
    simp only [List.nil_append, List.append_assoc, List.cons_append]
  have hP2 : va_P D vwCl (X ++ (pa, .inl (aT 1, 8, .inr (.inr (.inr (.inr (fun j => some (ad (shR 11 j)))))))) :: Y) H := by
    refine va_P_re (f := fPas cs 8) (by rw [← eL]; exact hP) (fun j hj => ?_)
    unfold fPas
    rw [if_pos hj]
    have e1 : shR 11 j = 66 + 18 * j := by
      have : ∀ j, j < 8 → shR 11 j = 66 + 18 * j := by decide +kernel
      exact this j hj
    rw [e1, ← p4 j (66 + 18 * j) hj rfl 0 (by decide)]
    rfl
  have hD2 : va_D A (X ++ (pa, .inl (aT 1, 8, .inr (.inr (.inr (.inr (fun j => some (ad (shR 11 j)))))))) :: Y) := by
    refine va_D_fst hD ?_
    rw [eL]
    simp only [List.map_append, List.map_cons]
  have eM : X ++ (pa, .inl (aT 1, 8, .inr (.inr (.inr (.inr (fun j => some (ad (shR 11 j)))))))) :: Y = sgz.map (Fcz ad aT) := by
    rw [sgz_map, pblk_12, pblk_30, pblk_48, pblk_66, pblk_84, pblk_102, pblk_120, pblk_138, pblk_156, pblk_174, pblk_192]
    rw [wPos_cg p1, wPos_cg p2, wPos_cg p3, wPos_cg (p4 0 66 (by decide) rfl), wPos_cg (p4 1 84 (by decide) rfl), wPos_cg (p4 2 102 (by decide) rfl), wPos_cg (p4 3 120 (by decide) rfl), wPos_cg (p4 4 138 (by decide) rfl), wPos_cg (p4 5 156 (by decide) rfl), wPos_cg (p4 6 174 (by decide) rfl), wPos_cg (p4 7 192 (by decide) rfl)]
    have b1 := bytc ad aT 1 2 800 (by decide +kernel) (by decide +kernel) (by decide +kernel) (by decide +kernel) (by decide +kernel) (by decide +kernel) (by decide)
    have b2 := bytc ad aT 3 4 400 (by decide +kernel) (by decide +kernel) (by decide +kernel) (by decide +kernel) (by decide +kernel) (by decide +kernel) (by decide)
    have b3 := tabc ad aT 8 9 150 30 5 30 5 (by decide +kernel) (by decide +kernel) (by decide +kernel) (by decide +kernel) (by decide) (by decide) (by decide +kernel) (by decide +kernel) (by decide +kernel) (by decide)
    rw [a1, a2] at b1
    rw [a3, a4] at b2
    rw [a8, a9] at b3
    have f0 : Fcz ad aT 0 = (h0, .inr (10, [.ref qi, .ref qo, .ref tk, .ref su, .ref sc, .ref (c1 0), .ref (c2 0), .ref (c3 0), .ref qp, .int 0])) := by
      have e1 : fvv ad (cm w0z 0) (shR 0) (rfB 8) = [.ref (ad (shR 0 0)), .ref (ad (shR 0 1)), .ref (ad (shR 0 2)), .ref (ad (shR 0 3)), .ref (ad (shR 0 4)), .ref (ad (shR 0 5)), .ref (ad (shR 0 6)), .ref (ad (shR 0 7)), .ref (ad (shR 0 8)), .int (oI (w0z 0 9))] := rfl
      unfold Fcz
      rw [cve_obj (ci := 8) (by decide +kernel), e1, show shR 0 0 = 1 by decide +kernel, show shR 0 1 = 3 by decide +kernel, show shR 0 2 = 5 by decide +kernel, show shR 0 3 = 6 by decide +kernel, show shR 0 4 = 7 by decide +kernel, show shR 0 5 = 12 by decide +kernel, show shR 0 6 = 30 by decide +kernel, show shR 0 7 = 48 by decide +kernel, show shR 0 8 = 10 by decide +kernel, show w0z 0 9 = 0 by decide +kernel, a0, a1, a3, a5, a6, a7, a10, show ad 12 = c1 0 from q1, show ad 30 = c2 0 from q2, show ad 48 = c3 0 from q3]
      rfl
    have f5 : Fcz ad aT 5 = (tk, .inr (9, [.ref qi, .int 0, .int 0, .int 0, .int 0, .int 0, .int (-1)])) := by
      have e1 : fvv ad (cm w0z 5) (shR 5) (rfB 7) = [.ref (ad (shR 5 0)), .int (oI (w0z 5 1)), .int (oI (w0z 5 2)), .int (oI (w0z 5 3)), .int (oI (w0z 5 4)), .int (oI (w0z 5 5)), .int (oI (w0z 5 6))] := rfl
      unfold Fcz
      rw [cve_obj (ci := 7) (by decide +kernel), e1, show shR 5 0 = 1 by decide +kernel, show w0z 5 1 = 0 by decide +kernel, show w0z 5 2 = 0 by decide +kernel, show w0z 5 3 = 0 by decide +kernel, show w0z 5 4 = 0 by decide +kernel, show w0z 5 5 = 0 by decide +kernel, show w0z 5 6 = -1 by decide +kernel, a5, a1]
      rfl
    have f6 : Fcz ad aT 6 = (su, .inr (7, [.ref tk, .ref (c3 0)])) := by
      have e1 : fvv ad (cm w0z 6) (shR 6) (rfB 5) = [.ref (ad (shR 6 0)), .ref (ad (shR 6 1))] := rfl
      unfold Fcz
      rw [cve_obj (ci := 5) (by decide +kernel), e1, show shR 6 0 = 5 by decide +kernel, show shR 6 1 = 48 by decide +kernel, a5, a6, show ad 48 = c3 0 from q3]
      rfl
    have f7 : Fcz ad aT 7 = (sc, .inr (6, [.ref tk, .ref (c1 0), .ref st, .int 0])) := by
      have e1 : fvv ad (cm w0z 7) (shR 7) (rfB 4) = [.ref (ad (shR 7 0)), .ref (ad (shR 7 1)), .ref (ad (shR 7 2)), .int (oI (w0z 7 3))] := rfl
      unfold Fcz
      rw [cve_obj (ci := 4) (by decide +kernel), e1, show shR 7 0 = 5 by decide +kernel, show shR 7 1 = 12 by decide +kernel, show shR 7 2 = 8 by decide +kernel, show w0z 7 3 = 0 by decide +kernel, a5, a7, a8, show ad 12 = c1 0 from q1]
      rfl
    have f10 : Fcz ad aT 10 = (qp, .inr (3, [.ref pa, .int 0, .int 0])) := by
      have e1 : fvv ad (cm w0z 10) (shR 10) (rfB 1) = [.ref (ad (shR 10 0)), .int (oI (w0z 10 1)), .int (oI (w0z 10 2))] := rfl
      unfold Fcz
      rw [cve_obj (ci := 1) (by decide +kernel), e1, show shR 10 0 = 11 by decide +kernel, show w0z 10 1 = 0 by decide +kernel, show w0z 10 2 = 0 by decide +kernel, a10, a11]
      rfl
    have f11 : Fcz ad aT 11 = (pa, .inl (aT 1, 8, .inr (.inr (.inr (.inr (fun j => some (ad (shR 11 j)))))))) := by
      unfold Fcz
      rw [cve_ref (by decide +kernel), show shL 11 = 8 by decide +kernel, a11]
    have g0 : ([0, 1, 2, 3, 4] : List Nat).map (Fcz ad aT) = Fcz ad aT 0 :: ([Fcz ad aT 1, Fcz ad aT 2] ++ [Fcz ad aT 3, Fcz ad aT 4]) := rfl
    have g1 : ([10, 11] : List Nat).map (Fcz ad aT) = [Fcz ad aT 10, Fcz ad aT 11] := rfl
    have g2 : ([5, 6, 7, 8, 9] : List Nat).map (Fcz ad aT) = Fcz ad aT 5 :: Fcz ad aT 6 :: Fcz ad aT 7 :: [Fcz ad aT 8, Fcz ad aT 9] := rfl
    rw [g0, g1, g2, b1, b2, b3, f0, f5, f6, f7, f10, f11, hX, hY]
    unfold wPas wPas wPas wPas wPas wPas wPas wPas wPas
    simp only [List.nil_append, List.append_assoc, List.cons_append]
  rw [eM] at hP2 hD2
  have ix : ∀ a, a < 210 → (sgz.map (Fcz ad aT))[sgz.idxOf a]? = some (Fcz ad aT a) := fun a ha => by
    rw [List.getElem?_map, sgz_in a ha]
    rfl
  have hc : ∀ (k : Nat) (q : Nat × va_E), (conc ad aT 210 (cm w1z) ++ [])[k]? = some q → k < 210 ∧ q = Fcz ad aT k := fun k q hk => by
    rw [List.append_nil] at hk
    obtain ⟨h1, h2⟩ := conc_of hk
    have e : cn k = k := if_pos h1
    have e2 : cm w1z k = cm w0z k := by
      funext j
      show oI (iset w0z 999 0 210 k j) = oI (w0z k j)
      have : iset w0z 999 0 210 k j = w0z k j := if_neg (fun z => by omega)
      rw [this]
    rw [e, cve_ne e2] at h2
    exact ⟨h1, h2⟩
  refine ⟨⟨fun k q hk => ?_, rfl, Nat.le_refl _, by decide⟩, ⟨fun i j x y hi hj e => ?_, fun k q hk => ?_⟩, hSS⟩
  · obtain ⟨h1, rfl⟩ := hc k q hk
    exact hP2 _ _ (ix k h1)
  · obtain ⟨h1, rfl⟩ := hc i x hi
    obtain ⟨h2, rfl⟩ := hc j y hj
    have h3 := hD2.1 _ _ _ _ (ix i h1) (ix j h2) e
    have h4 := sgz_in i h1
    rw [h3, sgz_in j h2] at h4
    exact (Option.some.inj h4).symm
  · obtain ⟨h1, rfl⟩ := hc k q hk
    exact hD2.2 _ _ (ix k h1)
