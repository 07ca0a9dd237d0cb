/-! ===== the class's first post: its statements, the class alone ===== -/
section Fi
variable {F : Nat} {u : aI} {B : Int → Int} {N p : Int} {r : Row}
theorem c_fiRoof {p1 p2 p3 p4 p5 p6 : Int} (hF : 1000 ≤ F) (hc : CS u B N p) (hD : DR u 48 r) (hW : DW r) (hw : Wd B N p 18) (h0 : r 0 < 10) (e1 : tE B N p = p1) (hn : IsNm B N p1) (hx : nmd r (nmH B N p1) = -1) (e2 : tE B N p1 = p2) (n2 : nbE B N p2 1 8 = 0) (e3 : tE B N p2 = p3) (n3 : nbE B N p3 0 9 = 0) (e4 : tE B N p3 = p4) (n4 : nbE B N p4 0 9 = 0) (e5 : tE B N p4 = p5) (n5 : nbE B N p5 0 999 = 0) (e6 : tE B N p5 = p6) (n6 : smE B N p6 = 0) :
    ∃ u', f_X5_isStatementRead F 6 u = some (true, u') ∧ CS u' B N (tE B N p6) ∧ DR u' 48 (roofA r (p2 - tS B N p1) (fun k => B (tS B N p1 + k)) (tV B N p2) (tV B N p3) (tV B N p4) (tV B N p5)) ∧ DW (roofA r (p2 - tS B N p1) (fun k => B (tS B N p1 + k)) (tV B N p2) (tV B N p3) (tV B N p4) (tV B N p5)) ∧ FdzU u u' := by
  have id1 : ∀ (o : Option (Bool × aI)), bKW o (fun a b => some (a, b)) = o := fun o => by cases o <;> rfl
  have b0 := hW.1
  unfold f_X5_isStatementRead
  rw [p60, c_isWord hF (by decide) hc, bs, if_pos (decide_eq_true hw), id1]
  unfold f_X5_isRoofRead
  rw [p60, p61, hD.2.1.2.1, gd_t (by omega), if_pos h0]
  obtain ⟨u1, a1, a2, a3⟩ := c_next hF hc
  rw [e1] at a2
  have D1 := hD.fk a3
  have hLt : Lt (tE B N p1 - tS B N p1) (fun k => B (tS B N p1 + k)) := hn.lt a2.1.2.1.2 a2.2.2.1
  have hq := nmH_bd a2.1.2.1.2 a2.2.2.1 hn
  rw [e2] at hLt
  rw [a1, bs, c_nameHere hF a2 hn, bj, gd_t (by omega), if_neg (show ¬ nmH B N p1 = -1 by omega), c_roofNamed (by omega) P48 D1.1 D1.2.1.2.1 b0 hW.2.2.2.2.2.2.1 D1.nmp.2.2 (by omega), bs, gd_t (by rw [hx]; decide), if_pos hx]
  obtain ⟨u2, a4, a5, a6⟩ := c_next hF a2
  rw [e2] at a5
  obtain ⟨u3, s1, s2, s3⟩ := (c_takeNum (F := F) (lo := 1) (hi := 8) hF a5 (by decide) (by decide)).1 n2
  rw [e3] at s2
  obtain ⟨u4, s4, s5, s6⟩ := (c_takeNum (F := F) (lo := 0) (hi := 9) hF s2 (by decide) (by decide)).1 n3
  rw [e4] at s5
  obtain ⟨u5, s7, s8, s9⟩ := (c_takeNum (F := F) (lo := 0) (hi := 9) hF s5 (by decide) (by decide)).1 n4
  rw [e5] at s8
  obtain ⟨u6, i1, i2, i3⟩ := (c_takeNum (F := F) (lo := 0) (hi := 999) hF s8 (by decide) (by decide)).1 n5
  rw [e6] at i2
  obtain ⟨u7, o1, o2, o3⟩ := (c_semi (F := F) hF i2).1 n6
  have w2 := nb_v n2
  have w3 := nb_v n3
  have w4 := nb_v n4
  have w5 := nb_v n5
  have D7 := ((((((D1.fk a6).fk s3).fk s6).fk s9).fk i3).fk o3)
  obtain ⟨u8, o7, o8, o9⟩ := c_addRoof (F := F) (l := p2 - tS B N p1) (f := fun k => B (tS B N p1 + k)) (br := tV B N p2) (ea := tV B N p3) (fe := tV B N p4) (pu := tV B N p5) P48 D7 hW h0 hLt w5
  have o7' : f_X2_addRoof F 48 (nmH B N p1) (tV B N p2) (tV B N p3) (tV B N p4) (tV B N p5) u7 = some u8 := by
    have : nmH B N p1 = nm (p2 - tS B N p1) (fun k => B (tS B N p1 + k)) := by unfold nmH; rw [e2]
    rw [this]; exact o7
  unfold f_X5_isRoofRead_b101 f_X5_isRoofRead_b121 f_X5_isRoofRead_b144
  rw [a4, bs, s1, bj, gd_t (by omega), if_neg (by omega), p60, s4, bj, gd_t (by omega), if_neg (by omega), s7, bj, gd_t (by omega), if_neg (by omega), i1, bj, gd_t (by omega), if_neg (by omega), o1, bk, if_pos rfl, p61, o7', bs]
  exact ⟨u8, rfl, o2.cut o9, o8, roofA_DW hW h0 hLt w2 w3 w4 w5, (((((((a3.fd.trans a6.fd).trans s3.fd).trans s6.fd).trans s9.fd).trans i3.fd).trans o3.fd).trans o9.fd)⟩
theorem c_fiWay {p1 p2 p3 p4 x y : Int} (hF : 1000 ≤ F) (hc : CS u B N p) (hD : DR u 48 r) (hW : DW r) (hn : ¬ Wd B N p 18) (hw : Wd B N p 19) (h0 : r 1 < 20) (e1 : tE B N p = p1) (q1 : rhE B N p1 r (-1) = 0) (hx : rhX B N p1 r = x) (e2 : tE B N p1 = p2) (q2 : rhE B N p2 r x = 0) (hy : rhX B N p2 r = y) (hb : wayB r x y = -1) (e3 : tE B N p2 = p3) (n3 : nbE B N p3 1 9 = 0) (e4 : tE B N p3 = p4) (n4 : smE B N p4 = 0) :
    ∃ u', f_X5_isStatementRead F 6 u = some (true, u') ∧ CS u' B N (tE B N p4) ∧ DR u' 48 (wayA r x y (tV B N p3)) ∧ DW (wayA r x y (tV B N p3)) ∧ FdzU u u' := by
  have id1 : ∀ (o : Option (Bool × aI)), bKW o (fun a b => some (a, b)) = o := fun o => by cases o <;> rfl
  have b0 := hW.1
  have b1 := hW.2.1
  have hr := hW.2.2.2.2.2.2.1
  have hww := hW.2.2.2.2.2.2.2.1
  unfold f_X5_isStatementRead
  rw [p60, c_isWord hF (by decide) hc, bs, if_neg (by rw [decide_eq_true_iff]; exact hn), c_isWord hF (by decide) hc, bs, if_pos (decide_eq_true hw), id1]
  unfold f_X5_isWayRead
  rw [p60, p61, hD.2.1.2.2.1, gd_t (by omega), if_pos h0]
  obtain ⟨u1, a1, a2, a3⟩ := c_next hF hc
  rw [e1] at a2
  have D1 := hD.fk a3
  have hx1 := rhX_ok b0.1 q1
  have hy1 := rhX_ok b0.1 q2
  rw [hx] at hx1
  rw [hy] at hy1
  obtain ⟨cA, -⟩ := c_roofHere (F := F) (un := -1) hF P48 a2 D1.nmp b0 hr (by decide)
  obtain ⟨u2, a4, a5, a6⟩ := c_next hF a2
  rw [e2] at a5
  have D2 := D1.fk a6
  obtain ⟨cA2, -⟩ := c_roofHere (F := F) (un := x) hF P48 a5 D2.nmp b0 hr (by omega)
  rw [a1, bs, cA q1, hx, bj, gd_t (by omega), if_neg (by omega), a4, bs, cA2 q2, hy, bj, gd_t (by omega), if_neg (by omega), c_wayB (by omega) P48 D2.1 D2.2.1.2.2.1 D2.2.2.2.2.2 b0.2 b1 hww hx1.1 hy1.1, bs, hb, gd_t (by decide), if_pos rfl]
  obtain ⟨u3, s1, s2, s3⟩ := c_next hF a5
  rw [e3] at s2
  obtain ⟨u4, s4, s5, s6⟩ := (c_takeNum (F := F) (lo := 1) (hi := 9) hF s2 (by decide) (by decide)).1 n3
  rw [e4] at s5
  obtain ⟨u7, o1, o2, o3⟩ := (c_semi (F := F) hF s5).1 n4
  have w3 := nb_v n3
  have D7 := (((D2.fk s3).fk s6).fk o3)
  obtain ⟨u8, o7, o8, o9⟩ := c_addWay (F := F) (x := x) (y := y) (far := tV B N p3) P48 D7 hW h0
  rw [s1, bs, s4, bj, gd_t (by omega), if_neg (by omega), o1, bk, if_pos rfl, o7, bs]
  exact ⟨u8, rfl, o2.cut o9, o8, wayA_DW hW h0 hx1.1 hy1.1 (fun z => hy1.2 z.symm) w3 hb, (((((a3.fd.trans a6.fd).trans s3.fd).trans s6.fd).trans o3.fd).trans o9.fd)⟩
end Fi
