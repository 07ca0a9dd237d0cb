def f_X0_size (F : Nat) (a0 : Nat) (w : aI) : Option Int :=
  some (w a0 1)
def f_X0_get (F : Nat) (a0 : Nat) (p1 : Int) (w : aI) : Option Int :=
  gd (rg p1) (if p1 < 0 then (some (-1)) else (gd (rg (w a0 1)) (if (w a0 1) ≤ p1 then (some (-1)) else (if (shL (shR a0 0) : Int) ≤ p1 then (some (-1)) else (gd (inI p1 (shL (shR a0 0))) (some (w (shR a0 0) p1)))))))
def f_X0_add (F : Nat) (a0 : Nat) (p1 : Int) (w : aI) : Option aI :=
  gd (rg (w a0 1)) (if (w a0 1) < 0 then (some w) else (if (shL (shR a0 0) : Int) ≤ (w a0 1) then (some w) else (gd (inI (w a0 1) (shL (shR a0 0))) (ltM (iset w (shR a0 0) (w a0 1) p1) (fun w2 => ltM (iset w2 a0 1 ((w2 a0 1) + 1)) (fun w3 => some w3))))))
def f_X0_addText_b2_b (F : Nat) (a0 : Nat) (s1 : Nat)   (k2 : Int → aI → Option aI) (v2 : Int) (w : aI) : Option aI :=
  (f_strlen s1).bind (fun r1 => gd (rg v2 ∧ rg r1) (if r1 ≤ v2 then (some w) else ((f_strchr s1 v2).bind (fun r3 => (f_X0_add F a0 r3 w).bind (fun w4 => k2 (v2 + 1) w4)))))
def f_X0_addText_b2 (F : Nat) (a0 : Nat) (s1 : Nat)   : Nat → Int → aI → Option aI :=
  lp (f_X0_addText_b2_b F a0 s1  ) (fun _ _ => none)
def f_X0_addText (F : Nat) (a0 : Nat) (s1 : Nat) (w : aI) : Option aI :=
  f_X0_addText_b2 F a0 s1 F 0 w
def f_X0_addNumber_b24_b (F : Nat) (a0 : Nat) (p1 : Int)   (k24 : Int → aI → Option aI) (v2 : Int) (w : aI) : Option aI :=
  gd (rg v2) (if v2 ≤ 0 then (some w) else (gd (rg p1) (gd (¬ v2 = 0) (gd (rg (Int.tdiv p1 v2)) ((f_X0_add F a0 (48 + (Int.tmod (Int.tdiv p1 v2) 10)) w).bind (fun w7 => ltI (Int.tdiv v2 10) (fun v2_8 => k24 v2_8 w7)))))))
def f_X0_addNumber_b24 (F : Nat) (a0 : Nat) (p1 : Int)   : Nat → Int → aI → Option aI :=
  lp (f_X0_addNumber_b24_b F a0 p1  ) (fun _ _ => none)
def f_X0_addNumber_b2_b (F : Nat) (a0 : Nat) (p1 : Int)   (k2 : Int → aI → Option aI) (v2 : Int) (w : aI) : Option aI :=
  gd (rg p1) (gd (rg v2 ∧ rg (Int.tdiv p1 10)) (if (Int.tdiv p1 10) < v2 then (f_X0_addNumber_b24 F a0 p1 F v2 w) else (if 100000000 ≤ v2 then (f_X0_addNumber_b24 F a0 p1 F v2 w) else (ltI (v2 * 10) (fun v2_9 => k2 v2_9 w)))))
def f_X0_addNumber_b2 (F : Nat) (a0 : Nat) (p1 : Int)   : Nat → Int → aI → Option aI :=
  lp (f_X0_addNumber_b2_b F a0 p1  ) (fun _ _ => none)
def f_X0_addNumber (F : Nat) (a0 : Nat) (p1 : Int) (w : aI) : Option aI :=
  f_X0_addNumber_b2 F a0 p1 F 1 w
def f_X0_cutTo (F : Nat) (a0 : Nat) (p1 : Int) (w : aI) : Option (Bool × aI) :=
  gd (rg p1) (if p1 < 0 then (some (false, w)) else (gd (rg (w a0 1)) (if p1 ≤ (w a0 1) then (ltM (iset w a0 1 p1) (fun w3 => some (true, w3))) else (some (false, w)))))
def f_X0_clear (F : Nat) (a0 : Nat) (w : aI) : Option aI :=
  ltM (iset w a0 1 0) (fun w1 => some w1)
def f_X1_size (F : Nat) (a0 : Nat) (w : aI) : Option Int :=
  some (w a0 2)
def f_X1_forget (F : Nat) (a0 : Nat) (w : aI) : Option aI :=
  ltM (iset w a0 2 0) (fun w1 => some w1)
def f_X1_postAt (F : Nat) (a0 : Nat) (p1 : Int) (w : aI) : Option (Option Nat) :=
  gd (rg ((w a0 1) + p1)) (ltI (Int.tmod ((w a0 1) + p1) 8) (fun v2_2 => gd (rg v2_2) (if v2_2 < 0 then (some none) else (if (shL (shR a0 0) : Int) ≤ v2_2 then (some none) else (gd (inI v2_2 (shL (shR a0 0))) (some (some (shR (shR a0 0) v2_2.toNat))))))))
def f_X7_copyFrom (F : Nat) (a0 : Nat) (a1 : Nat) (w : aI) : Option aI :=
  gd (0 ≤ (min (shL (shR a0 2) : Int) (shL (shR a1 2) : Int)) ∧ (min (shL (shR a0 2) : Int) (shL (shR a1 2) : Int)) ≤ (shL (shR a1 2) : Int) ∧ (min (shL (shR a0 2) : Int) (shL (shR a1 2) : Int)) ≤ (shL (shR a0 2) : Int)) (ltM (icpy w (shR a1 2) (shR a0 2) (min (shL (shR a0 2) : Int) (shL (shR a1 2) : Int))) (fun w1 => some w1))
def f_X3_copyFrom (F : Nat) (a0 : Nat) (a1 : Nat) (w : aI) : Option aI :=
  (f_X7_copyFrom F (shR a0 0) (shR a1 0) w).bind (fun w1 => (f_X7_copyFrom F (shR a0 1) (shR a1 1) w1).bind (fun w2 => (f_X7_copyFrom F (shR a0 2) (shR a1 2) w2).bind (fun w3 => some w3)))
def f_X2_copyFrom (F : Nat) (a0 : Nat) (a1 : Nat) (w : aI) : Option aI :=
  ltM (iset w a0 0 (w a1 0)) (fun w1 => ltM (iset w1 a0 1 (w1 a1 1)) (fun w2 => ltM (iset w2 a0 2 (w2 a1 2)) (fun w3 => ltM (iset w3 a0 3 (w3 a1 3)) (fun w4 => (f_X7_copyFrom F (shR a0 4) (shR a1 4) w4).bind (fun w5 => (f_X7_copyFrom F (shR a0 5) (shR a1 5) w5).bind (fun w6 => (f_X7_copyFrom F (shR a0 6) (shR a1 6) w6).bind (fun w7 => (f_X7_copyFrom F (shR a0 7) (shR a1 7) w7).bind (fun w8 => (f_X7_copyFrom F (shR a0 8) (shR a1 8) w8).bind (fun w9 => (f_X3_copyFrom F (shR a0 9) (shR a1 9) w9).bind (fun w10 => some w10))))))))))
def f_X1_keep_b28 (F : Nat) (a0 : Nat) (a1 : Nat)     (w : aI) : Option aI :=
  (f_X1_postAt F a0 (w a0 2) w).bind (fun o2 => oc o2 none (fun q3 => gd (shK q3 = 10 + 2) ((f_X2_copyFrom F q3 a1 w).bind (fun w5 => ltM (iset w5 a0 2 ((w5 a0 2) + 1)) (fun w6 => some w6)))))
def f_X1_keep (F : Nat) (a0 : Nat) (a1 : Nat) (w : aI) : Option aI :=
  gd (rg (w a0 2)) (if (w a0 2) < 8 then (f_X1_keep_b28 F a0 a1 w) else (gd (rg ((w a0 1) + 1)) (ltM (iset w a0 1 (Int.tmod ((w a0 1) + 1) 8)) (fun w8 => ltM (iset w8 a0 2 7) (fun w9 => f_X1_keep_b28 F a0 a1 w9)))))
def f_X1_giveBack (F : Nat) (a0 : Nat) (a1 : Nat) (w : aI) : Option aI :=
  (f_X1_postAt F a0 ((w a0 2) - 1) w).bind (fun o1 => oc o1 none (fun q2 => gd (shK q2 = 10 + 2) (gd (rg (w a0 2)) (if (w a0 2) ≤ 0 then (some w) else ((f_X2_copyFrom F a1 q2 w).bind (fun w5 => ltM (iset w5 a0 2 ((w5 a0 2) - 1)) (fun w6 => some w6)))))))
def f_X7_put (F : Nat) (a0 : Nat) (p1 : Int) (p2 : Int) (p3 : Int) (w : aI) : Option aI :=
  gd (rg p1) (if p1 < 0 then (some w) else (gd (rg (w a0 0)) (if (w a0 0) ≤ p1 then (some w) else (gd (rg p2) (if p2 < 0 then (some w) else (gd (rg (w a0 1)) (if p2 < (w a0 1) then (ltI ((p1 * (w a0 1)) + p2) (fun v4_5 => gd (rg v4_5) (if (shL (shR a0 2) : Int) ≤ v4_5 then (some w) else (gd (inI v4_5 (shL (shR a0 2))) (ltM (iset w (shR a0 2) v4_5 p3) (fun w7 => some w7)))))) else (some w))))))))
def f_X2_settle (F : Nat) (a0 : Nat) (p1 : Int) (p2 : Int) (w : aI) : Option aI :=
  (f_X7_put F (shR a0 7) 0 (p1 - 8) p2 w).bind (fun w1 => some w1)
def f_X7_clearTo_b2_b (F : Nat) (a0 : Nat) (p1 : Int)   (k2 : Int → aI → Option aI) (v2 : Int) (w : aI) : Option aI :=
  gd (rg v2) (if (shL (shR a0 2) : Int) ≤ v2 then (some w) else (gd (inI v2 (shL (shR a0 2))) (ltM (iset w (shR a0 2) v2 p1) (fun w2 => k2 (v2 + 1) w2))))
def f_X7_clearTo_b2 (F : Nat) (a0 : Nat) (p1 : Int)   : Nat → Int → aI → Option aI :=
  lp (f_X7_clearTo_b2_b F a0 p1  ) (fun _ _ => none)
def f_X7_clearTo (F : Nat) (a0 : Nat) (p1 : Int) (w : aI) : Option aI :=
  f_X7_clearTo_b2 F a0 p1 F 0 w
def f_X2_clear (F : Nat) (a0 : Nat) (w : aI) : Option aI :=
  ltM (iset w a0 0 0) (fun w1 => ltM (iset w1 a0 1 0) (fun w2 => ltM (iset w2 a0 2 0) (fun w3 => ltM (iset w3 a0 3 0) (fun w4 => (f_X2_settle F a0 8 3 w4).bind (fun w5 => (f_X2_settle F a0 9 50 w5).bind (fun w6 => (f_X2_settle F a0 10 1 w6).bind (fun w7 => (f_X7_clearTo F (shR a0 8) 0 w7).bind (fun w8 => some w8))))))))
def f_X2_leastOf (F : Nat) (p0 : Int) (w : aI) : Option Int :=
  gd (rg p0) (if p0 = 9 then (some 1) else (some 0))
def f_X2_mostOf (F : Nat) (p0 : Int) (w : aI) : Option Int :=
  gd (rg p0) (if p0 = 8 then (some 9) else (if p0 = 9 then (some 60) else (some 3)))
def f_X7_get (F : Nat) (a0 : Nat) (p1 : Int) (p2 : Int) (w : aI) : Option Int :=
  gd (rg p1) (if p1 < 0 then (some (-1)) else (gd (rg (w a0 0)) (if (w a0 0) ≤ p1 then (some (-1)) else (gd (rg p2) (if p2 < 0 then (some (-1)) else (gd (rg (w a0 1)) (if p2 < (w a0 1) then (ltI ((p1 * (w a0 1)) + p2) (fun v3_5 => gd (rg v3_5) (if (shL (shR a0 2) : Int) ≤ v3_5 then (some (-1)) else (gd (inI v3_5 (shL (shR a0 2))) (some (w (shR a0 2) v3_5)))))) else (some (-1)))))))))
def f_X2_setting (F : Nat) (a0 : Nat) (p1 : Int) (w : aI) : Option Int :=
  (f_X7_get F (shR a0 7) 0 (p1 - 8) w).bind (fun r1 => some r1)
def f_X7_grow (F : Nat) (a0 : Nat) (p1 : Int) (p2 : Int) (p3 : Int) (w : aI) : Option aI :=
  gd (rg p1) (if p1 < 0 then (some w) else (gd (rg (w a0 0)) (if (w a0 0) ≤ p1 then (some w) else (gd (rg p2) (if p2 < 0 then (some w) else (gd (rg (w a0 1)) (if p2 < (w a0 1) then (ltI ((p1 * (w a0 1)) + p2) (fun v4_5 => gd (rg v4_5) (if (shL (shR a0 2) : Int) ≤ v4_5 then (some w) else (gd (inI v4_5 (shL (shR a0 2))) (gd (inI v4_5 (shL (shR a0 2))) (ltM (iset w (shR a0 2) v4_5 ((w (shR a0 2) v4_5) + p3)) (fun w7 => some w7))))))) else (some w))))))))
def f_X2_enter (F : Nat) (a0 : Nat) (p1 : Int) (p2 : Int) (w : aI) : Option aI :=
  (f_X7_grow F (shR a0 8) 0 p1 p2 w).bind (fun w1 => some w1)
def f_X2_addRoof (F : Nat) (a0 : Nat) (p1 : Int) (p2 : Int) (p3 : Int) (p4 : Int) (p5 : Int) (w : aI) : Option aI :=
  ltI (w a0 1) (fun v6_1 => (f_X7_put F (shR a0 4) v6_1 5 p1 w).bind (fun w2 => (f_X7_put F (shR a0 4) v6_1 0 p2 w2).bind (fun w3 => (f_X7_put F (shR a0 4) v6_1 1 p3 w3).bind (fun w4 => (f_X7_put F (shR a0 4) v6_1 2 p4 w4).bind (fun w5 => (f_X7_put F (shR a0 4) v6_1 3 p5 w5).bind (fun w6 => (f_X7_put F (shR a0 4) v6_1 6 p5 w6).bind (fun w7 => (f_X7_put F (shR a0 4) v6_1 4 0 w7).bind (fun w8 => (f_X7_put F (shR a0 4) v6_1 7 0 w8).bind (fun w9 => ltM (iset w9 a0 1 ((w9 a0 1) + 1)) (fun w10 => some w10))))))))))
def f_X2_addWay (F : Nat) (a0 : Nat) (p1 : Int) (p2 : Int) (p3 : Int) (w : aI) : Option aI :=
  (f_X7_put F (shR a0 5) (w a0 2) 0 p1 w).bind (fun w1 => (f_X7_put F (shR a0 5) (w1 a0 2) 1 p2 w1).bind (fun w2 => (f_X7_put F (shR a0 5) (w2 a0 2) 2 p3 w2).bind (fun w3 => ltM (iset w3 a0 2 ((w3 a0 2) + 1)) (fun w4 => some w4))))
def f_X2_addTune_b111 (F : Nat) (a0 : Nat) (p1 : Int) (p2 : Int) (p3 : Int) (p4 : Int) (p5 : Int) (p6 : Int)    (v7 : Int) (z0 : Int) (z1 : Int) (z2 : Int) (z3 : Nat) (w : aI) : Option (Int × aI) :=
  (f_X7_put F z3 z2 z1 z0 w).bind (fun w11 => (f_X7_put F (shR a0 6) v7 8 0 w11).bind (fun w12 => (f_X7_put F (shR a0 6) v7 9 p4 w12).bind (fun w13 => (f_X7_put F (shR a0 6) v7 10 p4 w13).bind (fun w14 => (f_X7_put F (shR a0 6) v7 11 0 w14).bind (fun w15 => (f_X7_put F (shR a0 6) v7 12 0 w15).bind (fun w16 => ltM (iset w16 a0 3 ((w16 a0 3) + 1)) (fun w17 => (f_X2_enter F a0 1 1 w17).bind (fun w18 => some (v7, w18)))))))))
def f_X2_addTune_b90 (F : Nat) (a0 : Nat) (p1 : Int) (p2 : Int) (p3 : Int) (p4 : Int) (p5 : Int) (p6 : Int)    (v7 : Int) (z0 : Int) (z1 : Int) (z2 : Int) (z3 : Nat) (w : aI) : Option (Int × aI) :=
  (f_X7_put F z3 z2 z1 z0 w).bind (fun w9 => gd (rg p6) (if p6 = 0 then (f_X2_addTune_b111 F a0 p1 p2 p3 p4 p5 p6 v7 0 7 v7 (shR a0 6) w9) else (f_X2_addTune_b111 F a0 p1 p2 p3 p4 p5 p6 v7 1 7 v7 (shR a0 6) w9)))
def f_X2_addTune (F : Nat) (a0 : Nat) (p1 : Int) (p2 : Int) (p3 : Int) (p4 : Int) (p5 : Int) (p6 : Int) (w : aI) : Option (Int × aI) :=
  ltI (w a0 3) (fun v7_1 => (f_X7_put F (shR a0 6) v7_1 0 p1 w).bind (fun w2 => (f_X7_put F (shR a0 6) v7_1 1 p2 w2).bind (fun w3 => (f_X7_put F (shR a0 6) v7_1 2 p3 w3).bind (fun w4 => (f_X7_put F (shR a0 6) v7_1 3 0 w4).bind (fun w5 => (f_X7_put F (shR a0 6) v7_1 4 p1 w5).bind (fun w6 => (f_X7_put F (shR a0 6) v7_1 5 (-1) w6).bind (fun w7 => gd (rg p5) (if p5 = 0 then (f_X2_addTune_b90 F a0 p1 p2 p3 p4 p5 p6 v7_1 0 6 v7_1 (shR a0 6) w7) else (f_X2_addTune_b90 F a0 p1 p2 p3 p4 p5 p6 v7_1 1 6 v7_1 (shR a0 6) w7)))))))))
def f_X2_hasTimeFor (F : Nat) (a0 : Nat) (p1 : Int) (w : aI) : Option Bool :=
  gd (rg ((w a0 0) + p1)) (if 9999 < ((w a0 0) + p1) then (some false) else (some true))
def f_X2_hasRoomFor (F : Nat) (a0 : Nat) (p1 : Int) (p2 : Int) (w : aI) : Option Bool :=
  (f_X7_get F (shR a0 4) p1 3 w).bind (fun r1 => gd (rg (r1 + p2)) (if 9999 < (r1 + p2) then (some false) else (some true)))
def f_X2_takeCoins (F : Nat) (a0 : Nat) (p1 : Int) (p2 : Int) (w : aI) : Option aI :=
  (f_X7_grow F (shR a0 4) p1 3 p2 w).bind (fun w1 => (f_X2_enter F a0 10 p2 w1).bind (fun w2 => some w2))
def f_X2_acrossFrom (F : Nat) (a0 : Nat) (p1 : Int) (p2 : Int) (w : aI) : Option Int :=
  (f_X7_get F (shR a0 5) p2 0 w).bind (fun r1 => (f_X7_get F (shR a0 5) p2 1 w).bind (fun r2 => gd (rg r1 ∧ rg p1) (if r1 = p1 then (some r2) else (gd (rg r2) (if r2 = p1 then (some r1) else (some (-1)))))))
def f_X2_wayBetween_b2_b (F : Nat) (a0 : Nat) (p1 : Int) (p2 : Int) (w : aI)  (k2 : Int → Option Int) (v3 : Int)  : Option Int :=
  gd (rg v3 ∧ rg (w a0 2)) (if (w a0 2) ≤ v3 then (some (-1)) else ((f_X2_acrossFrom F a0 p1 v3 w).bind (fun r2 => gd (rg r2 ∧ rg p2) (if r2 = p2 then (some v3) else (k2 (v3 + 1))))))
def f_X2_wayBetween_b2 (F : Nat) (a0 : Nat) (p1 : Int) (p2 : Int) (w : aI)  : Nat → Int → Option Int :=
  lp (f_X2_wayBetween_b2_b F a0 p1 p2 w ) (fun _ => none)
def f_X2_wayBetween (F : Nat) (a0 : Nat) (p1 : Int) (p2 : Int) (w : aI) : Option Int :=
  f_X2_wayBetween_b2 F a0 p1 p2 w F 0
def f_X7_removeRow_b14_b (F : Nat) (a0 : Nat) (p1 : Int)  (k4 : Int → aI → Option aI) (k14 : Int → Int → aI → Option aI) (v2 : Int) (v3 : Int) (w : aI) : Option aI :=
  gd (rg v3 ∧ rg (w a0 1)) (if (w a0 1) ≤ v3 then (k4 (v2 + 1) w) else ((f_X7_get F a0 v2 v3 w).bind (fun r4 => (f_X7_put F a0 (v2 - 1) v3 r4 w).bind (fun w5 => k14 v2 (v3 + 1) w5))))
def f_X7_removeRow_b14 (F : Nat) (a0 : Nat) (p1 : Int)  (k4 : Int → aI → Option aI) : Nat → Int → Int → aI → Option aI :=
  lp (f_X7_removeRow_b14_b F a0 p1  k4) (fun _ _ _ => none)
def f_X7_removeRow_b4_b (F : Nat) (a0 : Nat) (p1 : Int)   (k4 : Int → aI → Option aI) (v2 : Int) (w : aI) : Option aI :=
  gd (rg v2 ∧ rg (w a0 0)) (if (w a0 0) ≤ v2 then (some w) else (f_X7_removeRow_b14 F a0 p1 k4 F v2 0 w))
def f_X7_removeRow_b4 (F : Nat) (a0 : Nat) (p1 : Int)   : Nat → Int → aI → Option aI :=
  lp (f_X7_removeRow_b4_b F a0 p1  ) (fun _ _ => none)
def f_X7_removeRow (F : Nat) (a0 : Nat) (p1 : Int) (w : aI) : Option aI :=
  ltI (p1 + 1) (fun v2_1 => f_X7_removeRow_b4 F a0 p1 F v2_1 w)
def f_X3_layNone_b28_b (F : Nat) (a0 : Nat) (a1 : Nat)   (k28 : Int → aI → Option aI) (v2 : Int) (w : aI) : Option aI :=
  gd (rg v2 ∧ rg (w a1 1)) (if (w a1 1) ≤ v2 then (some w) else ((f_X7_put F (shR a0 1) v2 v2 0 w).bind (fun w5 => k28 (v2 + 1) w5)))
def f_X3_layNone_b28 (F : Nat) (a0 : Nat) (a1 : Nat)   : Nat → Int → aI → Option aI :=
  lp (f_X3_layNone_b28_b F a0 a1  ) (fun _ _ => none)
def f_X3_layNone (F : Nat) (a0 : Nat) (a1 : Nat) (w : aI) : Option aI :=
  (f_X7_clearTo F (shR a0 0) (-1) w).bind (fun w1 => (f_X7_clearTo F (shR a0 1) 9999 w1).bind (fun w2 => (f_X7_clearTo F (shR a0 2) (-1) w2).bind (fun w3 => f_X3_layNone_b28 F a0 a1 F 0 w3)))
def f_X3_layWay (F : Nat) (a0 : Nat) (p1 : Int) (p2 : Int) (p3 : Int) (w : aI) : Option aI :=
  (f_X7_put F (shR a0 0) p1 p2 p3 w).bind (fun w1 => (f_X7_put F (shR a0 0) p2 p1 p3 w1).bind (fun w2 => (f_X7_put F (shR a0 1) p1 p2 p3 w2).bind (fun w3 => (f_X7_put F (shR a0 1) p2 p1 p3 w3).bind (fun w4 => some w4))))
def f_X3_shorten (F : Nat) (a0 : Nat) (p1 : Int) (p2 : Int) (p3 : Int) (w : aI) : Option aI :=
  (f_X7_get F (shR a0 1) p1 p2 w).bind (fun r1 => gd (rg p3 ∧ rg r1) (if r1 ≤ p3 then (some w) else ((f_X7_put F (shR a0 1) p1 p2 p3 w).bind (fun w3 => some w3))))
def f_X3_beginOf_b2_b (F : Nat) (a0 : Nat) (p1 : Int) (p2 : Int) (w : aI)  (k2 : Int → Option Int) (v3 : Int)  : Option Int :=
  gd (rg v3) (if 10 ≤ v3 then (some (-1)) else ((f_X7_get F (shR a0 0) p1 v3 w).bind (fun r2 => gd (rg r2) (if r2 = (-1) then (k2 (v3 + 1)) else ((f_X7_get F (shR a0 1) v3 p2 w).bind (fun r4 => (f_X7_get F (shR a0 1) p1 p2 w).bind (fun r5 => gd (rg (r2 + r4) ∧ rg r5) (if (r2 + r4) = r5 then (some v3) else (k2 (v3 + 1))))))))))
def f_X3_beginOf_b2 (F : Nat) (a0 : Nat) (p1 : Int) (p2 : Int) (w : aI)  : Nat → Int → Option Int :=
  lp (f_X3_beginOf_b2_b F a0 p1 p2 w ) (fun _ => none)
def f_X3_beginOf (F : Nat) (a0 : Nat) (p1 : Int) (p2 : Int) (w : aI) : Option Int :=
  f_X3_beginOf_b2 F a0 p1 p2 w F 0
def f_X3_pointAll_b12_b (F : Nat) (a0 : Nat) (a1 : Nat)  (k2 : Int → aI → Option aI) (k12 : Int → Int → aI → Option aI) (v2 : Int) (v3 : Int) (w : aI) : Option aI :=
  gd (rg v3 ∧ rg (w a1 1)) (if (w a1 1) ≤ v3 then (k2 (v2 + 1) w) else (gd (rg v2) (if v2 = v3 then (k12 v2 (v3 + 1) w) else ((f_X7_get F (shR a0 1) v2 v3 w).bind (fun r4 => gd (rg r4) (if 9999 ≤ r4 then (k12 v2 (v3 + 1) w) else ((f_X3_beginOf F a0 v2 v3 w).bind (fun r6 => (f_X7_put F (shR a0 2) v2 v3 r6 w).bind (fun w7 => k12 v2 (v3 + 1) w7)))))))))
def f_X3_pointAll_b12 (F : Nat) (a0 : Nat) (a1 : Nat)  (k2 : Int → aI → Option aI) : Nat → Int → Int → aI → Option aI :=
  lp (f_X3_pointAll_b12_b F a0 a1  k2) (fun _ _ _ => none)
def f_X3_pointAll_b2_b (F : Nat) (a0 : Nat) (a1 : Nat)   (k2 : Int → aI → Option aI) (v2 : Int) (w : aI) : Option aI :=
  gd (rg v2 ∧ rg (w a1 1)) (if (w a1 1) ≤ v2 then (some w) else (f_X3_pointAll_b12 F a0 a1 k2 F v2 0 w))
def f_X3_pointAll_b2 (F : Nat) (a0 : Nat) (a1 : Nat)   : Nat → Int → aI → Option aI :=
  lp (f_X3_pointAll_b2_b F a0 a1  ) (fun _ _ => none)
def f_X3_pointAll (F : Nat) (a0 : Nat) (a1 : Nat) (w : aI) : Option aI :=
  f_X3_pointAll_b2 F a0 a1 F 0 w
def f_X3_lay_b75_b (F : Nat) (a0 : Nat) (a1 : Nat)  (k54 : Int → aI → Option aI) (k64 : Int → Int → aI → Option aI) (k75 : Int → Int → Int → aI → Option aI) (v2 : Int) (v3 : Int) (v4 : Int) (w : aI) : Option aI :=
  gd (rg v4 ∧ rg (w a1 1)) (if (w a1 1) ≤ v4 then (k64 v2 (v3 + 1) w) else ((f_X7_get F (shR a0 1) v3 v2 w).bind (fun r7 => (f_X7_get F (shR a0 1) v2 v4 w).bind (fun r8 => (f_X3_shorten F a0 v3 v4 (r7 + r8) w).bind (fun w9 => k75 v2 v3 (v4 + 1) w9)))))
def f_X3_lay_b75 (F : Nat) (a0 : Nat) (a1 : Nat)  (k54 : Int → aI → Option aI) (k64 : Int → Int → aI → Option aI) : Nat → Int → Int → Int → aI → Option aI :=
  lp (f_X3_lay_b75_b F a0 a1  k54 k64) (fun _ _ _ _ => none)
def f_X3_lay_b64_b (F : Nat) (a0 : Nat) (a1 : Nat)  (k54 : Int → aI → Option aI) (k64 : Int → Int → aI → Option aI) (v2 : Int) (v3 : Int) (w : aI) : Option aI :=
  gd (rg v3 ∧ rg (w a1 1)) (if (w a1 1) ≤ v3 then (k54 (v2 + 1) w) else (f_X3_lay_b75 F a0 a1 k54 k64 F v2 v3 0 w))
def f_X3_lay_b64 (F : Nat) (a0 : Nat) (a1 : Nat)  (k54 : Int → aI → Option aI) : Nat → Int → Int → aI → Option aI :=
  lp (f_X3_lay_b64_b F a0 a1  k54) (fun _ _ _ => none)
def f_X3_lay_b54_b (F : Nat) (a0 : Nat) (a1 : Nat)   (k54 : Int → aI → Option aI) (v2 : Int) (w : aI) : Option aI :=
  gd (rg v2 ∧ rg (w a1 1)) (if (w a1 1) ≤ v2 then ((f_X3_pointAll F a0 a1 w).bind (fun w4 => some w4)) else (f_X3_lay_b64 F a0 a1 k54 F v2 0 w))
def f_X3_lay_b54 (F : Nat) (a0 : Nat) (a1 : Nat)   : Nat → Int → aI → Option aI :=
  lp (f_X3_lay_b54_b F a0 a1  ) (fun _ _ => none)
def f_X3_lay_b7_b (F : Nat) (a0 : Nat) (a1 : Nat)   (k7 : Int → aI → Option aI) (v2 : Int) (w : aI) : Option aI :=
  gd (rg v2 ∧ rg (w a1 2)) (if (w a1 2) ≤ v2 then (f_X3_lay_b54 F a0 a1 F 0 w) else ((f_X7_get F (shR a1 5) v2 0 w).bind (fun r10 => (f_X7_get F (shR a1 5) v2 1 w).bind (fun r11 => (f_X7_get F (shR a1 5) v2 2 w).bind (fun r12 => (f_X3_layWay F a0 r10 r11 r12 w).bind (fun w13 => k7 (v2 + 1) w13))))))
def f_X3_lay_b7 (F : Nat) (a0 : Nat) (a1 : Nat)   : Nat → Int → aI → Option aI :=
  lp (f_X3_lay_b7_b F a0 a1  ) (fun _ _ => none)
def f_X3_lay (F : Nat) (a0 : Nat) (a1 : Nat) (w : aI) : Option aI :=
  (f_X3_layNone F a0 a1 w).bind (fun w1 => f_X3_lay_b7 F a0 a1 F 0 w1)
def f_X2_cutWay (F : Nat) (a0 : Nat) (p1 : Int) (p2 : Int) (w : aI) : Option (Bool × aI) :=
  (f_X2_wayBetween F a0 p1 p2 w).bind (fun r1 => gd (rg r1) (if r1 = (-1) then (some (false, w)) else ((f_X7_removeRow F (shR a0 5) r1 w).bind (fun w3 => ltM (iset w3 a0 2 ((w3 a0 2) - 1)) (fun w4 => (f_X3_lay F (shR a0 9) a0 w4).bind (fun w5 => some (true, w5)))))))
def f_X2_roofNamed_b2_b (F : Nat) (a0 : Nat) (p1 : Int) (w : aI)  (k2 : Int → Option Int) (v2 : Int)  : Option Int :=
  gd (rg v2 ∧ rg (w a0 1)) (if (w a0 1) ≤ v2 then (some (-1)) else ((f_X7_get F (shR a0 4) v2 5 w).bind (fun r2 => gd (rg r2 ∧ rg p1) (if r2 = p1 then (some v2) else (k2 (v2 + 1))))))
def f_X2_roofNamed_b2 (F : Nat) (a0 : Nat) (p1 : Int) (w : aI)  : Nat → Int → Option Int :=
  lp (f_X2_roofNamed_b2_b F a0 p1 w ) (fun _ => none)
def f_X2_roofNamed (F : Nat) (a0 : Nat) (p1 : Int) (w : aI) : Option Int :=
  f_X2_roofNamed_b2 F a0 p1 w F 0
def f_X2_letterOf (F : Nat) (a0 : Nat) (p1 : Int) (p2 : Int) (w : aI) : Option Int :=
  gd (rg p2) (if p2 < 0 then (some (-1)) else (if p2 < 6 then ((f_X7_get F (shR a0 4) p1 5 w).bind (fun r2 => gd (rg r2) (gd (0 ≤ (5 * p2) ∧ (5 * p2) < 32) (ltI (andI (shr r2 (5 * p2)) 31) (fun v3_5 => gd (rg v3_5) (if v3_5 = 0 then (some (-1)) else (some (96 + v3_5)))))))) else (some (-1))))
def f_X2_tunesIn_b4_b (F : Nat) (a0 : Nat) (p1 : Int) (w : aI)  (k4 : Int → Int → Option Int) (v2 : Int) (v3 : Int)  : Option Int :=
  gd (rg v3 ∧ rg (w a0 3)) (if (w a0 3) ≤ v3 then (some v2) else ((f_X7_get F (shR a0 6) v3 3 w).bind (fun r2 => gd (rg r2 ∧ rg p1) (if r2 = p1 then (k4 (v2 + 1) (v3 + 1)) else (k4 v2 (v3 + 1))))))
def f_X2_tunesIn_b4 (F : Nat) (a0 : Nat) (p1 : Int) (w : aI)  : Nat → Int → Int → Option Int :=
  lp (f_X2_tunesIn_b4_b F a0 p1 w ) (fun _ _ => none)
def f_X2_tunesIn (F : Nat) (a0 : Nat) (p1 : Int) (w : aI) : Option Int :=
  f_X2_tunesIn_b4 F a0 p1 w F 0 0
def f_X2_isBusy (F : Nat) (a0 : Nat) (p1 : Int) (p2 : Int) (w : aI) : Option Bool :=
  (f_X7_get F (shR a0 4) p1 4 w).bind (fun r1 => gd (rg r1 ∧ rg p2) (if r1 ≤ p2 then (some false) else (some true)))
def f_X2_busyWhistlers_b4_b (F : Nat) (a0 : Nat) (w : aI)  (k4 : Int → Int → Option Int) (v1 : Int) (v2 : Int)  : Option Int :=
  gd (rg v2 ∧ rg (w a0 1)) (if (w a0 1) ≤ v2 then (some v1) else ((f_X2_isBusy F a0 v2 (w a0 0) w).bind (fun r2 => if r2 then (k4 (v1 + 1) (v2 + 1)) else (k4 v1 (v2 + 1)))))
def f_X2_busyWhistlers_b4 (F : Nat) (a0 : Nat) (w : aI)  : Nat → Int → Int → Option Int :=
  lp (f_X2_busyWhistlers_b4_b F a0 w ) (fun _ _ => none)
def f_X2_busyWhistlers (F : Nat) (a0 : Nat) (w : aI) : Option Int :=
  f_X2_busyWhistlers_b4 F a0 w F 0 0
def f_X2_pursesTogether_b4_b (F : Nat) (a0 : Nat) (w : aI)  (k4 : Int → Int → Option Int) (v1 : Int) (v2 : Int)  : Option Int :=
  gd (rg v2 ∧ rg (w a0 1)) (if (w a0 1) ≤ v2 then (some v1) else ((f_X7_get F (shR a0 4) v2 3 w).bind (fun r2 => ltI (v1 + r2) (fun v1_3 => k4 v1_3 (v2 + 1)))))
def f_X2_pursesTogether_b4 (F : Nat) (a0 : Nat) (w : aI)  : Nat → Int → Int → Option Int :=
  lp (f_X2_pursesTogether_b4_b F a0 w ) (fun _ _ => none)
def f_X2_pursesTogether (F : Nat) (a0 : Nat) (w : aI) : Option Int :=
  f_X2_pursesTogether_b4 F a0 w F 0 0
def f_X2_numberOfAll (F : Nat) (a0 : Nat) (p1 : Int) (w : aI) : Option Int :=
  gd (rg p1) (if p1 = 0 then (some (w a0 1)) else (if p1 = 1 then (some (w a0 2)) else (if p1 = 2 then (some (w a0 3)) else (if p1 = 3 then ((f_X2_tunesIn F a0 (p1 - 3) w).bind (fun r6 => some r6)) else (if p1 = 4 then ((f_X2_tunesIn F a0 (p1 - 3) w).bind (fun r8 => some r8)) else (if p1 = 5 then ((f_X2_tunesIn F a0 (p1 - 3) w).bind (fun r10 => some r10)) else (if p1 = 6 then ((f_X2_tunesIn F a0 (p1 - 3) w).bind (fun r12 => some r12)) else (if p1 = 7 then (some (w a0 0)) else (if p1 = 8 then ((f_X2_setting F a0 p1 w).bind (fun r15 => some r15)) else (if p1 = 9 then ((f_X2_setting F a0 p1 w).bind (fun r17 => some r17)) else (if p1 = 10 then ((f_X2_setting F a0 p1 w).bind (fun r19 => some r19)) else (if p1 = 11 then ((f_X2_busyWhistlers F a0 w).bind (fun r21 => some r21)) else (if p1 = 12 then ((f_X2_pursesTogether F a0 w).bind (fun r23 => some r23)) else ((f_X2_setting F a0 p1 w).bind (fun r24 => some r24)))))))))))))))
def f_X2_isWaitingAt (F : Nat) (a0 : Nat) (p1 : Int) (p2 : Int) (w : aI) : Option Bool :=
  (f_X7_get F (shR a0 6) p1 3 w).bind (fun r1 => gd (rg r1) (if r1 = 0 then ((f_X7_get F (shR a0 6) p1 4 w).bind (fun r3 => gd (rg r3 ∧ rg p2) (if r3 = p2 then (some true) else (some false)))) else (some false)))
def f_X2_tunesAt_b4_b (F : Nat) (a0 : Nat) (p1 : Int) (w : aI)  (k4 : Int → Int → Option Int) (v2 : Int) (v3 : Int)  : Option Int :=
  gd (rg v3 ∧ rg (w a0 3)) (if (w a0 3) ≤ v3 then (some v2) else ((f_X2_isWaitingAt F a0 v3 p1 w).bind (fun r2 => if r2 then (k4 (v2 + 1) (v3 + 1)) else (k4 v2 (v3 + 1)))))
def f_X2_tunesAt_b4 (F : Nat) (a0 : Nat) (p1 : Int) (w : aI)  : Nat → Int → Int → Option Int :=
  lp (f_X2_tunesAt_b4_b F a0 p1 w ) (fun _ _ => none)
def f_X2_tunesAt (F : Nat) (a0 : Nat) (p1 : Int) (w : aI) : Option Int :=
  f_X2_tunesAt_b4 F a0 p1 w F 0 0
def f_X2_waysAt_b4_b (F : Nat) (a0 : Nat) (p1 : Int) (w : aI)  (k4 : Int → Int → Option Int) (v2 : Int) (v3 : Int)  : Option Int :=
  gd (rg v3 ∧ rg (w a0 2)) (if (w a0 2) ≤ v3 then (some v2) else ((f_X2_acrossFrom F a0 p1 v3 w).bind (fun r2 => gd (rg r2) (if r2 = (-1) then (k4 v2 (v3 + 1)) else (k4 (v2 + 1) (v3 + 1))))))
def f_X2_waysAt_b4 (F : Nat) (a0 : Nat) (p1 : Int) (w : aI)  : Nat → Int → Int → Option Int :=
  lp (f_X2_waysAt_b4_b F a0 p1 w ) (fun _ _ => none)
def f_X2_waysAt (F : Nat) (a0 : Nat) (p1 : Int) (w : aI) : Option Int :=
  f_X2_waysAt_b4 F a0 p1 w F 0 0
def f_X2_numberOfRoof (F : Nat) (a0 : Nat) (p1 : Int) (p2 : Int) (w : aI) : Option Int :=
  gd (rg p2) (if p2 = 4 then ((f_X7_get F (shR a0 4) p1 4 w).bind (fun r3 => gd (rg (r3 - (w a0 0))) (some (max 0 (r3 - (w a0 0)))))) else (if p2 = 5 then ((f_X2_tunesAt F a0 p1 w).bind (fun r6 => some r6)) else (if p2 = 6 then ((f_X2_waysAt F a0 p1 w).bind (fun r8 => some r8)) else ((f_X7_get F (shR a0 4) p1 p2 w).bind (fun r9 => some r9)))))
def f_X2_barsOf (F : Nat) (p0 : Int) (w : aI) : Option Int :=
  gd (rg (p0 + 3)) (some (Int.tdiv (p0 + 3) 4))
def f_X2_barsOfTune (F : Nat) (a0 : Nat) (p1 : Int) (w : aI) : Option Int :=
  (f_X7_get F (shR a0 6) p1 2 w).bind (fun r1 => (f_X2_barsOf F r1 w).bind (fun r2 => some r2))
def f_X2_waitingAt_b13_b (F : Nat) (a0 : Nat) (p1 : Int) (p2 : Int) (w : aI) (k5 : Int → Int → Option Int) (k13 : Int → Int → Int → Option Int) (v3 : Int) (v4 : Int) (v5 : Int)  : Option Int :=
  gd (rg v5 ∧ rg (w a0 3)) (if (w a0 3) ≤ v5 then (k5 v3 (v4 + (-1))) else ((f_X2_isWaitingAt F a0 v5 p1 w).bind (fun r3 => if r3 then ((f_X2_barsOfTune F a0 v5 w).bind (fun r4 => gd (rg r4 ∧ rg v4) (if r4 = v4 then (gd (rg v3 ∧ rg p2) (if v3 = p2 then (some v5) else (k13 (v3 + 1) v4 (v5 + 1)))) else (k13 v3 v4 (v5 + 1))))) else (k13 v3 v4 (v5 + 1)))))
def f_X2_waitingAt_b13 (F : Nat) (a0 : Nat) (p1 : Int) (p2 : Int) (w : aI) (k5 : Int → Int → Option Int) : Nat → Int → Int → Int → Option Int :=
  lp (f_X2_waitingAt_b13_b F a0 p1 p2 w k5) (fun _ _ _ => none)
def f_X2_waitingAt_b5_b (F : Nat) (a0 : Nat) (p1 : Int) (p2 : Int) (w : aI)  (k5 : Int → Int → Option Int) (v3 : Int) (v4 : Int)  : Option Int :=
  gd (rg v4) (if v4 ≤ 0 then (some (-1)) else (f_X2_waitingAt_b13 F a0 p1 p2 w k5 F v3 v4 0))
def f_X2_waitingAt_b5 (F : Nat) (a0 : Nat) (p1 : Int) (p2 : Int) (w : aI)  : Nat → Int → Int → Option Int :=
  lp (f_X2_waitingAt_b5_b F a0 p1 p2 w ) (fun _ _ => none)
def f_X2_waitingAt (F : Nat) (a0 : Nat) (p1 : Int) (p2 : Int) (w : aI) : Option Int :=
  f_X2_waitingAt_b5 F a0 p1 p2 w F 0 2
def f_X10_noteOf (F : Nat) (p0 : Int) (p1 : Int) (w : aI) : Option Int :=
  gd (rg p0) (gd (0 ≤ (3 * p1) ∧ (3 * p1) < 32) (some (andI (shr p0 (3 * p1)) 7)))
def f_X2_notesUnlikeSent_b28_b (F : Nat) (a0 : Nat) (p1 : Int) (w : aI)  (k28 : Int → Int → Int → Int → Option Int) (v2 : Int) (v3 : Int) (v4 : Int) (v5 : Int)  : Option Int :=
  gd (rg v5) (if 8 ≤ v5 then (some v2) else ((f_X10_noteOf F v3 v5 w).bind (fun r4 => (f_X10_noteOf F v4 v5 w).bind (fun r5 => gd (rg r4 ∧ rg r5) (if r4 = r5 then (k28 v2 v3 v4 (v5 + 1)) else (k28 (v2 + 1) v3 v4 (v5 + 1)))))))
def f_X2_notesUnlikeSent_b28 (F : Nat) (a0 : Nat) (p1 : Int) (w : aI)  : Nat → Int → Int → Int → Int → Option Int :=
  lp (f_X2_notesUnlikeSent_b28_b F a0 p1 w ) (fun _ _ _ _ => none)
def f_X2_notesUnlikeSent (F : Nat) (a0 : Nat) (p1 : Int) (w : aI) : Option Int :=
  (f_X7_get F (shR a0 6) p1 9 w).bind (fun r1 => (f_X7_get F (shR a0 6) p1 10 w).bind (fun r2 => f_X2_notesUnlikeSent_b28 F a0 p1 w F 0 r1 r2 0))
def f_X2_numberOfTune (F : Nat) (a0 : Nat) (p1 : Int) (p2 : Int) (w : aI) : Option Int :=
  gd (rg p2) (if p2 = 9 then ((f_X2_barsOfTune F a0 p1 w).bind (fun r3 => some r3)) else (if p2 = 10 then ((f_X2_notesUnlikeSent F a0 p1 w).bind (fun r5 => some r5)) else ((f_X7_get F (shR a0 6) p1 p2 w).bind (fun r6 => some r6))))
def f_X2_nextOf (F : Nat) (a0 : Nat) (p1 : Int) (w : aI) : Option Int :=
  (f_X7_get F (shR a0 6) p1 4 w).bind (fun r1 => (f_X7_get F (shR a0 6) p1 1 w).bind (fun r2 => (f_X7_get F (shR (shR a0 9) 2) r1 r2 w).bind (fun r3 => some r3)))
def f_X2_lackOf (F : Nat) (a0 : Nat) (p1 : Int) (w : aI) : Option Int :=
  (f_X7_get F (shR a0 6) p1 4 w).bind (fun r1 => (f_X7_get F (shR a0 4) r1 2 w).bind (fun r2 => (f_X7_get F (shR a0 6) p1 2 w).bind (fun r3 => (f_X2_barsOf F r3 w).bind (fun r4 => ltI (r2 * r4) (fun v2_5 => (f_X7_get F (shR a0 6) p1 0 w).bind (fun r6 => (f_X7_get F (shR a0 4) r6 3 w).bind (fun r7 => some (v2_5 - r7))))))))
def f_X2_firstToGoFrom_b4_b (F : Nat) (a0 : Nat) (p1 : Int) (w : aI)  (k4 : Int → Int → Option Int) (v2 : Int) (v3 : Int)  : Option Int :=
  gd (rg v3 ∧ rg (w a0 3)) (if (w a0 3) ≤ v3 then (some v2) else ((f_X2_isWaitingAt F a0 v3 p1 w).bind (fun r2 => if r2 then ((f_X2_nextOf F a0 v3 w).bind (fun r3 => gd (rg r3) (if r3 = (-1) then (k4 v2 (v3 + 1)) else ((f_X2_lackOf F a0 v3 w).bind (fun r5 => gd (rg r5) (if 0 < r5 then (k4 v2 (v3 + 1)) else (gd (rg v2) (if v2 = (-1) then (k4 v3 (v3 + 1)) else ((f_X2_barsOfTune F a0 v3 w).bind (fun r8 => (f_X2_barsOfTune F a0 v2 w).bind (fun r9 => gd (rg r8 ∧ rg r9) (if r8 ≤ r9 then (k4 v2 (v3 + 1)) else (k4 v3 (v3 + 1)))))))))))))) else (k4 v2 (v3 + 1)))))
def f_X2_firstToGoFrom_b4 (F : Nat) (a0 : Nat) (p1 : Int) (w : aI)  : Nat → Int → Int → Option Int :=
  lp (f_X2_firstToGoFrom_b4_b F a0 p1 w ) (fun _ _ => none)
def f_X2_firstToGoFrom (F : Nat) (a0 : Nat) (p1 : Int) (w : aI) : Option Int :=
  f_X2_firstToGoFrom_b4 F a0 p1 w F (-1) 0
def f_X2_wrongOf (F : Nat) (a0 : Nat) (p1 : Int) (p2 : Int) (p3 : Int) (p4 : Int) (w : aI) : Option Int :=
  (f_X7_get F (shR a0 4) p2 1 w).bind (fun r1 => gd (rg ((p4 * p1) - (3 * r1))) (ltI (max 0 ((p4 * p1) - (3 * r1))) (fun v5_3 => gd (rg v5_3) (gd (rg (Int.tdiv v5_3 10) ∧ rg p3) (some (min (Int.tdiv v5_3 10) p3))))))
def f_X3_sumByWays_b61_b (F : Nat) (a0 : Nat) (a1 : Nat)  (k7 : Int → aI → Option aI) (k17 : Int → Int → aI → Option aI) (k61 : Int → Int → Int → Int → Int → Int → aI → Option aI) (v2 : Int) (v3 : Int) (v4 : Int) (v5 : Int) (v6 : Int) (v7 : Int) (w : aI) : Option aI :=
  gd (rg v7 ∧ rg (w a1 1)) (if (w a1 1) ≤ v7 then (k17 v2 (v3 + 1) w) else ((f_X7_get F (shR a0 1) v7 v5 w).bind (fun r8 => (f_X3_shorten F a0 v7 v4 (r8 + v6) w).bind (fun w9 => (f_X7_get F (shR a0 1) v7 v4 w9).bind (fun r10 => (f_X3_shorten F a0 v7 v5 (r10 + v6) w9).bind (fun w11 => k61 v2 v3 v4 v5 v6 (v7 + 1) w11))))))
def f_X3_sumByWays_b61 (F : Nat) (a0 : Nat) (a1 : Nat)  (k7 : Int → aI → Option aI) (k17 : Int → Int → aI → Option aI) : Nat → Int → Int → Int → Int → Int → Int → aI → Option aI :=
  lp (f_X3_sumByWays_b61_b F a0 a1  k7 k17) (fun _ _ _ _ _ _ _ => none)
def f_X3_sumByWays_b17_b (F : Nat) (a0 : Nat) (a1 : Nat)  (k7 : Int → aI → Option aI) (k17 : Int → Int → aI → Option aI) (v2 : Int) (v3 : Int) (w : aI) : Option aI :=
  gd (rg v3 ∧ rg (w a1 2)) (if (w a1 2) ≤ v3 then (k7 (v2 + 1) w) else ((f_X7_get F (shR a1 5) v3 0 w).bind (fun r4 => (f_X7_get F (shR a1 5) v3 1 w).bind (fun r5 => (f_X7_get F (shR a1 5) v3 2 w).bind (fun r6 => f_X3_sumByWays_b61 F a0 a1 k7 k17 F v2 v3 r4 r5 r6 0 w)))))
def f_X3_sumByWays_b17 (F : Nat) (a0 : Nat) (a1 : Nat)  (k7 : Int → aI → Option aI) : Nat → Int → Int → aI → Option aI :=
  lp (f_X3_sumByWays_b17_b F a0 a1  k7) (fun _ _ _ => none)
def f_X3_sumByWays_b7_b (F : Nat) (a0 : Nat) (a1 : Nat)   (k7 : Int → aI → Option aI) (v2 : Int) (w : aI) : Option aI :=
  gd (rg v2 ∧ rg (w a1 1)) (if (w a1 1) ≤ v2 then (some w) else (f_X3_sumByWays_b17 F a0 a1 k7 F v2 0 w))
def f_X3_sumByWays_b7 (F : Nat) (a0 : Nat) (a1 : Nat)   : Nat → Int → aI → Option aI :=
  lp (f_X3_sumByWays_b7_b F a0 a1  ) (fun _ _ => none)
def f_X3_sumByWays (F : Nat) (a0 : Nat) (a1 : Nat) (w : aI) : Option aI :=
  (f_X3_layNone F a0 a1 w).bind (fun w1 => f_X3_sumByWays_b7 F a0 a1 F 1 w1)
def f_X3_hasSameSums_b10_b (F : Nat) (a0 : Nat) (a1 : Nat) (p2 : Int) (w : aI) (k2 : Int → Option Bool) (k10 : Int → Int → Option Bool) (v3 : Int) (v4 : Int)  : Option Bool :=
  gd (rg v4 ∧ rg p2) (if p2 ≤ v4 then (k2 (v3 + 1)) else ((f_X7_get F (shR a0 1) v3 v4 w).bind (fun r3 => (f_X7_get F (shR a1 1) v3 v4 w).bind (fun r4 => gd (rg r3 ∧ rg r4) (if r3 = r4 then (k10 v3 (v4 + 1)) else (some false))))))
def f_X3_hasSameSums_b10 (F : Nat) (a0 : Nat) (a1 : Nat) (p2 : Int) (w : aI) (k2 : Int → Option Bool) : Nat → Int → Int → Option Bool :=
  lp (f_X3_hasSameSums_b10_b F a0 a1 p2 w k2) (fun _ _ => none)
def f_X3_hasSameSums_b2_b (F : Nat) (a0 : Nat) (a1 : Nat) (p2 : Int) (w : aI)  (k2 : Int → Option Bool) (v3 : Int)  : Option Bool :=
  gd (rg v3 ∧ rg p2) (if p2 ≤ v3 then (some true) else (f_X3_hasSameSums_b10 F a0 a1 p2 w k2 F v3 0))
def f_X3_hasSameSums_b2 (F : Nat) (a0 : Nat) (a1 : Nat) (p2 : Int) (w : aI)  : Nat → Int → Option Bool :=
  lp (f_X3_hasSameSums_b2_b F a0 a1 p2 w ) (fun _ => none)
def f_X3_hasSameSums (F : Nat) (a0 : Nat) (a1 : Nat) (p2 : Int) (w : aI) : Option Bool :=
  f_X3_hasSameSums_b2 F a0 a1 p2 w F 0
def f_X9_kindOf_b28 (F : Nat) (p0 : Int) (w : aI)     : Option Int :=
  gd (rg p0) (if p0 = (-1) then (some 0) else (if p0 = 10 then (some 5) else (if p0 = 32 then (some 5) else (if p0 = 59 then (some 3) else (some 4)))))
def f_X9_kindOf_b14 (F : Nat) (p0 : Int) (w : aI)     : Option Int :=
  gd (rg p0) (if p0 < 48 then (f_X9_kindOf_b28 F p0 w ) else (if 57 < p0 then (f_X9_kindOf_b28 F p0 w ) else (some 2)))
def f_X9_kindOf (F : Nat) (p0 : Int) (w : aI) : Option Int :=
  gd (rg p0) (if p0 < 97 then (f_X9_kindOf_b14 F p0 w ) else (if 122 < p0 then (f_X9_kindOf_b14 F p0 w ) else (some 1)))
def f_X9_step_b214_b (F : Nat) (a0 : Nat)   (k214 : Int → aI → Option aI) (v2 : Int) (w : aI) : Option aI :=
  gd (rg v2 ∧ rg (w a0 2)) (if (w a0 2) ≤ v2 then (some w) else (gd (rg (w a0 3)) (if (w a0 3) = 2 then ((f_X0_get F (shR a0 0) v2 w).bind (fun r16 => ltM (iset w a0 4 ((((w a0 4) * 10) + r16) - 48)) (fun w17 => k214 (v2 + 1) w17))) else (some w))))
def f_X9_step_b214 (F : Nat) (a0 : Nat)   : Nat → Int → aI → Option aI :=
  lp (f_X9_step_b214_b F a0  ) (fun _ _ => none)
def f_X9_step_b196 (F : Nat) (a0 : Nat)    (z0 : Int) (z1 : Int) (w : aI) : Option aI :=
  gd (rg z1 ∧ rg z0) (if z1 ≤ z0 then (ltM (iset w a0 4 0) (fun w20 => ltI (w20 a0 1) (fun v2_21 => f_X9_step_b214 F a0 F v2_21 w20))) else (ltM (iset w a0 3 4) (fun w22 => ltM (iset w22 a0 4 0) (fun w23 => ltI (w23 a0 1) (fun v2_24 => f_X9_step_b214 F a0 F v2_24 w23)))))
def f_X9_step_b169 (F : Nat) (a0 : Nat)    (v1 : Int) (w : aI) : Option aI :=
  gd (rg v1) (if v1 = 0 then (ltM (iset w a0 4 0) (fun w12 => ltI (w12 a0 1) (fun v2_13 => f_X9_step_b214 F a0 F v2_13 w12))) else (gd (rg (w a0 3)) (if (w a0 3) = 1 then (f_X9_step_b196 F a0 8 ((w a0 2) - (w a0 1)) w) else (f_X9_step_b196 F a0 3 ((w a0 2) - (w a0 1)) w))))
def f_X9_step_b117_b (F : Nat) (a0 : Nat)   (k117 : Int → aI → Option aI) (v1 : Int) (w : aI) : Option aI :=
  gd (rg v1) (if v1 = 0 then (f_X9_step_b169 F a0 v1 w) else ((f_X0_size F (shR a0 0) w).bind (fun r25 => gd (rg (w a0 2) ∧ rg r25) (if r25 ≤ (w a0 2) then (f_X9_step_b169 F a0 v1 w) else ((f_X0_get F (shR a0 0) (w a0 2) w).bind (fun r27 => (f_X9_kindOf F r27 w).bind (fun r28 => gd (rg r28 ∧ rg (w a0 3)) (if r28 = (w a0 3) then (ltM (iset w a0 2 ((w a0 2) + 1)) (fun w30 => k117 v1 w30)) else (f_X9_step_b169 F a0 v1 w)))))))))
def f_X9_step_b117 (F : Nat) (a0 : Nat)   : Nat → Int → aI → Option aI :=
  lp (f_X9_step_b117_b F a0  ) (fun _ _ => none)
def f_X9_step_b92 (F : Nat) (a0 : Nat)    (z0 : Int) (z1 : Nat) (w : aI) : Option aI :=
  ltM (iset w z1 2 z0) (fun w8 => gd (rg (w8 a0 3)) (if (w8 a0 3) = 1 then (f_X9_step_b117 F a0 F 1 w8) else (if (w8 a0 3) = 2 then (f_X9_step_b117 F a0 F 1 w8) else (f_X9_step_b117 F a0 F 0 w8))))
def f_X9_step_b53 (F : Nat) (a0 : Nat)     (w : aI) : Option aI :=
  (f_X0_get F (shR a0 0) (w a0 1) w).bind (fun r4 => (f_X9_kindOf F r4 w).bind (fun r5 => ltM (iset w a0 3 r5) (fun w6 => gd (rg (w6 a0 3)) (if (w6 a0 3) = 0 then (f_X9_step_b92 F a0 (w6 a0 1) a0 w6) else (f_X9_step_b92 F a0 ((w6 a0 1) + 1) a0 w6)))))
def f_X9_step_b8_b (F : Nat) (a0 : Nat)   (k8 : aI → Option aI)  (w : aI) : Option aI :=
  (f_X0_size F (shR a0 0) w).bind (fun r2 => gd (rg (w a0 1) ∧ rg r2) (if r2 ≤ (w a0 1) then (f_X9_step_b53 F a0 w) else ((f_X0_get F (shR a0 0) (w a0 1) w).bind (fun r31 => (f_X9_kindOf F r31 w).bind (fun r32 => gd (rg r32) (if r32 = 5 then (ltM (iset w a0 1 ((w a0 1) + 1)) (fun w34 => k8 w34)) else (f_X9_step_b53 F a0 w)))))))
def f_X9_step_b8 (F : Nat) (a0 : Nat)   : Nat → aI → Option aI :=
  lp (f_X9_step_b8_b F a0  ) (fun  _ => none)
def f_X9_step (F : Nat) (a0 : Nat) (w : aI) : Option aI :=
  ltM (iset w a0 1 (w a0 2)) (fun w1 => f_X9_step_b8 F a0 F w1)
def f_X9_open (F : Nat) (a0 : Nat) (w : aI) : Option aI :=
  ltM (iset w a0 5 0) (fun w1 => ltM (iset w1 a0 6 (-1)) (fun w2 => ltM (iset w2 a0 2 0) (fun w3 => (f_X9_step F a0 w3).bind (fun w4 => some w4))))
def f_X9_isWord_b28_b (F : Nat) (a0 : Nat) (s1 : Nat) (w : aI)  (k28 : Int → Option Bool) (v2 : Int)  : Option Bool :=
  (f_strlen s1).bind (fun r4 => gd (rg v2 ∧ rg r4) (if r4 ≤ v2 then (some true) else ((f_X0_get F (shR a0 0) ((w a0 1) + v2) w).bind (fun r6 => (f_strchr s1 v2).bind (fun r7 => gd (rg r6 ∧ rg r7) (if r6 = r7 then (k28 (v2 + 1)) else (some false)))))))
def f_X9_isWord_b28 (F : Nat) (a0 : Nat) (s1 : Nat) (w : aI)  : Nat → Int → Option Bool :=
  lp (f_X9_isWord_b28_b F a0 s1 w ) (fun _ => none)
def f_X9_isWord (F : Nat) (a0 : Nat) (s1 : Nat) (w : aI) : Option Bool :=
  gd (rg (w a0 3)) (if (w a0 3) = 1 then ((f_strlen s1).bind (fun r2 => gd (rg ((w a0 2) - (w a0 1)) ∧ rg r2) (if ((w a0 2) - (w a0 1)) = r2 then (f_X9_isWord_b28 F a0 s1 w F 0) else (some false)))) else (some false))
def f_X9_settingWord (F : Nat) (a0 : Nat) (w : aI) : Option Int :=
  (f_X9_isWord F a0 20 w).bind (fun r1 => if r1 then (some 8) else ((f_X9_isWord F a0 21 w).bind (fun r2 => if r2 then (some 9) else ((f_X9_isWord F a0 22 w).bind (fun r3 => if r3 then (some 10) else (some (-1)))))))
def f_X4_wordHere (F : Nat) (a0 : Nat) (w : aI) : Option Int :=
  (f_X9_isWord F (shR a0 0) 13 w).bind (fun r1 => if r1 then (some 0) else ((f_X9_isWord F (shR a0 0) 14 w).bind (fun r2 => if r2 then (some 1) else ((f_X9_isWord F (shR a0 0) 15 w).bind (fun r3 => if r3 then (some 2) else ((f_X9_isWord F (shR a0 0) 16 w).bind (fun r4 => if r4 then (some 3) else ((f_X9_isWord F (shR a0 0) 17 w).bind (fun r5 => if r5 then (some 4) else ((f_X9_settingWord F (shR a0 0) w).bind (fun r6 => some r6)))))))))))
def f_X9_fail (F : Nat) (a0 : Nat) (p1 : Int) (w : aI) : Option (Bool × aI) :=
  ltM (iset w a0 5 p1) (fun w1 => ltM (iset w1 a0 6 (w1 a0 1)) (fun w2 => some (false, w2)))
def f_X9_nameHere_b39_b (F : Nat) (a0 : Nat)   (k39 : Int → Int → aI → Option (Int × aI)) (v1 : Int) (v2 : Int) (w : aI) : Option (Int × aI) :=
  gd (rg v2 ∧ rg (w a0 1)) (if v2 < (w a0 1) then (some (v1, w)) else ((f_X0_get F (shR a0 0) v2 w).bind (fun r7 => ltI (orI (shl v1 5) ((r7 - 97) + 1)) (fun v1_8 => k39 v1_8 (v2 + (-1)) w))))
def f_X9_nameHere_b39 (F : Nat) (a0 : Nat)   : Nat → Int → Int → aI → Option (Int × aI) :=
  lp (f_X9_nameHere_b39_b F a0  ) (fun _ _ _ => none)
def f_X9_nameHere (F : Nat) (a0 : Nat) (w : aI) : Option (Int × aI) :=
  gd (rg (w a0 3)) (if (w a0 3) = 1 then (gd (rg ((w a0 2) - (w a0 1))) (if ((w a0 2) - (w a0 1)) ≤ 6 then (ltI ((w a0 2) - 1) (fun v2_5 => f_X9_nameHere_b39 F a0 F 0 v2_5 w)) else (bKW (f_X9_fail F a0 1 w) (fun r9 w10 => some ((-1), w10))))) else (bKW (f_X9_fail F a0 1 w) (fun r2 w3 => some ((-1), w3))))
def f_X9_roofHere (F : Nat) (a0 : Nat) (a1 : Nat) (p2 : Int) (w : aI) : Option (Int × aI) :=
  bJW (f_X9_nameHere F a0 w) (fun r1 w2 => gd (rg r1) (if r1 = (-1) then (some ((-1), w2)) else ((f_X2_roofNamed F a1 r1 w2).bind (fun r4 => gd (rg r4) (if r4 = (-1) then (bKW (f_X9_fail F a0 3 w2) (fun r6 w7 => some ((-1), w7))) else (gd (rg p2) (if r4 = p2 then (bKW (f_X9_fail F a0 3 w2) (fun r9 w10 => some ((-1), w10))) else (some (r4, w2)))))))))
def f_X4_isRoofRead (F : Nat) (a0 : Nat) (p1 : Int) (p2 : Int) (w : aI) : Option (Bool × aI) :=
  bJW (f_X9_roofHere F (shR a0 0) (shR a0 1) p2 w) (fun r1 w2 => gd (rg r1) (if r1 = (-1) then (some (false, w2)) else ((f_X7_put F (shR a0 2) (w2 a0 3) p1 r1 w2).bind (fun w4 => (f_X9_step F (shR a0 0) w4).bind (fun w5 => some (true, w5))))))
def f_X9_isNumberHere_b30 (F : Nat) (a0 : Nat) (p1 : Int) (p2 : Int)     (w : aI) : Option (Bool × aI) :=
  bKW (f_X9_fail F a0 2 w) (fun r3 w4 => if r3 then (some (true, w4)) else (some (false, w4)))
def f_X9_isNumberHere (F : Nat) (a0 : Nat) (p1 : Int) (p2 : Int) (w : aI) : Option (Bool × aI) :=
  gd (rg (w a0 3)) (if (w a0 3) = 2 then (gd (rg (w a0 4) ∧ rg p1) (if (w a0 4) < p1 then (f_X9_isNumberHere_b30 F a0 p1 p2 w) else (gd (rg p2) (if (w a0 4) ≤ p2 then (some (true, w)) else (f_X9_isNumberHere_b30 F a0 p1 p2 w))))) else (bKW (f_X9_fail F a0 1 w) (fun r6 w7 => some (r6, w7))))
def f_X4_areNotesRead_b75 (F : Nat) (a0 : Nat)    (v1 : Int) (v2 : Int) (w : aI) : Option (Bool × aI) :=
  (f_X7_put F (shR a0 2) (w a0 3) 3 v2 w).bind (fun w8 => (f_X7_put F (shR a0 2) (w8 a0 3) 4 v1 w8).bind (fun w9 => some (true, w9)))
def f_X4_areNotesRead_b4_b (F : Nat) (a0 : Nat)   (k4 : Int → Int → aI → Option (Bool × aI)) (v1 : Int) (v2 : Int) (w : aI) : Option (Bool × aI) :=
  bKW (f_X9_isNumberHere F (shR a0 0) 0 7 w) (fun r1 w2 => if r1 then (gd (rg v1) (if v1 = 8 then (bKW (f_X9_fail F (shR a0 0) 5 w2) (fun r11 w12 => some (r11, w12))) else (gd (0 ≤ (3 * v1) ∧ (3 * v1) < 32) (ltI (orI v2 (shl (w2 (shR a0 0) 4) (3 * v1))) (fun v2_5 => (f_X9_step F (shR a0 0) w2).bind (fun w6 => gd (rg (v1 + 1)) (if 8 < (v1 + 1) then (f_X4_areNotesRead_b75 F a0 (v1 + 1) v2_5 w6) else (gd (rg (w6 (shR a0 0) 3)) (if (w6 (shR a0 0) 3) = 2 then (k4 (v1 + 1) v2_5 w6) else (f_X4_areNotesRead_b75 F a0 (v1 + 1) v2_5 w6)))))))))) else (some (false, w2)))
def f_X4_areNotesRead_b4 (F : Nat) (a0 : Nat)   : Nat → Int → Int → aI → Option (Bool × aI) :=
  lp (f_X4_areNotesRead_b4_b F a0  ) (fun _ _ _ => none)
def f_X4_areNotesRead (F : Nat) (a0 : Nat) (w : aI) : Option (Bool × aI) :=
  f_X4_areNotesRead_b4 F a0 F 0 0 w
def f_X9_takeNumber (F : Nat) (a0 : Nat) (p1 : Int) (p2 : Int) (w : aI) : Option (Int × aI) :=
  bKW (f_X9_isNumberHere F a0 p1 p2 w) (fun r1 w2 => if r1 then (ltI (w2 a0 4) (fun v3_3 => (f_X9_step F a0 w2).bind (fun w4 => some (v3_3, w4)))) else (some ((-1), w2)))
def f_X4_isNumberRead (F : Nat) (a0 : Nat) (p1 : Int) (p2 : Int) (w : aI) : Option (Bool × aI) :=
  bJW (f_X9_takeNumber F (shR a0 0) p1 p2 w) (fun r1 w2 => (f_X7_put F (shR a0 2) (w2 a0 3) 3 r1 w2).bind (fun w3 => gd (rg r1) (if r1 = (-1) then (some (false, w3)) else (some (true, w3)))))
def f_X9_isSemicolonTaken (F : Nat) (a0 : Nat) (w : aI) : Option (Bool × aI) :=
  gd (rg (w a0 3)) (if (w a0 3) = 3 then ((f_X9_step F a0 w).bind (fun w2 => some (true, w2))) else (bKW (f_X9_fail F a0 1 w) (fun r3 w4 => some (r3, w4))))
def f_X4_isStatementRead_b224 (F : Nat) (a0 : Nat) (p1 : Int)    (v2 : Int) (w : aI) : Option (Bool × aI) :=
  gd (rg v2) (if v2 = 0 then (some (false, w)) else (bKW (f_X9_isSemicolonTaken F (shR a0 0) w) (fun r9 w10 => if r9 then (some (true, w10)) else (some (false, w10)))))
def f_X4_isStatementRead_b129 (F : Nat) (a0 : Nat) (p1 : Int)    (z0 : Int) (w : aI) : Option (Bool × aI) :=
  f_X4_isStatementRead_b224 F a0 p1 z0 w
def f_X4_isStatementRead_b128 (F : Nat) (a0 : Nat) (p1 : Int)     (w : aI) : Option (Bool × aI) :=
  f_X4_isStatementRead_b129 F a0 p1 0 w
def f_X4_isStatementRead_b169 (F : Nat) (a0 : Nat) (p1 : Int)    (z0 : Int) (w : aI) : Option (Bool × aI) :=
  f_X4_isStatementRead_b224 F a0 p1 z0 w
def f_X4_isStatementRead_b168 (F : Nat) (a0 : Nat) (p1 : Int)     (w : aI) : Option (Bool × aI) :=
  f_X4_isStatementRead_b169 F a0 p1 0 w
def f_X4_isStatementRead_b207 (F : Nat) (a0 : Nat) (p1 : Int)    (z0 : Int) (w : aI) : Option (Bool × aI) :=
  f_X4_isStatementRead_b224 F a0 p1 z0 w
def f_X4_isStatementRead_b206 (F : Nat) (a0 : Nat) (p1 : Int)     (w : aI) : Option (Bool × aI) :=
  f_X4_isStatementRead_b207 F a0 p1 0 w
def f_X4_isStatementRead (F : Nat) (a0 : Nat) (p1 : Int) (w : aI) : Option (Bool × aI) :=
  gd (rg p1) (if p1 = (-1) then (bKW (f_X9_fail F (shR a0 0) 1 w) (fun r44 w45 => some (r44, w45))) else (gd (rg (w a0 3)) (if (w a0 3) < 30 then ((f_X7_put F (shR a0 2) (w a0 3) 0 p1 w).bind (fun w3 => (f_X9_step F (shR a0 0) w3).bind (fun w4 => if p1 = 0 then (bKW (f_X4_isRoofRead F a0 1 (-1) w4) (fun r6 w7 => if r6 then ((f_X7_get F (shR a0 2) (w7 a0 3) 1 w7).bind (fun r11 => bKW (f_X4_isRoofRead F a0 2 r11 w7) (fun r12 w13 => if r12 then (bKW (f_X4_areNotesRead F a0 w13) (fun r14 w15 => if r14 then (f_X4_isStatementRead_b129 F a0 p1 1 w15) else (f_X4_isStatementRead_b128 F a0 p1 w15))) else (f_X4_isStatementRead_b128 F a0 p1 w13)))) else (f_X4_isStatementRead_b128 F a0 p1 w7))) else (if p1 = 1 then (bKW (f_X4_isRoofRead F a0 1 (-1) w4) (fun r17 w18 => if r17 then ((f_X7_get F (shR a0 2) (w18 a0 3) 1 w18).bind (fun r19 => bKW (f_X4_isRoofRead F a0 2 r19 w18) (fun r20 w21 => if r20 then (bKW (f_X4_areNotesRead F a0 w21) (fun r22 w23 => if r22 then (f_X4_isStatementRead_b129 F a0 p1 1 w23) else (f_X4_isStatementRead_b128 F a0 p1 w23))) else (f_X4_isStatementRead_b128 F a0 p1 w21)))) else (f_X4_isStatementRead_b128 F a0 p1 w18))) else (if p1 = 2 then (bKW (f_X4_isNumberRead F a0 1 200 w4) (fun r25 w26 => f_X4_isStatementRead_b224 F a0 p1 (bI r25) w26)) else (if p1 = 3 then (bKW (f_X4_isRoofRead F a0 1 (-1) w4) (fun r28 w29 => if r28 then (bKW (f_X4_isNumberRead F a0 1 99 w29) (fun r30 w31 => if r30 then (f_X4_isStatementRead_b169 F a0 p1 1 w31) else (f_X4_isStatementRead_b168 F a0 p1 w31))) else (f_X4_isStatementRead_b168 F a0 p1 w29))) else (if p1 = 4 then (bKW (f_X4_isRoofRead F a0 1 (-1) w4) (fun r33 w34 => if r33 then ((f_X7_get F (shR a0 2) (w34 a0 3) 1 w34).bind (fun r35 => bKW (f_X4_isRoofRead F a0 2 r35 w34) (fun r36 w37 => if r36 then (f_X4_isStatementRead_b207 F a0 p1 1 w37) else (f_X4_isStatementRead_b206 F a0 p1 w37)))) else (f_X4_isStatementRead_b206 F a0 p1 w34))) else ((f_X2_leastOf F p1 w4).bind (fun r38 => (f_X2_mostOf F p1 w4).bind (fun r39 => bKW (f_X4_isNumberRead F a0 r38 r39 w4) (fun r40 w41 => f_X4_isStatementRead_b224 F a0 p1 (bI r40) w41))))))))))) else (bKW (f_X9_fail F (shR a0 0) 5 w) (fun r42 w43 => some (r42, w43))))))
def f_X4_isRead_b14_b (F : Nat) (a0 : Nat)   (k14 : Int → aI → Option (Bool × aI)) (v1 : Int) (w : aI) : Option (Bool × aI) :=
  gd (rg v1) (if 800 ≤ v1 then (some (true, w)) else (gd (rg (w (shR a0 0) 3)) (if (w (shR a0 0) 3) = 0 then (some (true, w)) else ((f_X4_wordHere F a0 w).bind (fun r5 => bKW (f_X4_isStatementRead F a0 r5 w) (fun r6 w7 => if r6 then (ltM (iset w7 a0 3 ((w7 a0 3) + 1)) (fun w8 => k14 (v1 + 1) w8)) else (some (false, w7))))))))
def f_X4_isRead_b14 (F : Nat) (a0 : Nat)   : Nat → Int → aI → Option (Bool × aI) :=
  lp (f_X4_isRead_b14_b F a0  ) (fun _ _ => none)
def f_X4_isRead (F : Nat) (a0 : Nat) (w : aI) : Option (Bool × aI) :=
  ltM (iset w a0 3 0) (fun w1 => (f_X9_open F (shR a0 0) w1).bind (fun w2 => f_X4_isRead_b14 F a0 F 0 w2))
def f_X5_isRoofRead_b144 (F : Nat) (a0 : Nat)    (v1 : Int) (v2 : Int) (v3 : Int) (v4 : Int) (z0 : Int) (w : aI) : Option (Bool × aI) :=
  gd (rg z0) (if z0 = (-1) then (some (false, w)) else (bKW (f_X9_isSemicolonTaken F (shR a0 0) w) (fun r21 w22 => if r21 then ((f_X2_addRoof F (shR a0 1) v1 v2 v3 v4 z0 w22).bind (fun w23 => some (true, w23))) else (some (false, w22)))))
def f_X5_isRoofRead_b121 (F : Nat) (a0 : Nat)    (v1 : Int) (v2 : Int) (v3 : Int) (z0 : Int) (w : aI) : Option (Bool × aI) :=
  gd (rg z0) (if z0 = (-1) then (f_X5_isRoofRead_b144 F a0 v1 v2 v3 z0 (-1) w) else (bJW (f_X9_takeNumber F (shR a0 0) 0 999 w) (fun r18 w19 => f_X5_isRoofRead_b144 F a0 v1 v2 v3 z0 r18 w19)))
def f_X5_isRoofRead_b101 (F : Nat) (a0 : Nat)    (v1 : Int) (v2 : Int) (z0 : Int) (w : aI) : Option (Bool × aI) :=
  gd (rg z0) (if z0 = (-1) then (f_X5_isRoofRead_b121 F a0 v1 v2 z0 (-1) w) else (bJW (f_X9_takeNumber F (shR a0 0) 0 9 w) (fun r15 w16 => f_X5_isRoofRead_b121 F a0 v1 v2 z0 r15 w16)))
def f_X5_isRoofRead (F : Nat) (a0 : Nat) (w : aI) : Option (Bool × aI) :=
  gd (rg (w (shR a0 1) 1)) (if (w (shR a0 1) 1) < 10 then ((f_X9_step F (shR a0 0) w).bind (fun w2 => bJW (f_X9_nameHere F (shR a0 0) w2) (fun r3 w4 => gd (rg r3) (if r3 = (-1) then (some (false, w4)) else ((f_X2_roofNamed F (shR a0 1) r3 w4).bind (fun r6 => gd (rg r6) (if r6 = (-1) then ((f_X9_step F (shR a0 0) w4).bind (fun w8 => bJW (f_X9_takeNumber F (shR a0 0) 1 8 w8) (fun r9 w10 => gd (rg r9) (if r9 = (-1) then (f_X5_isRoofRead_b101 F a0 r3 r9 (-1) w10) else (bJW (f_X9_takeNumber F (shR a0 0) 0 9 w10) (fun r12 w13 => f_X5_isRoofRead_b101 F a0 r3 r9 r12 w13)))))) else (bKW (f_X9_fail F (shR a0 0) 3 w4) (fun r24 w25 => some (r24, w25)))))))))) else (bKW (f_X9_fail F (shR a0 0) 5 w) (fun r26 w27 => some (r26, w27))))
def f_X5_isWayRead (F : Nat) (a0 : Nat) (w : aI) : Option (Bool × aI) :=
  gd (rg (w (shR a0 1) 2)) (if (w (shR a0 1) 2) < 20 then ((f_X9_step F (shR a0 0) w).bind (fun w2 => bJW (f_X9_roofHere F (shR a0 0) (shR a0 1) (-1) w2) (fun r3 w4 => gd (rg r3) (if r3 = (-1) then (some (false, w4)) else ((f_X9_step F (shR a0 0) w4).bind (fun w6 => bJW (f_X9_roofHere F (shR a0 0) (shR a0 1) r3 w6) (fun r7 w8 => gd (rg r7) (if r7 = (-1) then (some (false, w8)) else ((f_X2_wayBetween F (shR a0 1) r3 r7 w8).bind (fun r10 => gd (rg r10) (if r10 = (-1) then ((f_X9_step F (shR a0 0) w8).bind (fun w12 => bJW (f_X9_takeNumber F (shR a0 0) 1 9 w12) (fun r13 w14 => gd (rg r13) (if r13 = (-1) then (some (false, w14)) else (bKW (f_X9_isSemicolonTaken F (shR a0 0) w14) (fun r16 w17 => if r16 then ((f_X2_addWay F (shR a0 1) r3 r7 r13 w17).bind (fun w18 => some (true, w18))) else (some (false, w17)))))))) else (bKW (f_X9_fail F (shR a0 0) 4 w8) (fun r19 w20 => some (r19, w20)))))))))))))) else (bKW (f_X9_fail F (shR a0 0) 5 w) (fun r21 w22 => some (r21, w22))))
def f_X5_isSettingRead (F : Nat) (a0 : Nat) (p1 : Int) (w : aI) : Option (Bool × aI) :=
  (f_X9_step F (shR a0 0) w).bind (fun w1 => (f_X2_leastOf F p1 w1).bind (fun r2 => (f_X2_mostOf F p1 w1).bind (fun r3 => bJW (f_X9_takeNumber F (shR a0 0) r2 r3 w1) (fun r4 w5 => gd (rg r4) (if r4 = (-1) then (some (false, w5)) else (bKW (f_X9_isSemicolonTaken F (shR a0 0) w5) (fun r7 w8 => if r7 then ((f_X2_settle F (shR a0 1) p1 r4 w8).bind (fun w9 => some (true, w9))) else (some (false, w8)))))))))
def f_X5_isStatementRead (F : Nat) (a0 : Nat) (w : aI) : Option (Bool × aI) :=
  (f_X9_isWord F (shR a0 0) 18 w).bind (fun r1 => if r1 then (bKW (f_X5_isRoofRead F a0 w) (fun r11 w12 => some (r11, w12))) else ((f_X9_isWord F (shR a0 0) 19 w).bind (fun r2 => if r2 then (bKW (f_X5_isWayRead F a0 w) (fun r9 w10 => some (r9, w10))) else ((f_X9_settingWord F (shR a0 0) w).bind (fun r3 => gd (rg r3) (if r3 = (-1) then (bKW (f_X9_fail F (shR a0 0) 1 w) (fun r7 w8 => some (r7, w8))) else (bKW (f_X5_isSettingRead F a0 r3 w) (fun r5 w6 => some (r5, w6)))))))))
def f_X5_isRead_b48 (F : Nat) (a0 : Nat)     (w : aI) : Option (Bool × aI) :=
  gd (rg (w (shR a0 1) 1)) (if 2 ≤ (w (shR a0 1) 1) then ((f_X3_lay F (shR (shR a0 1) 9) (shR a0 1) w).bind (fun w5 => some (true, w5))) else (bKW (f_X9_fail F (shR a0 0) 6 w) (fun r6 w7 => some (r6, w7))))
def f_X5_isRead_b16_b (F : Nat) (a0 : Nat)   (k16 : Int → aI → Option (Bool × aI)) (v1 : Int) (w : aI) : Option (Bool × aI) :=
  gd (rg v1) (if 800 ≤ v1 then (f_X5_isRead_b48 F a0 w) else (gd (rg (w (shR a0 0) 3)) (if (w (shR a0 0) 3) = 0 then (f_X5_isRead_b48 F a0 w) else (bKW (f_X5_isStatementRead F a0 w) (fun r9 w10 => if r9 then (k16 (v1 + 1) w10) else (some (false, w10)))))))
def f_X5_isRead_b16 (F : Nat) (a0 : Nat)   : Nat → Int → aI → Option (Bool × aI) :=
  lp (f_X5_isRead_b16_b F a0  ) (fun _ _ => none)
def f_X5_isRead (F : Nat) (a0 : Nat) (w : aI) : Option (Bool × aI) :=
  (f_X2_clear F (shR a0 1) w).bind (fun w1 => (f_X9_open F (shR a0 0) w1).bind (fun w2 => f_X5_isRead_b16 F a0 F 0 w2))
def f_X6_causeOf (F : Nat) (a0 : Nat) (p1 : Int) (w : aI) : Option Int :=
  (f_X7_get F (shR a0 6) p1 3 w).bind (fun r1 => (f_X7_get F (shR a0 6) p1 4 w).bind (fun r2 => ltI ((w a0 0) + 1) (fun v4_3 => gd (rg r1) (if r1 = 0 then ((f_X2_nextOf F a0 p1 w).bind (fun r5 => gd (rg r5) (if r5 = (-1) then ((f_X7_get F (shR a0 6) p1 1 w).bind (fun r17 => some (200 + r17))) else (gd (rg v4_3) ((f_X2_setting F a0 9 w).bind (fun r8 => gd (rg (Int.tmod v4_3 60) ∧ rg r8) (if (Int.tmod v4_3 60) < r8 then ((f_X2_isBusy F a0 r2 v4_3 w).bind (fun r10 => if r10 then ((f_X7_get F (shR a0 4) r2 4 w).bind (fun r16 => some ((400 + r16) - v4_3))) else ((f_X2_lackOf F a0 p1 w).bind (fun r11 => gd (rg r11) (if r11 ≤ 0 then ((f_X2_firstToGoFrom F a0 r2 w).bind (fun r13 => gd (rg r13 ∧ rg p1) (if r13 = p1 then (some 0) else (some (600 + r13))))) else ((f_X2_lackOf F a0 p1 w).bind (fun r15 => some (500 + r15)))))))) else (some (300 + (Int.tmod v4_3 60)))))))))) else (some (100 + r1))))))
def f_X6_feesOn_b9_b (F : Nat) (a0 : Nat) (p1 : Int) (p2 : Int) (p3 : Int) (w : aI)  (k9 : Int → Int → Int → Option Int) (v4 : Int) (v5 : Int) (v6 : Int)  : Option Int :=
  gd (rg v6) (if 10 ≤ v6 then (some v4) else (gd (rg v5 ∧ rg p2) (if v5 = p2 then (some v4) else ((f_X7_get F (shR (shR a0 9) 2) v5 p2 w).bind (fun r3 => gd (rg r3) (if r3 = (-1) then (some (-1)) else ((f_X2_barsOf F p3 w).bind (fun r5 => (f_X7_get F (shR a0 4) v5 2 w).bind (fun r6 => ltI (v4 + (r5 * r6)) (fun v4_7 => k9 v4_7 r3 (v6 + 1)))))))))))
def f_X6_feesOn_b9 (F : Nat) (a0 : Nat) (p1 : Int) (p2 : Int) (p3 : Int) (w : aI)  : Nat → Int → Int → Int → Option Int :=
  lp (f_X6_feesOn_b9_b F a0 p1 p2 p3 w ) (fun _ _ _ => none)
def f_X6_feesOn (F : Nat) (a0 : Nat) (p1 : Int) (p2 : Int) (p3 : Int) (w : aI) : Option Int :=
  f_X6_feesOn_b9 F a0 p1 p2 p3 w F 0 p1 0
def f_X6_wrongNotesOn_b9_b (F : Nat) (a0 : Nat) (p1 : Int) (p2 : Int) (p3 : Int) (p4 : Int) (w : aI)  (k9 : Int → Int → Int → Option Int) (v5 : Int) (v6 : Int) (v7 : Int)  : Option Int :=
  gd (rg v7) (if 10 ≤ v7 then (some v5) else (gd (rg v6 ∧ rg p2) (if v6 = p2 then (some v5) else ((f_X7_get F (shR (shR a0 9) 2) v6 p2 w).bind (fun r3 => gd (rg r3) (if r3 = (-1) then (some (-1)) else ((f_X7_get F (shR (shR a0 9) 0) v6 r3 w).bind (fun r5 => (f_X2_wrongOf F a0 r5 r3 p3 p4 w).bind (fun r6 => ltI (v5 + r6) (fun v5_7 => k9 v5_7 r3 (v7 + 1)))))))))))
def f_X6_wrongNotesOn_b9 (F : Nat) (a0 : Nat) (p1 : Int) (p2 : Int) (p3 : Int) (p4 : Int) (w : aI)  : Nat → Int → Int → Int → Option Int :=
  lp (f_X6_wrongNotesOn_b9_b F a0 p1 p2 p3 p4 w ) (fun _ _ _ => none)
def f_X6_wrongNotesOn (F : Nat) (a0 : Nat) (p1 : Int) (p2 : Int) (p3 : Int) (p4 : Int) (w : aI) : Option Int :=
  f_X6_wrongNotesOn_b9 F a0 p1 p2 p3 p4 w F 0 p1 0
def f_X6_partOf_b22_b (F : Nat) (a0 : Nat) (p1 : Int) (p2 : Int) (w : aI) (k7 : Int → Int → Option Int) (k22 : Int → Int → Int → Int → Option Int) (v3 : Int) (v4 : Int) (v5 : Int) (v6 : Int)  : Option Int :=
  gd (rg v6 ∧ rg (w a0 2)) (if (w a0 2) ≤ v6 then (gd (rg v3 ∧ rg v5) (if v3 = v5 then (some v3) else (k7 v3 (v4 + 1)))) else ((f_X7_get F (shR a0 5) v6 0 w).bind (fun r6 => gd (0 ≤ r6 ∧ r6 < 32) ((f_X7_get F (shR a0 5) v6 1 w).bind (fun r8 => gd (0 ≤ r8 ∧ r8 < 32) (ltI (orI (shl 1 r6) (shl 1 r8)) (fun v7_10 => gd (rg p2) (if v6 = p2 then (k22 v3 v4 v5 (v6 + 1)) else (gd (rg (andI v3 v7_10)) (if (andI v3 v7_10) = 0 then (k22 v3 v4 v5 (v6 + 1)) else (ltI (orI v3 v7_10) (fun v3_13 => k22 v3_13 v4 v5 (v6 + 1)))))))))))))
def f_X6_partOf_b22 (F : Nat) (a0 : Nat) (p1 : Int) (p2 : Int) (w : aI) (k7 : Int → Int → Option Int) : Nat → Int → Int → Int → Int → Option Int :=
  lp (f_X6_partOf_b22_b F a0 p1 p2 w k7) (fun _ _ _ _ => none)
def f_X6_partOf_b7_b (F : Nat) (a0 : Nat) (p1 : Int) (p2 : Int) (w : aI)  (k7 : Int → Int → Option Int) (v3 : Int) (v4 : Int)  : Option Int :=
  gd (rg v4 ∧ rg (w a0 1)) (if (w a0 1) ≤ v4 then (some v3) else (f_X6_partOf_b22 F a0 p1 p2 w k7 F v3 v4 v3 0))
def f_X6_partOf_b7 (F : Nat) (a0 : Nat) (p1 : Int) (p2 : Int) (w : aI)  : Nat → Int → Int → Option Int :=
  lp (f_X6_partOf_b7_b F a0 p1 p2 w ) (fun _ _ => none)
def f_X6_partOf (F : Nat) (a0 : Nat) (p1 : Int) (p2 : Int) (w : aI) : Option Int :=
  gd (0 ≤ p1 ∧ p1 < 32) (ltI (shl 1 p1) (fun v3_2 => f_X6_partOf_b7 F a0 p1 p2 w F v3_2 1))
def f_J6_bitCount_0f7a4 (F : Nat) (p0 : Int) (w : aI) : Option Int :=
  ltI (p0 - (andI (iusI p0 1) 1431655765)) (fun v0_1 => ltI ((andI v0_1 858993459) + (andI (iusI v0_1 2) 858993459)) (fun v0_2 => ltI (andI (v0_2 + (iusI v0_2 4)) 252645135) (fun v0_3 => ltI (v0_3 + (iusI v0_3 8)) (fun v0_4 => ltI (v0_4 + (iusI v0_4 16)) (fun v0_5 => some (andI v0_5 63))))))
def f_X6_pairsApartWithout_b14_b (F : Nat) (a0 : Nat) (p1 : Int) (w : aI)  (k14 : Int → Int → Int → Option Int) (v2 : Int) (v3 : Int) (v4 : Int)  : Option Int :=
  gd (rg v4 ∧ rg (w a0 1)) (if (w a0 1) ≤ v4 then (some v2) else (gd (rg v3) (gd (0 ≤ v4 ∧ v4 < 32) (gd (rg (andI (shr v3 v4) 1)) (if (andI (shr v3 v4) 1) = 1 then ((f_X6_partOf F a0 v4 p1 w).bind (fun r7 => ltI (andI v3 (xorI r7 (-1))) (fun v3_8 => (f_J6_bitCount_0f7a4 F r7 w).bind (fun r9 => (f_J6_bitCount_0f7a4 F v3_8 w).bind (fun r10 => ltI (v2 + (r9 * r10)) (fun v2_11 => k14 v2_11 v3_8 (v4 + 1))))))) else (k14 v2 v3 (v4 + 1)))))))
def f_X6_pairsApartWithout_b14 (F : Nat) (a0 : Nat) (p1 : Int) (w : aI)  : Nat → Int → Int → Int → Option Int :=
  lp (f_X6_pairsApartWithout_b14_b F a0 p1 w ) (fun _ _ _ => none)
def f_X6_pairsApartWithout (F : Nat) (a0 : Nat) (p1 : Int) (w : aI) : Option Int :=
  gd (0 ≤ (w a0 1) ∧ (w a0 1) < 32) (ltI ((shl 1 (w a0 1)) - 1) (fun v3_2 => f_X6_pairsApartWithout_b14 F a0 p1 w F 0 v3_2 0))
def f_X6_mostNeededWay_b6_b (F : Nat) (a0 : Nat) (w : aI)  (k6 : Int → Int → Int → Option Int) (v1 : Int) (v2 : Int) (v3 : Int)  : Option Int :=
  gd (rg v3 ∧ rg (w a0 2)) (if (w a0 2) ≤ v3 then (some v1) else ((f_X6_pairsApartWithout F a0 v3 w).bind (fun r2 => gd (rg r2 ∧ rg v2) (if r2 ≤ v2 then (k6 v1 v2 (v3 + 1)) else (k6 v3 r2 (v3 + 1))))))
def f_X6_mostNeededWay_b6 (F : Nat) (a0 : Nat) (w : aI)  : Nat → Int → Int → Int → Option Int :=
  lp (f_X6_mostNeededWay_b6_b F a0 w ) (fun _ _ _ => none)
def f_X6_mostNeededWay (F : Nat) (a0 : Nat) (w : aI) : Option Int :=
  f_X6_mostNeededWay_b6 F a0 w F (-1) (-1) 0
def f_X6_areTunesRight_b2_b (F : Nat) (a0 : Nat) (w : aI)  (k2 : Int → Option Bool) (v1 : Int)  : Option Bool :=
  gd (rg v1 ∧ rg (w a0 3)) (if (w a0 3) ≤ v1 then (some true) else ((f_X7_get F (shR a0 6) v1 3 w).bind (fun r2 => (f_X7_get F (shR a0 6) v1 4 w).bind (fun r3 => gd (rg r2) (if r2 < 0 then (some false) else (if 3 < r2 then (some false) else (gd (rg r3) (if r3 < 0 then (some false) else (gd (rg (w a0 1)) (if r3 < (w a0 1) then (if r2 = 2 then ((f_X7_get F (shR a0 6) v1 1 w).bind (fun r7 => gd (rg r7) (if r3 = r7 then (k2 (v1 + 1)) else (some false)))) else (k2 (v1 + 1))) else (some false)))))))))))
def f_X6_areTunesRight_b2 (F : Nat) (a0 : Nat) (w : aI)  : Nat → Int → Option Bool :=
  lp (f_X6_areTunesRight_b2_b F a0 w ) (fun _ => none)
def f_X6_areTunesRight (F : Nat) (a0 : Nat) (w : aI) : Option Bool :=
  f_X6_areTunesRight_b2 F a0 w F 0
def f_X6_areAccountsRight_b35_b (F : Nat) (a0 : Nat) (w : aI)  (k35 : Int → Int → Int → Option Bool) (v1 : Int) (v2 : Int) (v3 : Int)  : Option Bool :=
  gd (rg v3 ∧ rg (w a0 3)) (if (w a0 3) ≤ v3 then ((f_X7_get F (shR a0 8) 0 1 w).bind (fun r3 => gd (rg r3) (if r3 = (w a0 3) then ((f_X7_get F (shR a0 8) 0 5 w).bind (fun r5 => (f_X2_tunesIn F a0 2 w).bind (fun r6 => gd (rg r5 ∧ rg r6) (if r5 = r6 then ((f_X7_get F (shR a0 8) 0 8 w).bind (fun r8 => (f_X2_tunesIn F a0 3 w).bind (fun r9 => gd (rg r8 ∧ rg r9) (if r8 = r9 then ((f_X2_pursesTogether F a0 w).bind (fun r11 => (f_X7_get F (shR a0 8) 0 10 w).bind (fun r12 => gd (rg r11 ∧ rg (v1 + r12)) (if r11 = (v1 + r12) then ((f_X7_get F (shR a0 8) 0 3 w).bind (fun r14 => gd (rg r14 ∧ rg v2) (if r14 = v2 then ((f_X7_get F (shR a0 8) 0 6 w).bind (fun r16 => (f_X7_get F (shR a0 8) 0 5 w).bind (fun r17 => gd (rg r16 ∧ rg r17) (if r17 < r16 then (some false) else (some true))))) else (some false)))) else (some false))))) else (some false))))) else (some false))))) else (some false)))) else ((f_X7_get F (shR a0 6) v3 11 w).bind (fun r19 => ltI (v2 + r19) (fun v2_20 => k35 v1 v2_20 (v3 + 1)))))
def f_X6_areAccountsRight_b35 (F : Nat) (a0 : Nat) (w : aI)  : Nat → Int → Int → Int → Option Bool :=
  lp (f_X6_areAccountsRight_b35_b F a0 w ) (fun _ _ _ => none)
def f_X6_areAccountsRight_b4_b (F : Nat) (a0 : Nat) (w : aI)  (k4 : Int → Int → Option Bool) (v1 : Int) (v2 : Int)  : Option Bool :=
  gd (rg v2 ∧ rg (w a0 1)) (if (w a0 1) ≤ v2 then (f_X6_areAccountsRight_b35 F a0 w F v1 0 0) else ((f_X7_get F (shR a0 4) v2 6 w).bind (fun r21 => ltI (v1 + r21) (fun v1_22 => k4 v1_22 (v2 + 1)))))
def f_X6_areAccountsRight_b4 (F : Nat) (a0 : Nat) (w : aI)  : Nat → Int → Int → Option Bool :=
  lp (f_X6_areAccountsRight_b4_b F a0 w ) (fun _ _ => none)
def f_X6_areAccountsRight (F : Nat) (a0 : Nat) (w : aI) : Option Bool :=
  f_X6_areAccountsRight_b4 F a0 w F 0 0
def f_X8_raised (F : Nat) (p0 : Int) (p1 : Int) (w : aI) : Option Int :=
  ltI (3 * p1) (fun v2_1 => (f_X10_noteOf F p0 p1 w).bind (fun r2 => ltI (andI (r2 + 1) 7) (fun v3_3 => gd (0 ≤ v2_1 ∧ v2_1 < 32) (gd (0 ≤ v2_1 ∧ v2_1 < 32) (some (orI (andI p0 (xorI (shl 7 v2_1) (-1))) (shl v3_3 v2_1)))))))
def f_X8_land_b85 (F : Nat) (a0 : Nat) (p1 : Int)    (v3 : Int) (v4 : Int) (w : aI) : Option aI :=
  (f_X7_put F (shR a0 6) p1 10 v4 w).bind (fun w8 => (f_X7_put F (shR a0 6) p1 3 0 w8).bind (fun w9 => (f_X7_put F (shR a0 6) p1 5 (-1) w9).bind (fun w10 => (f_X2_enter F a0 4 v3 w10).bind (fun w11 => some w11))))
def f_X8_land_b56_b (F : Nat) (a0 : Nat) (p1 : Int)   (k56 : Int → Int → Int → Int → aI → Option aI) (v2 : Int) (v3 : Int) (v4 : Int) (v5 : Int) (w : aI) : Option aI :=
  gd (rg v5 ∧ rg v3) (if v3 ≤ v5 then (f_X8_land_b85 F a0 p1 v3 v4 w) else (gd (rg v2) (if v2 ≤ 0 then (f_X8_land_b85 F a0 p1 v3 v4 w) else (gd (rg (p1 + v5)) (gd (¬ v2 = 0) ((f_X8_raised F v4 (Int.tmod (p1 + v5) v2) w).bind (fun r15 => k56 v2 v3 r15 (v5 + 1) w)))))))
def f_X8_land_b56 (F : Nat) (a0 : Nat) (p1 : Int)   : Nat → Int → Int → Int → Int → aI → Option aI :=
  lp (f_X8_land_b56_b F a0 p1  ) (fun _ _ _ _ _ => none)
def f_X8_land (F : Nat) (a0 : Nat) (p1 : Int) (w : aI) : Option aI :=
  (f_X7_get F (shR a0 6) p1 2 w).bind (fun r1 => (f_X7_get F (shR a0 6) p1 12 w).bind (fun r2 => (f_X7_get F (shR a0 6) p1 4 w).bind (fun r3 => (f_X2_setting F a0 8 w).bind (fun r4 => (f_X2_wrongOf F a0 r2 r3 r1 r4 w).bind (fun r5 => (f_X7_get F (shR a0 6) p1 10 w).bind (fun r6 => f_X8_land_b56 F a0 p1 F r1 r5 r6 0 w))))))
def f_X8_turned_b4_b (F : Nat) (p0 : Int) (p1 : Int) (w : aI)  (k4 : Int → Int → Option Int) (v2 : Int) (v3 : Int)  : Option Int :=
  gd (rg v3 ∧ rg p1) (if p1 ≤ v3 then (some v2) else ((f_X10_noteOf F p0 v3 w).bind (fun r2 => ltI (orI (shl v2 3) r2) (fun v2_3 => k4 v2_3 (v3 + 1)))))
def f_X8_turned_b4 (F : Nat) (p0 : Int) (p1 : Int) (w : aI)  : Nat → Int → Int → Option Int :=
  lp (f_X8_turned_b4_b F p0 p1 w ) (fun _ _ => none)
def f_X8_turned (F : Nat) (p0 : Int) (p1 : Int) (w : aI) : Option Int :=
  f_X8_turned_b4 F p0 p1 w F 0 0
def f_X8_reachGoal_b102 (F : Nat) (a0 : Nat) (p1 : Int)    (v2 : Int) (v3 : Int) (w : aI) : Option aI :=
  (f_X7_put F (shR a0 6) p1 3 2 w).bind (fun w5 => (f_X2_enter F a0 5 1 w5).bind (fun w6 => gd (rg v3) (if v3 = 0 then (some w6) else ((f_X2_enter F a0 6 1 w6).bind (fun w8 => (f_X7_get F (shR a0 6) p1 7 w8).bind (fun r9 => gd (rg r9) (if r9 = 1 then (gd (rg (w8 a0 3)) (if 30 ≤ (w8 a0 3) then (some w8) else ((f_X7_get F (shR a0 6) p1 2 w8).bind (fun r12 => (f_X7_get F (shR a0 6) p1 1 w8).bind (fun r13 => (f_X7_get F (shR a0 6) p1 0 w8).bind (fun r14 => (f_X8_turned F v2 r12 w8).bind (fun r15 => bJW (f_X2_addTune F a0 r13 r14 r12 r15 1 0 w8) (fun r16 w17 => (f_X2_enter F a0 2 1 w17).bind (fun w18 => some w18))))))))) else (some w8))))))))
def f_X8_reachGoal_b30 (F : Nat) (a0 : Nat) (p1 : Int)    (v2 : Int) (z0 : Int) (w : aI) : Option aI :=
  gd (rg z0) (if z0 = 0 then ((f_X7_get F (shR a0 6) p1 8 w).bind (fun r19 => (f_X2_setting F a0 10 w).bind (fun r20 => gd (rg r19 ∧ rg r20) (if r20 ≤ r19 then (f_X8_reachGoal_b102 F a0 p1 v2 z0 w) else ((f_X7_grow F (shR a0 6) p1 8 1 w).bind (fun w22 => (f_X7_put F (shR a0 6) p1 10 v2 w22).bind (fun w23 => (f_X7_get F (shR a0 6) p1 0 w23).bind (fun r24 => (f_X7_put F (shR a0 6) p1 4 r24 w23).bind (fun w25 => (f_X2_enter F a0 7 1 w25).bind (fun w26 => some w26)))))))))) else (f_X8_reachGoal_b102 F a0 p1 v2 z0 w))
def f_X8_reachGoal (F : Nat) (a0 : Nat) (p1 : Int) (w : aI) : Option aI :=
  (f_X7_get F (shR a0 6) p1 9 w).bind (fun r1 => (f_X7_get F (shR a0 6) p1 10 w).bind (fun r2 => gd (rg r2 ∧ rg r1) (if r2 = r1 then (f_X8_reachGoal_b30 F a0 p1 r1 1 w) else (f_X8_reachGoal_b30 F a0 p1 r1 0 w))))
def f_X8_landAll_b7_b (F : Nat) (a0 : Nat)   (k7 : Int → Int → aI → Option aI) (v1 : Int) (v2 : Int) (w : aI) : Option aI :=
  gd (rg v2 ∧ rg v1) (if v1 ≤ v2 then (some w) else ((f_X7_get F (shR a0 6) v2 3 w).bind (fun r3 => gd (rg r3) (if r3 = 1 then ((f_X7_get F (shR a0 6) v2 5 w).bind (fun r5 => gd (rg r5 ∧ rg (w a0 0)) (if r5 = (w a0 0) then ((f_X8_land F a0 v2 w).bind (fun w7 => (f_X7_get F (shR a0 6) v2 4 w7).bind (fun r8 => (f_X7_get F (shR a0 6) v2 1 w7).bind (fun r9 => gd (rg r8 ∧ rg r9) (if r8 = r9 then ((f_X8_reachGoal F a0 v2 w7).bind (fun w11 => k7 v1 (v2 + 1) w11)) else (k7 v1 (v2 + 1) w7)))))) else (k7 v1 (v2 + 1) w)))) else (k7 v1 (v2 + 1) w)))))
def f_X8_landAll_b7 (F : Nat) (a0 : Nat)   : Nat → Int → Int → aI → Option aI :=
  lp (f_X8_landAll_b7_b F a0  ) (fun _ _ _ => none)
def f_X8_landAll (F : Nat) (a0 : Nat) (w : aI) : Option aI :=
  ltI (w a0 3) (fun v1_1 => f_X8_landAll_b7 F a0 F v1_1 0 w)
def f_X8_roofsWithTunes_b4_b (F : Nat) (a0 : Nat) (w : aI)  (k4 : Int → Int → Option Int) (v1 : Int) (v2 : Int)  : Option Int :=
  gd (rg v2 ∧ rg (w a0 3)) (if (w a0 3) ≤ v2 then (some v1) else ((f_X7_get F (shR a0 6) v2 3 w).bind (fun r2 => gd (rg r2) (if r2 = 0 then ((f_X7_get F (shR a0 6) v2 4 w).bind (fun r4 => gd (0 ≤ r4 ∧ r4 < 32) (ltI (orI v1 (shl 1 r4)) (fun v1_6 => k4 v1_6 (v2 + 1))))) else (k4 v1 (v2 + 1))))))
def f_X8_roofsWithTunes_b4 (F : Nat) (a0 : Nat) (w : aI)  : Nat → Int → Int → Option Int :=
  lp (f_X8_roofsWithTunes_b4_b F a0 w ) (fun _ _ => none)
def f_X8_roofsWithTunes (F : Nat) (a0 : Nat) (w : aI) : Option Int :=
  f_X8_roofsWithTunes_b4 F a0 w F 0 0
def f_X8_breathsFor (F : Nat) (a0 : Nat) (p1 : Int) (p2 : Int) (w : aI) : Option Int :=
  (f_X7_get F (shR a0 4) p1 0 w).bind (fun r1 => gd (rg r1) (ltI (max 1 r1) (fun v3_3 => (f_X7_get F (shR a0 6) p2 2 w).bind (fun r4 => gd (rg ((r4 + v3_3) - 1) ∧ rg v3_3) (gd (¬ v3_3 = 0) (some (Int.tdiv ((r4 + v3_3) - 1) v3_3)))))))
def f_X8_whistle (F : Nat) (a0 : Nat) (p1 : Int) (p2 : Int) (w : aI) : Option aI :=
  (f_X7_get F (shR a0 4) p1 2 w).bind (fun r1 => (f_X2_barsOfTune F a0 p2 w).bind (fun r2 => ltI (r1 * r2) (fun v3_3 => (f_X7_get F (shR a0 6) p2 0 w).bind (fun r4 => (f_X7_grow F (shR a0 4) r4 3 (-v3_3) w).bind (fun w5 => (f_X7_grow F (shR a0 4) p1 3 v3_3 w5).bind (fun w6 => (f_X2_enter F a0 9 v3_3 w6).bind (fun w7 => (f_X2_nextOf F a0 p2 w7).bind (fun r8 => (f_X7_get F (shR (shR a0 9) 0) p1 r8 w7).bind (fun r9 => (f_X8_breathsFor F a0 p1 p2 w7).bind (fun r10 => ltI ((w7 a0 0) + r10) (fun v6_11 => (f_X7_put F (shR a0 4) p1 4 v6_11 w7).bind (fun w12 => (f_X7_grow F (shR a0 4) p1 7 1 w12).bind (fun w13 => (f_X7_put F (shR a0 6) p2 3 1 w13).bind (fun w14 => (f_X7_put F (shR a0 6) p2 4 r8 w14).bind (fun w15 => (f_X7_put F (shR a0 6) p2 5 (v6_11 + r9) w15).bind (fun w16 => (f_X7_put F (shR a0 6) p2 12 r9 w16).bind (fun w17 => (f_X7_grow F (shR a0 6) p2 11 1 w17).bind (fun w18 => (f_X2_enter F a0 3 1 w18).bind (fun w19 => some w19)))))))))))))))))))
def f_X8_whistleAll_b7_b (F : Nat) (a0 : Nat)   (k7 : Int → Int → aI → Option aI) (v1 : Int) (v2 : Int) (w : aI) : Option aI :=
  gd (rg v2 ∧ rg (w a0 1)) (if (w a0 1) ≤ v2 then (some w) else (gd (rg v1) (gd (0 ≤ v2 ∧ v2 < 32) (gd (rg (andI (shr v1 v2) 1)) (if (andI (shr v1 v2) 1) = 1 then ((f_X2_isBusy F a0 v2 (w a0 0) w).bind (fun r6 => if r6 then (k7 v1 (v2 + 1) w) else ((f_X2_firstToGoFrom F a0 v2 w).bind (fun r7 => gd (rg r7) (if r7 = (-1) then (k7 v1 (v2 + 1) w) else ((f_X8_whistle F a0 v2 r7 w).bind (fun w9 => k7 v1 (v2 + 1) w9))))))) else (k7 v1 (v2 + 1) w))))))
def f_X8_whistleAll_b7 (F : Nat) (a0 : Nat)   : Nat → Int → Int → aI → Option aI :=
  lp (f_X8_whistleAll_b7_b F a0  ) (fun _ _ _ => none)
def f_X8_whistleAll (F : Nat) (a0 : Nat) (w : aI) : Option aI :=
  (f_X8_roofsWithTunes F a0 w).bind (fun r1 => f_X8_whistleAll_b7 F a0 F r1 0 w)
def f_X8_loseAll_b2_b (F : Nat) (a0 : Nat)   (k2 : Int → aI → Option aI) (v1 : Int) (w : aI) : Option aI :=
  gd (rg v1 ∧ rg (w a0 3)) (if (w a0 3) ≤ v1 then (some w) else ((f_X7_get F (shR a0 6) v1 3 w).bind (fun r2 => gd (rg r2) (if r2 = 0 then ((f_X2_nextOf F a0 v1 w).bind (fun r4 => gd (rg r4) (if r4 = (-1) then ((f_X7_put F (shR a0 6) v1 3 3 w).bind (fun w6 => (f_X2_enter F a0 8 1 w6).bind (fun w7 => k2 (v1 + 1) w7))) else (k2 (v1 + 1) w)))) else (k2 (v1 + 1) w)))))
def f_X8_loseAll_b2 (F : Nat) (a0 : Nat)   : Nat → Int → aI → Option aI :=
  lp (f_X8_loseAll_b2_b F a0  ) (fun _ _ => none)
def f_X8_loseAll (F : Nat) (a0 : Nat) (w : aI) : Option aI :=
  f_X8_loseAll_b2 F a0 F 0 w
def f_X8_run_b2_b (F : Nat) (a0 : Nat) (p1 : Int)   (k2 : Int → aI → Option aI) (v2 : Int) (w : aI) : Option aI :=
  gd (rg v2 ∧ rg p1) (if p1 ≤ v2 then (some w) else (ltM (iset w a0 0 ((w a0 0) + 1)) (fun w2 => (f_X2_enter F a0 0 1 w2).bind (fun w3 => (f_X8_landAll F a0 w3).bind (fun w4 => gd (rg (w4 a0 0)) ((f_X2_setting F a0 9 w4).bind (fun r6 => gd (rg (Int.tmod (w4 a0 0) 60) ∧ rg r6) (if r6 ≤ (Int.tmod (w4 a0 0) 60) then ((f_X8_loseAll F a0 w4).bind (fun w8 => k2 (v2 + 1) w8)) else ((f_X8_whistleAll F a0 w4).bind (fun w9 => (f_X8_loseAll F a0 w9).bind (fun w10 => k2 (v2 + 1) w10)))))))))))
def f_X8_run_b2 (F : Nat) (a0 : Nat) (p1 : Int)   : Nat → Int → aI → Option aI :=
  lp (f_X8_run_b2_b F a0 p1  ) (fun _ _ => none)
def f_X8_run (F : Nat) (a0 : Nat) (p1 : Int) (w : aI) : Option aI :=
  f_X8_run_b2 F a0 p1 F 0 w
def f_X10_appendFour_b3_b (F : Nat) (a0 : Nat) (p1 : Int)   (k3 : Int → aI → Option aI) (v2 : Int) (w : aI) : Option aI :=
  gd (rg v2) (if v2 < 0 then (some w) else ((f_X0_add F (shR a0 0) (andI (iusI p1 v2) 255) w).bind (fun w2 => k3 (v2 + (-8)) w2)))
def f_X10_appendFour_b3 (F : Nat) (a0 : Nat) (p1 : Int)   : Nat → Int → aI → Option aI :=
  lp (f_X10_appendFour_b3_b F a0 p1  ) (fun _ _ => none)
def f_X10_appendFour (F : Nat) (a0 : Nat) (p1 : Int) (w : aI) : Option aI :=
  f_X10_appendFour_b3 F a0 p1 F 24 w
def f_X10_appendInput (F : Nat) (a0 : Nat) (p1 : Int) (p2 : Int) (p3 : Int) (p4 : Int) (p5 : Int) (w : aI) : Option (Int × aI) :=
  (f_X0_size F (shR a0 0) w).bind (fun r1 => gd (rg (r1 + 20)) (if (r1 + 20) ≤ 800 then ((f_X10_appendFour F a0 p1 w).bind (fun w3 => (f_X10_appendFour F a0 p2 w3).bind (fun w4 => (f_X10_appendFour F a0 p3 w4).bind (fun w5 => (f_X10_appendFour F a0 p4 w5).bind (fun w6 => (f_X10_appendFour F a0 p5 w6).bind (fun w7 => (f_X0_size F (shR a0 0) w7).bind (fun r8 => some (r8, w7)))))))) else (some ((-1), w))))
def f_X10_truncateInput (F : Nat) (a0 : Nat) (p1 : Int) (w : aI) : Option (Bool × aI) :=
  bKW (f_X0_cutTo F (shR a0 0) p1 w) (fun r1 w2 => some (r1, w2))
def f_X10_loadPost (F : Nat) (a0 : Nat) (w : aI) : Option (Int × aI) :=
  bKW (f_X5_isRead F (shR a0 3) w) (fun r1 w2 => (f_X0_clear F (shR a0 0) w2).bind (fun w3 => if r1 then ((f_X2_copyFrom F (shR a0 5) (shR a0 7) w3).bind (fun w4 => (f_X1_forget F (shR a0 8) w4).bind (fun w5 => ltM (iset w5 a0 9 0) (fun w6 => some (w6 (shR a0 5) 2, w6))))) else (some ((-1), w3))))
def f_X10_isSent_b63 (F : Nat) (a0 : Nat) (p1 : Int) (p2 : Int) (p3 : Int)    (v4 : Int) (v5 : Int) (z0 : Int) (w : aI) : Option (Bool × aI) :=
  bJW (f_X2_addTune F (shR a0 5) p1 p2 v4 v5 0 z0 w) (fun r6 w7 => some (true, w7))
def f_X10_isSent (F : Nat) (a0 : Nat) (p1 : Int) (p2 : Int) (p3 : Int) (w : aI) : Option (Bool × aI) :=
  gd (rg (w (shR a0 5) 3)) (if (w (shR a0 5) 3) < 30 then ((f_X7_get F (shR (shR a0 4) 2) p3 4 w).bind (fun r2 => (f_X7_get F (shR (shR a0 4) 2) p3 3 w).bind (fun r3 => (f_X7_get F (shR (shR a0 4) 2) p3 0 w).bind (fun r4 => gd (rg r4) (if r4 = 1 then (f_X10_isSent_b63 F a0 p1 p2 p3 r2 r3 1 w) else (f_X10_isSent_b63 F a0 p1 p2 p3 r2 r3 0 w)))))) else (some (false, w)))
def f_X10_isPlayed (F : Nat) (a0 : Nat) (p1 : Int) (w : aI) : Option (Bool × aI) :=
  (f_X7_get F (shR (shR a0 4) 2) p1 1 w).bind (fun r1 => (f_X7_get F (shR (shR a0 4) 2) p1 2 w).bind (fun r2 => (f_X7_get F (shR (shR a0 4) 2) p1 3 w).bind (fun r3 => (f_X7_get F (shR (shR a0 4) 2) p1 0 w).bind (fun r4 => gd (rg r4) (if r4 = 0 then (bKW (f_X10_isSent F a0 r1 r2 p1 w) (fun r7 w8 => some (r7, w8))) else (if r4 = 1 then (bKW (f_X10_isSent F a0 r1 r2 p1 w) (fun r10 w11 => some (r10, w11))) else (if r4 = 2 then ((f_X2_hasTimeFor F (shR a0 5) r3 w).bind (fun r13 => if r13 then ((f_X8_run F (shR a0 5) r3 w).bind (fun w14 => some (true, w14))) else (some (false, w)))) else (if r4 = 3 then ((f_X2_hasRoomFor F (shR a0 5) r1 r3 w).bind (fun r16 => if r16 then ((f_X2_takeCoins F (shR a0 5) r1 r3 w).bind (fun w17 => some (true, w17))) else (some (false, w)))) else (if r4 = 4 then (bKW (f_X2_cutWay F (shR a0 5) r1 r2 w) (fun r19 w20 => some (r19, w20))) else ((f_X2_settle F (shR a0 5) r4 r3 w).bind (fun w21 => some (true, w21))))))))))))
def f_X10_playScript_b34_b (F : Nat) (a0 : Nat)   (k34 : Int → aI → Option (Int × aI)) (v2 : Int) (w : aI) : Option (Int × aI) :=
  gd (rg v2 ∧ rg (w (shR a0 4) 3)) (if (w (shR a0 4) 3) ≤ v2 then (some (v2, w)) else (bKW (f_X10_isPlayed F a0 v2 w) (fun r6 w7 => if r6 then (k34 (v2 + 1) w7) else (some (v2, w7)))))
def f_X10_playScript_b34 (F : Nat) (a0 : Nat)   : Nat → Int → aI → Option (Int × aI) :=
  lp (f_X10_playScript_b34_b F a0  ) (fun _ _ => none)
def f_X10_playScript (F : Nat) (a0 : Nat) (w : aI) : Option (Int × aI) :=
  bKW (f_X4_isRead F (shR a0 4) w) (fun r1 w2 => (f_X0_clear F (shR a0 0) w2).bind (fun w3 => if r1 then ((f_X1_keep F (shR a0 8) (shR a0 5) w3).bind (fun w4 => f_X10_playScript_b34 F a0 F 0 w4)) else (some ((-1), w3))))
def f_X10_errorCode (F : Nat) (a0 : Nat) (w : aI) : Option Int :=
  some (w (shR a0 2) 5)
def f_X10_errorOffset (F : Nat) (a0 : Nat) (w : aI) : Option Int :=
  some (w (shR a0 2) 6)
def f_X10_needNumber (F : Nat) (a0 : Nat) (p1 : Int) (p2 : Int) (p3 : Int) (w : aI) : Option (Option String) :=
  gd (rg p1 ∧ rg p2) (if p1 < p2 then (some (some "java/lang/IllegalArgumentException")) else (gd (rg p3) (if p1 ≤ p3 then (some none) else (some (some "java/lang/IllegalArgumentException")))))
def f_X10_count (F : Nat) (a0 : Nat) (p1 : Int) (w : aI) : Option ((Int ⊕ String) × aI) :=
  bnM (f_X10_needNumber F a0 p1 0 13 w) w (gd (rg p1) (if p1 = 13 then ((f_X1_size F (shR a0 8) w).bind (fun r3 => some (.inl r3, w))) else ((f_X2_numberOfAll F (shR a0 5) p1 w).bind (fun r2 => some (.inl r2, w)))))
def f_X10_account (F : Nat) (a0 : Nat) (p1 : Int) (w : aI) : Option ((Int ⊕ String) × aI) :=
  bnM (f_X10_needNumber F a0 p1 0 10 w) w ((f_X7_get F (shR (shR a0 5) 8) 0 p1 w).bind (fun r1 => some (.inl r1, w)))
def f_X10_needRoof (F : Nat) (a0 : Nat) (p1 : Int) (w : aI) : Option (Option String) :=
  gd (rg p1) (if p1 < 0 then (some (some "java/lang/IndexOutOfBoundsException")) else (gd (rg (w (shR a0 5) 1)) (if p1 < (w (shR a0 5) 1) then (some none) else (some (some "java/lang/IndexOutOfBoundsException")))))
def f_X10_nameByte (F : Nat) (a0 : Nat) (p1 : Int) (p2 : Int) (w : aI) : Option ((Int ⊕ String) × aI) :=
  bnM (f_X10_needRoof F a0 p1 w) w ((f_X2_letterOf F (shR a0 5) p1 p2 w).bind (fun r1 => some (.inl r1, w)))
def f_X10_roof (F : Nat) (a0 : Nat) (p1 : Int) (p2 : Int) (w : aI) : Option ((Int ⊕ String) × aI) :=
  bnM (f_X10_needRoof F a0 p1 w) w (bnM (f_X10_needNumber F a0 p2 0 7 w) w ((f_X2_numberOfRoof F (shR a0 5) p1 p2 w).bind (fun r1 => some (.inl r1, w))))
def f_X10_way (F : Nat) (a0 : Nat) (p1 : Int) (p2 : Int) (w : aI) : Option ((Int ⊕ String) × aI) :=
  gd (rg p1) (if p1 < 0 then (some (.inr "java/lang/IndexOutOfBoundsException", w)) else (gd (rg (w (shR a0 5) 2)) (if p1 < (w (shR a0 5) 2) then (bnM (f_X10_needNumber F a0 p2 0 2 w) w ((f_X7_get F (shR (shR a0 5) 5) p1 p2 w).bind (fun r3 => some (.inl r3, w)))) else (some (.inr "java/lang/IndexOutOfBoundsException", w)))))
def f_X10_route (F : Nat) (a0 : Nat) (p1 : Int) (p2 : Int) (w : aI) : Option ((Int ⊕ String) × aI) :=
  bnM (f_X10_needRoof F a0 p1 w) w (bnM (f_X10_needRoof F a0 p2 w) w ((f_X7_get F (shR (shR (shR a0 5) 9) 1) p1 p2 w).bind (fun r1 => gd (rg r1) (if 9999 ≤ r1 then (some (.inl (-1), w)) else (some (.inl r1, w))))))
def f_X10_next (F : Nat) (a0 : Nat) (p1 : Int) (p2 : Int) (w : aI) : Option ((Int ⊕ String) × aI) :=
  bnM (f_X10_needRoof F a0 p1 w) w (bnM (f_X10_needRoof F a0 p2 w) w ((f_X7_get F (shR (shR (shR a0 5) 9) 2) p1 p2 w).bind (fun r1 => some (.inl r1, w))))
def f_X10_needTune (F : Nat) (a0 : Nat) (p1 : Int) (w : aI) : Option (Option String) :=
  gd (rg p1) (if p1 < 0 then (some (some "java/lang/IndexOutOfBoundsException")) else (gd (rg (w (shR a0 5) 3)) (if p1 < (w (shR a0 5) 3) then (some none) else (some (some "java/lang/IndexOutOfBoundsException")))))
def f_X10_tune (F : Nat) (a0 : Nat) (p1 : Int) (p2 : Int) (w : aI) : Option ((Int ⊕ String) × aI) :=
  bnM (f_X10_needTune F a0 p1 w) w (bnM (f_X10_needNumber F a0 p2 0 11 w) w ((f_X2_numberOfTune F (shR a0 5) p1 p2 w).bind (fun r1 => some (.inl r1, w))))
def f_X10_note (F : Nat) (a0 : Nat) (p1 : Int) (p2 : Int) (p3 : Int) (w : aI) : Option ((Int ⊕ String) × aI) :=
  bnM (f_X10_needTune F a0 p1 w) w (gd (rg p2) (if p2 < 0 then (some (.inl (-1), w)) else ((f_X7_get F (shR (shR a0 5) 6) p1 2 w).bind (fun r2 => gd (rg r2) (if p2 < r2 then (gd (rg p3) (if p3 = 0 then ((f_X7_get F (shR (shR a0 5) 6) p1 9 w).bind (fun r5 => (f_X10_noteOf F r5 p2 w).bind (fun r6 => some (.inl r6, w)))) else ((f_X7_get F (shR (shR a0 5) 6) p1 10 w).bind (fun r7 => (f_X10_noteOf F r7 p2 w).bind (fun r8 => some (.inl r8, w)))))) else (some (.inl (-1), w)))))))
def f_X10_waiting (F : Nat) (a0 : Nat) (p1 : Int) (p2 : Int) (w : aI) : Option ((Int ⊕ String) × aI) :=
  bnM (f_X10_needRoof F a0 p1 w) w ((f_X2_waitingAt F (shR a0 5) p1 p2 w).bind (fun r1 => some (.inl r1, w)))
def f_X10_why (F : Nat) (a0 : Nat) (p1 : Int) (p2 : Int) (w : aI) : Option ((Int ⊕ String) × aI) :=
  bnM (f_X10_needTune F a0 p1 w) w (bnM (f_X10_needNumber F a0 p2 0 1 w) w ((f_X6_causeOf F (shR a0 5) p1 w).bind (fun r1 => gd (rg p2) (if p2 = 1 then (some (.inl r1, w)) else (gd (rg r1) (some (.inl (Int.tdiv r1 100), w)))))))
def f_X10_costOf (F : Nat) (a0 : Nat) (p1 : Int) (p2 : Int) (p3 : Int) (w : aI) : Option ((Int ⊕ String) × aI) :=
  bnM (f_X10_needRoof F a0 p1 w) w (bnM (f_X10_needRoof F a0 p2 w) w (bnM (f_X10_needNumber F a0 p3 1 8 w) w ((f_X6_feesOn F (shR a0 5) p1 p2 p3 w).bind (fun r1 => some (.inl r1, w)))))
def f_X10_wrongOn (F : Nat) (a0 : Nat) (p1 : Int) (p2 : Int) (p3 : Int) (w : aI) : Option ((Int ⊕ String) × aI) :=
  bnM (f_X10_needRoof F a0 p1 w) w (bnM (f_X10_needRoof F a0 p2 w) w (bnM (f_X10_needNumber F a0 p3 1 8 w) w ((f_X2_setting F (shR a0 5) 8 w).bind (fun r1 => (f_X6_wrongNotesOn F (shR a0 5) p1 p2 p3 r1 w).bind (fun r2 => some (.inl r2, w))))))
def f_X10_calmest_b13_b (F : Nat) (a0 : Nat) (p1 : Int) (p2 : Int) (w : aI)  (k13 : Int → Option ((Int ⊕ String) × aI)) (v3 : Int)  : Option ((Int ⊕ String) × aI) :=
  gd (rg v3) (if v3 < 0 then (some (.inl (-1), w)) else ((f_X6_wrongNotesOn F (shR a0 5) p1 p2 8 v3 w).bind (fun r2 => gd (rg r2) (if r2 = 0 then (some (.inl v3, w)) else (k13 (v3 + (-1)))))))
def f_X10_calmest_b13 (F : Nat) (a0 : Nat) (p1 : Int) (p2 : Int) (w : aI)  : Nat → Int → Option ((Int ⊕ String) × aI) :=
  lp (f_X10_calmest_b13_b F a0 p1 p2 w ) (fun _ => none)
def f_X10_calmest (F : Nat) (a0 : Nat) (p1 : Int) (p2 : Int) (w : aI) : Option ((Int ⊕ String) × aI) :=
  bnM (f_X10_needRoof F a0 p1 w) w (bnM (f_X10_needRoof F a0 p2 w) w (f_X10_calmest_b13 F a0 p1 p2 w F 9))
def f_X10_arrivesIn_b18_b (F : Nat) (a0 : Nat) (p1 : Int)   (k18 : Int → aI → Option ((Int ⊕ String) × aI)) (v2 : Int) (w : aI) : Option ((Int ⊕ String) × aI) :=
  gd (rg v2) (if 200 < v2 then (some (.inl (-1), w)) else ((f_X7_get F (shR (shR a0 7) 6) p1 3 w).bind (fun r3 => gd (rg r3) (if r3 = 2 then (some (.inl v2, w)) else (if r3 = 3 then (some (.inl (-1), w)) else ((f_X8_run F (shR a0 7) 1 w).bind (fun w5 => k18 (v2 + 1) w5)))))))
def f_X10_arrivesIn_b18 (F : Nat) (a0 : Nat) (p1 : Int)   : Nat → Int → aI → Option ((Int ⊕ String) × aI) :=
  lp (f_X10_arrivesIn_b18_b F a0 p1  ) (fun _ _ => none)
def f_X10_arrivesIn (F : Nat) (a0 : Nat) (p1 : Int) (w : aI) : Option ((Int ⊕ String) × aI) :=
  bnM (f_X10_needTune F a0 p1 w) w ((f_X2_copyFrom F (shR a0 7) (shR a0 5) w).bind (fun w1 => f_X10_arrivesIn_b18 F a0 p1 F 0 w1))
def f_X10_growsBy (F : Nat) (a0 : Nat) (p1 : Int) (p2 : Int) (w : aI) : Option ((Int ⊕ String) × aI) :=
  bnM (f_X10_needNumber F a0 p1 0 10 w) w (bnM (f_X10_needNumber F a0 p2 0 200 w) w ((f_X2_copyFrom F (shR a0 7) (shR a0 5) w).bind (fun w1 => (f_X8_run F (shR a0 7) p2 w1).bind (fun w2 => (f_X7_get F (shR (shR a0 7) 8) 0 p1 w2).bind (fun r3 => (f_X7_get F (shR (shR a0 5) 8) 0 p1 w2).bind (fun r4 => some (.inl (r3 - r4), w2)))))))
def f_X10_dearestWay (F : Nat) (a0 : Nat) (w : aI) : Option Int :=
  (f_X6_mostNeededWay F (shR a0 5) w).bind (fun r1 => some r1)
def f_X10_agree (F : Nat) (a0 : Nat) (w : aI) : Option (Bool × aI) :=
  (f_X3_sumByWays F (shR (shR a0 7) 9) (shR a0 5) w).bind (fun w1 => (f_X3_hasSameSums F (shR (shR a0 5) 9) (shR (shR a0 7) 9) (w1 (shR a0 5) 1) w1).bind (fun r2 => if r2 then ((f_X6_areTunesRight F (shR a0 5) w1).bind (fun r3 => if r3 then ((f_X6_areAccountsRight F (shR a0 5) w1).bind (fun r4 => if r4 then (some (true, w1)) else (some (false, w1)))) else (some (false, w1)))) else (some (false, w1))))
def f_X10_areDigitsNotes_b2_b (F : Nat) (p0 : Int) (w : aI)  (k2 : Int → Option Bool) (v1 : Int)  : Option Bool :=
  gd (rg v1) (if v1 ≤ 0 then (some true) else (gd (rg (Int.tmod v1 10)) (if (Int.tmod v1 10) ≤ 7 then (ltI (Int.tdiv v1 10) (fun v1_3 => k2 v1_3)) else (some false))))
def f_X10_areDigitsNotes_b2 (F : Nat) (p0 : Int) (w : aI)  : Nat → Int → Option Bool :=
  lp (f_X10_areDigitsNotes_b2_b F p0 w ) (fun _ => none)
def f_X10_areDigitsNotes (F : Nat) (p0 : Int) (w : aI) : Option Bool :=
  f_X10_areDigitsNotes_b2 F p0 w F p0
def f_X10_digitsOf_b7_b (F : Nat) (p0 : Int) (w : aI)  (k7 : Int → Int → Option Int) (v1 : Int) (v2 : Int)  : Option Int :=
  gd (rg v2) (if v2 ≤ 0 then (some v1) else (ltI (Int.tdiv v2 10) (fun v2_4 => k7 (v1 + 1) v2_4)))
def f_X10_digitsOf_b7 (F : Nat) (p0 : Int) (w : aI)  : Nat → Int → Int → Option Int :=
  lp (f_X10_digitsOf_b7_b F p0 w ) (fun _ _ => none)
def f_X10_digitsOf (F : Nat) (p0 : Int) (w : aI) : Option Int :=
  gd (rg p0) (ltI (Int.tdiv p0 10) (fun v2_2 => f_X10_digitsOf_b7 F p0 w F 1 v2_2))
def f_X10_notesOfDigits_b4_b (F : Nat) (p0 : Int) (w : aI)  (k4 : Int → Int → Option Int) (v1 : Int) (v2 : Int)  : Option Int :=
  gd (rg v2) (if v2 ≤ 0 then (some v1) else (ltI (orI (shl v1 3) (Int.tmod v2 10)) (fun v1_2 => ltI (Int.tdiv v2 10) (fun v2_3 => k4 v1_2 v2_3))))
def f_X10_notesOfDigits_b4 (F : Nat) (p0 : Int) (w : aI)  : Nat → Int → Int → Option Int :=
  lp (f_X10_notesOfDigits_b4_b F p0 w ) (fun _ _ => none)
def f_X10_notesOfDigits (F : Nat) (p0 : Int) (w : aI) : Option Int :=
  f_X10_notesOfDigits_b4 F p0 w F 0 p0
def f_X10_send (F : Nat) (a0 : Nat) (p1 : Int) (p2 : Int) (p3 : Int) (p4 : Int) (w : aI) : Option ((Int ⊕ String) × aI) :=
  bnM (f_X10_needRoof F a0 p1 w) w (bnM (f_X10_needRoof F a0 p2 w) w (gd (rg p1 ∧ rg p2) (if p1 = p2 then (some (.inr "java/lang/IllegalArgumentException", w)) else (bnM (f_X10_needNumber F a0 p3 0 77777777 w) w ((f_X10_areDigitsNotes F p3 w).bind (fun r2 => if r2 then (gd (rg (w (shR a0 5) 3)) (if (w (shR a0 5) 3) < 30 then ((f_X1_keep F (shR a0 8) (shR a0 5) w).bind (fun w4 => (f_X10_digitsOf F p3 w4).bind (fun r5 => (f_X10_notesOfDigits F p3 w4).bind (fun r6 => bJW (f_X2_addTune F (shR a0 5) p1 p2 r5 r6 0 p4 w4) (fun r7 w8 => some (.inl r7, w8)))))) else (some (.inr "java/lang/IllegalStateException", w)))) else (some (.inr "java/lang/IllegalArgumentException", w))))))))
def f_X10_tick (F : Nat) (a0 : Nat) (p1 : Int) (w : aI) : Option ((Int ⊕ String) × aI) :=
  bnM (f_X10_needNumber F a0 p1 1 200 w) w ((f_X2_hasTimeFor F (shR a0 5) p1 w).bind (fun r1 => if r1 then ((f_X1_keep F (shR a0 8) (shR a0 5) w).bind (fun w2 => (f_X7_get F (shR (shR a0 5) 8) 0 5 w2).bind (fun r3 => (f_X8_run F (shR a0 5) p1 w2).bind (fun w4 => (f_X7_get F (shR (shR a0 5) 8) 0 5 w4).bind (fun r5 => some (.inl (r5 - r3), w4)))))) else (some (.inr "java/lang/IllegalStateException", w))))
def f_X10_give (F : Nat) (a0 : Nat) (p1 : Int) (p2 : Int) (w : aI) : Option ((Int ⊕ String) × aI) :=
  bnM (f_X10_needRoof F a0 p1 w) w (bnM (f_X10_needNumber F a0 p2 1 99 w) w ((f_X2_hasRoomFor F (shR a0 5) p1 p2 w).bind (fun r1 => if r1 then ((f_X1_keep F (shR a0 8) (shR a0 5) w).bind (fun w2 => (f_X2_takeCoins F (shR a0 5) p1 p2 w2).bind (fun w3 => (f_X7_get F (shR (shR a0 5) 4) p1 3 w3).bind (fun r4 => some (.inl r4, w3))))) else (some (.inr "java/lang/IllegalStateException", w)))))
def f_X10_cut (F : Nat) (a0 : Nat) (p1 : Int) (p2 : Int) (w : aI) : Option ((Int ⊕ String) × aI) :=
  bnM (f_X10_needRoof F a0 p1 w) w (bnM (f_X10_needRoof F a0 p2 w) w ((f_X2_wayBetween F (shR a0 5) p1 p2 w).bind (fun r1 => gd (rg r1) (if r1 = (-1) then (some (.inr "java/lang/IllegalStateException", w)) else ((f_X1_keep F (shR a0 8) (shR a0 5) w).bind (fun w3 => bKW (f_X2_cutWay F (shR a0 5) p1 p2 w3) (fun r4 w5 => some (.inl (w5 (shR a0 5) 2), w5))))))))
def f_X10_set (F : Nat) (a0 : Nat) (p1 : Int) (p2 : Int) (w : aI) : Option ((Int ⊕ String) × aI) :=
  bnM (f_X10_needNumber F a0 p1 8 10 w) w ((f_X2_leastOf F p1 w).bind (fun r1 => (f_X2_mostOf F p1 w).bind (fun r2 => bnM (f_X10_needNumber F a0 p2 r1 r2 w) w ((f_X1_keep F (shR a0 8) (shR a0 5) w).bind (fun w3 => (f_X2_setting F (shR a0 5) p1 w3).bind (fun r4 => (f_X2_settle F (shR a0 5) p1 p2 w3).bind (fun w5 => some (.inl r4, w5))))))))
def f_X10_undo (F : Nat) (a0 : Nat) (w : aI) : Option ((Int ⊕ String) × aI) :=
  (f_X1_size F (shR a0 8) w).bind (fun r1 => gd (rg r1) (if r1 = 0 then (some (.inr "java/util/NoSuchElementException", w)) else ((f_X1_giveBack F (shR a0 8) (shR a0 5) w).bind (fun w3 => (f_X1_size F (shR a0 8) w3).bind (fun r4 => some (.inl r4, w3))))))
def f_X10_writeName_b2_b (F : Nat) (a0 : Nat) (p1 : Int)   (k2 : Int → aI → Option aI) (v2 : Int) (w : aI) : Option aI :=
  gd (rg v2) (if 6 ≤ v2 then (some w) else ((f_X2_letterOf F (shR a0 5) p1 v2 w).bind (fun r2 => gd (rg r2) (if r2 = (-1) then (k2 (v2 + 1) w) else ((f_X0_add F (shR a0 1) r2 w).bind (fun w4 => k2 (v2 + 1) w4))))))
def f_X10_writeName_b2 (F : Nat) (a0 : Nat) (p1 : Int)   : Nat → Int → aI → Option aI :=
  lp (f_X10_writeName_b2_b F a0 p1  ) (fun _ _ => none)
def f_X10_writeName (F : Nat) (a0 : Nat) (p1 : Int) (w : aI) : Option aI :=
  f_X10_writeName_b2 F a0 p1 F 0 w
def f_X10_printRoofs_b93 (F : Nat) (a0 : Nat)  (k9 : Int → aI → Option (Int × aI))  (v1 : Int) (w : aI) : Option (Int × aI) :=
  (f_X2_tunesAt F (shR a0 5) v1 w).bind (fun r9 => gd (rg r9) (if r9 ≤ 0 then (k9 (v1 + 1) w) else ((f_X0_add F (shR a0 1) 47 w).bind (fun w11 => (f_X0_addNumber F (shR a0 1) r9 w11).bind (fun w12 => k9 (v1 + 1) w12)))))
def f_X10_printRoofs_b33 (F : Nat) (a0 : Nat)  (k9 : Int → aI → Option (Int × aI))  (v1 : Int) (w : aI) : Option (Int × aI) :=
  (f_X10_writeName F a0 v1 w).bind (fun w4 => (f_X0_add F (shR a0 1) 58 w4).bind (fun w5 => (f_X7_get F (shR (shR a0 5) 4) v1 3 w5).bind (fun r6 => (f_X0_addNumber F (shR a0 1) r6 w5).bind (fun w7 => (f_X2_isBusy F (shR a0 5) v1 (w7 (shR a0 5) 0) w7).bind (fun r8 => if r8 then ((f_X0_add F (shR a0 1) 33 w7).bind (fun w13 => f_X10_printRoofs_b93 F a0 k9 v1 w13)) else (f_X10_printRoofs_b93 F a0 k9 v1 w7))))))
def f_X10_printRoofs_b9_b (F : Nat) (a0 : Nat)   (k9 : Int → aI → Option (Int × aI)) (v1 : Int) (w : aI) : Option (Int × aI) :=
  gd (rg v1 ∧ rg (w (shR a0 5) 1)) (if (w (shR a0 5) 1) ≤ v1 then ((f_X0_size F (shR a0 1) w).bind (fun r3 => some (r3, w))) else (if v1 ≤ 0 then (f_X10_printRoofs_b33 F a0 k9 v1 w) else ((f_X0_add F (shR a0 1) 32 w).bind (fun w14 => f_X10_printRoofs_b33 F a0 k9 v1 w14))))
def f_X10_printRoofs_b9 (F : Nat) (a0 : Nat)   : Nat → Int → aI → Option (Int × aI) :=
  lp (f_X10_printRoofs_b9_b F a0  ) (fun _ _ => none)
def f_X10_printRoofs (F : Nat) (a0 : Nat) (w : aI) : Option (Int × aI) :=
  (f_X0_clear F (shR a0 1) w).bind (fun w1 => f_X10_printRoofs_b9 F a0 F 0 w1)
def f_X10_printTune_b57_b (F : Nat) (a0 : Nat) (p1 : Int)   (k57 : Int → Int → Int → Int → aI → Option ((Int ⊕ String) × aI)) (v2 : Int) (v3 : Int) (v4 : Int) (v5 : Int) (w : aI) : Option ((Int ⊕ String) × aI) :=
  gd (rg v5 ∧ rg v2) (if v2 ≤ v5 then ((f_X0_add F (shR a0 1) 62 w).bind (fun w6 => (f_X7_get F (shR (shR a0 5) 6) p1 1 w6).bind (fun r7 => (f_X10_writeName F a0 r7 w6).bind (fun w8 => (f_X0_size F (shR a0 1) w8).bind (fun r9 => some (.inl r9, w8)))))) else ((f_X10_noteOf F v4 v5 w).bind (fun r10 => (f_X0_addNumber F (shR a0 1) r10 w).bind (fun w11 => (f_X10_noteOf F v4 v5 w11).bind (fun r12 => (f_X10_noteOf F v3 v5 w11).bind (fun r13 => gd (rg r12 ∧ rg r13) (if r12 = r13 then (k57 v2 v3 v4 (v5 + 1) w11) else ((f_X0_add F (shR a0 1) 39 w11).bind (fun w15 => k57 v2 v3 v4 (v5 + 1) w15)))))))))
def f_X10_printTune_b57 (F : Nat) (a0 : Nat) (p1 : Int)   : Nat → Int → Int → Int → Int → aI → Option ((Int ⊕ String) × aI) :=
  lp (f_X10_printTune_b57_b F a0 p1  ) (fun _ _ _ _ _ => none)
def f_X10_printTune (F : Nat) (a0 : Nat) (p1 : Int) (w : aI) : Option ((Int ⊕ String) × aI) :=
  bnM (f_X10_needTune F a0 p1 w) w ((f_X0_clear F (shR a0 1) w).bind (fun w1 => (f_X7_get F (shR (shR a0 5) 6) p1 2 w1).bind (fun r2 => (f_X7_get F (shR (shR a0 5) 6) p1 9 w1).bind (fun r3 => (f_X7_get F (shR (shR a0 5) 6) p1 10 w1).bind (fun r4 => f_X10_printTune_b57 F a0 p1 F r2 r3 r4 0 w1)))))
def f_X10_outputByte (F : Nat) (a0 : Nat) (p1 : Int) (w : aI) : Option Int :=
  (f_X0_get F (shR a0 1) p1 w).bind (fun r1 => some r1)
def f_X10_saveState (F : Nat) (a0 : Nat) (w : aI) : Option (Int × aI) :=
  (f_X2_copyFrom F (shR a0 6) (shR a0 5) w).bind (fun w1 => ltM (iset w1 a0 9 1) (fun w2 => some (w2 (shR a0 6) 3, w2)))
def f_X10_restoreState (F : Nat) (a0 : Nat) (w : aI) : Option ((Int ⊕ String) × aI) :=
  gd (rg (w a0 9)) (if (w a0 9) = 0 then (some (.inr "java/util/NoSuchElementException", w)) else ((f_X2_copyFrom F (shR a0 5) (shR a0 6) w).bind (fun w2 => (f_X1_forget F (shR a0 8) w2).bind (fun w3 => some (.inl (w3 (shR a0 5) 3), w3)))))
def f_X11_thrown (F : Nat) (a0 : Nat) (w : aI) : Option Int :=
  some (w a0 6)
def f_X11_in (F : Nat) (p0 : Int) (p2 : Int) (p4 : Int) (w : aI) : Option Bool :=
  gd (rgL p0) (gd (rgL p2) (if (lcmpI p0 p2) < 0 then (some false) else (gd (rgL p0) (gd (rgL p4) (if 0 < (lcmpI p0 p4) then (some false) else (some true))))))
def f_X11_one (F : Nat) (p0 : Int) (w : aI) : Option Int :=
  gd (rg p0) (if p0 = 0 then (some 0) else (some 1))
def f_X11_may_b26 (F : Nat) (a0 : Nat) (p1 : Int) (p2 : Int) (p3 : Int)    (z0 : Int) (z1 : Nat) (w : aI) : Option (Bool × aI) :=
  ltM (iset w z1 6 z0) (fun w4 => gd (rg (w4 a0 6)) (if (w4 a0 6) = 0 then (some (true, w4)) else (some (false, w4))))
def f_X11_may (F : Nat) (a0 : Nat) (p1 : Int) (p2 : Int) (p3 : Int) (w : aI) : Option (Bool × aI) :=
  gd (rg p1) (if p1 = 0 then (f_X11_may_b26 F a0 p1 p2 p3 1 a0 w) else (gd (rg p2) (if p2 = 0 then (f_X11_may_b26 F a0 p1 p2 p3 2 a0 w) else (gd (rg p3) (if p3 = 0 then (f_X11_may_b26 F a0 p1 p2 p3 3 a0 w) else (f_X11_may_b26 F a0 p1 p2 p3 0 a0 w))))))
def f_X11_r (F : Nat) (p0 : Int) (w : aI) : Option Int :=
  some (25 + (13 * p0))
def f_X11_w (F : Nat) (p0 : Int) (w : aI) : Option Int :=
  some (160 + (3 * p0))
def f_X11_t (F : Nat) (p0 : Int) (w : aI) : Option Int :=
  some (220 + (27 * p0))
def f_X11_counts (F : Nat) (a0 : Nat) (p1 : Int) (p2 : Int) (w : aI) : Option aI :=
  ltI (10 + p1) (fun u1 => gd (inI u1 (shL (shR a0 0))) (gd (inI u1 (shL (shR a0 0))) (ltM (iset w (shR a0 0) u1 ((w (shR a0 0) u1) + p2)) (fun w2 => some w2))))
def f_X11_clears_b2_b (F : Nat) (a0 : Nat)   (k2 : Int → aI → Option aI) (v1 : Int) (w : aI) : Option aI :=
  gd (rg v1) (if 1030 ≤ v1 then (gd (inI 4 (shL (shR a0 0))) (ltM (iset w (shR a0 0) 4 3) (fun w2 => gd (inI 5 (shL (shR a0 0))) (ltM (iset w2 (shR a0 0) 5 50) (fun w3 => gd (inI 6 (shL (shR a0 0))) (ltM (iset w3 (shR a0 0) 6 1) (fun w4 => some w4))))))) else (gd (inI v1 (shL (shR a0 0))) (ltM (iset w (shR a0 0) v1 0) (fun w5 => k2 (v1 + 1) w5))))
def f_X11_clears_b2 (F : Nat) (a0 : Nat)   : Nat → Int → aI → Option aI :=
  lp (f_X11_clears_b2_b F a0  ) (fun _ _ => none)
def f_X11_clears (F : Nat) (a0 : Nat) (w : aI) : Option aI :=
  f_X11_clears_b2 F a0 F 0 w
def f_X11_copies_b2_b (F : Nat) (a0 : Nat) (a1 : Nat)   (k2 : Int → aI → Option aI) (v2 : Int) (w : aI) : Option aI :=
  gd (rg v2) (if 1030 ≤ v2 then (some w) else (gd (inI v2 (shL (shR a0 0))) (gd (inI v2 (shL a1)) (ltM (iset w a1 v2 (w (shR a0 0) v2)) (fun w2 => k2 (v2 + 1) w2)))))
def f_X11_copies_b2 (F : Nat) (a0 : Nat) (a1 : Nat)   : Nat → Int → aI → Option aI :=
  lp (f_X11_copies_b2_b F a0 a1  ) (fun _ _ => none)
def f_X11_copies (F : Nat) (a0 : Nat) (a1 : Nat) (w : aI) : Option aI :=
  f_X11_copies_b2 F a0 a1 F 0 w
def f_X11_gives_b2_b (F : Nat) (a0 : Nat) (a1 : Nat) (p2 : Int)   (k2 : Int → aI → Option (Int × aI)) (v3 : Int) (w : aI) : Option (Int × aI) :=
  gd (rg v3) (if 1030 ≤ v3 then (some (p2, w)) else (gd (inI v3 (shL a1)) (gd (inI v3 (shL (shR a0 0))) (ltM (iset w (shR a0 0) v3 (w a1 v3)) (fun w2 => k2 (v3 + 1) w2)))))
def f_X11_gives_b2 (F : Nat) (a0 : Nat) (a1 : Nat) (p2 : Int)   : Nat → Int → aI → Option (Int × aI) :=
  lp (f_X11_gives_b2_b F a0 a1 p2  ) (fun _ _ => none)
def f_X11_gives (F : Nat) (a0 : Nat) (a1 : Nat) (p2 : Int) (w : aI) : Option (Int × aI) :=
  f_X11_gives_b2 F a0 a1 p2 F 0 w
def f_X11_remembers_b54_b (F : Nat) (a0 : Nat)   (k54 : Int → aI → Option aI) (v1 : Int) (w : aI) : Option aI :=
  gd (rg v1) (if 1030 ≤ v1 then (ltM (iset w a0 4 ((w a0 4) + 1)) (fun w3 => some w3)) else (gd (inI v1 (shL (shR a0 0))) (gd (inI ((1030 * (w a0 4)) + v1) (shL (shR a0 3))) (ltM (iset w (shR a0 3) ((1030 * (w a0 4)) + v1) (w (shR a0 0) v1)) (fun w4 => k54 (v1 + 1) w4)))))
def f_X11_remembers_b54 (F : Nat) (a0 : Nat)   : Nat → Int → aI → Option aI :=
  lp (f_X11_remembers_b54_b F a0  ) (fun _ _ => none)
def f_X11_remembers_b13_b (F : Nat) (a0 : Nat)   (k13 : Int → aI → Option aI) (v1 : Int) (w : aI) : Option aI :=
  gd (rg v1) (if 8240 ≤ v1 then (ltM (iset w a0 4 ((w a0 4) - 1)) (fun w6 => f_X11_remembers_b54 F a0 F 0 w6)) else (gd (inI v1 (shL (shR a0 3))) (gd (inI (v1 - 1030) (shL (shR a0 3))) (ltM (iset w (shR a0 3) (v1 - 1030) (w (shR a0 3) v1)) (fun w7 => k13 (v1 + 1) w7)))))
def f_X11_remembers_b13 (F : Nat) (a0 : Nat)   : Nat → Int → aI → Option aI :=
  lp (f_X11_remembers_b13_b F a0  ) (fun _ _ => none)
def f_X11_remembers (F : Nat) (a0 : Nat) (w : aI) : Option aI :=
  gd (rg (w a0 4)) (if (w a0 4) = 8 then (f_X11_remembers_b13 F a0 F 1030 w) else (f_X11_remembers_b54 F a0 F 0 w))
def f_X11_named_b36_b (F : Nat) (a0 : Nat) (w : aI) (k2 : Int → Option Int) (k36 : Int → Int → Int → Option Int) (v1 : Int) (v2 : Int) (v3 : Int)  : Option Int :=
  gd (rg v3 ∧ rg (w a0 8)) (if (w a0 8) ≤ v3 then (gd (rg v2) (if v2 = 0 then (k2 (v1 + 1)) else (some v1))) else (gd (rg v2) (if v2 = 0 then (if v2 = 0 then (k2 (v1 + 1)) else (some v1)) else ((f_X11_r F v1 w).bind (fun r7 => gd (inI ((r7 + 1) + v3) (shL (shR a0 0))) (gd (inI v3 (shL (shR a0 7))) (gd (rg (w (shR a0 0) ((r7 + 1) + v3)) ∧ rg (w (shR a0 7) v3)) (if (w (shR a0 0) ((r7 + 1) + v3)) = (w (shR a0 7) v3) then (k36 v1 1 (v3 + 1)) else (k36 v1 0 (v3 + 1))))))))))
def f_X11_named_b36 (F : Nat) (a0 : Nat) (w : aI) (k2 : Int → Option Int) : Nat → Int → Int → Int → Option Int :=
  lp (f_X11_named_b36_b F a0 w k2) (fun _ _ _ => none)
def f_X11_named_b2_b (F : Nat) (a0 : Nat) (w : aI)  (k2 : Int → Option Int) (v1 : Int)  : Option Int :=
  gd (inI 0 (shL (shR a0 0))) (gd (rg v1 ∧ rg (w (shR a0 0) 0)) (if (w (shR a0 0) 0) ≤ v1 then (some (-1)) else ((f_X11_r F v1 w).bind (fun r2 => gd (inI r2 (shL (shR a0 0))) (gd (rg (w (shR a0 0) r2) ∧ rg (w a0 8)) (if (w (shR a0 0) r2) = (w a0 8) then (f_X11_named_b36 F a0 w k2 F v1 1 0) else (f_X11_named_b36 F a0 w k2 F v1 0 0)))))))
def f_X11_named_b2 (F : Nat) (a0 : Nat) (w : aI)  : Nat → Int → Option Int :=
  lp (f_X11_named_b2_b F a0 w ) (fun _ => none)
def f_X11_named (F : Nat) (a0 : Nat) (w : aI) : Option Int :=
  f_X11_named_b2 F a0 w F 0
def f_X11_newRoof_b25_b (F : Nat) (a0 : Nat) (p1 : Int) (p2 : Int) (p3 : Int) (p4 : Int)   (k25 : Int → Int → aI → Option aI) (v5 : Int) (v6 : Int) (w : aI) : Option aI :=
  gd (rg v6 ∧ rg (w a0 8)) (if (w a0 8) ≤ v6 then (gd (inI (v5 + 7) (shL (shR a0 0))) (ltM (iset w (shR a0 0) (v5 + 7) p1) (fun w4 => gd (inI (v5 + 8) (shL (shR a0 0))) (ltM (iset w4 (shR a0 0) (v5 + 8) p2) (fun w5 => gd (inI (v5 + 9) (shL (shR a0 0))) (ltM (iset w5 (shR a0 0) (v5 + 9) p3) (fun w6 => gd (inI (v5 + 10) (shL (shR a0 0))) (ltM (iset w6 (shR a0 0) (v5 + 10) p4) (fun w7 => gd (inI 7 (shL (shR a0 0))) (gd (inI 7 (shL (shR a0 0))) (ltM (iset w7 (shR a0 0) 7 ((w7 (shR a0 0) 7) + p4)) (fun w8 => gd (inI 0 (shL (shR a0 0))) (gd (inI 0 (shL (shR a0 0))) (ltM (iset w8 (shR a0 0) 0 ((w8 (shR a0 0) 0) + 1)) (fun w9 => some w9))))))))))))))) else (gd (inI v6 (shL (shR a0 7))) (gd (inI ((v5 + 1) + v6) (shL (shR a0 0))) (ltM (iset w (shR a0 0) ((v5 + 1) + v6) (w (shR a0 7) v6)) (fun w10 => k25 v5 (v6 + 1) w10)))))
def f_X11_newRoof_b25 (F : Nat) (a0 : Nat) (p1 : Int) (p2 : Int) (p3 : Int) (p4 : Int)   : Nat → Int → Int → aI → Option aI :=
  lp (f_X11_newRoof_b25_b F a0 p1 p2 p3 p4  ) (fun _ _ _ => none)
def f_X11_newRoof (F : Nat) (a0 : Nat) (p1 : Int) (p2 : Int) (p3 : Int) (p4 : Int) (w : aI) : Option aI :=
  gd (inI 0 (shL (shR a0 0))) ((f_X11_r F (w (shR a0 0) 0) w).bind (fun r1 => gd (inI r1 (shL (shR a0 0))) (ltM (iset w (shR a0 0) r1 (w a0 8)) (fun w2 => f_X11_newRoof_b25 F a0 p1 p2 p3 p4 F r1 0 w2))))
def f_X11_newWay (F : Nat) (a0 : Nat) (p1 : Int) (p2 : Int) (p3 : Int) (w : aI) : Option aI :=
  gd (inI 1 (shL (shR a0 0))) ((f_X11_w F (w (shR a0 0) 1) w).bind (fun r1 => gd (inI r1 (shL (shR a0 0))) (ltM (iset w (shR a0 0) r1 p1) (fun w2 => gd (inI 1 (shL (shR a0 0))) ((f_X11_w F (w2 (shR a0 0) 1) w2).bind (fun r3 => gd (inI (r3 + 1) (shL (shR a0 0))) (ltM (iset w2 (shR a0 0) (r3 + 1) p2) (fun w4 => gd (inI 1 (shL (shR a0 0))) ((f_X11_w F (w4 (shR a0 0) 1) w4).bind (fun r5 => gd (inI (r5 + 2) (shL (shR a0 0))) (ltM (iset w4 (shR a0 0) (r5 + 2) p3) (fun w6 => gd (inI 1 (shL (shR a0 0))) (gd (inI 1 (shL (shR a0 0))) (ltM (iset w6 (shR a0 0) 1 ((w6 (shR a0 0) 1) + 1)) (fun w7 => some w7)))))))))))))))
def f_X11_ends (F : Nat) (a0 : Nat) (p1 : Int) (p2 : Int) (w : aI) : Option Bool :=
  (f_X11_w F p1 w).bind (fun r1 => gd (inI r1 (shL (shR a0 0))) (gd (rg (w (shR a0 0) r1) ∧ rg p2) (if (w (shR a0 0) r1) = p2 then (some true) else ((f_X11_w F p1 w).bind (fun r3 => gd (inI (r3 + 1) (shL (shR a0 0))) (gd (rg (w (shR a0 0) (r3 + 1))) (if (w (shR a0 0) (r3 + 1)) = p2 then (some true) else (some false))))))))
def f_X11_otherEnd (F : Nat) (a0 : Nat) (p1 : Int) (p2 : Int) (w : aI) : Option Int :=
  (f_X11_w F p1 w).bind (fun r1 => gd (inI r1 (shL (shR a0 0))) ((f_X11_w F p1 w).bind (fun r2 => gd (inI (r2 + 1) (shL (shR a0 0))) (some (((w (shR a0 0) r1) + (w (shR a0 0) (r2 + 1))) - p2)))))
def f_X11_wayBetween_b2_b (F : Nat) (a0 : Nat) (p1 : Int) (p2 : Int) (w : aI)  (k2 : Int → Option Int) (v3 : Int)  : Option Int :=
  gd (inI 1 (shL (shR a0 0))) (gd (rg v3 ∧ rg (w (shR a0 0) 1)) (if (w (shR a0 0) 1) ≤ v3 then (some (-1)) else (gd (rg p1 ∧ rg p2) (if p1 = p2 then (k2 (v3 + 1)) else ((f_X11_ends F a0 v3 p1 w).bind (fun r3 => if r3 then ((f_X11_ends F a0 v3 p2 w).bind (fun r4 => if r4 then (some v3) else (k2 (v3 + 1)))) else (k2 (v3 + 1))))))))
def f_X11_wayBetween_b2 (F : Nat) (a0 : Nat) (p1 : Int) (p2 : Int) (w : aI)  : Nat → Int → Option Int :=
  lp (f_X11_wayBetween_b2_b F a0 p1 p2 w ) (fun _ => none)
def f_X11_wayBetween (F : Nat) (a0 : Nat) (p1 : Int) (p2 : Int) (w : aI) : Option Int :=
  f_X11_wayBetween_b2 F a0 p1 p2 w F 0
def f_X11_isNearer (F : Nat) (a0 : Nat) (p1 : Int) (p2 : Int) (w : aI) : Option (Bool × aI) :=
  (f_X11_otherEnd F a0 p1 p2 w).bind (fun r1 => gd (inI r1 (shL (shR a0 9))) (ltI (w (shR a0 9) r1) (fun v3_2 => (f_X11_w F p1 w).bind (fun r3 => gd (inI (r3 + 2) (shL (shR a0 0))) (ltI (v3_2 + (w (shR a0 0) (r3 + 2))) (fun v4_4 => gd (rg v3_2) (if v3_2 = (-1) then (some (false, w)) else (gd (inI p2 (shL (shR a0 9))) (gd (rg (w (shR a0 9) p2)) (if (w (shR a0 9) p2) = (-1) then (gd (inI p2 (shL (shR a0 9))) (ltM (iset w (shR a0 9) p2 v4_4) (fun w7 => some (true, w7)))) else (gd (inI p2 (shL (shR a0 9))) (gd (rg v4_4) (if v4_4 < (w (shR a0 9) p2) then (gd (inI p2 (shL (shR a0 9))) (ltM (iset w (shR a0 9) p2 v4_4) (fun w9 => some (true, w9)))) else (some (false, w)))))))))))))))
def f_X11_reckons_b41_b (F : Nat) (a0 : Nat) (p1 : Int) (p2 : Int)  (k32 : Int → aI → Option aI) (k41 : Int → Int → aI → Option aI) (v3 : Int) (v4 : Int) (w : aI) : Option aI :=
  gd (inI 1 (shL (shR a0 0))) (gd (rg v4 ∧ rg (w (shR a0 0) 1)) (if (w (shR a0 0) 1) ≤ v4 then (k32 v3 w) else (gd (rg p2) (if v4 = p2 then (k41 v3 (v4 + 1) w) else ((f_X11_w F v4 w).bind (fun r5 => gd (inI r5 (shL (shR a0 0))) (bKW (f_X11_isNearer F a0 v4 (w (shR a0 0) r5) w) (fun r6 w7 => ltI (orI v3 (bI r6)) (fun v3_8 => (f_X11_w F v4 w7).bind (fun r9 => gd (inI (r9 + 1) (shL (shR a0 0))) (bKW (f_X11_isNearer F a0 v4 (w7 (shR a0 0) (r9 + 1)) w7) (fun r10 w11 => ltI (orI v3_8 (bI r10)) (fun v3_12 => k41 v3_12 (v4 + 1) w11)))))))))))))
def f_X11_reckons_b41 (F : Nat) (a0 : Nat) (p1 : Int) (p2 : Int)  (k32 : Int → aI → Option aI) : Nat → Int → Int → aI → Option aI :=
  lp (f_X11_reckons_b41_b F a0 p1 p2  k32) (fun _ _ _ => none)
def f_X11_reckons_b32_b (F : Nat) (a0 : Nat) (p1 : Int) (p2 : Int)   (k32 : Int → aI → Option aI) (v3 : Int) (w : aI) : Option aI :=
  gd (rg v3) (if v3 = 0 then (some w) else (f_X11_reckons_b41 F a0 p1 p2 k32 F 0 0 w))
def f_X11_reckons_b32 (F : Nat) (a0 : Nat) (p1 : Int) (p2 : Int)   : Nat → Int → aI → Option aI :=
  lp (f_X11_reckons_b32_b F a0 p1 p2  ) (fun _ _ => none)
def f_X11_reckons_b2_b (F : Nat) (a0 : Nat) (p1 : Int) (p2 : Int)   (k2 : Int → aI → Option aI) (v3 : Int) (w : aI) : Option aI :=
  gd (rg v3) (if 10 ≤ v3 then (f_X11_reckons_b32 F a0 p1 p2 F 1 w) else (gd (rg p1) (if v3 = p1 then (gd (inI v3 (shL (shR a0 9))) (ltM (iset w (shR a0 9) v3 0) (fun w15 => k2 (v3 + 1) w15))) else (gd (inI v3 (shL (shR a0 9))) (ltM (iset w (shR a0 9) v3 (-1)) (fun w14 => k2 (v3 + 1) w14))))))
def f_X11_reckons_b2 (F : Nat) (a0 : Nat) (p1 : Int) (p2 : Int)   : Nat → Int → aI → Option aI :=
  lp (f_X11_reckons_b2_b F a0 p1 p2  ) (fun _ _ => none)
def f_X11_reckons (F : Nat) (a0 : Nat) (p1 : Int) (p2 : Int) (w : aI) : Option aI :=
  f_X11_reckons_b2 F a0 p1 p2 F 0 w
def f_X11_sumTo (F : Nat) (a0 : Nat) (p1 : Int) (p2 : Int) (w : aI) : Option (Int × aI) :=
  (f_X11_reckons F a0 p2 (-1) w).bind (fun w1 => gd (inI p1 (shL (shR a0 9))) (some (w1 (shR a0 9) p1, w1)))
def f_X11_nextTo_b100 (F : Nat) (a0 : Nat) (p1 : Int) (p2 : Int)  (k22 : Int → Int → aI → Option (Int × aI))  (v3 : Int) (v4 : Int) (v5 : Int) (z0 : Int) (w : aI) : Option (Int × aI) :=
  gd (rg z0) (if z0 = 0 then (k22 v3 (v4 + 1) w) else (gd (rg v3) (if v3 = (-1) then (k22 v5 (v4 + 1) w) else (gd (rg v5) (if v3 ≤ v5 then (k22 v3 (v4 + 1) w) else (k22 v5 (v4 + 1) w))))))
def f_X11_nextTo_b99 (F : Nat) (a0 : Nat) (p1 : Int) (p2 : Int)  (k22 : Int → Int → aI → Option (Int × aI))  (v3 : Int) (v4 : Int) (v5 : Int) (w : aI) : Option (Int × aI) :=
  f_X11_nextTo_b100 F a0 p1 p2 k22 v3 v4 v5 0 w
def f_X11_nextTo_b22_b (F : Nat) (a0 : Nat) (p1 : Int) (p2 : Int)   (k22 : Int → Int → aI → Option (Int × aI)) (v3 : Int) (v4 : Int) (w : aI) : Option (Int × aI) :=
  gd (inI 1 (shL (shR a0 0))) (gd (rg v4 ∧ rg (w (shR a0 0) 1)) (if (w (shR a0 0) 1) ≤ v4 then (some (v3, w)) else ((f_X11_ends F a0 v4 p1 w).bind (fun r6 => if r6 then ((f_X11_otherEnd F a0 v4 p1 w).bind (fun r7 => gd (inI r7 (shL (shR a0 9))) (gd (rg (w (shR a0 9) r7)) (if (w (shR a0 9) r7) = (-1) then (f_X11_nextTo_b99 F a0 p1 p2 k22 v3 v4 r7 w) else (gd (inI r7 (shL (shR a0 9))) ((f_X11_w F v4 w).bind (fun r12 => gd (inI (r12 + 2) (shL (shR a0 0))) (gd (inI p1 (shL (shR a0 9))) (gd (rg ((w (shR a0 9) r7) + (w (shR a0 0) (r12 + 2))) ∧ rg (w (shR a0 9) p1)) (if ((w (shR a0 9) r7) + (w (shR a0 0) (r12 + 2))) = (w (shR a0 9) p1) then (f_X11_nextTo_b100 F a0 p1 p2 k22 v3 v4 r7 1 w) else (f_X11_nextTo_b99 F a0 p1 p2 k22 v3 v4 r7 w))))))))))) else (k22 v3 (v4 + 1) w)))))
def f_X11_nextTo_b22 (F : Nat) (a0 : Nat) (p1 : Int) (p2 : Int)   : Nat → Int → Int → aI → Option (Int × aI) :=
  lp (f_X11_nextTo_b22_b F a0 p1 p2  ) (fun _ _ _ => none)
def f_X11_nextTo (F : Nat) (a0 : Nat) (p1 : Int) (p2 : Int) (w : aI) : Option (Int × aI) :=
  gd (rg p1 ∧ rg p2) (if p1 = p2 then (some ((-1), w)) else (bJW (f_X11_sumTo F a0 p1 p2 w) (fun r2 w3 => gd (rg r2) (if r2 = (-1) then (some ((-1), w3)) else (f_X11_nextTo_b22 F a0 p1 p2 F (-1) 0 w3)))))
def f_X11_isBusy (F : Nat) (a0 : Nat) (p1 : Int) (p2 : Int) (w : aI) : Option Bool :=
  (f_X11_r F p1 w).bind (fun r1 => gd (inI (r1 + 11) (shL (shR a0 0))) (gd (rg (w (shR a0 0) (r1 + 11)) ∧ rg p2) (if (w (shR a0 0) (r1 + 11)) ≤ p2 then (some false) else (some true))))
def f_X11_barsOf (F : Nat) (a0 : Nat) (p1 : Int) (w : aI) : Option Int :=
  gd (rg (p1 + 3)) (some (Int.tdiv (p1 + 3) 4))
def f_X11_bars (F : Nat) (a0 : Nat) (p1 : Int) (w : aI) : Option Int :=
  (f_X11_t F p1 w).bind (fun r1 => gd (inI (r1 + 2) (shL (shR a0 0))) ((f_X11_barsOf F a0 (w (shR a0 0) (r1 + 2)) w).bind (fun r2 => some r2)))
def f_X11_waitsAt (F : Nat) (a0 : Nat) (p1 : Int) (p2 : Int) (w : aI) : Option Bool :=
  (f_X11_t F p1 w).bind (fun r1 => gd (inI (r1 + 3) (shL (shR a0 0))) (gd (rg (w (shR a0 0) (r1 + 3))) (if (w (shR a0 0) (r1 + 3)) = 0 then ((f_X11_t F p1 w).bind (fun r3 => gd (inI (r3 + 4) (shL (shR a0 0))) (gd (rg (w (shR a0 0) (r3 + 4)) ∧ rg p2) (if (w (shR a0 0) (r3 + 4)) = p2 then (some true) else (some false))))) else (some false))))
def f_X11_unlike_b4_b (F : Nat) (a0 : Nat) (p1 : Int) (w : aI)  (k4 : Int → Int → Option Int) (v2 : Int) (v3 : Int)  : Option Int :=
  (f_X11_t F p1 w).bind (fun r1 => gd (inI (r1 + 2) (shL (shR a0 0))) (gd (rg v3 ∧ rg (w (shR a0 0) (r1 + 2))) (if (w (shR a0 0) (r1 + 2)) ≤ v3 then (some v2) else ((f_X11_t F p1 w).bind (fun r3 => gd (inI ((r3 + 11) + v3) (shL (shR a0 0))) ((f_X11_t F p1 w).bind (fun r4 => gd (inI ((r4 + 19) + v3) (shL (shR a0 0))) (gd (rg (w (shR a0 0) ((r3 + 11) + v3)) ∧ rg (w (shR a0 0) ((r4 + 19) + v3))) (if (w (shR a0 0) ((r3 + 11) + v3)) = (w (shR a0 0) ((r4 + 19) + v3)) then ((f_X11_one F 0 w).bind (fun r6 => ltI (v2 + r6) (fun v2_7 => k4 v2_7 (v3 + 1)))) else ((f_X11_one F 1 w).bind (fun r8 => ltI (v2 + r8) (fun v2_9 => k4 v2_9 (v3 + 1)))))))))))))
def f_X11_unlike_b4 (F : Nat) (a0 : Nat) (p1 : Int) (w : aI)  : Nat → Int → Int → Option Int :=
  lp (f_X11_unlike_b4_b F a0 p1 w ) (fun _ _ => none)
def f_X11_unlike (F : Nat) (a0 : Nat) (p1 : Int) (w : aI) : Option Int :=
  f_X11_unlike_b4 F a0 p1 w F 0 0
def f_X11_hearsAsSent_b2_b (F : Nat) (a0 : Nat) (p1 : Int)   (k2 : Int → aI → Option aI) (v2 : Int) (w : aI) : Option aI :=
  gd (rg v2) (if 8 ≤ v2 then (some w) else ((f_X11_t F p1 w).bind (fun r2 => (f_X11_t F p1 w).bind (fun r3 => gd (inI ((r3 + 11) + v2) (shL (shR a0 0))) (gd (inI ((r2 + 19) + v2) (shL (shR a0 0))) (ltM (iset w (shR a0 0) ((r2 + 19) + v2) (w (shR a0 0) ((r3 + 11) + v2))) (fun w4 => k2 (v2 + 1) w4)))))))
def f_X11_hearsAsSent_b2 (F : Nat) (a0 : Nat) (p1 : Int)   : Nat → Int → aI → Option aI :=
  lp (f_X11_hearsAsSent_b2_b F a0 p1  ) (fun _ _ => none)
def f_X11_hearsAsSent (F : Nat) (a0 : Nat) (p1 : Int) (w : aI) : Option aI :=
  f_X11_hearsAsSent_b2 F a0 p1 F 0 w
