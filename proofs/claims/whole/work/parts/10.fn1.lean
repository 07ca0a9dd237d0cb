def f_X0_size (F : Nat) (a0 : Nat) (w : aW) : Option Int32 :=
  some (w a0 1)
def f_X0_get (F : Nat) (a0 : Nat) (p1 : Int32) (w : aW) : Option Int32 :=
  if p1 < 0 then (some (-1)) else (if (w a0 1) ≤ p1 then (some (-1)) else (if (Int32.ofNat (shL (shR a0 0))) ≤ p1 then (some (-1)) else (gd (inb p1 (shL (shR a0 0))) (some (w (shR a0 0) p1.toNatClampNeg)))))
def f_X0_add (F : Nat) (a0 : Nat) (p1 : Int32) (w : aW) : Option aW :=
  if (w a0 1) < 0 then (some w) else (if (Int32.ofNat (shL (shR a0 0))) ≤ (w a0 1) then (some w) else (gd (inb (w a0 1) (shL (shR a0 0))) (ltw (aset w (shR a0 0) (w a0 1).toNatClampNeg p1) (fun w1 => ltw (aset w1 a0 1 ((w1 a0 1) + 1)) (fun w2 => some w2)))))
def f_X0_addText_b2_b (F : Nat) (a0 : Nat) (s1 : Nat)   (k2 : Int32 → aW → Option aW) (v2 : Int32) (w : aW) : Option aW :=
  (f_strlen s1).bind (fun r1 => if r1 ≤ v2 then (some w) else ((f_strchr s1 v2).bind (fun r2 => (f_X0_add F a0 r2 w).bind (fun w3 => k2 (v2 + 1) w3))))
def f_X0_addText_b2 (F : Nat) (a0 : Nat) (s1 : Nat)   : Nat → Int32 → aW → Option aW :=
  lp (f_X0_addText_b2_b F a0 s1  ) (fun _ _ => none)
def f_X0_addText (F : Nat) (a0 : Nat) (s1 : Nat) (w : aW) : Option aW :=
  f_X0_addText_b2 F a0 s1 F 0 w
def f_X0_addNumber_b24_b (F : Nat) (a0 : Nat) (p1 : Int32)   (k24 : Int32 → aW → Option aW) (v2 : Int32) (w : aW) : Option aW :=
  if v2 ≤ 0 then (some w) else (gd (¬ v2 = 0) ((f_X0_add F a0 (48 + (irm (p1 / v2) 10)) w).bind (fun w2 => ltv (v2 / 10) (fun v2_3 => k24 v2_3 w2))))
def f_X0_addNumber_b24 (F : Nat) (a0 : Nat) (p1 : Int32)   : Nat → Int32 → aW → Option aW :=
  lp (f_X0_addNumber_b24_b F a0 p1  ) (fun _ _ => none)
def f_X0_addNumber_b2_b (F : Nat) (a0 : Nat) (p1 : Int32)   (k2 : Int32 → aW → Option aW) (v2 : Int32) (w : aW) : Option aW :=
  if (p1 / 10) < v2 then (f_X0_addNumber_b24 F a0 p1 F v2 w) else (if 100000000 ≤ v2 then (f_X0_addNumber_b24 F a0 p1 F v2 w) else (ltv (v2 * 10) (fun v2_4 => k2 v2_4 w)))
def f_X0_addNumber_b2 (F : Nat) (a0 : Nat) (p1 : Int32)   : Nat → Int32 → aW → Option aW :=
  lp (f_X0_addNumber_b2_b F a0 p1  ) (fun _ _ => none)
def f_X0_addNumber (F : Nat) (a0 : Nat) (p1 : Int32) (w : aW) : Option aW :=
  f_X0_addNumber_b2 F a0 p1 F 1 w
def f_X0_cutTo (F : Nat) (a0 : Nat) (p1 : Int32) (w : aW) : Option (Bool × aW) :=
  if p1 < 0 then (some (false, w)) else (if p1 ≤ (w a0 1) then (ltw (aset w a0 1 p1) (fun w1 => some (true, w1))) else (some (false, w)))
def f_X0_clear (F : Nat) (a0 : Nat) (w : aW) : Option aW :=
  ltw (aset w a0 1 0) (fun w1 => some w1)
def f_X1_size (F : Nat) (a0 : Nat) (w : aW) : Option Int32 :=
  some (w a0 2)
def f_X1_forget (F : Nat) (a0 : Nat) (w : aW) : Option aW :=
  ltw (aset w a0 2 0) (fun w1 => some w1)
def f_X1_postAt (F : Nat) (a0 : Nat) (p1 : Int32) (w : aW) : Option (Option Nat) :=
  ltv (irm ((w a0 1) + p1) 8) (fun v2_1 => if v2_1 < 0 then (some none) else (if (Int32.ofNat (shL (shR a0 0))) ≤ v2_1 then (some none) else (gd (inb v2_1 (shL (shR a0 0))) (some (some (shR (shR a0 0) v2_1.toNatClampNeg))))))
def f_X7_copyFrom (F : Nat) (a0 : Nat) (a1 : Nat) (w : aW) : Option aW :=
  gd (¬ (imin (Int32.ofNat (shL (shR a0 2))) (Int32.ofNat (shL (shR a1 2)))) < 0 ∧ (imin (Int32.ofNat (shL (shR a0 2))) (Int32.ofNat (shL (shR a1 2)))).toNatClampNeg ≤ shL (shR a1 2) ∧ (imin (Int32.ofNat (shL (shR a0 2))) (Int32.ofNat (shL (shR a1 2)))).toNatClampNeg ≤ shL (shR a0 2)) (ltw (acpy w (shR a1 2) (shR a0 2) (imin (Int32.ofNat (shL (shR a0 2))) (Int32.ofNat (shL (shR a1 2))))) (fun w1 => some w1))
def f_X3_copyFrom (F : Nat) (a0 : Nat) (a1 : Nat) (w : aW) : Option aW :=
  (f_X7_copyFrom F (shR a0 0) (shR a1 0) w).bind (fun w1 => (f_X7_copyFrom F (shR a0 1) (shR a1 1) w1).bind (fun w2 => (f_X7_copyFrom F (shR a0 2) (shR a1 2) w2).bind (fun w3 => some w3)))
def f_X2_copyFrom (F : Nat) (a0 : Nat) (a1 : Nat) (w : aW) : Option aW :=
  ltw (aset w a0 0 (w a1 0)) (fun w1 => ltw (aset w1 a0 1 (w1 a1 1)) (fun w2 => ltw (aset w2 a0 2 (w2 a1 2)) (fun w3 => ltw (aset w3 a0 3 (w3 a1 3)) (fun w4 => (f_X7_copyFrom F (shR a0 4) (shR a1 4) w4).bind (fun w5 => (f_X7_copyFrom F (shR a0 5) (shR a1 5) w5).bind (fun w6 => (f_X7_copyFrom F (shR a0 6) (shR a1 6) w6).bind (fun w7 => (f_X7_copyFrom F (shR a0 7) (shR a1 7) w7).bind (fun w8 => (f_X7_copyFrom F (shR a0 8) (shR a1 8) w8).bind (fun w9 => (f_X3_copyFrom F (shR a0 9) (shR a1 9) w9).bind (fun w10 => some w10))))))))))
def f_X1_keep_b28 (F : Nat) (a0 : Nat) (a1 : Nat)     (w : aW) : Option aW :=
  (f_X1_postAt F a0 (w a0 2) w).bind (fun o1 => oc o1 none (fun q2 => gd (shK q2 = 10 + 2) ((f_X2_copyFrom F q2 a1 w).bind (fun w4 => ltw (aset w4 a0 2 ((w4 a0 2) + 1)) (fun w5 => some w5)))))
def f_X1_keep (F : Nat) (a0 : Nat) (a1 : Nat) (w : aW) : Option aW :=
  if (w a0 2) < 8 then (f_X1_keep_b28 F a0 a1 w) else (ltw (aset w a0 1 (irm ((w a0 1) + 1) 8)) (fun w6 => ltw (aset w6 a0 2 7) (fun w7 => f_X1_keep_b28 F a0 a1 w7)))
def f_X1_giveBack (F : Nat) (a0 : Nat) (a1 : Nat) (w : aW) : Option aW :=
  (f_X1_postAt F a0 ((w a0 2) - 1) w).bind (fun o1 => oc o1 none (fun q2 => gd (shK q2 = 10 + 2) (if (w a0 2) ≤ 0 then (some w) else ((f_X2_copyFrom F a1 q2 w).bind (fun w4 => ltw (aset w4 a0 2 ((w4 a0 2) - 1)) (fun w5 => some w5))))))
def f_X7_put (F : Nat) (a0 : Nat) (p1 : Int32) (p2 : Int32) (p3 : Int32) (w : aW) : Option aW :=
  if p1 < 0 then (some w) else (if (w a0 0) ≤ p1 then (some w) else (if p2 < 0 then (some w) else (if p2 < (w a0 1) then (ltv ((p1 * (w a0 1)) + p2) (fun v4_1 => if (Int32.ofNat (shL (shR a0 2))) ≤ v4_1 then (some w) else (gd (inb v4_1 (shL (shR a0 2))) (ltw (aset w (shR a0 2) v4_1.toNatClampNeg p3) (fun w2 => some w2))))) else (some w))))
def f_X2_settle (F : Nat) (a0 : Nat) (p1 : Int32) (p2 : Int32) (w : aW) : Option aW :=
  (f_X7_put F (shR a0 7) 0 (p1 - 8) p2 w).bind (fun w1 => some w1)
def f_X7_clearTo_b2_b (F : Nat) (a0 : Nat) (p1 : Int32)   (k2 : Int32 → aW → Option aW) (v2 : Int32) (w : aW) : Option aW :=
  if (Int32.ofNat (shL (shR a0 2))) ≤ v2 then (some w) else (gd (inb v2 (shL (shR a0 2))) (ltw (aset w (shR a0 2) v2.toNatClampNeg p1) (fun w1 => k2 (v2 + 1) w1)))
def f_X7_clearTo_b2 (F : Nat) (a0 : Nat) (p1 : Int32)   : Nat → Int32 → aW → Option aW :=
  lp (f_X7_clearTo_b2_b F a0 p1  ) (fun _ _ => none)
def f_X7_clearTo (F : Nat) (a0 : Nat) (p1 : Int32) (w : aW) : Option aW :=
  f_X7_clearTo_b2 F a0 p1 F 0 w
def f_X2_clear (F : Nat) (a0 : Nat) (w : aW) : Option aW :=
  ltw (aset w a0 0 0) (fun w1 => ltw (aset w1 a0 1 0) (fun w2 => ltw (aset w2 a0 2 0) (fun w3 => ltw (aset w3 a0 3 0) (fun w4 => (f_X2_settle F a0 8 3 w4).bind (fun w5 => (f_X2_settle F a0 9 50 w5).bind (fun w6 => (f_X2_settle F a0 10 1 w6).bind (fun w7 => (f_X7_clearTo F (shR a0 8) 0 w7).bind (fun w8 => some w8))))))))
def f_X2_leastOf (F : Nat) (p0 : Int32) (w : aW) : Option Int32 :=
  if p0 = 9 then (some 1) else (some 0)
def f_X2_mostOf (F : Nat) (p0 : Int32) (w : aW) : Option Int32 :=
  if p0 = 8 then (some 9) else (if p0 = 9 then (some 60) else (some 3))
def f_X7_get (F : Nat) (a0 : Nat) (p1 : Int32) (p2 : Int32) (w : aW) : Option Int32 :=
  if p1 < 0 then (some (-1)) else (if (w a0 0) ≤ p1 then (some (-1)) else (if p2 < 0 then (some (-1)) else (if p2 < (w a0 1) then (ltv ((p1 * (w a0 1)) + p2) (fun v3_1 => if (Int32.ofNat (shL (shR a0 2))) ≤ v3_1 then (some (-1)) else (gd (inb v3_1 (shL (shR a0 2))) (some (w (shR a0 2) v3_1.toNatClampNeg))))) else (some (-1)))))
def f_X2_setting (F : Nat) (a0 : Nat) (p1 : Int32) (w : aW) : Option Int32 :=
  (f_X7_get F (shR a0 7) 0 (p1 - 8) w).bind (fun r1 => some r1)
def f_X7_grow (F : Nat) (a0 : Nat) (p1 : Int32) (p2 : Int32) (p3 : Int32) (w : aW) : Option aW :=
  if p1 < 0 then (some w) else (if (w a0 0) ≤ p1 then (some w) else (if p2 < 0 then (some w) else (if p2 < (w a0 1) then (ltv ((p1 * (w a0 1)) + p2) (fun v4_1 => if (Int32.ofNat (shL (shR a0 2))) ≤ v4_1 then (some w) else (gd (inb v4_1 (shL (shR a0 2))) (gd (inb v4_1 (shL (shR a0 2))) (ltw (aset w (shR a0 2) v4_1.toNatClampNeg ((w (shR a0 2) v4_1.toNatClampNeg) + p3)) (fun w2 => some w2)))))) else (some w))))
def f_X2_enter (F : Nat) (a0 : Nat) (p1 : Int32) (p2 : Int32) (w : aW) : Option aW :=
  (f_X7_grow F (shR a0 8) 0 p1 p2 w).bind (fun w1 => some w1)
def f_X2_addRoof (F : Nat) (a0 : Nat) (p1 : Int32) (p2 : Int32) (p3 : Int32) (p4 : Int32) (p5 : Int32) (w : aW) : Option aW :=
  ltv (w a0 1) (fun v6_1 => (f_X7_put F (shR a0 4) v6_1 5 p1 w).bind (fun w2 => (f_X7_put F (shR a0 4) v6_1 0 p2 w2).bind (fun w3 => (f_X7_put F (shR a0 4) v6_1 1 p3 w3).bind (fun w4 => (f_X7_put F (shR a0 4) v6_1 2 p4 w4).bind (fun w5 => (f_X7_put F (shR a0 4) v6_1 3 p5 w5).bind (fun w6 => (f_X7_put F (shR a0 4) v6_1 6 p5 w6).bind (fun w7 => (f_X7_put F (shR a0 4) v6_1 4 0 w7).bind (fun w8 => (f_X7_put F (shR a0 4) v6_1 7 0 w8).bind (fun w9 => ltw (aset w9 a0 1 ((w9 a0 1) + 1)) (fun w10 => some w10))))))))))
def f_X2_addWay (F : Nat) (a0 : Nat) (p1 : Int32) (p2 : Int32) (p3 : Int32) (w : aW) : Option aW :=
  (f_X7_put F (shR a0 5) (w a0 2) 0 p1 w).bind (fun w1 => (f_X7_put F (shR a0 5) (w1 a0 2) 1 p2 w1).bind (fun w2 => (f_X7_put F (shR a0 5) (w2 a0 2) 2 p3 w2).bind (fun w3 => ltw (aset w3 a0 2 ((w3 a0 2) + 1)) (fun w4 => some w4))))
def f_X2_addTune_b111 (F : Nat) (a0 : Nat) (p1 : Int32) (p2 : Int32) (p3 : Int32) (p4 : Int32) (p5 : Int32) (p6 : Int32)    (v7 : Int32) (z0 : Int32) (z1 : Int32) (z2 : Int32) (z3 : Nat) (w : aW) : Option (Int32 × aW) :=
  (f_X7_put F z3 z2 z1 z0 w).bind (fun w9 => (f_X7_put F (shR a0 6) v7 8 0 w9).bind (fun w10 => (f_X7_put F (shR a0 6) v7 9 p4 w10).bind (fun w11 => (f_X7_put F (shR a0 6) v7 10 p4 w11).bind (fun w12 => (f_X7_put F (shR a0 6) v7 11 0 w12).bind (fun w13 => (f_X7_put F (shR a0 6) v7 12 0 w13).bind (fun w14 => ltw (aset w14 a0 3 ((w14 a0 3) + 1)) (fun w15 => (f_X2_enter F a0 1 1 w15).bind (fun w16 => some (v7, w16)))))))))
def f_X2_addTune_b90 (F : Nat) (a0 : Nat) (p1 : Int32) (p2 : Int32) (p3 : Int32) (p4 : Int32) (p5 : Int32) (p6 : Int32)    (v7 : Int32) (z0 : Int32) (z1 : Int32) (z2 : Int32) (z3 : Nat) (w : aW) : Option (Int32 × aW) :=
  (f_X7_put F z3 z2 z1 z0 w).bind (fun w8 => if p6 = 0 then (f_X2_addTune_b111 F a0 p1 p2 p3 p4 p5 p6 v7 0 7 v7 (shR a0 6) w8) else (f_X2_addTune_b111 F a0 p1 p2 p3 p4 p5 p6 v7 1 7 v7 (shR a0 6) w8))
def f_X2_addTune (F : Nat) (a0 : Nat) (p1 : Int32) (p2 : Int32) (p3 : Int32) (p4 : Int32) (p5 : Int32) (p6 : Int32) (w : aW) : Option (Int32 × aW) :=
  ltv (w a0 3) (fun v7_1 => (f_X7_put F (shR a0 6) v7_1 0 p1 w).bind (fun w2 => (f_X7_put F (shR a0 6) v7_1 1 p2 w2).bind (fun w3 => (f_X7_put F (shR a0 6) v7_1 2 p3 w3).bind (fun w4 => (f_X7_put F (shR a0 6) v7_1 3 0 w4).bind (fun w5 => (f_X7_put F (shR a0 6) v7_1 4 p1 w5).bind (fun w6 => (f_X7_put F (shR a0 6) v7_1 5 (-1) w6).bind (fun w7 => if p5 = 0 then (f_X2_addTune_b90 F a0 p1 p2 p3 p4 p5 p6 v7_1 0 6 v7_1 (shR a0 6) w7) else (f_X2_addTune_b90 F a0 p1 p2 p3 p4 p5 p6 v7_1 1 6 v7_1 (shR a0 6) w7))))))))
def f_X2_hasTimeFor (F : Nat) (a0 : Nat) (p1 : Int32) (w : aW) : Option Bool :=
  if 9999 < ((w a0 0) + p1) then (some false) else (some true)
def f_X2_hasRoomFor (F : Nat) (a0 : Nat) (p1 : Int32) (p2 : Int32) (w : aW) : Option Bool :=
  (f_X7_get F (shR a0 4) p1 3 w).bind (fun r1 => if 9999 < (r1 + p2) then (some false) else (some true))
def f_X2_takeCoins (F : Nat) (a0 : Nat) (p1 : Int32) (p2 : Int32) (w : aW) : Option aW :=
  (f_X7_grow F (shR a0 4) p1 3 p2 w).bind (fun w1 => (f_X2_enter F a0 10 p2 w1).bind (fun w2 => some w2))
def f_X2_acrossFrom (F : Nat) (a0 : Nat) (p1 : Int32) (p2 : Int32) (w : aW) : Option Int32 :=
  (f_X7_get F (shR a0 5) p2 0 w).bind (fun r1 => (f_X7_get F (shR a0 5) p2 1 w).bind (fun r2 => if r1 = p1 then (some r2) else (if r2 = p1 then (some r1) else (some (-1)))))
def f_X2_wayBetween_b2_b (F : Nat) (a0 : Nat) (p1 : Int32) (p2 : Int32) (w : aW)  (k2 : Int32 → Option Int32) (v3 : Int32)  : Option Int32 :=
  if (w a0 2) ≤ v3 then (some (-1)) else ((f_X2_acrossFrom F a0 p1 v3 w).bind (fun r1 => if r1 = p2 then (some v3) else (k2 (v3 + 1))))
def f_X2_wayBetween_b2 (F : Nat) (a0 : Nat) (p1 : Int32) (p2 : Int32) (w : aW)  : Nat → Int32 → Option Int32 :=
  lp (f_X2_wayBetween_b2_b F a0 p1 p2 w ) (fun _ => none)
def f_X2_wayBetween (F : Nat) (a0 : Nat) (p1 : Int32) (p2 : Int32) (w : aW) : Option Int32 :=
  f_X2_wayBetween_b2 F a0 p1 p2 w F 0
def f_X7_removeRow_b14_b (F : Nat) (a0 : Nat) (p1 : Int32)  (k4 : Int32 → aW → Option aW) (k14 : Int32 → Int32 → aW → Option aW) (v2 : Int32) (v3 : Int32) (w : aW) : Option aW :=
  if (w a0 1) ≤ v3 then (k4 (v2 + 1) w) else ((f_X7_get F a0 v2 v3 w).bind (fun r2 => (f_X7_put F a0 (v2 - 1) v3 r2 w).bind (fun w3 => k14 v2 (v3 + 1) w3)))
def f_X7_removeRow_b14 (F : Nat) (a0 : Nat) (p1 : Int32)  (k4 : Int32 → aW → Option aW) : Nat → Int32 → Int32 → aW → Option aW :=
  lp (f_X7_removeRow_b14_b F a0 p1  k4) (fun _ _ _ => none)
def f_X7_removeRow_b4_b (F : Nat) (a0 : Nat) (p1 : Int32)   (k4 : Int32 → aW → Option aW) (v2 : Int32) (w : aW) : Option aW :=
  if (w a0 0) ≤ v2 then (some w) else (f_X7_removeRow_b14 F a0 p1 k4 F v2 0 w)
def f_X7_removeRow_b4 (F : Nat) (a0 : Nat) (p1 : Int32)   : Nat → Int32 → aW → Option aW :=
  lp (f_X7_removeRow_b4_b F a0 p1  ) (fun _ _ => none)
def f_X7_removeRow (F : Nat) (a0 : Nat) (p1 : Int32) (w : aW) : Option aW :=
  ltv (p1 + 1) (fun v2_1 => f_X7_removeRow_b4 F a0 p1 F v2_1 w)
def f_X3_layNone_b28_b (F : Nat) (a0 : Nat) (a1 : Nat)   (k28 : Int32 → aW → Option aW) (v2 : Int32) (w : aW) : Option aW :=
  if (w a1 1) ≤ v2 then (some w) else ((f_X7_put F (shR a0 1) v2 v2 0 w).bind (fun w4 => k28 (v2 + 1) w4))
def f_X3_layNone_b28 (F : Nat) (a0 : Nat) (a1 : Nat)   : Nat → Int32 → aW → Option aW :=
  lp (f_X3_layNone_b28_b F a0 a1  ) (fun _ _ => none)
def f_X3_layNone (F : Nat) (a0 : Nat) (a1 : Nat) (w : aW) : Option aW :=
  (f_X7_clearTo F (shR a0 0) (-1) w).bind (fun w1 => (f_X7_clearTo F (shR a0 1) 9999 w1).bind (fun w2 => (f_X7_clearTo F (shR a0 2) (-1) w2).bind (fun w3 => f_X3_layNone_b28 F a0 a1 F 0 w3)))
def f_X3_layWay (F : Nat) (a0 : Nat) (p1 : Int32) (p2 : Int32) (p3 : Int32) (w : aW) : Option aW :=
  (f_X7_put F (shR a0 0) p1 p2 p3 w).bind (fun w1 => (f_X7_put F (shR a0 0) p2 p1 p3 w1).bind (fun w2 => (f_X7_put F (shR a0 1) p1 p2 p3 w2).bind (fun w3 => (f_X7_put F (shR a0 1) p2 p1 p3 w3).bind (fun w4 => some w4))))
def f_X3_shorten (F : Nat) (a0 : Nat) (p1 : Int32) (p2 : Int32) (p3 : Int32) (w : aW) : Option aW :=
  (f_X7_get F (shR a0 1) p1 p2 w).bind (fun r1 => if r1 ≤ p3 then (some w) else ((f_X7_put F (shR a0 1) p1 p2 p3 w).bind (fun w2 => some w2)))
def f_X3_beginOf_b2_b (F : Nat) (a0 : Nat) (p1 : Int32) (p2 : Int32) (w : aW)  (k2 : Int32 → Option Int32) (v3 : Int32)  : Option Int32 :=
  if 10 ≤ v3 then (some (-1)) else ((f_X7_get F (shR a0 0) p1 v3 w).bind (fun r1 => if r1 = (-1) then (k2 (v3 + 1)) else ((f_X7_get F (shR a0 1) v3 p2 w).bind (fun r2 => (f_X7_get F (shR a0 1) p1 p2 w).bind (fun r3 => if (r1 + r2) = r3 then (some v3) else (k2 (v3 + 1)))))))
def f_X3_beginOf_b2 (F : Nat) (a0 : Nat) (p1 : Int32) (p2 : Int32) (w : aW)  : Nat → Int32 → Option Int32 :=
  lp (f_X3_beginOf_b2_b F a0 p1 p2 w ) (fun _ => none)
def f_X3_beginOf (F : Nat) (a0 : Nat) (p1 : Int32) (p2 : Int32) (w : aW) : Option Int32 :=
  f_X3_beginOf_b2 F a0 p1 p2 w F 0
def f_X3_pointAll_b12_b (F : Nat) (a0 : Nat) (a1 : Nat)  (k2 : Int32 → aW → Option aW) (k12 : Int32 → Int32 → aW → Option aW) (v2 : Int32) (v3 : Int32) (w : aW) : Option aW :=
  if (w a1 1) ≤ v3 then (k2 (v2 + 1) w) else (if v2 = v3 then (k12 v2 (v3 + 1) w) else ((f_X7_get F (shR a0 1) v2 v3 w).bind (fun r1 => if 9999 ≤ r1 then (k12 v2 (v3 + 1) w) else ((f_X3_beginOf F a0 v2 v3 w).bind (fun r2 => (f_X7_put F (shR a0 2) v2 v3 r2 w).bind (fun w3 => k12 v2 (v3 + 1) w3))))))
def f_X3_pointAll_b12 (F : Nat) (a0 : Nat) (a1 : Nat)  (k2 : Int32 → aW → Option aW) : Nat → Int32 → Int32 → aW → Option aW :=
  lp (f_X3_pointAll_b12_b F a0 a1  k2) (fun _ _ _ => none)
def f_X3_pointAll_b2_b (F : Nat) (a0 : Nat) (a1 : Nat)   (k2 : Int32 → aW → Option aW) (v2 : Int32) (w : aW) : Option aW :=
  if (w a1 1) ≤ v2 then (some w) else (f_X3_pointAll_b12 F a0 a1 k2 F v2 0 w)
def f_X3_pointAll_b2 (F : Nat) (a0 : Nat) (a1 : Nat)   : Nat → Int32 → aW → Option aW :=
  lp (f_X3_pointAll_b2_b F a0 a1  ) (fun _ _ => none)
def f_X3_pointAll (F : Nat) (a0 : Nat) (a1 : Nat) (w : aW) : Option aW :=
  f_X3_pointAll_b2 F a0 a1 F 0 w
def f_X3_lay_b75_b (F : Nat) (a0 : Nat) (a1 : Nat)  (k54 : Int32 → aW → Option aW) (k64 : Int32 → Int32 → aW → Option aW) (k75 : Int32 → Int32 → Int32 → aW → Option aW) (v2 : Int32) (v3 : Int32) (v4 : Int32) (w : aW) : Option aW :=
  if (w a1 1) ≤ v4 then (k64 v2 (v3 + 1) w) else ((f_X7_get F (shR a0 1) v3 v2 w).bind (fun r3 => (f_X7_get F (shR a0 1) v2 v4 w).bind (fun r4 => (f_X3_shorten F a0 v3 v4 (r3 + r4) w).bind (fun w5 => k75 v2 v3 (v4 + 1) w5))))
def f_X3_lay_b75 (F : Nat) (a0 : Nat) (a1 : Nat)  (k54 : Int32 → aW → Option aW) (k64 : Int32 → Int32 → aW → Option aW) : Nat → Int32 → Int32 → Int32 → aW → Option aW :=
  lp (f_X3_lay_b75_b F a0 a1  k54 k64) (fun _ _ _ _ => none)
def f_X3_lay_b64_b (F : Nat) (a0 : Nat) (a1 : Nat)  (k54 : Int32 → aW → Option aW) (k64 : Int32 → Int32 → aW → Option aW) (v2 : Int32) (v3 : Int32) (w : aW) : Option aW :=
  if (w a1 1) ≤ v3 then (k54 (v2 + 1) w) else (f_X3_lay_b75 F a0 a1 k54 k64 F v2 v3 0 w)
def f_X3_lay_b64 (F : Nat) (a0 : Nat) (a1 : Nat)  (k54 : Int32 → aW → Option aW) : Nat → Int32 → Int32 → aW → Option aW :=
  lp (f_X3_lay_b64_b F a0 a1  k54) (fun _ _ _ => none)
def f_X3_lay_b54_b (F : Nat) (a0 : Nat) (a1 : Nat)   (k54 : Int32 → aW → Option aW) (v2 : Int32) (w : aW) : Option aW :=
  if (w a1 1) ≤ v2 then ((f_X3_pointAll F a0 a1 w).bind (fun w2 => some w2)) else (f_X3_lay_b64 F a0 a1 k54 F v2 0 w)
def f_X3_lay_b54 (F : Nat) (a0 : Nat) (a1 : Nat)   : Nat → Int32 → aW → Option aW :=
  lp (f_X3_lay_b54_b F a0 a1  ) (fun _ _ => none)
def f_X3_lay_b7_b (F : Nat) (a0 : Nat) (a1 : Nat)   (k7 : Int32 → aW → Option aW) (v2 : Int32) (w : aW) : Option aW :=
  if (w a1 2) ≤ v2 then (f_X3_lay_b54 F a0 a1 F 0 w) else ((f_X7_get F (shR a1 5) v2 0 w).bind (fun r6 => (f_X7_get F (shR a1 5) v2 1 w).bind (fun r7 => (f_X7_get F (shR a1 5) v2 2 w).bind (fun r8 => (f_X3_layWay F a0 r6 r7 r8 w).bind (fun w9 => k7 (v2 + 1) w9)))))
def f_X3_lay_b7 (F : Nat) (a0 : Nat) (a1 : Nat)   : Nat → Int32 → aW → Option aW :=
  lp (f_X3_lay_b7_b F a0 a1  ) (fun _ _ => none)
def f_X3_lay (F : Nat) (a0 : Nat) (a1 : Nat) (w : aW) : Option aW :=
  (f_X3_layNone F a0 a1 w).bind (fun w1 => f_X3_lay_b7 F a0 a1 F 0 w1)
def f_X2_cutWay (F : Nat) (a0 : Nat) (p1 : Int32) (p2 : Int32) (w : aW) : Option (Bool × aW) :=
  (f_X2_wayBetween F a0 p1 p2 w).bind (fun r1 => if r1 = (-1) then (some (false, w)) else ((f_X7_removeRow F (shR a0 5) r1 w).bind (fun w2 => ltw (aset w2 a0 2 ((w2 a0 2) - 1)) (fun w3 => (f_X3_lay F (shR a0 9) a0 w3).bind (fun w4 => some (true, w4))))))
def f_X2_roofNamed_b2_b (F : Nat) (a0 : Nat) (p1 : Int32) (w : aW)  (k2 : Int32 → Option Int32) (v2 : Int32)  : Option Int32 :=
  if (w a0 1) ≤ v2 then (some (-1)) else ((f_X7_get F (shR a0 4) v2 5 w).bind (fun r1 => if r1 = p1 then (some v2) else (k2 (v2 + 1))))
def f_X2_roofNamed_b2 (F : Nat) (a0 : Nat) (p1 : Int32) (w : aW)  : Nat → Int32 → Option Int32 :=
  lp (f_X2_roofNamed_b2_b F a0 p1 w ) (fun _ => none)
def f_X2_roofNamed (F : Nat) (a0 : Nat) (p1 : Int32) (w : aW) : Option Int32 :=
  f_X2_roofNamed_b2 F a0 p1 w F 0
def f_X2_letterOf (F : Nat) (a0 : Nat) (p1 : Int32) (p2 : Int32) (w : aW) : Option Int32 :=
  if p2 < 0 then (some (-1)) else (if p2 < 6 then ((f_X7_get F (shR a0 4) p1 5 w).bind (fun r1 => ltv ((r1 >>> ((5 * p2) &&& 31)) &&& 31) (fun v3_2 => if v3_2 = 0 then (some (-1)) else (some (96 + v3_2))))) else (some (-1)))
def f_X2_tunesIn_b4_b (F : Nat) (a0 : Nat) (p1 : Int32) (w : aW)  (k4 : Int32 → Int32 → Option Int32) (v2 : Int32) (v3 : Int32)  : Option Int32 :=
  if (w a0 3) ≤ v3 then (some v2) else ((f_X7_get F (shR a0 6) v3 3 w).bind (fun r1 => if r1 = p1 then (k4 (v2 + 1) (v3 + 1)) else (k4 v2 (v3 + 1))))
def f_X2_tunesIn_b4 (F : Nat) (a0 : Nat) (p1 : Int32) (w : aW)  : Nat → Int32 → Int32 → Option Int32 :=
  lp (f_X2_tunesIn_b4_b F a0 p1 w ) (fun _ _ => none)
def f_X2_tunesIn (F : Nat) (a0 : Nat) (p1 : Int32) (w : aW) : Option Int32 :=
  f_X2_tunesIn_b4 F a0 p1 w F 0 0
def f_X2_isBusy (F : Nat) (a0 : Nat) (p1 : Int32) (p2 : Int32) (w : aW) : Option Bool :=
  (f_X7_get F (shR a0 4) p1 4 w).bind (fun r1 => if r1 ≤ p2 then (some false) else (some true))
def f_X2_busyWhistlers_b4_b (F : Nat) (a0 : Nat) (w : aW)  (k4 : Int32 → Int32 → Option Int32) (v1 : Int32) (v2 : Int32)  : Option Int32 :=
  if (w a0 1) ≤ v2 then (some v1) else ((f_X2_isBusy F a0 v2 (w a0 0) w).bind (fun r1 => if r1 then (k4 (v1 + 1) (v2 + 1)) else (k4 v1 (v2 + 1))))
def f_X2_busyWhistlers_b4 (F : Nat) (a0 : Nat) (w : aW)  : Nat → Int32 → Int32 → Option Int32 :=
  lp (f_X2_busyWhistlers_b4_b F a0 w ) (fun _ _ => none)
def f_X2_busyWhistlers (F : Nat) (a0 : Nat) (w : aW) : Option Int32 :=
  f_X2_busyWhistlers_b4 F a0 w F 0 0
def f_X2_pursesTogether_b4_b (F : Nat) (a0 : Nat) (w : aW)  (k4 : Int32 → Int32 → Option Int32) (v1 : Int32) (v2 : Int32)  : Option Int32 :=
  if (w a0 1) ≤ v2 then (some v1) else ((f_X7_get F (shR a0 4) v2 3 w).bind (fun r1 => ltv (v1 + r1) (fun v1_2 => k4 v1_2 (v2 + 1))))
def f_X2_pursesTogether_b4 (F : Nat) (a0 : Nat) (w : aW)  : Nat → Int32 → Int32 → Option Int32 :=
  lp (f_X2_pursesTogether_b4_b F a0 w ) (fun _ _ => none)
def f_X2_pursesTogether (F : Nat) (a0 : Nat) (w : aW) : Option Int32 :=
  f_X2_pursesTogether_b4 F a0 w F 0 0
def f_X2_numberOfAll (F : Nat) (a0 : Nat) (p1 : Int32) (w : aW) : Option Int32 :=
  if p1 = 0 then (some (w a0 1)) else (if p1 = 1 then (some (w a0 2)) else (if p1 = 2 then (some (w a0 3)) else (if p1 = 3 then ((f_X2_tunesIn F a0 (p1 - 3) w).bind (fun r5 => some r5)) else (if p1 = 4 then ((f_X2_tunesIn F a0 (p1 - 3) w).bind (fun r7 => some r7)) else (if p1 = 5 then ((f_X2_tunesIn F a0 (p1 - 3) w).bind (fun r9 => some r9)) else (if p1 = 6 then ((f_X2_tunesIn F a0 (p1 - 3) w).bind (fun r11 => some r11)) else (if p1 = 7 then (some (w a0 0)) else (if p1 = 8 then ((f_X2_setting F a0 p1 w).bind (fun r14 => some r14)) else (if p1 = 9 then ((f_X2_setting F a0 p1 w).bind (fun r16 => some r16)) else (if p1 = 10 then ((f_X2_setting F a0 p1 w).bind (fun r18 => some r18)) else (if p1 = 11 then ((f_X2_busyWhistlers F a0 w).bind (fun r20 => some r20)) else (if p1 = 12 then ((f_X2_pursesTogether F a0 w).bind (fun r22 => some r22)) else ((f_X2_setting F a0 p1 w).bind (fun r23 => some r23))))))))))))))
def f_X2_isWaitingAt (F : Nat) (a0 : Nat) (p1 : Int32) (p2 : Int32) (w : aW) : Option Bool :=
  (f_X7_get F (shR a0 6) p1 3 w).bind (fun r1 => if r1 = 0 then ((f_X7_get F (shR a0 6) p1 4 w).bind (fun r2 => if r2 = p2 then (some true) else (some false))) else (some false))
def f_X2_tunesAt_b4_b (F : Nat) (a0 : Nat) (p1 : Int32) (w : aW)  (k4 : Int32 → Int32 → Option Int32) (v2 : Int32) (v3 : Int32)  : Option Int32 :=
  if (w a0 3) ≤ v3 then (some v2) else ((f_X2_isWaitingAt F a0 v3 p1 w).bind (fun r1 => if r1 then (k4 (v2 + 1) (v3 + 1)) else (k4 v2 (v3 + 1))))
def f_X2_tunesAt_b4 (F : Nat) (a0 : Nat) (p1 : Int32) (w : aW)  : Nat → Int32 → Int32 → Option Int32 :=
  lp (f_X2_tunesAt_b4_b F a0 p1 w ) (fun _ _ => none)
def f_X2_tunesAt (F : Nat) (a0 : Nat) (p1 : Int32) (w : aW) : Option Int32 :=
  f_X2_tunesAt_b4 F a0 p1 w F 0 0
def f_X2_waysAt_b4_b (F : Nat) (a0 : Nat) (p1 : Int32) (w : aW)  (k4 : Int32 → Int32 → Option Int32) (v2 : Int32) (v3 : Int32)  : Option Int32 :=
  if (w a0 2) ≤ v3 then (some v2) else ((f_X2_acrossFrom F a0 p1 v3 w).bind (fun r1 => if r1 = (-1) then (k4 v2 (v3 + 1)) else (k4 (v2 + 1) (v3 + 1))))
def f_X2_waysAt_b4 (F : Nat) (a0 : Nat) (p1 : Int32) (w : aW)  : Nat → Int32 → Int32 → Option Int32 :=
  lp (f_X2_waysAt_b4_b F a0 p1 w ) (fun _ _ => none)
def f_X2_waysAt (F : Nat) (a0 : Nat) (p1 : Int32) (w : aW) : Option Int32 :=
  f_X2_waysAt_b4 F a0 p1 w F 0 0
def f_X2_numberOfRoof (F : Nat) (a0 : Nat) (p1 : Int32) (p2 : Int32) (w : aW) : Option Int32 :=
  if p2 = 4 then ((f_X7_get F (shR a0 4) p1 4 w).bind (fun r2 => some (imax 0 (r2 - (w a0 0))))) else (if p2 = 5 then ((f_X2_tunesAt F a0 p1 w).bind (fun r4 => some r4)) else (if p2 = 6 then ((f_X2_waysAt F a0 p1 w).bind (fun r6 => some r6)) else ((f_X7_get F (shR a0 4) p1 p2 w).bind (fun r7 => some r7))))
def f_X2_barsOf (F : Nat) (p0 : Int32) (w : aW) : Option Int32 :=
  some ((p0 + 3) / 4)
def f_X2_barsOfTune (F : Nat) (a0 : Nat) (p1 : Int32) (w : aW) : Option Int32 :=
  (f_X7_get F (shR a0 6) p1 2 w).bind (fun r1 => (f_X2_barsOf F r1 w).bind (fun r2 => some r2))
def f_X2_waitingAt_b13_b (F : Nat) (a0 : Nat) (p1 : Int32) (p2 : Int32) (w : aW) (k5 : Int32 → Int32 → Option Int32) (k13 : Int32 → Int32 → Int32 → Option Int32) (v3 : Int32) (v4 : Int32) (v5 : Int32)  : Option Int32 :=
  if (w a0 3) ≤ v5 then (k5 v3 (v4 + (-1))) else ((f_X2_isWaitingAt F a0 v5 p1 w).bind (fun r1 => if r1 then ((f_X2_barsOfTune F a0 v5 w).bind (fun r2 => if r2 = v4 then (if v3 = p2 then (some v5) else (k13 (v3 + 1) v4 (v5 + 1))) else (k13 v3 v4 (v5 + 1)))) else (k13 v3 v4 (v5 + 1))))
def f_X2_waitingAt_b13 (F : Nat) (a0 : Nat) (p1 : Int32) (p2 : Int32) (w : aW) (k5 : Int32 → Int32 → Option Int32) : Nat → Int32 → Int32 → Int32 → Option Int32 :=
  lp (f_X2_waitingAt_b13_b F a0 p1 p2 w k5) (fun _ _ _ => none)
def f_X2_waitingAt_b5_b (F : Nat) (a0 : Nat) (p1 : Int32) (p2 : Int32) (w : aW)  (k5 : Int32 → Int32 → Option Int32) (v3 : Int32) (v4 : Int32)  : Option Int32 :=
  if v4 ≤ 0 then (some (-1)) else (f_X2_waitingAt_b13 F a0 p1 p2 w k5 F v3 v4 0)
def f_X2_waitingAt_b5 (F : Nat) (a0 : Nat) (p1 : Int32) (p2 : Int32) (w : aW)  : Nat → Int32 → Int32 → Option Int32 :=
  lp (f_X2_waitingAt_b5_b F a0 p1 p2 w ) (fun _ _ => none)
def f_X2_waitingAt (F : Nat) (a0 : Nat) (p1 : Int32) (p2 : Int32) (w : aW) : Option Int32 :=
  f_X2_waitingAt_b5 F a0 p1 p2 w F 0 2
def f_X10_noteOf (F : Nat) (p0 : Int32) (p1 : Int32) (w : aW) : Option Int32 :=
  some ((p0 >>> ((3 * p1) &&& 31)) &&& 7)
def f_X2_notesUnlikeSent_b28_b (F : Nat) (a0 : Nat) (p1 : Int32) (w : aW)  (k28 : Int32 → Int32 → Int32 → Int32 → Option Int32) (v2 : Int32) (v3 : Int32) (v4 : Int32) (v5 : Int32)  : Option Int32 :=
  if 8 ≤ v5 then (some v2) else ((f_X10_noteOf F v3 v5 w).bind (fun r3 => (f_X10_noteOf F v4 v5 w).bind (fun r4 => if r3 = r4 then (k28 v2 v3 v4 (v5 + 1)) else (k28 (v2 + 1) v3 v4 (v5 + 1)))))
def f_X2_notesUnlikeSent_b28 (F : Nat) (a0 : Nat) (p1 : Int32) (w : aW)  : Nat → Int32 → Int32 → Int32 → Int32 → Option Int32 :=
  lp (f_X2_notesUnlikeSent_b28_b F a0 p1 w ) (fun _ _ _ _ => none)
def f_X2_notesUnlikeSent (F : Nat) (a0 : Nat) (p1 : Int32) (w : aW) : Option Int32 :=
  (f_X7_get F (shR a0 6) p1 9 w).bind (fun r1 => (f_X7_get F (shR a0 6) p1 10 w).bind (fun r2 => f_X2_notesUnlikeSent_b28 F a0 p1 w F 0 r1 r2 0))
def f_X2_numberOfTune (F : Nat) (a0 : Nat) (p1 : Int32) (p2 : Int32) (w : aW) : Option Int32 :=
  if p2 = 9 then ((f_X2_barsOfTune F a0 p1 w).bind (fun r2 => some r2)) else (if p2 = 10 then ((f_X2_notesUnlikeSent F a0 p1 w).bind (fun r4 => some r4)) else ((f_X7_get F (shR a0 6) p1 p2 w).bind (fun r5 => some r5)))
def f_X2_nextOf (F : Nat) (a0 : Nat) (p1 : Int32) (w : aW) : Option Int32 :=
  (f_X7_get F (shR a0 6) p1 4 w).bind (fun r1 => (f_X7_get F (shR a0 6) p1 1 w).bind (fun r2 => (f_X7_get F (shR (shR a0 9) 2) r1 r2 w).bind (fun r3 => some r3)))
def f_X2_lackOf (F : Nat) (a0 : Nat) (p1 : Int32) (w : aW) : Option Int32 :=
  (f_X7_get F (shR a0 6) p1 4 w).bind (fun r1 => (f_X7_get F (shR a0 4) r1 2 w).bind (fun r2 => (f_X7_get F (shR a0 6) p1 2 w).bind (fun r3 => (f_X2_barsOf F r3 w).bind (fun r4 => ltv (r2 * r4) (fun v2_5 => (f_X7_get F (shR a0 6) p1 0 w).bind (fun r6 => (f_X7_get F (shR a0 4) r6 3 w).bind (fun r7 => some (v2_5 - r7))))))))
def f_X2_firstToGoFrom_b4_b (F : Nat) (a0 : Nat) (p1 : Int32) (w : aW)  (k4 : Int32 → Int32 → Option Int32) (v2 : Int32) (v3 : Int32)  : Option Int32 :=
  if (w a0 3) ≤ v3 then (some v2) else ((f_X2_isWaitingAt F a0 v3 p1 w).bind (fun r1 => if r1 then ((f_X2_nextOf F a0 v3 w).bind (fun r2 => if r2 = (-1) then (k4 v2 (v3 + 1)) else ((f_X2_lackOf F a0 v3 w).bind (fun r3 => if 0 < r3 then (k4 v2 (v3 + 1)) else (if v2 = (-1) then (k4 v3 (v3 + 1)) else ((f_X2_barsOfTune F a0 v3 w).bind (fun r4 => (f_X2_barsOfTune F a0 v2 w).bind (fun r5 => if r4 ≤ r5 then (k4 v2 (v3 + 1)) else (k4 v3 (v3 + 1)))))))))) else (k4 v2 (v3 + 1))))
def f_X2_firstToGoFrom_b4 (F : Nat) (a0 : Nat) (p1 : Int32) (w : aW)  : Nat → Int32 → Int32 → Option Int32 :=
  lp (f_X2_firstToGoFrom_b4_b F a0 p1 w ) (fun _ _ => none)
def f_X2_firstToGoFrom (F : Nat) (a0 : Nat) (p1 : Int32) (w : aW) : Option Int32 :=
  f_X2_firstToGoFrom_b4 F a0 p1 w F (-1) 0
def f_X2_wrongOf (F : Nat) (a0 : Nat) (p1 : Int32) (p2 : Int32) (p3 : Int32) (p4 : Int32) (w : aW) : Option Int32 :=
  (f_X7_get F (shR a0 4) p2 1 w).bind (fun r1 => ltv (imax 0 ((p4 * p1) - (3 * r1))) (fun v5_2 => some (imin (v5_2 / 10) p3)))
def f_X3_sumByWays_b61_b (F : Nat) (a0 : Nat) (a1 : Nat)  (k7 : Int32 → aW → Option aW) (k17 : Int32 → Int32 → aW → Option aW) (k61 : Int32 → Int32 → Int32 → Int32 → Int32 → Int32 → aW → Option aW) (v2 : Int32) (v3 : Int32) (v4 : Int32) (v5 : Int32) (v6 : Int32) (v7 : Int32) (w : aW) : Option aW :=
  if (w a1 1) ≤ v7 then (k17 v2 (v3 + 1) w) else ((f_X7_get F (shR a0 1) v7 v5 w).bind (fun r5 => (f_X3_shorten F a0 v7 v4 (r5 + v6) w).bind (fun w6 => (f_X7_get F (shR a0 1) v7 v4 w6).bind (fun r7 => (f_X3_shorten F a0 v7 v5 (r7 + v6) w6).bind (fun w8 => k61 v2 v3 v4 v5 v6 (v7 + 1) w8)))))
def f_X3_sumByWays_b61 (F : Nat) (a0 : Nat) (a1 : Nat)  (k7 : Int32 → aW → Option aW) (k17 : Int32 → Int32 → aW → Option aW) : Nat → Int32 → Int32 → Int32 → Int32 → Int32 → Int32 → aW → Option aW :=
  lp (f_X3_sumByWays_b61_b F a0 a1  k7 k17) (fun _ _ _ _ _ _ _ => none)
def f_X3_sumByWays_b17_b (F : Nat) (a0 : Nat) (a1 : Nat)  (k7 : Int32 → aW → Option aW) (k17 : Int32 → Int32 → aW → Option aW) (v2 : Int32) (v3 : Int32) (w : aW) : Option aW :=
  if (w a1 2) ≤ v3 then (k7 (v2 + 1) w) else ((f_X7_get F (shR a1 5) v3 0 w).bind (fun r2 => (f_X7_get F (shR a1 5) v3 1 w).bind (fun r3 => (f_X7_get F (shR a1 5) v3 2 w).bind (fun r4 => f_X3_sumByWays_b61 F a0 a1 k7 k17 F v2 v3 r2 r3 r4 0 w))))
def f_X3_sumByWays_b17 (F : Nat) (a0 : Nat) (a1 : Nat)  (k7 : Int32 → aW → Option aW) : Nat → Int32 → Int32 → aW → Option aW :=
  lp (f_X3_sumByWays_b17_b F a0 a1  k7) (fun _ _ _ => none)
def f_X3_sumByWays_b7_b (F : Nat) (a0 : Nat) (a1 : Nat)   (k7 : Int32 → aW → Option aW) (v2 : Int32) (w : aW) : Option aW :=
  if (w a1 1) ≤ v2 then (some w) else (f_X3_sumByWays_b17 F a0 a1 k7 F v2 0 w)
def f_X3_sumByWays_b7 (F : Nat) (a0 : Nat) (a1 : Nat)   : Nat → Int32 → aW → Option aW :=
  lp (f_X3_sumByWays_b7_b F a0 a1  ) (fun _ _ => none)
def f_X3_sumByWays (F : Nat) (a0 : Nat) (a1 : Nat) (w : aW) : Option aW :=
  (f_X3_layNone F a0 a1 w).bind (fun w1 => f_X3_sumByWays_b7 F a0 a1 F 1 w1)
def f_X3_hasSameSums_b10_b (F : Nat) (a0 : Nat) (a1 : Nat) (p2 : Int32) (w : aW) (k2 : Int32 → Option Bool) (k10 : Int32 → Int32 → Option Bool) (v3 : Int32) (v4 : Int32)  : Option Bool :=
  if p2 ≤ v4 then (k2 (v3 + 1)) else ((f_X7_get F (shR a0 1) v3 v4 w).bind (fun r1 => (f_X7_get F (shR a1 1) v3 v4 w).bind (fun r2 => if r1 = r2 then (k10 v3 (v4 + 1)) else (some false))))
def f_X3_hasSameSums_b10 (F : Nat) (a0 : Nat) (a1 : Nat) (p2 : Int32) (w : aW) (k2 : Int32 → Option Bool) : Nat → Int32 → Int32 → Option Bool :=
  lp (f_X3_hasSameSums_b10_b F a0 a1 p2 w k2) (fun _ _ => none)
def f_X3_hasSameSums_b2_b (F : Nat) (a0 : Nat) (a1 : Nat) (p2 : Int32) (w : aW)  (k2 : Int32 → Option Bool) (v3 : Int32)  : Option Bool :=
  if p2 ≤ v3 then (some true) else (f_X3_hasSameSums_b10 F a0 a1 p2 w k2 F v3 0)
def f_X3_hasSameSums_b2 (F : Nat) (a0 : Nat) (a1 : Nat) (p2 : Int32) (w : aW)  : Nat → Int32 → Option Bool :=
  lp (f_X3_hasSameSums_b2_b F a0 a1 p2 w ) (fun _ => none)
def f_X3_hasSameSums (F : Nat) (a0 : Nat) (a1 : Nat) (p2 : Int32) (w : aW) : Option Bool :=
  f_X3_hasSameSums_b2 F a0 a1 p2 w F 0
def f_X9_kindOf_b28 (F : Nat) (p0 : Int32) (w : aW)     : Option Int32 :=
  if p0 = (-1) then (some 0) else (if p0 = 10 then (some 5) else (if p0 = 32 then (some 5) else (if p0 = 59 then (some 3) else (some 4))))
def f_X9_kindOf_b14 (F : Nat) (p0 : Int32) (w : aW)     : Option Int32 :=
  if p0 < 48 then (f_X9_kindOf_b28 F p0 w ) else (if 57 < p0 then (f_X9_kindOf_b28 F p0 w ) else (some 2))
def f_X9_kindOf (F : Nat) (p0 : Int32) (w : aW) : Option Int32 :=
  if p0 < 97 then (f_X9_kindOf_b14 F p0 w ) else (if 122 < p0 then (f_X9_kindOf_b14 F p0 w ) else (some 1))
def f_X9_step_b214_b (F : Nat) (a0 : Nat)   (k214 : Int32 → aW → Option aW) (v2 : Int32) (w : aW) : Option aW :=
  if (w a0 2) ≤ v2 then (some w) else (if (w a0 3) = 2 then ((f_X0_get F (shR a0 0) v2 w).bind (fun r9 => ltw (aset w a0 4 ((((w a0 4) * 10) + r9) - 48)) (fun w10 => k214 (v2 + 1) w10))) else (some w))
def f_X9_step_b214 (F : Nat) (a0 : Nat)   : Nat → Int32 → aW → Option aW :=
  lp (f_X9_step_b214_b F a0  ) (fun _ _ => none)
def f_X9_step_b196 (F : Nat) (a0 : Nat)    (z0 : Int32) (z1 : Int32) (w : aW) : Option aW :=
  if z1 ≤ z0 then (ltw (aset w a0 4 0) (fun w11 => ltv (w11 a0 1) (fun v2_12 => f_X9_step_b214 F a0 F v2_12 w11))) else (ltw (aset w a0 3 4) (fun w13 => ltw (aset w13 a0 4 0) (fun w14 => ltv (w14 a0 1) (fun v2_15 => f_X9_step_b214 F a0 F v2_15 w14))))
def f_X9_step_b169 (F : Nat) (a0 : Nat)    (v1 : Int32) (w : aW) : Option aW :=
  if v1 = 0 then (ltw (aset w a0 4 0) (fun w7 => ltv (w7 a0 1) (fun v2_8 => f_X9_step_b214 F a0 F v2_8 w7))) else (if (w a0 3) = 1 then (f_X9_step_b196 F a0 8 ((w a0 2) - (w a0 1)) w) else (f_X9_step_b196 F a0 3 ((w a0 2) - (w a0 1)) w))
def f_X9_step_b117_b (F : Nat) (a0 : Nat)   (k117 : Int32 → aW → Option aW) (v1 : Int32) (w : aW) : Option aW :=
  if v1 = 0 then (f_X9_step_b169 F a0 v1 w) else ((f_X0_size F (shR a0 0) w).bind (fun r16 => if r16 ≤ (w a0 2) then (f_X9_step_b169 F a0 v1 w) else ((f_X0_get F (shR a0 0) (w a0 2) w).bind (fun r17 => (f_X9_kindOf F r17 w).bind (fun r18 => if r18 = (w a0 3) then (ltw (aset w a0 2 ((w a0 2) + 1)) (fun w19 => k117 v1 w19)) else (f_X9_step_b169 F a0 v1 w))))))
def f_X9_step_b117 (F : Nat) (a0 : Nat)   : Nat → Int32 → aW → Option aW :=
  lp (f_X9_step_b117_b F a0  ) (fun _ _ => none)
def f_X9_step_b92 (F : Nat) (a0 : Nat)    (z0 : Int32) (z1 : Nat) (w : aW) : Option aW :=
  ltw (aset w z1 2 z0) (fun w6 => if (w6 a0 3) = 1 then (f_X9_step_b117 F a0 F 1 w6) else (if (w6 a0 3) = 2 then (f_X9_step_b117 F a0 F 1 w6) else (f_X9_step_b117 F a0 F 0 w6)))
def f_X9_step_b53 (F : Nat) (a0 : Nat)     (w : aW) : Option aW :=
  (f_X0_get F (shR a0 0) (w a0 1) w).bind (fun r3 => (f_X9_kindOf F r3 w).bind (fun r4 => ltw (aset w a0 3 r4) (fun w5 => if (w5 a0 3) = 0 then (f_X9_step_b92 F a0 (w5 a0 1) a0 w5) else (f_X9_step_b92 F a0 ((w5 a0 1) + 1) a0 w5))))
def f_X9_step_b8_b (F : Nat) (a0 : Nat)   (k8 : aW → Option aW)  (w : aW) : Option aW :=
  (f_X0_size F (shR a0 0) w).bind (fun r2 => if r2 ≤ (w a0 1) then (f_X9_step_b53 F a0 w) else ((f_X0_get F (shR a0 0) (w a0 1) w).bind (fun r20 => (f_X9_kindOf F r20 w).bind (fun r21 => if r21 = 5 then (ltw (aset w a0 1 ((w a0 1) + 1)) (fun w22 => k8 w22)) else (f_X9_step_b53 F a0 w)))))
def f_X9_step_b8 (F : Nat) (a0 : Nat)   : Nat → aW → Option aW :=
  lp (f_X9_step_b8_b F a0  ) (fun  _ => none)
def f_X9_step (F : Nat) (a0 : Nat) (w : aW) : Option aW :=
  ltw (aset w a0 1 (w a0 2)) (fun w1 => f_X9_step_b8 F a0 F w1)
def f_X9_open (F : Nat) (a0 : Nat) (w : aW) : Option aW :=
  ltw (aset w a0 5 0) (fun w1 => ltw (aset w1 a0 6 (-1)) (fun w2 => ltw (aset w2 a0 2 0) (fun w3 => (f_X9_step F a0 w3).bind (fun w4 => some w4))))
def f_X9_isWord_b28_b (F : Nat) (a0 : Nat) (s1 : Nat) (w : aW)  (k28 : Int32 → Option Bool) (v2 : Int32)  : Option Bool :=
  (f_strlen s1).bind (fun r2 => if r2 ≤ v2 then (some true) else ((f_X0_get F (shR a0 0) ((w a0 1) + v2) w).bind (fun r3 => (f_strchr s1 v2).bind (fun r4 => if r3 = r4 then (k28 (v2 + 1)) else (some false)))))
def f_X9_isWord_b28 (F : Nat) (a0 : Nat) (s1 : Nat) (w : aW)  : Nat → Int32 → Option Bool :=
  lp (f_X9_isWord_b28_b F a0 s1 w ) (fun _ => none)
def f_X9_isWord (F : Nat) (a0 : Nat) (s1 : Nat) (w : aW) : Option Bool :=
  if (w a0 3) = 1 then ((f_strlen s1).bind (fun r1 => if ((w a0 2) - (w a0 1)) = r1 then (f_X9_isWord_b28 F a0 s1 w F 0) else (some false))) else (some false)
def f_X9_settingWord (F : Nat) (a0 : Nat) (w : aW) : Option Int32 :=
  (f_X9_isWord F a0 20 w).bind (fun r1 => if r1 then (some 8) else ((f_X9_isWord F a0 21 w).bind (fun r2 => if r2 then (some 9) else ((f_X9_isWord F a0 22 w).bind (fun r3 => if r3 then (some 10) else (some (-1)))))))
def f_X4_wordHere (F : Nat) (a0 : Nat) (w : aW) : Option Int32 :=
  (f_X9_isWord F (shR a0 0) 13 w).bind (fun r1 => if r1 then (some 0) else ((f_X9_isWord F (shR a0 0) 14 w).bind (fun r2 => if r2 then (some 1) else ((f_X9_isWord F (shR a0 0) 15 w).bind (fun r3 => if r3 then (some 2) else ((f_X9_isWord F (shR a0 0) 16 w).bind (fun r4 => if r4 then (some 3) else ((f_X9_isWord F (shR a0 0) 17 w).bind (fun r5 => if r5 then (some 4) else ((f_X9_settingWord F (shR a0 0) w).bind (fun r6 => some r6)))))))))))
def f_X9_fail (F : Nat) (a0 : Nat) (p1 : Int32) (w : aW) : Option (Bool × aW) :=
  ltw (aset w a0 5 p1) (fun w1 => ltw (aset w1 a0 6 (w1 a0 1)) (fun w2 => some (false, w2)))
def f_X9_nameHere_b39_b (F : Nat) (a0 : Nat)   (k39 : Int32 → Int32 → aW → Option (Int32 × aW)) (v1 : Int32) (v2 : Int32) (w : aW) : Option (Int32 × aW) :=
  if v2 < (w a0 1) then (some (v1, w)) else ((f_X0_get F (shR a0 0) v2 w).bind (fun r4 => ltv ((v1 <<< (5 &&& 31)) ||| ((r4 - 97) + 1)) (fun v1_5 => k39 v1_5 (v2 + (-1)) w)))
def f_X9_nameHere_b39 (F : Nat) (a0 : Nat)   : Nat → Int32 → Int32 → aW → Option (Int32 × aW) :=
  lp (f_X9_nameHere_b39_b F a0  ) (fun _ _ _ => none)
def f_X9_nameHere (F : Nat) (a0 : Nat) (w : aW) : Option (Int32 × aW) :=
  if (w a0 3) = 1 then (if ((w a0 2) - (w a0 1)) ≤ 6 then (ltv ((w a0 2) - 1) (fun v2_3 => f_X9_nameHere_b39 F a0 F 0 v2_3 w)) else (bBW (f_X9_fail F a0 1 w) (fun r6 w7 => some ((-1), w7)))) else (bBW (f_X9_fail F a0 1 w) (fun r1 w2 => some ((-1), w2)))
def f_X9_roofHere (F : Nat) (a0 : Nat) (a1 : Nat) (p2 : Int32) (w : aW) : Option (Int32 × aW) :=
  bIW (f_X9_nameHere F a0 w) (fun r1 w2 => if r1 = (-1) then (some ((-1), w2)) else ((f_X2_roofNamed F a1 r1 w2).bind (fun r3 => if r3 = (-1) then (bBW (f_X9_fail F a0 3 w2) (fun r4 w5 => some ((-1), w5))) else (if r3 = p2 then (bBW (f_X9_fail F a0 3 w2) (fun r6 w7 => some ((-1), w7))) else (some (r3, w2))))))
def f_X4_isRoofRead (F : Nat) (a0 : Nat) (p1 : Int32) (p2 : Int32) (w : aW) : Option (Bool × aW) :=
  bIW (f_X9_roofHere F (shR a0 0) (shR a0 1) p2 w) (fun r1 w2 => if r1 = (-1) then (some (false, w2)) else ((f_X7_put F (shR a0 2) (w2 a0 3) p1 r1 w2).bind (fun w3 => (f_X9_step F (shR a0 0) w3).bind (fun w4 => some (true, w4)))))
def f_X9_isNumberHere_b30 (F : Nat) (a0 : Nat) (p1 : Int32) (p2 : Int32)     (w : aW) : Option (Bool × aW) :=
  bBW (f_X9_fail F a0 2 w) (fun r1 w2 => if r1 then (some (true, w2)) else (some (false, w2)))
def f_X9_isNumberHere (F : Nat) (a0 : Nat) (p1 : Int32) (p2 : Int32) (w : aW) : Option (Bool × aW) :=
  if (w a0 3) = 2 then (if (w a0 4) < p1 then (f_X9_isNumberHere_b30 F a0 p1 p2 w) else (if (w a0 4) ≤ p2 then (some (true, w)) else (f_X9_isNumberHere_b30 F a0 p1 p2 w))) else (bBW (f_X9_fail F a0 1 w) (fun r3 w4 => some (r3, w4)))
def f_X4_areNotesRead_b75 (F : Nat) (a0 : Nat)    (v1 : Int32) (v2 : Int32) (w : aW) : Option (Bool × aW) :=
  (f_X7_put F (shR a0 2) (w a0 3) 3 v2 w).bind (fun w5 => (f_X7_put F (shR a0 2) (w5 a0 3) 4 v1 w5).bind (fun w6 => some (true, w6)))
def f_X4_areNotesRead_b4_b (F : Nat) (a0 : Nat)   (k4 : Int32 → Int32 → aW → Option (Bool × aW)) (v1 : Int32) (v2 : Int32) (w : aW) : Option (Bool × aW) :=
  bBW (f_X9_isNumberHere F (shR a0 0) 0 7 w) (fun r1 w2 => if r1 then (if v1 = 8 then (bBW (f_X9_fail F (shR a0 0) 5 w2) (fun r7 w8 => some (r7, w8))) else (ltv (v2 ||| ((w2 (shR a0 0) 4) <<< ((3 * v1) &&& 31))) (fun v2_3 => (f_X9_step F (shR a0 0) w2).bind (fun w4 => if 8 < (v1 + 1) then (f_X4_areNotesRead_b75 F a0 (v1 + 1) v2_3 w4) else (if (w4 (shR a0 0) 3) = 2 then (k4 (v1 + 1) v2_3 w4) else (f_X4_areNotesRead_b75 F a0 (v1 + 1) v2_3 w4)))))) else (some (false, w2)))
def f_X4_areNotesRead_b4 (F : Nat) (a0 : Nat)   : Nat → Int32 → Int32 → aW → Option (Bool × aW) :=
  lp (f_X4_areNotesRead_b4_b F a0  ) (fun _ _ _ => none)
def f_X4_areNotesRead (F : Nat) (a0 : Nat) (w : aW) : Option (Bool × aW) :=
  f_X4_areNotesRead_b4 F a0 F 0 0 w
def f_X9_takeNumber (F : Nat) (a0 : Nat) (p1 : Int32) (p2 : Int32) (w : aW) : Option (Int32 × aW) :=
  bBW (f_X9_isNumberHere F a0 p1 p2 w) (fun r1 w2 => if r1 then (ltv (w2 a0 4) (fun v3_3 => (f_X9_step F a0 w2).bind (fun w4 => some (v3_3, w4)))) else (some ((-1), w2)))
def f_X4_isNumberRead (F : Nat) (a0 : Nat) (p1 : Int32) (p2 : Int32) (w : aW) : Option (Bool × aW) :=
  bIW (f_X9_takeNumber F (shR a0 0) p1 p2 w) (fun r1 w2 => (f_X7_put F (shR a0 2) (w2 a0 3) 3 r1 w2).bind (fun w3 => if r1 = (-1) then (some (false, w3)) else (some (true, w3))))
def f_X9_isSemicolonTaken (F : Nat) (a0 : Nat) (w : aW) : Option (Bool × aW) :=
  if (w a0 3) = 3 then ((f_X9_step F a0 w).bind (fun w1 => some (true, w1))) else (bBW (f_X9_fail F a0 1 w) (fun r2 w3 => some (r2, w3)))
def f_X4_isStatementRead_b224 (F : Nat) (a0 : Nat) (p1 : Int32)    (v2 : Int32) (w : aW) : Option (Bool × aW) :=
  if v2 = 0 then (some (false, w)) else (bBW (f_X9_isSemicolonTaken F (shR a0 0) w) (fun r6 w7 => if r6 then (some (true, w7)) else (some (false, w7))))
def f_X4_isStatementRead_b129 (F : Nat) (a0 : Nat) (p1 : Int32)    (z0 : Int32) (w : aW) : Option (Bool × aW) :=
  f_X4_isStatementRead_b224 F a0 p1 z0 w
def f_X4_isStatementRead_b128 (F : Nat) (a0 : Nat) (p1 : Int32)     (w : aW) : Option (Bool × aW) :=
  f_X4_isStatementRead_b129 F a0 p1 0 w
def f_X4_isStatementRead_b169 (F : Nat) (a0 : Nat) (p1 : Int32)    (z0 : Int32) (w : aW) : Option (Bool × aW) :=
  f_X4_isStatementRead_b224 F a0 p1 z0 w
def f_X4_isStatementRead_b168 (F : Nat) (a0 : Nat) (p1 : Int32)     (w : aW) : Option (Bool × aW) :=
  f_X4_isStatementRead_b169 F a0 p1 0 w
def f_X4_isStatementRead_b207 (F : Nat) (a0 : Nat) (p1 : Int32)    (z0 : Int32) (w : aW) : Option (Bool × aW) :=
  f_X4_isStatementRead_b224 F a0 p1 z0 w
def f_X4_isStatementRead_b206 (F : Nat) (a0 : Nat) (p1 : Int32)     (w : aW) : Option (Bool × aW) :=
  f_X4_isStatementRead_b207 F a0 p1 0 w
def f_X4_isStatementRead (F : Nat) (a0 : Nat) (p1 : Int32) (w : aW) : Option (Bool × aW) :=
  if p1 = (-1) then (bBW (f_X9_fail F (shR a0 0) 1 w) (fun r41 w42 => some (r41, w42))) else (if (w a0 3) < 30 then ((f_X7_put F (shR a0 2) (w a0 3) 0 p1 w).bind (fun w1 => (f_X9_step F (shR a0 0) w1).bind (fun w2 => if p1 = 0 then (bBW (f_X4_isRoofRead F a0 1 (-1) w2) (fun r4 w5 => if r4 then ((f_X7_get F (shR a0 2) (w5 a0 3) 1 w5).bind (fun r8 => bBW (f_X4_isRoofRead F a0 2 r8 w5) (fun r9 w10 => if r9 then (bBW (f_X4_areNotesRead F a0 w10) (fun r11 w12 => if r11 then (f_X4_isStatementRead_b129 F a0 p1 1 w12) else (f_X4_isStatementRead_b128 F a0 p1 w12))) else (f_X4_isStatementRead_b128 F a0 p1 w10)))) else (f_X4_isStatementRead_b128 F a0 p1 w5))) else (if p1 = 1 then (bBW (f_X4_isRoofRead F a0 1 (-1) w2) (fun r14 w15 => if r14 then ((f_X7_get F (shR a0 2) (w15 a0 3) 1 w15).bind (fun r16 => bBW (f_X4_isRoofRead F a0 2 r16 w15) (fun r17 w18 => if r17 then (bBW (f_X4_areNotesRead F a0 w18) (fun r19 w20 => if r19 then (f_X4_isStatementRead_b129 F a0 p1 1 w20) else (f_X4_isStatementRead_b128 F a0 p1 w20))) else (f_X4_isStatementRead_b128 F a0 p1 w18)))) else (f_X4_isStatementRead_b128 F a0 p1 w15))) else (if p1 = 2 then (bBW (f_X4_isNumberRead F a0 1 200 w2) (fun r22 w23 => f_X4_isStatementRead_b224 F a0 p1 (bi r22) w23)) else (if p1 = 3 then (bBW (f_X4_isRoofRead F a0 1 (-1) w2) (fun r25 w26 => if r25 then (bBW (f_X4_isNumberRead F a0 1 99 w26) (fun r27 w28 => if r27 then (f_X4_isStatementRead_b169 F a0 p1 1 w28) else (f_X4_isStatementRead_b168 F a0 p1 w28))) else (f_X4_isStatementRead_b168 F a0 p1 w26))) else (if p1 = 4 then (bBW (f_X4_isRoofRead F a0 1 (-1) w2) (fun r30 w31 => if r30 then ((f_X7_get F (shR a0 2) (w31 a0 3) 1 w31).bind (fun r32 => bBW (f_X4_isRoofRead F a0 2 r32 w31) (fun r33 w34 => if r33 then (f_X4_isStatementRead_b207 F a0 p1 1 w34) else (f_X4_isStatementRead_b206 F a0 p1 w34)))) else (f_X4_isStatementRead_b206 F a0 p1 w31))) else ((f_X2_leastOf F p1 w2).bind (fun r35 => (f_X2_mostOf F p1 w2).bind (fun r36 => bBW (f_X4_isNumberRead F a0 r35 r36 w2) (fun r37 w38 => f_X4_isStatementRead_b224 F a0 p1 (bi r37) w38))))))))))) else (bBW (f_X9_fail F (shR a0 0) 5 w) (fun r39 w40 => some (r39, w40))))
def f_X4_isRead_b14_b (F : Nat) (a0 : Nat)   (k14 : Int32 → aW → Option (Bool × aW)) (v1 : Int32) (w : aW) : Option (Bool × aW) :=
  if 800 ≤ v1 then (some (true, w)) else (if (w (shR a0 0) 3) = 0 then (some (true, w)) else ((f_X4_wordHere F a0 w).bind (fun r3 => bBW (f_X4_isStatementRead F a0 r3 w) (fun r4 w5 => if r4 then (ltw (aset w5 a0 3 ((w5 a0 3) + 1)) (fun w6 => k14 (v1 + 1) w6)) else (some (false, w5))))))
def f_X4_isRead_b14 (F : Nat) (a0 : Nat)   : Nat → Int32 → aW → Option (Bool × aW) :=
  lp (f_X4_isRead_b14_b F a0  ) (fun _ _ => none)
def f_X4_isRead (F : Nat) (a0 : Nat) (w : aW) : Option (Bool × aW) :=
  ltw (aset w a0 3 0) (fun w1 => (f_X9_open F (shR a0 0) w1).bind (fun w2 => f_X4_isRead_b14 F a0 F 0 w2))
def f_X5_isRoofRead_b144 (F : Nat) (a0 : Nat)    (v1 : Int32) (v2 : Int32) (v3 : Int32) (v4 : Int32) (z0 : Int32) (w : aW) : Option (Bool × aW) :=
  if z0 = (-1) then (some (false, w)) else (bBW (f_X9_isSemicolonTaken F (shR a0 0) w) (fun r14 w15 => if r14 then ((f_X2_addRoof F (shR a0 1) v1 v2 v3 v4 z0 w15).bind (fun w16 => some (true, w16))) else (some (false, w15))))
def f_X5_isRoofRead_b121 (F : Nat) (a0 : Nat)    (v1 : Int32) (v2 : Int32) (v3 : Int32) (z0 : Int32) (w : aW) : Option (Bool × aW) :=
  if z0 = (-1) then (f_X5_isRoofRead_b144 F a0 v1 v2 v3 z0 (-1) w) else (bIW (f_X9_takeNumber F (shR a0 0) 0 999 w) (fun r12 w13 => f_X5_isRoofRead_b144 F a0 v1 v2 v3 z0 r12 w13))
def f_X5_isRoofRead_b101 (F : Nat) (a0 : Nat)    (v1 : Int32) (v2 : Int32) (z0 : Int32) (w : aW) : Option (Bool × aW) :=
  if z0 = (-1) then (f_X5_isRoofRead_b121 F a0 v1 v2 z0 (-1) w) else (bIW (f_X9_takeNumber F (shR a0 0) 0 9 w) (fun r10 w11 => f_X5_isRoofRead_b121 F a0 v1 v2 z0 r10 w11))
def f_X5_isRoofRead (F : Nat) (a0 : Nat) (w : aW) : Option (Bool × aW) :=
  if (w (shR a0 1) 1) < 10 then ((f_X9_step F (shR a0 0) w).bind (fun w1 => bIW (f_X9_nameHere F (shR a0 0) w1) (fun r2 w3 => if r2 = (-1) then (some (false, w3)) else ((f_X2_roofNamed F (shR a0 1) r2 w3).bind (fun r4 => if r4 = (-1) then ((f_X9_step F (shR a0 0) w3).bind (fun w5 => bIW (f_X9_takeNumber F (shR a0 0) 1 8 w5) (fun r6 w7 => if r6 = (-1) then (f_X5_isRoofRead_b101 F a0 r2 r6 (-1) w7) else (bIW (f_X9_takeNumber F (shR a0 0) 0 9 w7) (fun r8 w9 => f_X5_isRoofRead_b101 F a0 r2 r6 r8 w9))))) else (bBW (f_X9_fail F (shR a0 0) 3 w3) (fun r17 w18 => some (r17, w18)))))))) else (bBW (f_X9_fail F (shR a0 0) 5 w) (fun r19 w20 => some (r19, w20)))
def f_X5_isWayRead (F : Nat) (a0 : Nat) (w : aW) : Option (Bool × aW) :=
  if (w (shR a0 1) 2) < 20 then ((f_X9_step F (shR a0 0) w).bind (fun w1 => bIW (f_X9_roofHere F (shR a0 0) (shR a0 1) (-1) w1) (fun r2 w3 => if r2 = (-1) then (some (false, w3)) else ((f_X9_step F (shR a0 0) w3).bind (fun w4 => bIW (f_X9_roofHere F (shR a0 0) (shR a0 1) r2 w4) (fun r5 w6 => if r5 = (-1) then (some (false, w6)) else ((f_X2_wayBetween F (shR a0 1) r2 r5 w6).bind (fun r7 => if r7 = (-1) then ((f_X9_step F (shR a0 0) w6).bind (fun w8 => bIW (f_X9_takeNumber F (shR a0 0) 1 9 w8) (fun r9 w10 => if r9 = (-1) then (some (false, w10)) else (bBW (f_X9_isSemicolonTaken F (shR a0 0) w10) (fun r11 w12 => if r11 then ((f_X2_addWay F (shR a0 1) r2 r5 r9 w12).bind (fun w13 => some (true, w13))) else (some (false, w12))))))) else (bBW (f_X9_fail F (shR a0 0) 4 w6) (fun r14 w15 => some (r14, w15))))))))))) else (bBW (f_X9_fail F (shR a0 0) 5 w) (fun r16 w17 => some (r16, w17)))
def f_X5_isSettingRead (F : Nat) (a0 : Nat) (p1 : Int32) (w : aW) : Option (Bool × aW) :=
  (f_X9_step F (shR a0 0) w).bind (fun w1 => (f_X2_leastOf F p1 w1).bind (fun r2 => (f_X2_mostOf F p1 w1).bind (fun r3 => bIW (f_X9_takeNumber F (shR a0 0) r2 r3 w1) (fun r4 w5 => if r4 = (-1) then (some (false, w5)) else (bBW (f_X9_isSemicolonTaken F (shR a0 0) w5) (fun r6 w7 => if r6 then ((f_X2_settle F (shR a0 1) p1 r4 w7).bind (fun w8 => some (true, w8))) else (some (false, w7))))))))
def f_X5_isStatementRead (F : Nat) (a0 : Nat) (w : aW) : Option (Bool × aW) :=
  (f_X9_isWord F (shR a0 0) 18 w).bind (fun r1 => if r1 then (bBW (f_X5_isRoofRead F a0 w) (fun r10 w11 => some (r10, w11))) else ((f_X9_isWord F (shR a0 0) 19 w).bind (fun r2 => if r2 then (bBW (f_X5_isWayRead F a0 w) (fun r8 w9 => some (r8, w9))) else ((f_X9_settingWord F (shR a0 0) w).bind (fun r3 => if r3 = (-1) then (bBW (f_X9_fail F (shR a0 0) 1 w) (fun r6 w7 => some (r6, w7))) else (bBW (f_X5_isSettingRead F a0 r3 w) (fun r4 w5 => some (r4, w5))))))))
def f_X5_isRead_b48 (F : Nat) (a0 : Nat)     (w : aW) : Option (Bool × aW) :=
  if 2 ≤ (w (shR a0 1) 1) then ((f_X3_lay F (shR (shR a0 1) 9) (shR a0 1) w).bind (fun w3 => some (true, w3))) else (bBW (f_X9_fail F (shR a0 0) 6 w) (fun r4 w5 => some (r4, w5)))
def f_X5_isRead_b16_b (F : Nat) (a0 : Nat)   (k16 : Int32 → aW → Option (Bool × aW)) (v1 : Int32) (w : aW) : Option (Bool × aW) :=
  if 800 ≤ v1 then (f_X5_isRead_b48 F a0 w) else (if (w (shR a0 0) 3) = 0 then (f_X5_isRead_b48 F a0 w) else (bBW (f_X5_isStatementRead F a0 w) (fun r6 w7 => if r6 then (k16 (v1 + 1) w7) else (some (false, w7)))))
def f_X5_isRead_b16 (F : Nat) (a0 : Nat)   : Nat → Int32 → aW → Option (Bool × aW) :=
  lp (f_X5_isRead_b16_b F a0  ) (fun _ _ => none)
def f_X5_isRead (F : Nat) (a0 : Nat) (w : aW) : Option (Bool × aW) :=
  (f_X2_clear F (shR a0 1) w).bind (fun w1 => (f_X9_open F (shR a0 0) w1).bind (fun w2 => f_X5_isRead_b16 F a0 F 0 w2))
def f_X6_causeOf (F : Nat) (a0 : Nat) (p1 : Int32) (w : aW) : Option Int32 :=
  (f_X7_get F (shR a0 6) p1 3 w).bind (fun r1 => (f_X7_get F (shR a0 6) p1 4 w).bind (fun r2 => ltv ((w a0 0) + 1) (fun v4_3 => if r1 = 0 then ((f_X2_nextOf F a0 p1 w).bind (fun r4 => if r4 = (-1) then ((f_X7_get F (shR a0 6) p1 1 w).bind (fun r11 => some (200 + r11))) else ((f_X2_setting F a0 9 w).bind (fun r5 => if (irm v4_3 60) < r5 then ((f_X2_isBusy F a0 r2 v4_3 w).bind (fun r6 => if r6 then ((f_X7_get F (shR a0 4) r2 4 w).bind (fun r10 => some ((400 + r10) - v4_3))) else ((f_X2_lackOf F a0 p1 w).bind (fun r7 => if r7 ≤ 0 then ((f_X2_firstToGoFrom F a0 r2 w).bind (fun r8 => if r8 = p1 then (some 0) else (some (600 + r8)))) else ((f_X2_lackOf F a0 p1 w).bind (fun r9 => some (500 + r9))))))) else (some (300 + (irm v4_3 60))))))) else (some (100 + r1)))))
def f_X6_feesOn_b9_b (F : Nat) (a0 : Nat) (p1 : Int32) (p2 : Int32) (p3 : Int32) (w : aW)  (k9 : Int32 → Int32 → Int32 → Option Int32) (v4 : Int32) (v5 : Int32) (v6 : Int32)  : Option Int32 :=
  if 10 ≤ v6 then (some v4) else (if v5 = p2 then (some v4) else ((f_X7_get F (shR (shR a0 9) 2) v5 p2 w).bind (fun r1 => if r1 = (-1) then (some (-1)) else ((f_X2_barsOf F p3 w).bind (fun r2 => (f_X7_get F (shR a0 4) v5 2 w).bind (fun r3 => ltv (v4 + (r2 * r3)) (fun v4_4 => k9 v4_4 r1 (v6 + 1))))))))
def f_X6_feesOn_b9 (F : Nat) (a0 : Nat) (p1 : Int32) (p2 : Int32) (p3 : Int32) (w : aW)  : Nat → Int32 → Int32 → Int32 → Option Int32 :=
  lp (f_X6_feesOn_b9_b F a0 p1 p2 p3 w ) (fun _ _ _ => none)
def f_X6_feesOn (F : Nat) (a0 : Nat) (p1 : Int32) (p2 : Int32) (p3 : Int32) (w : aW) : Option Int32 :=
  f_X6_feesOn_b9 F a0 p1 p2 p3 w F 0 p1 0
def f_X6_wrongNotesOn_b9_b (F : Nat) (a0 : Nat) (p1 : Int32) (p2 : Int32) (p3 : Int32) (p4 : Int32) (w : aW)  (k9 : Int32 → Int32 → Int32 → Option Int32) (v5 : Int32) (v6 : Int32) (v7 : Int32)  : Option Int32 :=
  if 10 ≤ v7 then (some v5) else (if v6 = p2 then (some v5) else ((f_X7_get F (shR (shR a0 9) 2) v6 p2 w).bind (fun r1 => if r1 = (-1) then (some (-1)) else ((f_X7_get F (shR (shR a0 9) 0) v6 r1 w).bind (fun r2 => (f_X2_wrongOf F a0 r2 r1 p3 p4 w).bind (fun r3 => ltv (v5 + r3) (fun v5_4 => k9 v5_4 r1 (v7 + 1))))))))
def f_X6_wrongNotesOn_b9 (F : Nat) (a0 : Nat) (p1 : Int32) (p2 : Int32) (p3 : Int32) (p4 : Int32) (w : aW)  : Nat → Int32 → Int32 → Int32 → Option Int32 :=
  lp (f_X6_wrongNotesOn_b9_b F a0 p1 p2 p3 p4 w ) (fun _ _ _ => none)
def f_X6_wrongNotesOn (F : Nat) (a0 : Nat) (p1 : Int32) (p2 : Int32) (p3 : Int32) (p4 : Int32) (w : aW) : Option Int32 :=
  f_X6_wrongNotesOn_b9 F a0 p1 p2 p3 p4 w F 0 p1 0
def f_X6_partOf_b22_b (F : Nat) (a0 : Nat) (p1 : Int32) (p2 : Int32) (w : aW) (k7 : Int32 → Int32 → Option Int32) (k22 : Int32 → Int32 → Int32 → Int32 → Option Int32) (v3 : Int32) (v4 : Int32) (v5 : Int32) (v6 : Int32)  : Option Int32 :=
  if (w a0 2) ≤ v6 then (if v3 = v5 then (some v3) else (k7 v3 (v4 + 1))) else ((f_X7_get F (shR a0 5) v6 0 w).bind (fun r2 => (f_X7_get F (shR a0 5) v6 1 w).bind (fun r3 => ltv ((1 <<< (r2 &&& 31)) ||| (1 <<< (r3 &&& 31))) (fun v7_4 => if v6 = p2 then (k22 v3 v4 v5 (v6 + 1)) else (if (v3 &&& v7_4) = 0 then (k22 v3 v4 v5 (v6 + 1)) else (ltv (v3 ||| v7_4) (fun v3_5 => k22 v3_5 v4 v5 (v6 + 1))))))))
def f_X6_partOf_b22 (F : Nat) (a0 : Nat) (p1 : Int32) (p2 : Int32) (w : aW) (k7 : Int32 → Int32 → Option Int32) : Nat → Int32 → Int32 → Int32 → Int32 → Option Int32 :=
  lp (f_X6_partOf_b22_b F a0 p1 p2 w k7) (fun _ _ _ _ => none)
def f_X6_partOf_b7_b (F : Nat) (a0 : Nat) (p1 : Int32) (p2 : Int32) (w : aW)  (k7 : Int32 → Int32 → Option Int32) (v3 : Int32) (v4 : Int32)  : Option Int32 :=
  if (w a0 1) ≤ v4 then (some v3) else (f_X6_partOf_b22 F a0 p1 p2 w k7 F v3 v4 v3 0)
def f_X6_partOf_b7 (F : Nat) (a0 : Nat) (p1 : Int32) (p2 : Int32) (w : aW)  : Nat → Int32 → Int32 → Option Int32 :=
  lp (f_X6_partOf_b7_b F a0 p1 p2 w ) (fun _ _ => none)
def f_X6_partOf (F : Nat) (a0 : Nat) (p1 : Int32) (p2 : Int32) (w : aW) : Option Int32 :=
  ltv (1 <<< (p1 &&& 31)) (fun v3_1 => f_X6_partOf_b7 F a0 p1 p2 w F v3_1 1)
def f_J6_bitCount_0f7a4 (F : Nat) (p0 : Int32) (w : aW) : Option Int32 :=
  ltv (p0 - ((ius p0 1) &&& 1431655765)) (fun v0_1 => ltv ((v0_1 &&& 858993459) + ((ius v0_1 2) &&& 858993459)) (fun v0_2 => ltv ((v0_2 + (ius v0_2 4)) &&& 252645135) (fun v0_3 => ltv (v0_3 + (ius v0_3 8)) (fun v0_4 => ltv (v0_4 + (ius v0_4 16)) (fun v0_5 => some (v0_5 &&& 63))))))
def f_X6_pairsApartWithout_b14_b (F : Nat) (a0 : Nat) (p1 : Int32) (w : aW)  (k14 : Int32 → Int32 → Int32 → Option Int32) (v2 : Int32) (v3 : Int32) (v4 : Int32)  : Option Int32 :=
  if (w a0 1) ≤ v4 then (some v2) else (if ((v3 >>> (v4 &&& 31)) &&& 1) = 1 then ((f_X6_partOf F a0 v4 p1 w).bind (fun r2 => ltv (v3 &&& (r2 ^^^ (-1))) (fun v3_3 => (f_J6_bitCount_0f7a4 F r2 w).bind (fun r4 => (f_J6_bitCount_0f7a4 F v3_3 w).bind (fun r5 => ltv (v2 + (r4 * r5)) (fun v2_6 => k14 v2_6 v3_3 (v4 + 1))))))) else (k14 v2 v3 (v4 + 1)))
def f_X6_pairsApartWithout_b14 (F : Nat) (a0 : Nat) (p1 : Int32) (w : aW)  : Nat → Int32 → Int32 → Int32 → Option Int32 :=
  lp (f_X6_pairsApartWithout_b14_b F a0 p1 w ) (fun _ _ _ => none)
def f_X6_pairsApartWithout (F : Nat) (a0 : Nat) (p1 : Int32) (w : aW) : Option Int32 :=
  ltv ((1 <<< ((w a0 1) &&& 31)) - 1) (fun v3_1 => f_X6_pairsApartWithout_b14 F a0 p1 w F 0 v3_1 0)
def f_X6_mostNeededWay_b6_b (F : Nat) (a0 : Nat) (w : aW)  (k6 : Int32 → Int32 → Int32 → Option Int32) (v1 : Int32) (v2 : Int32) (v3 : Int32)  : Option Int32 :=
  if (w a0 2) ≤ v3 then (some v1) else ((f_X6_pairsApartWithout F a0 v3 w).bind (fun r1 => if r1 ≤ v2 then (k6 v1 v2 (v3 + 1)) else (k6 v3 r1 (v3 + 1))))
def f_X6_mostNeededWay_b6 (F : Nat) (a0 : Nat) (w : aW)  : Nat → Int32 → Int32 → Int32 → Option Int32 :=
  lp (f_X6_mostNeededWay_b6_b F a0 w ) (fun _ _ _ => none)
def f_X6_mostNeededWay (F : Nat) (a0 : Nat) (w : aW) : Option Int32 :=
  f_X6_mostNeededWay_b6 F a0 w F (-1) (-1) 0
def f_X6_areTunesRight_b2_b (F : Nat) (a0 : Nat) (w : aW)  (k2 : Int32 → Option Bool) (v1 : Int32)  : Option Bool :=
  if (w a0 3) ≤ v1 then (some true) else ((f_X7_get F (shR a0 6) v1 3 w).bind (fun r1 => (f_X7_get F (shR a0 6) v1 4 w).bind (fun r2 => if r1 < 0 then (some false) else (if 3 < r1 then (some false) else (if r2 < 0 then (some false) else (if r2 < (w a0 1) then (if r1 = 2 then ((f_X7_get F (shR a0 6) v1 1 w).bind (fun r3 => if r2 = r3 then (k2 (v1 + 1)) else (some false))) else (k2 (v1 + 1))) else (some false)))))))
def f_X6_areTunesRight_b2 (F : Nat) (a0 : Nat) (w : aW)  : Nat → Int32 → Option Bool :=
  lp (f_X6_areTunesRight_b2_b F a0 w ) (fun _ => none)
def f_X6_areTunesRight (F : Nat) (a0 : Nat) (w : aW) : Option Bool :=
  f_X6_areTunesRight_b2 F a0 w F 0
def f_X6_areAccountsRight_b35_b (F : Nat) (a0 : Nat) (w : aW)  (k35 : Int32 → Int32 → Int32 → Option Bool) (v1 : Int32) (v2 : Int32) (v3 : Int32)  : Option Bool :=
  if (w a0 3) ≤ v3 then ((f_X7_get F (shR a0 8) 0 1 w).bind (fun r1 => if r1 = (w a0 3) then ((f_X7_get F (shR a0 8) 0 5 w).bind (fun r2 => (f_X2_tunesIn F a0 2 w).bind (fun r3 => if r2 = r3 then ((f_X7_get F (shR a0 8) 0 8 w).bind (fun r4 => (f_X2_tunesIn F a0 3 w).bind (fun r5 => if r4 = r5 then ((f_X2_pursesTogether F a0 w).bind (fun r6 => (f_X7_get F (shR a0 8) 0 10 w).bind (fun r7 => if r6 = (v1 + r7) then ((f_X7_get F (shR a0 8) 0 3 w).bind (fun r8 => if r8 = v2 then ((f_X7_get F (shR a0 8) 0 6 w).bind (fun r9 => (f_X7_get F (shR a0 8) 0 5 w).bind (fun r10 => if r10 < r9 then (some false) else (some true)))) else (some false))) else (some false)))) else (some false)))) else (some false)))) else (some false))) else ((f_X7_get F (shR a0 6) v3 11 w).bind (fun r11 => ltv (v2 + r11) (fun v2_12 => k35 v1 v2_12 (v3 + 1))))
def f_X6_areAccountsRight_b35 (F : Nat) (a0 : Nat) (w : aW)  : Nat → Int32 → Int32 → Int32 → Option Bool :=
  lp (f_X6_areAccountsRight_b35_b F a0 w ) (fun _ _ _ => none)
def f_X6_areAccountsRight_b4_b (F : Nat) (a0 : Nat) (w : aW)  (k4 : Int32 → Int32 → Option Bool) (v1 : Int32) (v2 : Int32)  : Option Bool :=
  if (w a0 1) ≤ v2 then (f_X6_areAccountsRight_b35 F a0 w F v1 0 0) else ((f_X7_get F (shR a0 4) v2 6 w).bind (fun r13 => ltv (v1 + r13) (fun v1_14 => k4 v1_14 (v2 + 1))))
def f_X6_areAccountsRight_b4 (F : Nat) (a0 : Nat) (w : aW)  : Nat → Int32 → Int32 → Option Bool :=
  lp (f_X6_areAccountsRight_b4_b F a0 w ) (fun _ _ => none)
def f_X6_areAccountsRight (F : Nat) (a0 : Nat) (w : aW) : Option Bool :=
  f_X6_areAccountsRight_b4 F a0 w F 0 0
def f_X8_raised (F : Nat) (p0 : Int32) (p1 : Int32) (w : aW) : Option Int32 :=
  ltv (3 * p1) (fun v2_1 => (f_X10_noteOf F p0 p1 w).bind (fun r2 => ltv ((r2 + 1) &&& 7) (fun v3_3 => some ((p0 &&& ((7 <<< (v2_1 &&& 31)) ^^^ (-1))) ||| (v3_3 <<< (v2_1 &&& 31))))))
def f_X8_land_b85 (F : Nat) (a0 : Nat) (p1 : Int32)    (v3 : Int32) (v4 : Int32) (w : aW) : Option aW :=
  (f_X7_put F (shR a0 6) p1 10 v4 w).bind (fun w7 => (f_X7_put F (shR a0 6) p1 3 0 w7).bind (fun w8 => (f_X7_put F (shR a0 6) p1 5 (-1) w8).bind (fun w9 => (f_X2_enter F a0 4 v3 w9).bind (fun w10 => some w10))))
def f_X8_land_b56_b (F : Nat) (a0 : Nat) (p1 : Int32)   (k56 : Int32 → Int32 → Int32 → Int32 → aW → Option aW) (v2 : Int32) (v3 : Int32) (v4 : Int32) (v5 : Int32) (w : aW) : Option aW :=
  if v3 ≤ v5 then (f_X8_land_b85 F a0 p1 v3 v4 w) else (if v2 ≤ 0 then (f_X8_land_b85 F a0 p1 v3 v4 w) else (gd (¬ v2 = 0) ((f_X8_raised F v4 (irm (p1 + v5) v2) w).bind (fun r12 => k56 v2 v3 r12 (v5 + 1) w))))
def f_X8_land_b56 (F : Nat) (a0 : Nat) (p1 : Int32)   : Nat → Int32 → Int32 → Int32 → Int32 → aW → Option aW :=
  lp (f_X8_land_b56_b F a0 p1  ) (fun _ _ _ _ _ => none)
def f_X8_land (F : Nat) (a0 : Nat) (p1 : Int32) (w : aW) : Option aW :=
  (f_X7_get F (shR a0 6) p1 2 w).bind (fun r1 => (f_X7_get F (shR a0 6) p1 12 w).bind (fun r2 => (f_X7_get F (shR a0 6) p1 4 w).bind (fun r3 => (f_X2_setting F a0 8 w).bind (fun r4 => (f_X2_wrongOf F a0 r2 r3 r1 r4 w).bind (fun r5 => (f_X7_get F (shR a0 6) p1 10 w).bind (fun r6 => f_X8_land_b56 F a0 p1 F r1 r5 r6 0 w))))))
def f_X8_turned_b4_b (F : Nat) (p0 : Int32) (p1 : Int32) (w : aW)  (k4 : Int32 → Int32 → Option Int32) (v2 : Int32) (v3 : Int32)  : Option Int32 :=
  if p1 ≤ v3 then (some v2) else ((f_X10_noteOf F p0 v3 w).bind (fun r1 => ltv ((v2 <<< (3 &&& 31)) ||| r1) (fun v2_2 => k4 v2_2 (v3 + 1))))
def f_X8_turned_b4 (F : Nat) (p0 : Int32) (p1 : Int32) (w : aW)  : Nat → Int32 → Int32 → Option Int32 :=
  lp (f_X8_turned_b4_b F p0 p1 w ) (fun _ _ => none)
def f_X8_turned (F : Nat) (p0 : Int32) (p1 : Int32) (w : aW) : Option Int32 :=
  f_X8_turned_b4 F p0 p1 w F 0 0
def f_X8_reachGoal_b102 (F : Nat) (a0 : Nat) (p1 : Int32)    (v2 : Int32) (v3 : Int32) (w : aW) : Option aW :=
  (f_X7_put F (shR a0 6) p1 3 2 w).bind (fun w3 => (f_X2_enter F a0 5 1 w3).bind (fun w4 => if v3 = 0 then (some w4) else ((f_X2_enter F a0 6 1 w4).bind (fun w5 => (f_X7_get F (shR a0 6) p1 7 w5).bind (fun r6 => if r6 = 1 then (if 30 ≤ (w5 a0 3) then (some w5) else ((f_X7_get F (shR a0 6) p1 2 w5).bind (fun r7 => (f_X7_get F (shR a0 6) p1 1 w5).bind (fun r8 => (f_X7_get F (shR a0 6) p1 0 w5).bind (fun r9 => (f_X8_turned F v2 r7 w5).bind (fun r10 => bIW (f_X2_addTune F a0 r8 r9 r7 r10 1 0 w5) (fun r11 w12 => (f_X2_enter F a0 2 1 w12).bind (fun w13 => some w13)))))))) else (some w5))))))
def f_X8_reachGoal_b30 (F : Nat) (a0 : Nat) (p1 : Int32)    (v2 : Int32) (z0 : Int32) (w : aW) : Option aW :=
  if z0 = 0 then ((f_X7_get F (shR a0 6) p1 8 w).bind (fun r14 => (f_X2_setting F a0 10 w).bind (fun r15 => if r15 ≤ r14 then (f_X8_reachGoal_b102 F a0 p1 v2 z0 w) else ((f_X7_grow F (shR a0 6) p1 8 1 w).bind (fun w16 => (f_X7_put F (shR a0 6) p1 10 v2 w16).bind (fun w17 => (f_X7_get F (shR a0 6) p1 0 w17).bind (fun r18 => (f_X7_put F (shR a0 6) p1 4 r18 w17).bind (fun w19 => (f_X2_enter F a0 7 1 w19).bind (fun w20 => some w20))))))))) else (f_X8_reachGoal_b102 F a0 p1 v2 z0 w)
def f_X8_reachGoal (F : Nat) (a0 : Nat) (p1 : Int32) (w : aW) : Option aW :=
  (f_X7_get F (shR a0 6) p1 9 w).bind (fun r1 => (f_X7_get F (shR a0 6) p1 10 w).bind (fun r2 => if r2 = r1 then (f_X8_reachGoal_b30 F a0 p1 r1 1 w) else (f_X8_reachGoal_b30 F a0 p1 r1 0 w)))
def f_X8_landAll_b7_b (F : Nat) (a0 : Nat)   (k7 : Int32 → Int32 → aW → Option aW) (v1 : Int32) (v2 : Int32) (w : aW) : Option aW :=
  if v1 ≤ v2 then (some w) else ((f_X7_get F (shR a0 6) v2 3 w).bind (fun r2 => if r2 = 1 then ((f_X7_get F (shR a0 6) v2 5 w).bind (fun r3 => if r3 = (w a0 0) then ((f_X8_land F a0 v2 w).bind (fun w4 => (f_X7_get F (shR a0 6) v2 4 w4).bind (fun r5 => (f_X7_get F (shR a0 6) v2 1 w4).bind (fun r6 => if r5 = r6 then ((f_X8_reachGoal F a0 v2 w4).bind (fun w7 => k7 v1 (v2 + 1) w7)) else (k7 v1 (v2 + 1) w4))))) else (k7 v1 (v2 + 1) w))) else (k7 v1 (v2 + 1) w)))
def f_X8_landAll_b7 (F : Nat) (a0 : Nat)   : Nat → Int32 → Int32 → aW → Option aW :=
  lp (f_X8_landAll_b7_b F a0  ) (fun _ _ _ => none)
def f_X8_landAll (F : Nat) (a0 : Nat) (w : aW) : Option aW :=
  ltv (w a0 3) (fun v1_1 => f_X8_landAll_b7 F a0 F v1_1 0 w)
def f_X8_roofsWithTunes_b4_b (F : Nat) (a0 : Nat) (w : aW)  (k4 : Int32 → Int32 → Option Int32) (v1 : Int32) (v2 : Int32)  : Option Int32 :=
  if (w a0 3) ≤ v2 then (some v1) else ((f_X7_get F (shR a0 6) v2 3 w).bind (fun r1 => if r1 = 0 then ((f_X7_get F (shR a0 6) v2 4 w).bind (fun r2 => ltv (v1 ||| (1 <<< (r2 &&& 31))) (fun v1_3 => k4 v1_3 (v2 + 1)))) else (k4 v1 (v2 + 1))))
def f_X8_roofsWithTunes_b4 (F : Nat) (a0 : Nat) (w : aW)  : Nat → Int32 → Int32 → Option Int32 :=
  lp (f_X8_roofsWithTunes_b4_b F a0 w ) (fun _ _ => none)
def f_X8_roofsWithTunes (F : Nat) (a0 : Nat) (w : aW) : Option Int32 :=
  f_X8_roofsWithTunes_b4 F a0 w F 0 0
def f_X8_breathsFor (F : Nat) (a0 : Nat) (p1 : Int32) (p2 : Int32) (w : aW) : Option Int32 :=
  (f_X7_get F (shR a0 4) p1 0 w).bind (fun r1 => ltv (imax 1 r1) (fun v3_2 => (f_X7_get F (shR a0 6) p2 2 w).bind (fun r3 => gd (¬ v3_2 = 0) (some (((r3 + v3_2) - 1) / v3_2)))))
def f_X8_whistle (F : Nat) (a0 : Nat) (p1 : Int32) (p2 : Int32) (w : aW) : Option aW :=
  (f_X7_get F (shR a0 4) p1 2 w).bind (fun r1 => (f_X2_barsOfTune F a0 p2 w).bind (fun r2 => ltv (r1 * r2) (fun v3_3 => (f_X7_get F (shR a0 6) p2 0 w).bind (fun r4 => (f_X7_grow F (shR a0 4) r4 3 (-v3_3) w).bind (fun w5 => (f_X7_grow F (shR a0 4) p1 3 v3_3 w5).bind (fun w6 => (f_X2_enter F a0 9 v3_3 w6).bind (fun w7 => (f_X2_nextOf F a0 p2 w7).bind (fun r8 => (f_X7_get F (shR (shR a0 9) 0) p1 r8 w7).bind (fun r9 => (f_X8_breathsFor F a0 p1 p2 w7).bind (fun r10 => ltv ((w7 a0 0) + r10) (fun v6_11 => (f_X7_put F (shR a0 4) p1 4 v6_11 w7).bind (fun w12 => (f_X7_grow F (shR a0 4) p1 7 1 w12).bind (fun w13 => (f_X7_put F (shR a0 6) p2 3 1 w13).bind (fun w14 => (f_X7_put F (shR a0 6) p2 4 r8 w14).bind (fun w15 => (f_X7_put F (shR a0 6) p2 5 (v6_11 + r9) w15).bind (fun w16 => (f_X7_put F (shR a0 6) p2 12 r9 w16).bind (fun w17 => (f_X7_grow F (shR a0 6) p2 11 1 w17).bind (fun w18 => (f_X2_enter F a0 3 1 w18).bind (fun w19 => some w19)))))))))))))))))))
def f_X8_whistleAll_b7_b (F : Nat) (a0 : Nat)   (k7 : Int32 → Int32 → aW → Option aW) (v1 : Int32) (v2 : Int32) (w : aW) : Option aW :=
  if (w a0 1) ≤ v2 then (some w) else (if ((v1 >>> (v2 &&& 31)) &&& 1) = 1 then ((f_X2_isBusy F a0 v2 (w a0 0) w).bind (fun r2 => if r2 then (k7 v1 (v2 + 1) w) else ((f_X2_firstToGoFrom F a0 v2 w).bind (fun r3 => if r3 = (-1) then (k7 v1 (v2 + 1) w) else ((f_X8_whistle F a0 v2 r3 w).bind (fun w4 => k7 v1 (v2 + 1) w4)))))) else (k7 v1 (v2 + 1) w))
def f_X8_whistleAll_b7 (F : Nat) (a0 : Nat)   : Nat → Int32 → Int32 → aW → Option aW :=
  lp (f_X8_whistleAll_b7_b F a0  ) (fun _ _ _ => none)
def f_X8_whistleAll (F : Nat) (a0 : Nat) (w : aW) : Option aW :=
  (f_X8_roofsWithTunes F a0 w).bind (fun r1 => f_X8_whistleAll_b7 F a0 F r1 0 w)
def f_X8_loseAll_b2_b (F : Nat) (a0 : Nat)   (k2 : Int32 → aW → Option aW) (v1 : Int32) (w : aW) : Option aW :=
  if (w a0 3) ≤ v1 then (some w) else ((f_X7_get F (shR a0 6) v1 3 w).bind (fun r1 => if r1 = 0 then ((f_X2_nextOf F a0 v1 w).bind (fun r2 => if r2 = (-1) then ((f_X7_put F (shR a0 6) v1 3 3 w).bind (fun w3 => (f_X2_enter F a0 8 1 w3).bind (fun w4 => k2 (v1 + 1) w4))) else (k2 (v1 + 1) w))) else (k2 (v1 + 1) w)))
def f_X8_loseAll_b2 (F : Nat) (a0 : Nat)   : Nat → Int32 → aW → Option aW :=
  lp (f_X8_loseAll_b2_b F a0  ) (fun _ _ => none)
def f_X8_loseAll (F : Nat) (a0 : Nat) (w : aW) : Option aW :=
  f_X8_loseAll_b2 F a0 F 0 w
def f_X8_run_b2_b (F : Nat) (a0 : Nat) (p1 : Int32)   (k2 : Int32 → aW → Option aW) (v2 : Int32) (w : aW) : Option aW :=
  if p1 ≤ v2 then (some w) else (ltw (aset w a0 0 ((w a0 0) + 1)) (fun w1 => (f_X2_enter F a0 0 1 w1).bind (fun w2 => (f_X8_landAll F a0 w2).bind (fun w3 => (f_X2_setting F a0 9 w3).bind (fun r4 => if r4 ≤ (irm (w3 a0 0) 60) then ((f_X8_loseAll F a0 w3).bind (fun w5 => k2 (v2 + 1) w5)) else ((f_X8_whistleAll F a0 w3).bind (fun w6 => (f_X8_loseAll F a0 w6).bind (fun w7 => k2 (v2 + 1) w7))))))))
def f_X8_run_b2 (F : Nat) (a0 : Nat) (p1 : Int32)   : Nat → Int32 → aW → Option aW :=
  lp (f_X8_run_b2_b F a0 p1  ) (fun _ _ => none)
def f_X8_run (F : Nat) (a0 : Nat) (p1 : Int32) (w : aW) : Option aW :=
  f_X8_run_b2 F a0 p1 F 0 w
def f_X10_appendFour_b3_b (F : Nat) (a0 : Nat) (p1 : Int32)   (k3 : Int32 → aW → Option aW) (v2 : Int32) (w : aW) : Option aW :=
  if v2 < 0 then (some w) else ((f_X0_add F (shR a0 0) ((ius p1 v2) &&& 255) w).bind (fun w1 => k3 (v2 + (-8)) w1))
def f_X10_appendFour_b3 (F : Nat) (a0 : Nat) (p1 : Int32)   : Nat → Int32 → aW → Option aW :=
  lp (f_X10_appendFour_b3_b F a0 p1  ) (fun _ _ => none)
def f_X10_appendFour (F : Nat) (a0 : Nat) (p1 : Int32) (w : aW) : Option aW :=
  f_X10_appendFour_b3 F a0 p1 F 24 w
def f_X10_appendInput (F : Nat) (a0 : Nat) (p1 : Int32) (p2 : Int32) (p3 : Int32) (p4 : Int32) (p5 : Int32) (w : aW) : Option (Int32 × aW) :=
  (f_X0_size F (shR a0 0) w).bind (fun r1 => if (r1 + 20) ≤ 800 then ((f_X10_appendFour F a0 p1 w).bind (fun w2 => (f_X10_appendFour F a0 p2 w2).bind (fun w3 => (f_X10_appendFour F a0 p3 w3).bind (fun w4 => (f_X10_appendFour F a0 p4 w4).bind (fun w5 => (f_X10_appendFour F a0 p5 w5).bind (fun w6 => (f_X0_size F (shR a0 0) w6).bind (fun r7 => some (r7, w6)))))))) else (some ((-1), w)))
def f_X10_truncateInput (F : Nat) (a0 : Nat) (p1 : Int32) (w : aW) : Option (Bool × aW) :=
  bBW (f_X0_cutTo F (shR a0 0) p1 w) (fun r1 w2 => some (r1, w2))
def f_X10_loadPost (F : Nat) (a0 : Nat) (w : aW) : Option (Int32 × aW) :=
  bBW (f_X5_isRead F (shR a0 3) w) (fun r1 w2 => (f_X0_clear F (shR a0 0) w2).bind (fun w3 => if r1 then ((f_X2_copyFrom F (shR a0 5) (shR a0 7) w3).bind (fun w4 => (f_X1_forget F (shR a0 8) w4).bind (fun w5 => ltw (aset w5 a0 9 0) (fun w6 => some (w6 (shR a0 5) 2, w6))))) else (some ((-1), w3))))
def f_X10_isSent_b63 (F : Nat) (a0 : Nat) (p1 : Int32) (p2 : Int32) (p3 : Int32)    (v4 : Int32) (v5 : Int32) (z0 : Int32) (w : aW) : Option (Bool × aW) :=
  bIW (f_X2_addTune F (shR a0 5) p1 p2 v4 v5 0 z0 w) (fun r4 w5 => some (true, w5))
def f_X10_isSent (F : Nat) (a0 : Nat) (p1 : Int32) (p2 : Int32) (p3 : Int32) (w : aW) : Option (Bool × aW) :=
  if (w (shR a0 5) 3) < 30 then ((f_X7_get F (shR (shR a0 4) 2) p3 4 w).bind (fun r1 => (f_X7_get F (shR (shR a0 4) 2) p3 3 w).bind (fun r2 => (f_X7_get F (shR (shR a0 4) 2) p3 0 w).bind (fun r3 => if r3 = 1 then (f_X10_isSent_b63 F a0 p1 p2 p3 r1 r2 1 w) else (f_X10_isSent_b63 F a0 p1 p2 p3 r1 r2 0 w))))) else (some (false, w))
def f_X10_isPlayed (F : Nat) (a0 : Nat) (p1 : Int32) (w : aW) : Option (Bool × aW) :=
  (f_X7_get F (shR (shR a0 4) 2) p1 1 w).bind (fun r1 => (f_X7_get F (shR (shR a0 4) 2) p1 2 w).bind (fun r2 => (f_X7_get F (shR (shR a0 4) 2) p1 3 w).bind (fun r3 => (f_X7_get F (shR (shR a0 4) 2) p1 0 w).bind (fun r4 => if r4 = 0 then (bBW (f_X10_isSent F a0 r1 r2 p1 w) (fun r6 w7 => some (r6, w7))) else (if r4 = 1 then (bBW (f_X10_isSent F a0 r1 r2 p1 w) (fun r9 w10 => some (r9, w10))) else (if r4 = 2 then ((f_X2_hasTimeFor F (shR a0 5) r3 w).bind (fun r12 => if r12 then ((f_X8_run F (shR a0 5) r3 w).bind (fun w13 => some (true, w13))) else (some (false, w)))) else (if r4 = 3 then ((f_X2_hasRoomFor F (shR a0 5) r1 r3 w).bind (fun r15 => if r15 then ((f_X2_takeCoins F (shR a0 5) r1 r3 w).bind (fun w16 => some (true, w16))) else (some (false, w)))) else (if r4 = 4 then (bBW (f_X2_cutWay F (shR a0 5) r1 r2 w) (fun r18 w19 => some (r18, w19))) else ((f_X2_settle F (shR a0 5) r4 r3 w).bind (fun w20 => some (true, w20)))))))))))
def f_X10_playScript_b34_b (F : Nat) (a0 : Nat)   (k34 : Int32 → aW → Option (Int32 × aW)) (v2 : Int32) (w : aW) : Option (Int32 × aW) :=
  if (w (shR a0 4) 3) ≤ v2 then (some (v2, w)) else (bBW (f_X10_isPlayed F a0 v2 w) (fun r5 w6 => if r5 then (k34 (v2 + 1) w6) else (some (v2, w6))))
def f_X10_playScript_b34 (F : Nat) (a0 : Nat)   : Nat → Int32 → aW → Option (Int32 × aW) :=
  lp (f_X10_playScript_b34_b F a0  ) (fun _ _ => none)
def f_X10_playScript (F : Nat) (a0 : Nat) (w : aW) : Option (Int32 × aW) :=
  bBW (f_X4_isRead F (shR a0 4) w) (fun r1 w2 => (f_X0_clear F (shR a0 0) w2).bind (fun w3 => if r1 then ((f_X1_keep F (shR a0 8) (shR a0 5) w3).bind (fun w4 => f_X10_playScript_b34 F a0 F 0 w4)) else (some ((-1), w3))))
def f_X10_errorCode (F : Nat) (a0 : Nat) (w : aW) : Option Int32 :=
  some (w (shR a0 2) 5)
def f_X10_errorOffset (F : Nat) (a0 : Nat) (w : aW) : Option Int32 :=
  some (w (shR a0 2) 6)
def f_X10_needNumber (F : Nat) (a0 : Nat) (p1 : Int32) (p2 : Int32) (p3 : Int32) (w : aW) : Option (Option String) :=
  if p1 < p2 then (some (some "java/lang/IllegalArgumentException")) else (if p1 ≤ p3 then (some none) else (some (some "java/lang/IllegalArgumentException")))
def f_X10_count (F : Nat) (a0 : Nat) (p1 : Int32) (w : aW) : Option ((Int32 ⊕ String) × aW) :=
  bnN (f_X10_needNumber F a0 p1 0 13 w) w (if p1 = 13 then ((f_X1_size F (shR a0 8) w).bind (fun r2 => some (.inl r2, w))) else ((f_X2_numberOfAll F (shR a0 5) p1 w).bind (fun r1 => some (.inl r1, w))))
def f_X10_account (F : Nat) (a0 : Nat) (p1 : Int32) (w : aW) : Option ((Int32 ⊕ String) × aW) :=
  bnN (f_X10_needNumber F a0 p1 0 10 w) w ((f_X7_get F (shR (shR a0 5) 8) 0 p1 w).bind (fun r1 => some (.inl r1, w)))
def f_X10_needRoof (F : Nat) (a0 : Nat) (p1 : Int32) (w : aW) : Option (Option String) :=
  if p1 < 0 then (some (some "java/lang/IndexOutOfBoundsException")) else (if p1 < (w (shR a0 5) 1) then (some none) else (some (some "java/lang/IndexOutOfBoundsException")))
def f_X10_nameByte (F : Nat) (a0 : Nat) (p1 : Int32) (p2 : Int32) (w : aW) : Option ((Int32 ⊕ String) × aW) :=
  bnN (f_X10_needRoof F a0 p1 w) w ((f_X2_letterOf F (shR a0 5) p1 p2 w).bind (fun r1 => some (.inl r1, w)))
def f_X10_roof (F : Nat) (a0 : Nat) (p1 : Int32) (p2 : Int32) (w : aW) : Option ((Int32 ⊕ String) × aW) :=
  bnN (f_X10_needRoof F a0 p1 w) w (bnN (f_X10_needNumber F a0 p2 0 7 w) w ((f_X2_numberOfRoof F (shR a0 5) p1 p2 w).bind (fun r1 => some (.inl r1, w))))
def f_X10_way (F : Nat) (a0 : Nat) (p1 : Int32) (p2 : Int32) (w : aW) : Option ((Int32 ⊕ String) × aW) :=
  if p1 < 0 then (some (.inr "java/lang/IndexOutOfBoundsException", w)) else (if p1 < (w (shR a0 5) 2) then (bnN (f_X10_needNumber F a0 p2 0 2 w) w ((f_X7_get F (shR (shR a0 5) 5) p1 p2 w).bind (fun r1 => some (.inl r1, w)))) else (some (.inr "java/lang/IndexOutOfBoundsException", w)))
def f_X10_route (F : Nat) (a0 : Nat) (p1 : Int32) (p2 : Int32) (w : aW) : Option ((Int32 ⊕ String) × aW) :=
  bnN (f_X10_needRoof F a0 p1 w) w (bnN (f_X10_needRoof F a0 p2 w) w ((f_X7_get F (shR (shR (shR a0 5) 9) 1) p1 p2 w).bind (fun r1 => if 9999 ≤ r1 then (some (.inl (-1), w)) else (some (.inl r1, w)))))
def f_X10_next (F : Nat) (a0 : Nat) (p1 : Int32) (p2 : Int32) (w : aW) : Option ((Int32 ⊕ String) × aW) :=
  bnN (f_X10_needRoof F a0 p1 w) w (bnN (f_X10_needRoof F a0 p2 w) w ((f_X7_get F (shR (shR (shR a0 5) 9) 2) p1 p2 w).bind (fun r1 => some (.inl r1, w))))
def f_X10_needTune (F : Nat) (a0 : Nat) (p1 : Int32) (w : aW) : Option (Option String) :=
  if p1 < 0 then (some (some "java/lang/IndexOutOfBoundsException")) else (if p1 < (w (shR a0 5) 3) then (some none) else (some (some "java/lang/IndexOutOfBoundsException")))
def f_X10_tune (F : Nat) (a0 : Nat) (p1 : Int32) (p2 : Int32) (w : aW) : Option ((Int32 ⊕ String) × aW) :=
  bnN (f_X10_needTune F a0 p1 w) w (bnN (f_X10_needNumber F a0 p2 0 11 w) w ((f_X2_numberOfTune F (shR a0 5) p1 p2 w).bind (fun r1 => some (.inl r1, w))))
def f_X10_note (F : Nat) (a0 : Nat) (p1 : Int32) (p2 : Int32) (p3 : Int32) (w : aW) : Option ((Int32 ⊕ String) × aW) :=
  bnN (f_X10_needTune F a0 p1 w) w (if p2 < 0 then (some (.inl (-1), w)) else ((f_X7_get F (shR (shR a0 5) 6) p1 2 w).bind (fun r1 => if p2 < r1 then (if p3 = 0 then ((f_X7_get F (shR (shR a0 5) 6) p1 9 w).bind (fun r2 => (f_X10_noteOf F r2 p2 w).bind (fun r3 => some (.inl r3, w)))) else ((f_X7_get F (shR (shR a0 5) 6) p1 10 w).bind (fun r4 => (f_X10_noteOf F r4 p2 w).bind (fun r5 => some (.inl r5, w))))) else (some (.inl (-1), w)))))
def f_X10_waiting (F : Nat) (a0 : Nat) (p1 : Int32) (p2 : Int32) (w : aW) : Option ((Int32 ⊕ String) × aW) :=
  bnN (f_X10_needRoof F a0 p1 w) w ((f_X2_waitingAt F (shR a0 5) p1 p2 w).bind (fun r1 => some (.inl r1, w)))
def f_X10_why (F : Nat) (a0 : Nat) (p1 : Int32) (p2 : Int32) (w : aW) : Option ((Int32 ⊕ String) × aW) :=
  bnN (f_X10_needTune F a0 p1 w) w (bnN (f_X10_needNumber F a0 p2 0 1 w) w ((f_X6_causeOf F (shR a0 5) p1 w).bind (fun r1 => if p2 = 1 then (some (.inl r1, w)) else (some (.inl (r1 / 100), w)))))
def f_X10_costOf (F : Nat) (a0 : Nat) (p1 : Int32) (p2 : Int32) (p3 : Int32) (w : aW) : Option ((Int32 ⊕ String) × aW) :=
  bnN (f_X10_needRoof F a0 p1 w) w (bnN (f_X10_needRoof F a0 p2 w) w (bnN (f_X10_needNumber F a0 p3 1 8 w) w ((f_X6_feesOn F (shR a0 5) p1 p2 p3 w).bind (fun r1 => some (.inl r1, w)))))
def f_X10_wrongOn (F : Nat) (a0 : Nat) (p1 : Int32) (p2 : Int32) (p3 : Int32) (w : aW) : Option ((Int32 ⊕ String) × aW) :=
  bnN (f_X10_needRoof F a0 p1 w) w (bnN (f_X10_needRoof F a0 p2 w) w (bnN (f_X10_needNumber F a0 p3 1 8 w) w ((f_X2_setting F (shR a0 5) 8 w).bind (fun r1 => (f_X6_wrongNotesOn F (shR a0 5) p1 p2 p3 r1 w).bind (fun r2 => some (.inl r2, w))))))
def f_X10_calmest_b13_b (F : Nat) (a0 : Nat) (p1 : Int32) (p2 : Int32) (w : aW)  (k13 : Int32 → Option ((Int32 ⊕ String) × aW)) (v3 : Int32)  : Option ((Int32 ⊕ String) × aW) :=
  if v3 < 0 then (some (.inl (-1), w)) else ((f_X6_wrongNotesOn F (shR a0 5) p1 p2 8 v3 w).bind (fun r1 => if r1 = 0 then (some (.inl v3, w)) else (k13 (v3 + (-1)))))
def f_X10_calmest_b13 (F : Nat) (a0 : Nat) (p1 : Int32) (p2 : Int32) (w : aW)  : Nat → Int32 → Option ((Int32 ⊕ String) × aW) :=
  lp (f_X10_calmest_b13_b F a0 p1 p2 w ) (fun _ => none)
def f_X10_calmest (F : Nat) (a0 : Nat) (p1 : Int32) (p2 : Int32) (w : aW) : Option ((Int32 ⊕ String) × aW) :=
  bnN (f_X10_needRoof F a0 p1 w) w (bnN (f_X10_needRoof F a0 p2 w) w (f_X10_calmest_b13 F a0 p1 p2 w F 9))
def f_X10_arrivesIn_b18_b (F : Nat) (a0 : Nat) (p1 : Int32)   (k18 : Int32 → aW → Option ((Int32 ⊕ String) × aW)) (v2 : Int32) (w : aW) : Option ((Int32 ⊕ String) × aW) :=
  if 200 < v2 then (some (.inl (-1), w)) else ((f_X7_get F (shR (shR a0 7) 6) p1 3 w).bind (fun r2 => if r2 = 2 then (some (.inl v2, w)) else (if r2 = 3 then (some (.inl (-1), w)) else ((f_X8_run F (shR a0 7) 1 w).bind (fun w3 => k18 (v2 + 1) w3)))))
def f_X10_arrivesIn_b18 (F : Nat) (a0 : Nat) (p1 : Int32)   : Nat → Int32 → aW → Option ((Int32 ⊕ String) × aW) :=
  lp (f_X10_arrivesIn_b18_b F a0 p1  ) (fun _ _ => none)
def f_X10_arrivesIn (F : Nat) (a0 : Nat) (p1 : Int32) (w : aW) : Option ((Int32 ⊕ String) × aW) :=
  bnN (f_X10_needTune F a0 p1 w) w ((f_X2_copyFrom F (shR a0 7) (shR a0 5) w).bind (fun w1 => f_X10_arrivesIn_b18 F a0 p1 F 0 w1))
def f_X10_growsBy (F : Nat) (a0 : Nat) (p1 : Int32) (p2 : Int32) (w : aW) : Option ((Int32 ⊕ String) × aW) :=
  bnN (f_X10_needNumber F a0 p1 0 10 w) w (bnN (f_X10_needNumber F a0 p2 0 200 w) w ((f_X2_copyFrom F (shR a0 7) (shR a0 5) w).bind (fun w1 => (f_X8_run F (shR a0 7) p2 w1).bind (fun w2 => (f_X7_get F (shR (shR a0 7) 8) 0 p1 w2).bind (fun r3 => (f_X7_get F (shR (shR a0 5) 8) 0 p1 w2).bind (fun r4 => some (.inl (r3 - r4), w2)))))))
def f_X10_dearestWay (F : Nat) (a0 : Nat) (w : aW) : Option Int32 :=
  (f_X6_mostNeededWay F (shR a0 5) w).bind (fun r1 => some r1)
def f_X10_agree (F : Nat) (a0 : Nat) (w : aW) : Option (Bool × aW) :=
  (f_X3_sumByWays F (shR (shR a0 7) 9) (shR a0 5) w).bind (fun w1 => (f_X3_hasSameSums F (shR (shR a0 5) 9) (shR (shR a0 7) 9) (w1 (shR a0 5) 1) w1).bind (fun r2 => if r2 then ((f_X6_areTunesRight F (shR a0 5) w1).bind (fun r3 => if r3 then ((f_X6_areAccountsRight F (shR a0 5) w1).bind (fun r4 => if r4 then (some (true, w1)) else (some (false, w1)))) else (some (false, w1)))) else (some (false, w1))))
def f_X10_areDigitsNotes_b2_b (F : Nat) (p0 : Int32) (w : aW)  (k2 : Int32 → Option Bool) (v1 : Int32)  : Option Bool :=
  if v1 ≤ 0 then (some true) else (if (irm v1 10) ≤ 7 then (ltv (v1 / 10) (fun v1_1 => k2 v1_1)) else (some false))
def f_X10_areDigitsNotes_b2 (F : Nat) (p0 : Int32) (w : aW)  : Nat → Int32 → Option Bool :=
  lp (f_X10_areDigitsNotes_b2_b F p0 w ) (fun _ => none)
def f_X10_areDigitsNotes (F : Nat) (p0 : Int32) (w : aW) : Option Bool :=
  f_X10_areDigitsNotes_b2 F p0 w F p0
def f_X10_digitsOf_b7_b (F : Nat) (p0 : Int32) (w : aW)  (k7 : Int32 → Int32 → Option Int32) (v1 : Int32) (v2 : Int32)  : Option Int32 :=
  if v2 ≤ 0 then (some v1) else (ltv (v2 / 10) (fun v2_2 => k7 (v1 + 1) v2_2))
def f_X10_digitsOf_b7 (F : Nat) (p0 : Int32) (w : aW)  : Nat → Int32 → Int32 → Option Int32 :=
  lp (f_X10_digitsOf_b7_b F p0 w ) (fun _ _ => none)
def f_X10_digitsOf (F : Nat) (p0 : Int32) (w : aW) : Option Int32 :=
  ltv (p0 / 10) (fun v2_1 => f_X10_digitsOf_b7 F p0 w F 1 v2_1)
def f_X10_notesOfDigits_b4_b (F : Nat) (p0 : Int32) (w : aW)  (k4 : Int32 → Int32 → Option Int32) (v1 : Int32) (v2 : Int32)  : Option Int32 :=
  if v2 ≤ 0 then (some v1) else (ltv ((v1 <<< (3 &&& 31)) ||| (irm v2 10)) (fun v1_1 => ltv (v2 / 10) (fun v2_2 => k4 v1_1 v2_2)))
def f_X10_notesOfDigits_b4 (F : Nat) (p0 : Int32) (w : aW)  : Nat → Int32 → Int32 → Option Int32 :=
  lp (f_X10_notesOfDigits_b4_b F p0 w ) (fun _ _ => none)
def f_X10_notesOfDigits (F : Nat) (p0 : Int32) (w : aW) : Option Int32 :=
  f_X10_notesOfDigits_b4 F p0 w F 0 p0
def f_X10_send (F : Nat) (a0 : Nat) (p1 : Int32) (p2 : Int32) (p3 : Int32) (p4 : Int32) (w : aW) : Option ((Int32 ⊕ String) × aW) :=
  bnN (f_X10_needRoof F a0 p1 w) w (bnN (f_X10_needRoof F a0 p2 w) w (if p1 = p2 then (some (.inr "java/lang/IllegalArgumentException", w)) else (bnN (f_X10_needNumber F a0 p3 0 77777777 w) w ((f_X10_areDigitsNotes F p3 w).bind (fun r1 => if r1 then (if (w (shR a0 5) 3) < 30 then ((f_X1_keep F (shR a0 8) (shR a0 5) w).bind (fun w2 => (f_X10_digitsOf F p3 w2).bind (fun r3 => (f_X10_notesOfDigits F p3 w2).bind (fun r4 => bIW (f_X2_addTune F (shR a0 5) p1 p2 r3 r4 0 p4 w2) (fun r5 w6 => some (.inl r5, w6)))))) else (some (.inr "java/lang/IllegalStateException", w))) else (some (.inr "java/lang/IllegalArgumentException", w)))))))
def f_X10_tick (F : Nat) (a0 : Nat) (p1 : Int32) (w : aW) : Option ((Int32 ⊕ String) × aW) :=
  bnN (f_X10_needNumber F a0 p1 1 200 w) w ((f_X2_hasTimeFor F (shR a0 5) p1 w).bind (fun r1 => if r1 then ((f_X1_keep F (shR a0 8) (shR a0 5) w).bind (fun w2 => (f_X7_get F (shR (shR a0 5) 8) 0 5 w2).bind (fun r3 => (f_X8_run F (shR a0 5) p1 w2).bind (fun w4 => (f_X7_get F (shR (shR a0 5) 8) 0 5 w4).bind (fun r5 => some (.inl (r5 - r3), w4)))))) else (some (.inr "java/lang/IllegalStateException", w))))
def f_X10_give (F : Nat) (a0 : Nat) (p1 : Int32) (p2 : Int32) (w : aW) : Option ((Int32 ⊕ String) × aW) :=
  bnN (f_X10_needRoof F a0 p1 w) w (bnN (f_X10_needNumber F a0 p2 1 99 w) w ((f_X2_hasRoomFor F (shR a0 5) p1 p2 w).bind (fun r1 => if r1 then ((f_X1_keep F (shR a0 8) (shR a0 5) w).bind (fun w2 => (f_X2_takeCoins F (shR a0 5) p1 p2 w2).bind (fun w3 => (f_X7_get F (shR (shR a0 5) 4) p1 3 w3).bind (fun r4 => some (.inl r4, w3))))) else (some (.inr "java/lang/IllegalStateException", w)))))
def f_X10_cut (F : Nat) (a0 : Nat) (p1 : Int32) (p2 : Int32) (w : aW) : Option ((Int32 ⊕ String) × aW) :=
  bnN (f_X10_needRoof F a0 p1 w) w (bnN (f_X10_needRoof F a0 p2 w) w ((f_X2_wayBetween F (shR a0 5) p1 p2 w).bind (fun r1 => if r1 = (-1) then (some (.inr "java/lang/IllegalStateException", w)) else ((f_X1_keep F (shR a0 8) (shR a0 5) w).bind (fun w2 => bBW (f_X2_cutWay F (shR a0 5) p1 p2 w2) (fun r3 w4 => some (.inl (w4 (shR a0 5) 2), w4)))))))
def f_X10_set (F : Nat) (a0 : Nat) (p1 : Int32) (p2 : Int32) (w : aW) : Option ((Int32 ⊕ String) × aW) :=
  bnN (f_X10_needNumber F a0 p1 8 10 w) w ((f_X2_leastOf F p1 w).bind (fun r1 => (f_X2_mostOf F p1 w).bind (fun r2 => bnN (f_X10_needNumber F a0 p2 r1 r2 w) w ((f_X1_keep F (shR a0 8) (shR a0 5) w).bind (fun w3 => (f_X2_setting F (shR a0 5) p1 w3).bind (fun r4 => (f_X2_settle F (shR a0 5) p1 p2 w3).bind (fun w5 => some (.inl r4, w5))))))))
def f_X10_undo (F : Nat) (a0 : Nat) (w : aW) : Option ((Int32 ⊕ String) × aW) :=
  (f_X1_size F (shR a0 8) w).bind (fun r1 => if r1 = 0 then (some (.inr "java/util/NoSuchElementException", w)) else ((f_X1_giveBack F (shR a0 8) (shR a0 5) w).bind (fun w2 => (f_X1_size F (shR a0 8) w2).bind (fun r3 => some (.inl r3, w2)))))
def f_X10_writeName_b2_b (F : Nat) (a0 : Nat) (p1 : Int32)   (k2 : Int32 → aW → Option aW) (v2 : Int32) (w : aW) : Option aW :=
  if 6 ≤ v2 then (some w) else ((f_X2_letterOf F (shR a0 5) p1 v2 w).bind (fun r1 => if r1 = (-1) then (k2 (v2 + 1) w) else ((f_X0_add F (shR a0 1) r1 w).bind (fun w2 => k2 (v2 + 1) w2))))
def f_X10_writeName_b2 (F : Nat) (a0 : Nat) (p1 : Int32)   : Nat → Int32 → aW → Option aW :=
  lp (f_X10_writeName_b2_b F a0 p1  ) (fun _ _ => none)
def f_X10_writeName (F : Nat) (a0 : Nat) (p1 : Int32) (w : aW) : Option aW :=
  f_X10_writeName_b2 F a0 p1 F 0 w
def f_X10_printRoofs_b93 (F : Nat) (a0 : Nat)  (k9 : Int32 → aW → Option (Int32 × aW))  (v1 : Int32) (w : aW) : Option (Int32 × aW) :=
  (f_X2_tunesAt F (shR a0 5) v1 w).bind (fun r8 => if r8 ≤ 0 then (k9 (v1 + 1) w) else ((f_X0_add F (shR a0 1) 47 w).bind (fun w9 => (f_X0_addNumber F (shR a0 1) r8 w9).bind (fun w10 => k9 (v1 + 1) w10))))
def f_X10_printRoofs_b33 (F : Nat) (a0 : Nat)  (k9 : Int32 → aW → Option (Int32 × aW))  (v1 : Int32) (w : aW) : Option (Int32 × aW) :=
  (f_X10_writeName F a0 v1 w).bind (fun w3 => (f_X0_add F (shR a0 1) 58 w3).bind (fun w4 => (f_X7_get F (shR (shR a0 5) 4) v1 3 w4).bind (fun r5 => (f_X0_addNumber F (shR a0 1) r5 w4).bind (fun w6 => (f_X2_isBusy F (shR a0 5) v1 (w6 (shR a0 5) 0) w6).bind (fun r7 => if r7 then ((f_X0_add F (shR a0 1) 33 w6).bind (fun w11 => f_X10_printRoofs_b93 F a0 k9 v1 w11)) else (f_X10_printRoofs_b93 F a0 k9 v1 w6))))))
def f_X10_printRoofs_b9_b (F : Nat) (a0 : Nat)   (k9 : Int32 → aW → Option (Int32 × aW)) (v1 : Int32) (w : aW) : Option (Int32 × aW) :=
  if (w (shR a0 5) 1) ≤ v1 then ((f_X0_size F (shR a0 1) w).bind (fun r2 => some (r2, w))) else (if v1 ≤ 0 then (f_X10_printRoofs_b33 F a0 k9 v1 w) else ((f_X0_add F (shR a0 1) 32 w).bind (fun w12 => f_X10_printRoofs_b33 F a0 k9 v1 w12)))
def f_X10_printRoofs_b9 (F : Nat) (a0 : Nat)   : Nat → Int32 → aW → Option (Int32 × aW) :=
  lp (f_X10_printRoofs_b9_b F a0  ) (fun _ _ => none)
def f_X10_printRoofs (F : Nat) (a0 : Nat) (w : aW) : Option (Int32 × aW) :=
  (f_X0_clear F (shR a0 1) w).bind (fun w1 => f_X10_printRoofs_b9 F a0 F 0 w1)
def f_X10_printTune_b57_b (F : Nat) (a0 : Nat) (p1 : Int32)   (k57 : Int32 → Int32 → Int32 → Int32 → aW → Option ((Int32 ⊕ String) × aW)) (v2 : Int32) (v3 : Int32) (v4 : Int32) (v5 : Int32) (w : aW) : Option ((Int32 ⊕ String) × aW) :=
  if v2 ≤ v5 then ((f_X0_add F (shR a0 1) 62 w).bind (fun w5 => (f_X7_get F (shR (shR a0 5) 6) p1 1 w5).bind (fun r6 => (f_X10_writeName F a0 r6 w5).bind (fun w7 => (f_X0_size F (shR a0 1) w7).bind (fun r8 => some (.inl r8, w7)))))) else ((f_X10_noteOf F v4 v5 w).bind (fun r9 => (f_X0_addNumber F (shR a0 1) r9 w).bind (fun w10 => (f_X10_noteOf F v4 v5 w10).bind (fun r11 => (f_X10_noteOf F v3 v5 w10).bind (fun r12 => if r11 = r12 then (k57 v2 v3 v4 (v5 + 1) w10) else ((f_X0_add F (shR a0 1) 39 w10).bind (fun w13 => k57 v2 v3 v4 (v5 + 1) w13)))))))
def f_X10_printTune_b57 (F : Nat) (a0 : Nat) (p1 : Int32)   : Nat → Int32 → Int32 → Int32 → Int32 → aW → Option ((Int32 ⊕ String) × aW) :=
  lp (f_X10_printTune_b57_b F a0 p1  ) (fun _ _ _ _ _ => none)
def f_X10_printTune (F : Nat) (a0 : Nat) (p1 : Int32) (w : aW) : Option ((Int32 ⊕ String) × aW) :=
  bnN (f_X10_needTune F a0 p1 w) w ((f_X0_clear F (shR a0 1) w).bind (fun w1 => (f_X7_get F (shR (shR a0 5) 6) p1 2 w1).bind (fun r2 => (f_X7_get F (shR (shR a0 5) 6) p1 9 w1).bind (fun r3 => (f_X7_get F (shR (shR a0 5) 6) p1 10 w1).bind (fun r4 => f_X10_printTune_b57 F a0 p1 F r2 r3 r4 0 w1)))))
def f_X10_outputByte (F : Nat) (a0 : Nat) (p1 : Int32) (w : aW) : Option Int32 :=
  (f_X0_get F (shR a0 1) p1 w).bind (fun r1 => some r1)
def f_X10_saveState (F : Nat) (a0 : Nat) (w : aW) : Option (Int32 × aW) :=
  (f_X2_copyFrom F (shR a0 6) (shR a0 5) w).bind (fun w1 => ltw (aset w1 a0 9 1) (fun w2 => some (w2 (shR a0 6) 3, w2)))
def f_X10_restoreState (F : Nat) (a0 : Nat) (w : aW) : Option ((Int32 ⊕ String) × aW) :=
  if (w a0 9) = 0 then (some (.inr "java/util/NoSuchElementException", w)) else ((f_X2_copyFrom F (shR a0 5) (shR a0 6) w).bind (fun w1 => (f_X1_forget F (shR a0 8) w1).bind (fun w2 => some (.inl (w2 (shR a0 5) 3), w2))))
def f_X11_thrown (F : Nat) (a0 : Nat) (w : aW) : Option Int32 :=
  some (w a0 6)
def f_X11_in (F : Nat) (p0 : Int64) (p2 : Int64) (p4 : Int64) (w : aW) : Option Bool :=
  if (lg_cmp p0 p2) < 0 then (some false) else (if 0 < (lg_cmp p0 p4) then (some false) else (some true))
def f_X11_one (F : Nat) (p0 : Int32) (w : aW) : Option Int32 :=
  if p0 = 0 then (some 0) else (some 1)
def f_X11_may_b26 (F : Nat) (a0 : Nat) (p1 : Int32) (p2 : Int32) (p3 : Int32)    (z0 : Int32) (z1 : Nat) (w : aW) : Option (Bool × aW) :=
  ltw (aset w z1 6 z0) (fun w1 => if (w1 a0 6) = 0 then (some (true, w1)) else (some (false, w1)))
def f_X11_may (F : Nat) (a0 : Nat) (p1 : Int32) (p2 : Int32) (p3 : Int32) (w : aW) : Option (Bool × aW) :=
  if p1 = 0 then (f_X11_may_b26 F a0 p1 p2 p3 1 a0 w) else (if p2 = 0 then (f_X11_may_b26 F a0 p1 p2 p3 2 a0 w) else (if p3 = 0 then (f_X11_may_b26 F a0 p1 p2 p3 3 a0 w) else (f_X11_may_b26 F a0 p1 p2 p3 0 a0 w)))
def f_X11_r (F : Nat) (p0 : Int32) (w : aW) : Option Int32 :=
  some (25 + (13 * p0))
def f_X11_w (F : Nat) (p0 : Int32) (w : aW) : Option Int32 :=
  some (160 + (3 * p0))
def f_X11_t (F : Nat) (p0 : Int32) (w : aW) : Option Int32 :=
  some (220 + (27 * p0))
def f_X11_counts (F : Nat) (a0 : Nat) (p1 : Int32) (p2 : Int32) (w : aW) : Option aW :=
  ltv (10 + p1) (fun u1 => gd (inb u1 (shL (shR a0 0))) (gd (inb u1 (shL (shR a0 0))) (ltw (aset w (shR a0 0) u1.toNatClampNeg ((w (shR a0 0) u1.toNatClampNeg) + p2)) (fun w2 => some w2))))
def f_X11_clears_b2_b (F : Nat) (a0 : Nat)   (k2 : Int32 → aW → Option aW) (v1 : Int32) (w : aW) : Option aW :=
  if 1030 ≤ v1 then (gd (inb 4 (shL (shR a0 0))) (ltw (aset w (shR a0 0) 4.toNatClampNeg 3) (fun w1 => gd (inb 5 (shL (shR a0 0))) (ltw (aset w1 (shR a0 0) 5.toNatClampNeg 50) (fun w2 => gd (inb 6 (shL (shR a0 0))) (ltw (aset w2 (shR a0 0) 6.toNatClampNeg 1) (fun w3 => some w3))))))) else (gd (inb v1 (shL (shR a0 0))) (ltw (aset w (shR a0 0) v1.toNatClampNeg 0) (fun w4 => k2 (v1 + 1) w4)))
def f_X11_clears_b2 (F : Nat) (a0 : Nat)   : Nat → Int32 → aW → Option aW :=
  lp (f_X11_clears_b2_b F a0  ) (fun _ _ => none)
def f_X11_clears (F : Nat) (a0 : Nat) (w : aW) : Option aW :=
  f_X11_clears_b2 F a0 F 0 w
def f_X11_copies_b2_b (F : Nat) (a0 : Nat) (a1 : Nat)   (k2 : Int32 → aW → Option aW) (v2 : Int32) (w : aW) : Option aW :=
  if 1030 ≤ v2 then (some w) else (gd (inb v2 (shL (shR a0 0))) (gd (inb v2 (shL a1)) (ltw (aset w a1 v2.toNatClampNeg (w (shR a0 0) v2.toNatClampNeg)) (fun w1 => k2 (v2 + 1) w1))))
def f_X11_copies_b2 (F : Nat) (a0 : Nat) (a1 : Nat)   : Nat → Int32 → aW → Option aW :=
  lp (f_X11_copies_b2_b F a0 a1  ) (fun _ _ => none)
def f_X11_copies (F : Nat) (a0 : Nat) (a1 : Nat) (w : aW) : Option aW :=
  f_X11_copies_b2 F a0 a1 F 0 w
def f_X11_gives_b2_b (F : Nat) (a0 : Nat) (a1 : Nat) (p2 : Int32)   (k2 : Int32 → aW → Option (Int32 × aW)) (v3 : Int32) (w : aW) : Option (Int32 × aW) :=
  if 1030 ≤ v3 then (some (p2, w)) else (gd (inb v3 (shL a1)) (gd (inb v3 (shL (shR a0 0))) (ltw (aset w (shR a0 0) v3.toNatClampNeg (w a1 v3.toNatClampNeg)) (fun w1 => k2 (v3 + 1) w1))))
def f_X11_gives_b2 (F : Nat) (a0 : Nat) (a1 : Nat) (p2 : Int32)   : Nat → Int32 → aW → Option (Int32 × aW) :=
  lp (f_X11_gives_b2_b F a0 a1 p2  ) (fun _ _ => none)
def f_X11_gives (F : Nat) (a0 : Nat) (a1 : Nat) (p2 : Int32) (w : aW) : Option (Int32 × aW) :=
  f_X11_gives_b2 F a0 a1 p2 F 0 w
def f_X11_remembers_b54_b (F : Nat) (a0 : Nat)   (k54 : Int32 → aW → Option aW) (v1 : Int32) (w : aW) : Option aW :=
  if 1030 ≤ v1 then (ltw (aset w a0 4 ((w a0 4) + 1)) (fun w1 => some w1)) else (gd (inb v1 (shL (shR a0 0))) (gd (inb ((1030 * (w a0 4)) + v1) (shL (shR a0 3))) (ltw (aset w (shR a0 3) ((1030 * (w a0 4)) + v1).toNatClampNeg (w (shR a0 0) v1.toNatClampNeg)) (fun w2 => k54 (v1 + 1) w2))))
def f_X11_remembers_b54 (F : Nat) (a0 : Nat)   : Nat → Int32 → aW → Option aW :=
  lp (f_X11_remembers_b54_b F a0  ) (fun _ _ => none)
def f_X11_remembers_b13_b (F : Nat) (a0 : Nat)   (k13 : Int32 → aW → Option aW) (v1 : Int32) (w : aW) : Option aW :=
  if 8240 ≤ v1 then (ltw (aset w a0 4 ((w a0 4) - 1)) (fun w3 => f_X11_remembers_b54 F a0 F 0 w3)) else (gd (inb v1 (shL (shR a0 3))) (gd (inb (v1 - 1030) (shL (shR a0 3))) (ltw (aset w (shR a0 3) (v1 - 1030).toNatClampNeg (w (shR a0 3) v1.toNatClampNeg)) (fun w4 => k13 (v1 + 1) w4))))
def f_X11_remembers_b13 (F : Nat) (a0 : Nat)   : Nat → Int32 → aW → Option aW :=
  lp (f_X11_remembers_b13_b F a0  ) (fun _ _ => none)
def f_X11_remembers (F : Nat) (a0 : Nat) (w : aW) : Option aW :=
  if (w a0 4) = 8 then (f_X11_remembers_b13 F a0 F 1030 w) else (f_X11_remembers_b54 F a0 F 0 w)
def f_X11_named_b36_b (F : Nat) (a0 : Nat) (w : aW) (k2 : Int32 → Option Int32) (k36 : Int32 → Int32 → Int32 → Option Int32) (v1 : Int32) (v2 : Int32) (v3 : Int32)  : Option Int32 :=
  if (w a0 8) ≤ v3 then (if v2 = 0 then (k2 (v1 + 1)) else (some v1)) else (if v2 = 0 then (if v2 = 0 then (k2 (v1 + 1)) else (some v1)) else ((f_X11_r F v1 w).bind (fun r2 => gd (inb ((r2 + 1) + v3) (shL (shR a0 0))) (gd (inb v3 (shL (shR a0 7))) (if (w (shR a0 0) ((r2 + 1) + v3).toNatClampNeg) = (w (shR a0 7) v3.toNatClampNeg) then (k36 v1 1 (v3 + 1)) else (k36 v1 0 (v3 + 1)))))))
def f_X11_named_b36 (F : Nat) (a0 : Nat) (w : aW) (k2 : Int32 → Option Int32) : Nat → Int32 → Int32 → Int32 → Option Int32 :=
  lp (f_X11_named_b36_b F a0 w k2) (fun _ _ _ => none)
def f_X11_named_b2_b (F : Nat) (a0 : Nat) (w : aW)  (k2 : Int32 → Option Int32) (v1 : Int32)  : Option Int32 :=
  gd (inb 0 (shL (shR a0 0))) (if (w (shR a0 0) 0.toNatClampNeg) ≤ v1 then (some (-1)) else ((f_X11_r F v1 w).bind (fun r1 => gd (inb r1 (shL (shR a0 0))) (if (w (shR a0 0) r1.toNatClampNeg) = (w a0 8) then (f_X11_named_b36 F a0 w k2 F v1 1 0) else (f_X11_named_b36 F a0 w k2 F v1 0 0)))))
def f_X11_named_b2 (F : Nat) (a0 : Nat) (w : aW)  : Nat → Int32 → Option Int32 :=
  lp (f_X11_named_b2_b F a0 w ) (fun _ => none)
def f_X11_named (F : Nat) (a0 : Nat) (w : aW) : Option Int32 :=
  f_X11_named_b2 F a0 w F 0
def f_X11_newRoof_b25_b (F : Nat) (a0 : Nat) (p1 : Int32) (p2 : Int32) (p3 : Int32) (p4 : Int32)   (k25 : Int32 → Int32 → aW → Option aW) (v5 : Int32) (v6 : Int32) (w : aW) : Option aW :=
  if (w a0 8) ≤ v6 then (gd (inb (v5 + 7) (shL (shR a0 0))) (ltw (aset w (shR a0 0) (v5 + 7).toNatClampNeg p1) (fun w3 => gd (inb (v5 + 8) (shL (shR a0 0))) (ltw (aset w3 (shR a0 0) (v5 + 8).toNatClampNeg p2) (fun w4 => gd (inb (v5 + 9) (shL (shR a0 0))) (ltw (aset w4 (shR a0 0) (v5 + 9).toNatClampNeg p3) (fun w5 => gd (inb (v5 + 10) (shL (shR a0 0))) (ltw (aset w5 (shR a0 0) (v5 + 10).toNatClampNeg p4) (fun w6 => gd (inb 7 (shL (shR a0 0))) (gd (inb 7 (shL (shR a0 0))) (ltw (aset w6 (shR a0 0) 7.toNatClampNeg ((w6 (shR a0 0) 7.toNatClampNeg) + p4)) (fun w7 => gd (inb 0 (shL (shR a0 0))) (gd (inb 0 (shL (shR a0 0))) (ltw (aset w7 (shR a0 0) 0.toNatClampNeg ((w7 (shR a0 0) 0.toNatClampNeg) + 1)) (fun w8 => some w8))))))))))))))) else (gd (inb v6 (shL (shR a0 7))) (gd (inb ((v5 + 1) + v6) (shL (shR a0 0))) (ltw (aset w (shR a0 0) ((v5 + 1) + v6).toNatClampNeg (w (shR a0 7) v6.toNatClampNeg)) (fun w9 => k25 v5 (v6 + 1) w9))))
def f_X11_newRoof_b25 (F : Nat) (a0 : Nat) (p1 : Int32) (p2 : Int32) (p3 : Int32) (p4 : Int32)   : Nat → Int32 → Int32 → aW → Option aW :=
  lp (f_X11_newRoof_b25_b F a0 p1 p2 p3 p4  ) (fun _ _ _ => none)
def f_X11_newRoof (F : Nat) (a0 : Nat) (p1 : Int32) (p2 : Int32) (p3 : Int32) (p4 : Int32) (w : aW) : Option aW :=
  gd (inb 0 (shL (shR a0 0))) ((f_X11_r F (w (shR a0 0) 0.toNatClampNeg) w).bind (fun r1 => gd (inb r1 (shL (shR a0 0))) (ltw (aset w (shR a0 0) r1.toNatClampNeg (w a0 8)) (fun w2 => f_X11_newRoof_b25 F a0 p1 p2 p3 p4 F r1 0 w2))))
def f_X11_newWay (F : Nat) (a0 : Nat) (p1 : Int32) (p2 : Int32) (p3 : Int32) (w : aW) : Option aW :=
  gd (inb 1 (shL (shR a0 0))) ((f_X11_w F (w (shR a0 0) 1.toNatClampNeg) w).bind (fun r1 => gd (inb r1 (shL (shR a0 0))) (ltw (aset w (shR a0 0) r1.toNatClampNeg p1) (fun w2 => gd (inb 1 (shL (shR a0 0))) ((f_X11_w F (w2 (shR a0 0) 1.toNatClampNeg) w2).bind (fun r3 => gd (inb (r3 + 1) (shL (shR a0 0))) (ltw (aset w2 (shR a0 0) (r3 + 1).toNatClampNeg p2) (fun w4 => gd (inb 1 (shL (shR a0 0))) ((f_X11_w F (w4 (shR a0 0) 1.toNatClampNeg) w4).bind (fun r5 => gd (inb (r5 + 2) (shL (shR a0 0))) (ltw (aset w4 (shR a0 0) (r5 + 2).toNatClampNeg p3) (fun w6 => gd (inb 1 (shL (shR a0 0))) (gd (inb 1 (shL (shR a0 0))) (ltw (aset w6 (shR a0 0) 1.toNatClampNeg ((w6 (shR a0 0) 1.toNatClampNeg) + 1)) (fun w7 => some w7)))))))))))))))
def f_X11_ends (F : Nat) (a0 : Nat) (p1 : Int32) (p2 : Int32) (w : aW) : Option Bool :=
  (f_X11_w F p1 w).bind (fun r1 => gd (inb r1 (shL (shR a0 0))) (if (w (shR a0 0) r1.toNatClampNeg) = p2 then (some true) else ((f_X11_w F p1 w).bind (fun r2 => gd (inb (r2 + 1) (shL (shR a0 0))) (if (w (shR a0 0) (r2 + 1).toNatClampNeg) = p2 then (some true) else (some false))))))
def f_X11_otherEnd (F : Nat) (a0 : Nat) (p1 : Int32) (p2 : Int32) (w : aW) : Option Int32 :=
  (f_X11_w F p1 w).bind (fun r1 => gd (inb r1 (shL (shR a0 0))) ((f_X11_w F p1 w).bind (fun r2 => gd (inb (r2 + 1) (shL (shR a0 0))) (some (((w (shR a0 0) r1.toNatClampNeg) + (w (shR a0 0) (r2 + 1).toNatClampNeg)) - p2)))))
def f_X11_wayBetween_b2_b (F : Nat) (a0 : Nat) (p1 : Int32) (p2 : Int32) (w : aW)  (k2 : Int32 → Option Int32) (v3 : Int32)  : Option Int32 :=
  gd (inb 1 (shL (shR a0 0))) (if (w (shR a0 0) 1.toNatClampNeg) ≤ v3 then (some (-1)) else (if p1 = p2 then (k2 (v3 + 1)) else ((f_X11_ends F a0 v3 p1 w).bind (fun r1 => if r1 then ((f_X11_ends F a0 v3 p2 w).bind (fun r2 => if r2 then (some v3) else (k2 (v3 + 1)))) else (k2 (v3 + 1))))))
def f_X11_wayBetween_b2 (F : Nat) (a0 : Nat) (p1 : Int32) (p2 : Int32) (w : aW)  : Nat → Int32 → Option Int32 :=
  lp (f_X11_wayBetween_b2_b F a0 p1 p2 w ) (fun _ => none)
def f_X11_wayBetween (F : Nat) (a0 : Nat) (p1 : Int32) (p2 : Int32) (w : aW) : Option Int32 :=
  f_X11_wayBetween_b2 F a0 p1 p2 w F 0
def f_X11_isNearer (F : Nat) (a0 : Nat) (p1 : Int32) (p2 : Int32) (w : aW) : Option (Bool × aW) :=
  (f_X11_otherEnd F a0 p1 p2 w).bind (fun r1 => gd (inb r1 (shL (shR a0 9))) (ltv (w (shR a0 9) r1.toNatClampNeg) (fun v3_2 => (f_X11_w F p1 w).bind (fun r3 => gd (inb (r3 + 2) (shL (shR a0 0))) (ltv (v3_2 + (w (shR a0 0) (r3 + 2).toNatClampNeg)) (fun v4_4 => if v3_2 = (-1) then (some (false, w)) else (gd (inb p2 (shL (shR a0 9))) (if (w (shR a0 9) p2.toNatClampNeg) = (-1) then (gd (inb p2 (shL (shR a0 9))) (ltw (aset w (shR a0 9) p2.toNatClampNeg v4_4) (fun w5 => some (true, w5)))) else (gd (inb p2 (shL (shR a0 9))) (if v4_4 < (w (shR a0 9) p2.toNatClampNeg) then (gd (inb p2 (shL (shR a0 9))) (ltw (aset w (shR a0 9) p2.toNatClampNeg v4_4) (fun w6 => some (true, w6)))) else (some (false, w))))))))))))
def f_X11_reckons_b41_b (F : Nat) (a0 : Nat) (p1 : Int32) (p2 : Int32)  (k32 : Int32 → aW → Option aW) (k41 : Int32 → Int32 → aW → Option aW) (v3 : Int32) (v4 : Int32) (w : aW) : Option aW :=
  gd (inb 1 (shL (shR a0 0))) (if (w (shR a0 0) 1.toNatClampNeg) ≤ v4 then (k32 v3 w) else (if v4 = p2 then (k41 v3 (v4 + 1) w) else ((f_X11_w F v4 w).bind (fun r1 => gd (inb r1 (shL (shR a0 0))) (bBW (f_X11_isNearer F a0 v4 (w (shR a0 0) r1.toNatClampNeg) w) (fun r2 w3 => ltv (v3 ||| (bi r2)) (fun v3_4 => (f_X11_w F v4 w3).bind (fun r5 => gd (inb (r5 + 1) (shL (shR a0 0))) (bBW (f_X11_isNearer F a0 v4 (w3 (shR a0 0) (r5 + 1).toNatClampNeg) w3) (fun r6 w7 => ltv (v3_4 ||| (bi r6)) (fun v3_8 => k41 v3_8 (v4 + 1) w7)))))))))))
def f_X11_reckons_b41 (F : Nat) (a0 : Nat) (p1 : Int32) (p2 : Int32)  (k32 : Int32 → aW → Option aW) : Nat → Int32 → Int32 → aW → Option aW :=
  lp (f_X11_reckons_b41_b F a0 p1 p2  k32) (fun _ _ _ => none)
def f_X11_reckons_b32_b (F : Nat) (a0 : Nat) (p1 : Int32) (p2 : Int32)   (k32 : Int32 → aW → Option aW) (v3 : Int32) (w : aW) : Option aW :=
  if v3 = 0 then (some w) else (f_X11_reckons_b41 F a0 p1 p2 k32 F 0 0 w)
def f_X11_reckons_b32 (F : Nat) (a0 : Nat) (p1 : Int32) (p2 : Int32)   : Nat → Int32 → aW → Option aW :=
  lp (f_X11_reckons_b32_b F a0 p1 p2  ) (fun _ _ => none)
def f_X11_reckons_b2_b (F : Nat) (a0 : Nat) (p1 : Int32) (p2 : Int32)   (k2 : Int32 → aW → Option aW) (v3 : Int32) (w : aW) : Option aW :=
  if 10 ≤ v3 then (f_X11_reckons_b32 F a0 p1 p2 F 1 w) else (if v3 = p1 then (gd (inb v3 (shL (shR a0 9))) (ltw (aset w (shR a0 9) v3.toNatClampNeg 0) (fun w10 => k2 (v3 + 1) w10))) else (gd (inb v3 (shL (shR a0 9))) (ltw (aset w (shR a0 9) v3.toNatClampNeg (-1)) (fun w9 => k2 (v3 + 1) w9))))
def f_X11_reckons_b2 (F : Nat) (a0 : Nat) (p1 : Int32) (p2 : Int32)   : Nat → Int32 → aW → Option aW :=
  lp (f_X11_reckons_b2_b F a0 p1 p2  ) (fun _ _ => none)
def f_X11_reckons (F : Nat) (a0 : Nat) (p1 : Int32) (p2 : Int32) (w : aW) : Option aW :=
  f_X11_reckons_b2 F a0 p1 p2 F 0 w
def f_X11_sumTo (F : Nat) (a0 : Nat) (p1 : Int32) (p2 : Int32) (w : aW) : Option (Int32 × aW) :=
  (f_X11_reckons F a0 p2 (-1) w).bind (fun w1 => gd (inb p1 (shL (shR a0 9))) (some (w1 (shR a0 9) p1.toNatClampNeg, w1)))
def f_X11_nextTo_b100 (F : Nat) (a0 : Nat) (p1 : Int32) (p2 : Int32)  (k22 : Int32 → Int32 → aW → Option (Int32 × aW))  (v3 : Int32) (v4 : Int32) (v5 : Int32) (z0 : Int32) (w : aW) : Option (Int32 × aW) :=
  if z0 = 0 then (k22 v3 (v4 + 1) w) else (if v3 = (-1) then (k22 v5 (v4 + 1) w) else (if v3 ≤ v5 then (k22 v3 (v4 + 1) w) else (k22 v5 (v4 + 1) w)))
def f_X11_nextTo_b99 (F : Nat) (a0 : Nat) (p1 : Int32) (p2 : Int32)  (k22 : Int32 → Int32 → aW → Option (Int32 × aW))  (v3 : Int32) (v4 : Int32) (v5 : Int32) (w : aW) : Option (Int32 × aW) :=
  f_X11_nextTo_b100 F a0 p1 p2 k22 v3 v4 v5 0 w
def f_X11_nextTo_b22_b (F : Nat) (a0 : Nat) (p1 : Int32) (p2 : Int32)   (k22 : Int32 → Int32 → aW → Option (Int32 × aW)) (v3 : Int32) (v4 : Int32) (w : aW) : Option (Int32 × aW) :=
  gd (inb 1 (shL (shR a0 0))) (if (w (shR a0 0) 1.toNatClampNeg) ≤ v4 then (some (v3, w)) else ((f_X11_ends F a0 v4 p1 w).bind (fun r3 => if r3 then ((f_X11_otherEnd F a0 v4 p1 w).bind (fun r4 => gd (inb r4 (shL (shR a0 9))) (if (w (shR a0 9) r4.toNatClampNeg) = (-1) then (f_X11_nextTo_b99 F a0 p1 p2 k22 v3 v4 r4 w) else (gd (inb r4 (shL (shR a0 9))) ((f_X11_w F v4 w).bind (fun r5 => gd (inb (r5 + 2) (shL (shR a0 0))) (gd (inb p1 (shL (shR a0 9))) (if ((w (shR a0 9) r4.toNatClampNeg) + (w (shR a0 0) (r5 + 2).toNatClampNeg)) = (w (shR a0 9) p1.toNatClampNeg) then (f_X11_nextTo_b100 F a0 p1 p2 k22 v3 v4 r4 1 w) else (f_X11_nextTo_b99 F a0 p1 p2 k22 v3 v4 r4 w))))))))) else (k22 v3 (v4 + 1) w))))
def f_X11_nextTo_b22 (F : Nat) (a0 : Nat) (p1 : Int32) (p2 : Int32)   : Nat → Int32 → Int32 → aW → Option (Int32 × aW) :=
  lp (f_X11_nextTo_b22_b F a0 p1 p2  ) (fun _ _ _ => none)
def f_X11_nextTo (F : Nat) (a0 : Nat) (p1 : Int32) (p2 : Int32) (w : aW) : Option (Int32 × aW) :=
  if p1 = p2 then (some ((-1), w)) else (bIW (f_X11_sumTo F a0 p1 p2 w) (fun r1 w2 => if r1 = (-1) then (some ((-1), w2)) else (f_X11_nextTo_b22 F a0 p1 p2 F (-1) 0 w2)))
def f_X11_isBusy (F : Nat) (a0 : Nat) (p1 : Int32) (p2 : Int32) (w : aW) : Option Bool :=
  (f_X11_r F p1 w).bind (fun r1 => gd (inb (r1 + 11) (shL (shR a0 0))) (if (w (shR a0 0) (r1 + 11).toNatClampNeg) ≤ p2 then (some false) else (some true)))
def f_X11_barsOf (F : Nat) (a0 : Nat) (p1 : Int32) (w : aW) : Option Int32 :=
  some ((p1 + 3) / 4)
def f_X11_bars (F : Nat) (a0 : Nat) (p1 : Int32) (w : aW) : Option Int32 :=
  (f_X11_t F p1 w).bind (fun r1 => gd (inb (r1 + 2) (shL (shR a0 0))) ((f_X11_barsOf F a0 (w (shR a0 0) (r1 + 2).toNatClampNeg) w).bind (fun r2 => some r2)))
def f_X11_waitsAt (F : Nat) (a0 : Nat) (p1 : Int32) (p2 : Int32) (w : aW) : Option Bool :=
  (f_X11_t F p1 w).bind (fun r1 => gd (inb (r1 + 3) (shL (shR a0 0))) (if (w (shR a0 0) (r1 + 3).toNatClampNeg) = 0 then ((f_X11_t F p1 w).bind (fun r2 => gd (inb (r2 + 4) (shL (shR a0 0))) (if (w (shR a0 0) (r2 + 4).toNatClampNeg) = p2 then (some true) else (some false)))) else (some false)))
def f_X11_unlike_b4_b (F : Nat) (a0 : Nat) (p1 : Int32) (w : aW)  (k4 : Int32 → Int32 → Option Int32) (v2 : Int32) (v3 : Int32)  : Option Int32 :=
  (f_X11_t F p1 w).bind (fun r1 => gd (inb (r1 + 2) (shL (shR a0 0))) (if (w (shR a0 0) (r1 + 2).toNatClampNeg) ≤ v3 then (some v2) else ((f_X11_t F p1 w).bind (fun r2 => gd (inb ((r2 + 11) + v3) (shL (shR a0 0))) ((f_X11_t F p1 w).bind (fun r3 => gd (inb ((r3 + 19) + v3) (shL (shR a0 0))) (if (w (shR a0 0) ((r2 + 11) + v3).toNatClampNeg) = (w (shR a0 0) ((r3 + 19) + v3).toNatClampNeg) then ((f_X11_one F 0 w).bind (fun r4 => ltv (v2 + r4) (fun v2_5 => k4 v2_5 (v3 + 1)))) else ((f_X11_one F 1 w).bind (fun r6 => ltv (v2 + r6) (fun v2_7 => k4 v2_7 (v3 + 1)))))))))))
def f_X11_unlike_b4 (F : Nat) (a0 : Nat) (p1 : Int32) (w : aW)  : Nat → Int32 → Int32 → Option Int32 :=
  lp (f_X11_unlike_b4_b F a0 p1 w ) (fun _ _ => none)
def f_X11_unlike (F : Nat) (a0 : Nat) (p1 : Int32) (w : aW) : Option Int32 :=
  f_X11_unlike_b4 F a0 p1 w F 0 0
def f_X11_hearsAsSent_b2_b (F : Nat) (a0 : Nat) (p1 : Int32)   (k2 : Int32 → aW → Option aW) (v2 : Int32) (w : aW) : Option aW :=
  if 8 ≤ v2 then (some w) else ((f_X11_t F p1 w).bind (fun r1 => (f_X11_t F p1 w).bind (fun r2 => gd (inb ((r2 + 11) + v2) (shL (shR a0 0))) (gd (inb ((r1 + 19) + v2) (shL (shR a0 0))) (ltw (aset w (shR a0 0) ((r1 + 19) + v2).toNatClampNeg (w (shR a0 0) ((r2 + 11) + v2).toNatClampNeg)) (fun w3 => k2 (v2 + 1) w3))))))
def f_X11_hearsAsSent_b2 (F : Nat) (a0 : Nat) (p1 : Int32)   : Nat → Int32 → aW → Option aW :=
  lp (f_X11_hearsAsSent_b2_b F a0 p1  ) (fun _ _ => none)
def f_X11_hearsAsSent (F : Nat) (a0 : Nat) (p1 : Int32) (w : aW) : Option aW :=
  f_X11_hearsAsSent_b2 F a0 p1 F 0 w
def f_X11_newTune_b127_b (F : Nat) (a0 : Nat) (p1 : Int32) (p2 : Int32) (p3 : Int32) (p4 : Int32)   (k127 : Int32 → Int32 → Int32 → aW → Option (Int32 × aW)) (v5 : Int32) (v6 : Int32) (v7 : Int32) (w : aW) : Option (Int32 × aW) :=
  if (w a0 11) ≤ v7 then ((f_X11_hearsAsSent F a0 v5 w).bind (fun w12 => gd (inb 2 (shL (shR a0 0))) (gd (inb 2 (shL (shR a0 0))) (ltw (aset w12 (shR a0 0) 2.toNatClampNeg ((w12 (shR a0 0) 2.toNatClampNeg) + 1)) (fun w13 => (f_X11_counts F a0 1 1 w13).bind (fun w14 => (f_X11_one F p3 w14).bind (fun r15 => (f_X11_counts F a0 2 r15 w14).bind (fun w16 => some (v5, w16))))))))) else (gd (inb v7 (shL (shR a0 10))) (gd (inb ((v6 + 11) + v7) (shL (shR a0 0))) (ltw (aset w (shR a0 0) ((v6 + 11) + v7).toNatClampNeg (w (shR a0 10) v7.toNatClampNeg)) (fun w17 => k127 v5 v6 (v7 + 1) w17))))
def f_X11_newTune_b127 (F : Nat) (a0 : Nat) (p1 : Int32) (p2 : Int32) (p3 : Int32) (p4 : Int32)   : Nat → Int32 → Int32 → Int32 → aW → Option (Int32 × aW) :=
  lp (f_X11_newTune_b127_b F a0 p1 p2 p3 p4  ) (fun _ _ _ _ => none)
def f_X11_newTune_b18_b (F : Nat) (a0 : Nat) (p1 : Int32) (p2 : Int32) (p3 : Int32) (p4 : Int32)   (k18 : Int32 → Int32 → Int32 → aW → Option (Int32 × aW)) (v5 : Int32) (v6 : Int32) (v7 : Int32) (w : aW) : Option (Int32 × aW) :=
  if 27 ≤ v7 then (gd (inb (v6 + 0) (shL (shR a0 0))) (ltw (aset w (shR a0 0) (v6 + 0).toNatClampNeg p1) (fun w3 => gd (inb (v6 + 1) (shL (shR a0 0))) (ltw (aset w3 (shR a0 0) (v6 + 1).toNatClampNeg p2) (fun w4 => gd (inb (v6 + 2) (shL (shR a0 0))) (ltw (aset w4 (shR a0 0) (v6 + 2).toNatClampNeg (w4 a0 11)) (fun w5 => gd (inb (v6 + 4) (shL (shR a0 0))) (ltw (aset w5 (shR a0 0) (v6 + 4).toNatClampNeg p1) (fun w6 => gd (inb (v6 + 5) (shL (shR a0 0))) (ltw (aset w6 (shR a0 0) (v6 + 5).toNatClampNeg (-1)) (fun w7 => (f_X11_one F p3 w7).bind (fun r8 => gd (inb (v6 + 6) (shL (shR a0 0))) (ltw (aset w7 (shR a0 0) (v6 + 6).toNatClampNeg r8) (fun w9 => (f_X11_one F p4 w9).bind (fun r10 => gd (inb (v6 + 7) (shL (shR a0 0))) (ltw (aset w9 (shR a0 0) (v6 + 7).toNatClampNeg r10) (fun w11 => f_X11_newTune_b127 F a0 p1 p2 p3 p4 F v5 v6 0 w11))))))))))))))))) else (gd (inb (v6 + v7) (shL (shR a0 0))) (ltw (aset w (shR a0 0) (v6 + v7).toNatClampNeg 0) (fun w18 => k18 v5 v6 (v7 + 1) w18)))
def f_X11_newTune_b18 (F : Nat) (a0 : Nat) (p1 : Int32) (p2 : Int32) (p3 : Int32) (p4 : Int32)   : Nat → Int32 → Int32 → Int32 → aW → Option (Int32 × aW) :=
  lp (f_X11_newTune_b18_b F a0 p1 p2 p3 p4  ) (fun _ _ _ _ => none)
def f_X11_newTune (F : Nat) (a0 : Nat) (p1 : Int32) (p2 : Int32) (p3 : Int32) (p4 : Int32) (w : aW) : Option (Int32 × aW) :=
  gd (inb 2 (shL (shR a0 0))) (ltv (w (shR a0 0) 2.toNatClampNeg) (fun v5_1 => (f_X11_t F v5_1 w).bind (fun r2 => f_X11_newTune_b18 F a0 p1 p2 p3 p4 F v5_1 r2 0 w)))
def f_X11_wrongBy (F : Nat) (a0 : Nat) (p1 : Int32) (p2 : Int32) (p3 : Int32) (p4 : Int32) (w : aW) : Option Int32 :=
  (f_X11_r F p3 w).bind (fun r1 => gd (inb (r1 + 8) (shL (shR a0 0))) (some (imin p4 ((imax 0 ((p1 * p2) - (3 * (w (shR a0 0) (r1 + 8).toNatClampNeg)))) / 10))))
def f_X11_blurs_b47_b (F : Nat) (a0 : Nat) (p1 : Int32)   (k47 : Int32 → Int32 → Int32 → Int32 → aW → Option aW) (v2 : Int32) (v3 : Int32) (v4 : Int32) (v5 : Int32) (w : aW) : Option aW :=
  if v4 ≤ v5 then ((f_X11_counts F a0 4 v4 w).bind (fun w4 => some w4)) else (gd (¬ v3 = 0) (ltv ((v2 + 19) + (irm (p1 + v5) v3)) (fun v6_6 => gd (inb v6_6 (shL (shR a0 0))) (gd (inb v6_6 (shL (shR a0 0))) (ltw (aset w (shR a0 0) v6_6.toNatClampNeg (irm ((w (shR a0 0) v6_6.toNatClampNeg) + 1) 8)) (fun w7 => k47 v2 v3 v4 (v5 + 1) w7))))))
def f_X11_blurs_b47 (F : Nat) (a0 : Nat) (p1 : Int32)   : Nat → Int32 → Int32 → Int32 → Int32 → aW → Option aW :=
  lp (f_X11_blurs_b47_b F a0 p1  ) (fun _ _ _ _ _ => none)
def f_X11_blurs (F : Nat) (a0 : Nat) (p1 : Int32) (w : aW) : Option aW :=
  (f_X11_t F p1 w).bind (fun r1 => gd (inb (r1 + 2) (shL (shR a0 0))) (ltv (w (shR a0 0) (r1 + 2).toNatClampNeg) (fun v3_2 => gd (inb 4 (shL (shR a0 0))) (gd (inb (r1 + 10) (shL (shR a0 0))) (gd (inb (r1 + 4) (shL (shR a0 0))) ((f_X11_wrongBy F a0 (w (shR a0 0) 4.toNatClampNeg) (w (shR a0 0) (r1 + 10).toNatClampNeg) (w (shR a0 0) (r1 + 4).toNatClampNeg) v3_2 w).bind (fun r3 => f_X11_blurs_b47 F a0 p1 F r1 v3_2 r3 0 w)))))))
