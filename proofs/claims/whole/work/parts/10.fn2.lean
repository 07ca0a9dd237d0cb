def f_X11_replies_b51_b (F : Nat) (a0 : Nat) (p1 : Int32)   (k51 : Int32 → Int32 → aW → Option aW) (v2 : Int32) (v3 : Int32) (w : aW) : Option aW :=
  if (w a0 11) ≤ v3 then (gd (inb (v2 + 1) (shL (shR a0 0))) (gd (inb (v2 + 0) (shL (shR a0 0))) (bIW (f_X11_newTune F a0 (w (shR a0 0) (v2 + 1).toNatClampNeg) (w (shR a0 0) (v2 + 0).toNatClampNeg) 1 0 w) (fun r4 w5 => some w5)))) else (gd (inb ((((v2 + 11) + (w a0 11)) - 1) - v3) (shL (shR a0 0))) (gd (inb v3 (shL (shR a0 10))) (ltw (aset w (shR a0 10) v3.toNatClampNeg (w (shR a0 0) ((((v2 + 11) + (w a0 11)) - 1) - v3).toNatClampNeg)) (fun w6 => k51 v2 (v3 + 1) w6))))
def f_X11_replies_b51 (F : Nat) (a0 : Nat) (p1 : Int32)   : Nat → Int32 → Int32 → aW → Option aW :=
  lp (f_X11_replies_b51_b F a0 p1  ) (fun _ _ _ => none)
def f_X11_replies (F : Nat) (a0 : Nat) (p1 : Int32) (w : aW) : Option aW :=
  (f_X11_t F p1 w).bind (fun r1 => gd (inb (r1 + 7) (shL (shR a0 0))) (if (w (shR a0 0) (r1 + 7).toNatClampNeg) = 0 then (some w) else ((f_X11_unlike F a0 p1 w).bind (fun r2 => if 0 < r2 then (some w) else (gd (inb 2 (shL (shR a0 0))) (if (w (shR a0 0) 2.toNatClampNeg) = 30 then (some w) else (gd (inb (r1 + 2) (shL (shR a0 0))) (ltw (aset w a0 11 (w (shR a0 0) (r1 + 2).toNatClampNeg)) (fun w3 => f_X11_replies_b51 F a0 p1 F r1 0 w3)))))))))
def f_X11_comes_b117 (F : Nat) (a0 : Nat) (p1 : Int32)    (v2 : Int32) (w : aW) : Option aW :=
  gd (inb (v2 + 3) (shL (shR a0 0))) (ltw (aset w (shR a0 0) (v2 + 3).toNatClampNeg 2) (fun w6 => (f_X11_counts F a0 5 1 w6).bind (fun w7 => (f_X11_unlike F a0 p1 w7).bind (fun r8 => if r8 = 0 then ((f_X11_one F 1 w7).bind (fun r12 => (f_X11_counts F a0 6 r12 w7).bind (fun w13 => (f_X11_replies F a0 p1 w13).bind (fun w14 => some w14)))) else ((f_X11_one F 0 w7).bind (fun r9 => (f_X11_counts F a0 6 r9 w7).bind (fun w10 => (f_X11_replies F a0 p1 w10).bind (fun w11 => some w11))))))))
def f_X11_comes (F : Nat) (a0 : Nat) (p1 : Int32) (w : aW) : Option aW :=
  (f_X11_t F p1 w).bind (fun r1 => (f_X11_blurs F a0 p1 w).bind (fun w2 => gd (inb (r1 + 5) (shL (shR a0 0))) (ltw (aset w2 (shR a0 0) (r1 + 5).toNatClampNeg (-1)) (fun w3 => gd (inb (r1 + 3) (shL (shR a0 0))) (ltw (aset w3 (shR a0 0) (r1 + 3).toNatClampNeg 0) (fun w4 => gd (inb (r1 + 4) (shL (shR a0 0))) (gd (inb (r1 + 1) (shL (shR a0 0))) (if (w4 (shR a0 0) (r1 + 4).toNatClampNeg) = (w4 (shR a0 0) (r1 + 1).toNatClampNeg) then ((f_X11_unlike F a0 p1 w4).bind (fun r5 => if r5 ≤ 0 then (f_X11_comes_b117 F a0 p1 r1 w4) else (gd (inb (r1 + 8) (shL (shR a0 0))) (gd (inb 6 (shL (shR a0 0))) (if (w4 (shR a0 0) 6.toNatClampNeg) ≤ (w4 (shR a0 0) (r1 + 8).toNatClampNeg) then (f_X11_comes_b117 F a0 p1 r1 w4) else (ltv (r1 + 8) (fun u15 => gd (inb u15 (shL (shR a0 0))) (gd (inb u15 (shL (shR a0 0))) (ltw (aset w4 (shR a0 0) u15.toNatClampNeg ((w4 (shR a0 0) u15.toNatClampNeg) + 1)) (fun w16 => (f_X11_hearsAsSent F a0 p1 w16).bind (fun w17 => gd (inb (r1 + 0) (shL (shR a0 0))) (gd (inb (r1 + 4) (shL (shR a0 0))) (ltw (aset w17 (shR a0 0) (r1 + 4).toNatClampNeg (w17 (shR a0 0) (r1 + 0).toNatClampNeg)) (fun w18 => (f_X11_counts F a0 7 1 w18).bind (fun w19 => some w19))))))))))))))) else (some w4)))))))))
def f_X11_feeAt (F : Nat) (a0 : Nat) (p1 : Int32) (p2 : Int32) (w : aW) : Option Int32 :=
  (f_X11_r F p2 w).bind (fun r1 => gd (inb (r1 + 9) (shL (shR a0 0))) ((f_X11_bars F a0 p1 w).bind (fun r2 => some ((w (shR a0 0) (r1 + 9).toNatClampNeg) * r2))))
def f_X11_purseFor (F : Nat) (a0 : Nat) (p1 : Int32) (w : aW) : Option Int32 :=
  (f_X11_t F p1 w).bind (fun r1 => gd (inb (r1 + 0) (shL (shR a0 0))) ((f_X11_r F (w (shR a0 0) (r1 + 0).toNatClampNeg) w).bind (fun r2 => gd (inb (r2 + 10) (shL (shR a0 0))) (some (w (shR a0 0) (r2 + 10).toNatClampNeg)))))
def f_X11_firstAt_b83 (F : Nat) (a0 : Nat) (p1 : Int32)  (k4 : Int32 → Int32 → aW → Option (Int32 × aW))  (v2 : Int32) (v3 : Int32) (z0 : Int32) (w : aW) : Option (Int32 × aW) :=
  if z0 = 0 then (k4 v2 (v3 + 1) w) else (k4 v3 (v3 + 1) w)
def f_X11_firstAt_b82 (F : Nat) (a0 : Nat) (p1 : Int32)  (k4 : Int32 → Int32 → aW → Option (Int32 × aW))  (v2 : Int32) (v3 : Int32) (w : aW) : Option (Int32 × aW) :=
  f_X11_firstAt_b83 F a0 p1 k4 v2 v3 0 w
def f_X11_firstAt_b44 (F : Nat) (a0 : Nat) (p1 : Int32)  (k4 : Int32 → Int32 → aW → Option (Int32 × aW))  (v2 : Int32) (v3 : Int32) (w : aW) : Option (Int32 × aW) :=
  (f_X11_purseFor F a0 v3 w).bind (fun r2 => (f_X11_feeAt F a0 v3 p1 w).bind (fun r3 => if r2 < r3 then (f_X11_firstAt_b82 F a0 p1 k4 v2 v3 w) else ((f_X11_t F v3 w).bind (fun r4 => gd (inb (r4 + 1) (shL (shR a0 0))) (bIW (f_X11_nextTo F a0 p1 (w (shR a0 0) (r4 + 1).toNatClampNeg) w) (fun r5 w6 => if r5 = (-1) then (f_X11_firstAt_b82 F a0 p1 k4 v2 v3 w6) else (f_X11_firstAt_b83 F a0 p1 k4 v2 v3 1 w6)))))))
def f_X11_firstAt_b4_b (F : Nat) (a0 : Nat) (p1 : Int32)   (k4 : Int32 → Int32 → aW → Option (Int32 × aW)) (v2 : Int32) (v3 : Int32) (w : aW) : Option (Int32 × aW) :=
  gd (inb 2 (shL (shR a0 0))) (if (w (shR a0 0) 2.toNatClampNeg) ≤ v3 then (some (v2, w)) else ((f_X11_waitsAt F a0 v3 p1 w).bind (fun r1 => if r1 then (if v2 = (-1) then (f_X11_firstAt_b44 F a0 p1 k4 v2 v3 w) else ((f_X11_bars F a0 v3 w).bind (fun r7 => (f_X11_bars F a0 v2 w).bind (fun r8 => if r8 < r7 then (f_X11_firstAt_b44 F a0 p1 k4 v2 v3 w) else (k4 v2 (v3 + 1) w))))) else (k4 v2 (v3 + 1) w))))
def f_X11_firstAt_b4 (F : Nat) (a0 : Nat) (p1 : Int32)   : Nat → Int32 → Int32 → aW → Option (Int32 × aW) :=
  lp (f_X11_firstAt_b4_b F a0 p1  ) (fun _ _ _ => none)
def f_X11_firstAt (F : Nat) (a0 : Nat) (p1 : Int32) (w : aW) : Option (Int32 × aW) :=
  f_X11_firstAt_b4 F a0 p1 F (-1) 0 w
def f_X11_whistles (F : Nat) (a0 : Nat) (p1 : Int32) (p2 : Int32) (w : aW) : Option aW :=
  (f_X11_t F p1 w).bind (fun r1 => gd (inb (r1 + 1) (shL (shR a0 0))) (bIW (f_X11_nextTo F a0 p2 (w (shR a0 0) (r1 + 1).toNatClampNeg) w) (fun r2 w3 => (f_X11_feeAt F a0 p1 p2 w3).bind (fun r4 => gd (inb (r1 + 0) (shL (shR a0 0))) ((f_X11_r F (w3 (shR a0 0) (r1 + 0).toNatClampNeg) w3).bind (fun r5 => ltv (r5 + 10) (fun u6 => gd (inb u6 (shL (shR a0 0))) (gd (inb u6 (shL (shR a0 0))) (ltw (aset w3 (shR a0 0) u6.toNatClampNeg ((w3 (shR a0 0) u6.toNatClampNeg) - r4)) (fun w7 => (f_X11_r F p2 w7).bind (fun r8 => ltv (r8 + 10) (fun u9 => gd (inb u9 (shL (shR a0 0))) (gd (inb u9 (shL (shR a0 0))) (ltw (aset w7 (shR a0 0) u9.toNatClampNeg ((w7 (shR a0 0) u9.toNatClampNeg) + r4)) (fun w10 => (f_X11_r F p2 w10).bind (fun r11 => gd (inb (r11 + 7) (shL (shR a0 0))) (ltv (w10 (shR a0 0) (r11 + 7).toNatClampNeg) (fun v6_12 => (f_X11_r F p2 w10).bind (fun r13 => gd (inb 3 (shL (shR a0 0))) (gd (inb (r1 + 2) (shL (shR a0 0))) (gd (¬ v6_12 = 0) (gd (inb (r13 + 11) (shL (shR a0 0))) (ltw (aset w10 (shR a0 0) (r13 + 11).toNatClampNeg ((w10 (shR a0 0) 3.toNatClampNeg) + ((((w10 (shR a0 0) (r1 + 2).toNatClampNeg) + v6_12) - 1) / v6_12))) (fun w15 => (f_X11_r F p2 w15).bind (fun r16 => ltv (r16 + 12) (fun u17 => gd (inb u17 (shL (shR a0 0))) (gd (inb u17 (shL (shR a0 0))) (ltw (aset w15 (shR a0 0) u17.toNatClampNeg ((w15 (shR a0 0) u17.toNatClampNeg) + 1)) (fun w18 => (f_X11_wayBetween F a0 p2 r2 w18).bind (fun r19 => (f_X11_w F r19 w18).bind (fun r20 => gd (inb (r20 + 2) (shL (shR a0 0))) (gd (inb (r1 + 10) (shL (shR a0 0))) (ltw (aset w18 (shR a0 0) (r1 + 10).toNatClampNeg (w18 (shR a0 0) (r20 + 2).toNatClampNeg)) (fun w21 => (f_X11_r F p2 w21).bind (fun r22 => gd (inb (r22 + 11) (shL (shR a0 0))) (gd (inb (r1 + 10) (shL (shR a0 0))) (gd (inb (r1 + 5) (shL (shR a0 0))) (ltw (aset w21 (shR a0 0) (r1 + 5).toNatClampNeg ((w21 (shR a0 0) (r22 + 11).toNatClampNeg) + (w21 (shR a0 0) (r1 + 10).toNatClampNeg))) (fun w23 => gd (inb (r1 + 4) (shL (shR a0 0))) (ltw (aset w23 (shR a0 0) (r1 + 4).toNatClampNeg r2) (fun w24 => gd (inb (r1 + 3) (shL (shR a0 0))) (ltw (aset w24 (shR a0 0) (r1 + 3).toNatClampNeg 1) (fun w25 => ltv (r1 + 9) (fun u26 => gd (inb u26 (shL (shR a0 0))) (gd (inb u26 (shL (shR a0 0))) (ltw (aset w25 (shR a0 0) u26.toNatClampNeg ((w25 (shR a0 0) u26.toNatClampNeg) + 1)) (fun w27 => (f_X11_counts F a0 3 1 w27).bind (fun w28 => (f_X11_counts F a0 9 r4 w28).bind (fun w29 => some w29)))))))))))))))))))))))))))))))))))))))))))))))))
def f_X11_arrives_b9_b (F : Nat) (a0 : Nat)   (k9 : Int32 → Int32 → aW → Option aW) (v1 : Int32) (v2 : Int32) (w : aW) : Option aW :=
  if v1 ≤ v2 then (some w) else ((f_X11_t F v2 w).bind (fun r2 => gd (inb (r2 + 3) (shL (shR a0 0))) (if (w (shR a0 0) (r2 + 3).toNatClampNeg) = 1 then ((f_X11_t F v2 w).bind (fun r3 => gd (inb (r3 + 5) (shL (shR a0 0))) (gd (inb 3 (shL (shR a0 0))) (if (w (shR a0 0) (r3 + 5).toNatClampNeg) = (w (shR a0 0) 3.toNatClampNeg) then ((f_X11_comes F a0 v2 w).bind (fun w4 => k9 v1 (v2 + 1) w4)) else (k9 v1 (v2 + 1) w))))) else (k9 v1 (v2 + 1) w))))
def f_X11_arrives_b9 (F : Nat) (a0 : Nat)   : Nat → Int32 → Int32 → aW → Option aW :=
  lp (f_X11_arrives_b9_b F a0  ) (fun _ _ _ => none)
def f_X11_arrives (F : Nat) (a0 : Nat) (w : aW) : Option aW :=
  gd (inb 2 (shL (shR a0 0))) (ltv (w (shR a0 0) 2.toNatClampNeg) (fun v1_1 => f_X11_arrives_b9 F a0 F v1_1 0 w))
def f_X11_loses_b2_b (F : Nat) (a0 : Nat)   (k2 : Int32 → aW → Option aW) (v1 : Int32) (w : aW) : Option aW :=
  gd (inb 2 (shL (shR a0 0))) (if (w (shR a0 0) 2.toNatClampNeg) ≤ v1 then (some w) else ((f_X11_t F v1 w).bind (fun r1 => gd (inb (r1 + 3) (shL (shR a0 0))) (if (w (shR a0 0) (r1 + 3).toNatClampNeg) = 0 then (gd (inb (r1 + 4) (shL (shR a0 0))) (gd (inb (r1 + 1) (shL (shR a0 0))) (bIW (f_X11_sumTo F a0 (w (shR a0 0) (r1 + 4).toNatClampNeg) (w (shR a0 0) (r1 + 1).toNatClampNeg) w) (fun r2 w3 => if r2 = (-1) then (gd (inb (r1 + 3) (shL (shR a0 0))) (ltw (aset w3 (shR a0 0) (r1 + 3).toNatClampNeg 3) (fun w4 => (f_X11_counts F a0 8 1 w4).bind (fun w5 => k2 (v1 + 1) w5)))) else (k2 (v1 + 1) w3))))) else (k2 (v1 + 1) w)))))
def f_X11_loses_b2 (F : Nat) (a0 : Nat)   : Nat → Int32 → aW → Option aW :=
  lp (f_X11_loses_b2_b F a0  ) (fun _ _ => none)
def f_X11_loses (F : Nat) (a0 : Nat) (w : aW) : Option aW :=
  f_X11_loses_b2 F a0 F 0 w
def f_X11_ticks_b73 (F : Nat) (a0 : Nat)  (k22 : Int32 → aW → Option aW)  (v1 : Int32) (z0 : Int32) (w : aW) : Option aW :=
  if z0 = (-1) then (k22 (v1 + 1) w) else ((f_X11_whistles F a0 z0 v1 w).bind (fun w9 => k22 (v1 + 1) w9))
def f_X11_ticks_b22_b (F : Nat) (a0 : Nat)   (k22 : Int32 → aW → Option aW) (v1 : Int32) (w : aW) : Option aW :=
  gd (inb 0 (shL (shR a0 0))) (if (w (shR a0 0) 0.toNatClampNeg) ≤ v1 then ((f_X11_loses F a0 w).bind (fun w4 => some w4)) else (gd (inb 3 (shL (shR a0 0))) (gd (inb 5 (shL (shR a0 0))) (if (w (shR a0 0) 5.toNatClampNeg) ≤ (irm (w (shR a0 0) 3.toNatClampNeg) 60) then ((f_X11_loses F a0 w).bind (fun w5 => some w5)) else (gd (inb 3 (shL (shR a0 0))) ((f_X11_isBusy F a0 v1 (w (shR a0 0) 3.toNatClampNeg) w).bind (fun r6 => if r6 then (f_X11_ticks_b73 F a0 k22 v1 (-1) w) else (bIW (f_X11_firstAt F a0 v1 w) (fun r7 w8 => f_X11_ticks_b73 F a0 k22 v1 r7 w8)))))))))
def f_X11_ticks_b22 (F : Nat) (a0 : Nat)   : Nat → Int32 → aW → Option aW :=
  lp (f_X11_ticks_b22_b F a0  ) (fun _ _ => none)
def f_X11_ticks (F : Nat) (a0 : Nat) (w : aW) : Option aW :=
  gd (inb 3 (shL (shR a0 0))) (gd (inb 3 (shL (shR a0 0))) (ltw (aset w (shR a0 0) 3.toNatClampNeg ((w (shR a0 0) 3.toNatClampNeg) + 1)) (fun w1 => (f_X11_counts F a0 0 1 w1).bind (fun w2 => (f_X11_arrives F a0 w2).bind (fun w3 => f_X11_ticks_b22 F a0 F 0 w3)))))
def f_X11_goes_b10_b (F : Nat) (a0 : Nat) (p1 : Int32)   (k10 : Int32 → Int32 → aW → Option (Int32 × aW)) (v2 : Int32) (v3 : Int32) (w : aW) : Option (Int32 × aW) :=
  if p1 ≤ v3 then (gd (inb 15 (shL (shR a0 0))) (some ((w (shR a0 0) 15.toNatClampNeg) - v2, w))) else ((f_X11_ticks F a0 w).bind (fun w2 => k10 v2 (v3 + 1) w2))
def f_X11_goes_b10 (F : Nat) (a0 : Nat) (p1 : Int32)   : Nat → Int32 → Int32 → aW → Option (Int32 × aW) :=
  lp (f_X11_goes_b10_b F a0 p1  ) (fun _ _ _ => none)
def f_X11_goes (F : Nat) (a0 : Nat) (p1 : Int32) (w : aW) : Option (Int32 × aW) :=
  gd (inb 15 (shL (shR a0 0))) (ltv (w (shR a0 0) 15.toNatClampNeg) (fun v2_1 => f_X11_goes_b10 F a0 p1 F v2_1 0 w))
def f_X11_givesCoins (F : Nat) (a0 : Nat) (p1 : Int32) (p2 : Int32) (w : aW) : Option (Int32 × aW) :=
  (f_X11_r F p1 w).bind (fun r1 => ltv (r1 + 10) (fun u2 => gd (inb u2 (shL (shR a0 0))) (gd (inb u2 (shL (shR a0 0))) (ltw (aset w (shR a0 0) u2.toNatClampNeg ((w (shR a0 0) u2.toNatClampNeg) + p2)) (fun w3 => (f_X11_counts F a0 10 p2 w3).bind (fun w4 => (f_X11_r F p1 w4).bind (fun r5 => gd (inb (r5 + 10) (shL (shR a0 0))) (some (w4 (shR a0 0) (r5 + 10).toNatClampNeg, w4)))))))))
def f_X11_cuts_b5_b (F : Nat) (a0 : Nat) (p1 : Int32)   (k5 : Int32 → aW → Option (Int32 × aW)) (v2 : Int32) (w : aW) : Option (Int32 × aW) :=
  gd (inb 1 (shL (shR a0 0))) ((f_X11_w F ((w (shR a0 0) 1.toNatClampNeg) - 1) w).bind (fun r2 => if r2 ≤ v2 then (gd (inb 1 (shL (shR a0 0))) (gd (inb 1 (shL (shR a0 0))) (ltw (aset w (shR a0 0) 1.toNatClampNeg ((w (shR a0 0) 1.toNatClampNeg) - 1)) (fun w3 => gd (inb 1 (shL (shR a0 0))) (some (w3 (shR a0 0) 1.toNatClampNeg, w3)))))) else (gd (inb (v2 + 3) (shL (shR a0 0))) (gd (inb v2 (shL (shR a0 0))) (ltw (aset w (shR a0 0) v2.toNatClampNeg (w (shR a0 0) (v2 + 3).toNatClampNeg)) (fun w4 => k5 (v2 + 1) w4))))))
def f_X11_cuts_b5 (F : Nat) (a0 : Nat) (p1 : Int32)   : Nat → Int32 → aW → Option (Int32 × aW) :=
  lp (f_X11_cuts_b5_b F a0 p1  ) (fun _ _ => none)
def f_X11_cuts (F : Nat) (a0 : Nat) (p1 : Int32) (w : aW) : Option (Int32 × aW) :=
  (f_X11_w F p1 w).bind (fun r1 => f_X11_cuts_b5 F a0 p1 F r1 w)
def f_X11_lowOf (F : Nat) (p0 : Int32) (w : aW) : Option Int32 :=
  if p0 = 5 then (some 1) else (some 0)
def f_X11_highOf (F : Nat) (p0 : Int32) (w : aW) : Option Int32 :=
  if p0 = 5 then (some 60) else (if p0 = 4 then (some 9) else (some 3))
def f_X11_sets (F : Nat) (a0 : Nat) (p1 : Int32) (p2 : Int32) (w : aW) : Option (Int32 × aW) :=
  gd (inb p1 (shL (shR a0 0))) (ltv (w (shR a0 0) p1.toNatClampNeg) (fun v3_1 => gd (inb p1 (shL (shR a0 0))) (ltw (aset w (shR a0 0) p1.toNatClampNeg p2) (fun w2 => some (v3_1, w2)))))
def f_X11_four_b2_b (F : Nat) (a0 : Nat) (p1 : Int32)   (k2 : Int32 → aW → Option aW) (v2 : Int32) (w : aW) : Option aW :=
  if v2 < 0 then (some w) else (gd (inb (w a0 13) (shL (shR a0 12))) (ltw (aset w (shR a0 12) (w a0 13).toNatClampNeg (vp_nar .byte (i2b (p1 >>> ((8 * v2) &&& 31))))) (fun w1 => ltw (aset w1 a0 13 ((w1 a0 13) + 1)) (fun w2 => k2 (v2 + (-1)) w2))))
def f_X11_four_b2 (F : Nat) (a0 : Nat) (p1 : Int32)   : Nat → Int32 → aW → Option aW :=
  lp (f_X11_four_b2_b F a0 p1  ) (fun _ _ => none)
def f_X11_four (F : Nat) (a0 : Nat) (p1 : Int32) (w : aW) : Option aW :=
  f_X11_four_b2 F a0 p1 F 3 w
def f_X11_appendInput (F : Nat) (a0 : Nat) (p1 : Int32) (p2 : Int32) (p3 : Int32) (p4 : Int32) (p5 : Int32) (w : aW) : Option (Int32 × aW) :=
  ltw (aset w a0 6 0) (fun w1 => if (w1 a0 13) ≤ 780 then ((f_X11_four F a0 p1 w1).bind (fun w2 => (f_X11_four F a0 p2 w2).bind (fun w3 => (f_X11_four F a0 p3 w3).bind (fun w4 => (f_X11_four F a0 p4 w4).bind (fun w5 => (f_X11_four F a0 p5 w5).bind (fun w6 => some (w6 a0 13, w6))))))) else (some ((-1), w1)))
def f_X11_truncateInput (F : Nat) (a0 : Nat) (p1 : Int32) (w : aW) : Option (Bool × aW) :=
  ltw (aset w a0 6 0) (fun w1 => (f_X11_in F p1.toInt64 0 ((w1 a0 13).toInt64) w1).bind (fun r2 => if r2 then (ltw (aset w1 a0 13 p1) (fun w3 => some (true, w3))) else (some (false, w1))))
def f_X11_errorCode (F : Nat) (a0 : Nat) (w : aW) : Option (Int32 × aW) :=
  ltw (aset w a0 6 0) (fun w1 => some (w1 a0 14, w1))
def f_X11_errorOffset (F : Nat) (a0 : Nat) (w : aW) : Option (Int32 × aW) :=
  ltw (aset w a0 6 0) (fun w1 => some (w1 a0 15, w1))
def f_X11_isLetter (F : Nat) (a0 : Nat) (p1 : Int32) (w : aW) : Option Bool :=
  if (w a0 13) ≤ p1 then (some false) else (gd (inb p1 (shL (shR a0 12))) ((f_X11_in F ((w (shR a0 12) p1.toNatClampNeg).toInt64) 97 122 w).bind (fun r1 => if r1 then (some true) else (some false))))
def f_X11_isDigit (F : Nat) (a0 : Nat) (p1 : Int32) (w : aW) : Option Bool :=
  if (w a0 13) ≤ p1 then (some false) else (gd (inb p1 (shL (shR a0 12))) ((f_X11_in F ((w (shR a0 12) p1.toNatClampNeg).toInt64) 48 57 w).bind (fun r1 => if r1 then (some true) else (some false))))
def f_X11_goesOn_b285 (F : Nat) (a0 : Nat)    (z0 : Int32) (z1 : Nat) (w : aW) : Option aW :=
  ltw (aset w z1 18 z0) (fun w5 => ltw (aset w5 a0 17 ((w5 a0 17) + 1)) (fun w6 => some w6))
def f_X11_goesOn_b224 (F : Nat) (a0 : Nat)  (k172 : aW → Option aW)  (z0 : Int32) (z1 : Nat) (w : aW) : Option aW :=
  ltw (aset w z1 19 z0) (fun w11 => ltw (aset w11 a0 17 ((w11 a0 17) + 1)) (fun w12 => k172 w12))
def f_X11_goesOn_b172_b (F : Nat) (a0 : Nat)   (k172 : aW → Option aW)  (w : aW) : Option aW :=
  (f_X11_isDigit F a0 (w a0 17) w).bind (fun r8 => if r8 then (if 3 ≤ ((w a0 17) - (w a0 16)) then (f_X11_goesOn_b224 F a0 k172 (w a0 19) a0 w) else (gd (inb (w a0 17) (shL (shR a0 12))) (f_X11_goesOn_b224 F a0 k172 (((10 * (w a0 19)) + (w (shR a0 12) (w a0 17).toNatClampNeg)) - 48) a0 w))) else (if ((w a0 17) - (w a0 16)) ≤ 3 then (ltw (aset w a0 18 2) (fun w9 => some w9)) else (ltw (aset w a0 18 4) (fun w10 => some w10))))
def f_X11_goesOn_b172 (F : Nat) (a0 : Nat)   : Nat → aW → Option aW :=
  lp (f_X11_goesOn_b172_b F a0  ) (fun  _ => none)
def f_X11_goesOn_b106_b (F : Nat) (a0 : Nat)   (k106 : aW → Option aW)  (w : aW) : Option aW :=
  (f_X11_isLetter F a0 (w a0 17) w).bind (fun r13 => if r13 then (ltw (aset w a0 17 ((w a0 17) + 1)) (fun w16 => k106 w16)) else (if ((w a0 17) - (w a0 16)) ≤ 8 then (ltw (aset w a0 18 1) (fun w14 => some w14)) else (ltw (aset w a0 18 4) (fun w15 => some w15))))
def f_X11_goesOn_b106 (F : Nat) (a0 : Nat)   : Nat → aW → Option aW :=
  lp (f_X11_goesOn_b106_b F a0  ) (fun  _ => none)
def f_X11_goesOn_b68 (F : Nat) (a0 : Nat)     (w : aW) : Option aW :=
  ltw (aset w a0 17 (w a0 16)) (fun w2 => if (w2 a0 16) = (w2 a0 13) then (ltw (aset w2 a0 18 0) (fun w17 => some w17)) else ((f_X11_isLetter F a0 (w2 a0 16) w2).bind (fun r3 => if r3 then (f_X11_goesOn_b106 F a0 F w2) else ((f_X11_isDigit F a0 (w2 a0 16) w2).bind (fun r4 => if r4 then (ltw (aset w2 a0 19 0) (fun w7 => f_X11_goesOn_b172 F a0 F w7)) else (gd (inb (w2 a0 16) (shL (shR a0 12))) (if (w2 (shR a0 12) (w2 a0 16).toNatClampNeg) = 59 then (f_X11_goesOn_b285 F a0 3 a0 w2) else (f_X11_goesOn_b285 F a0 4 a0 w2))))))))
def f_X11_goesOn_b55 (F : Nat) (a0 : Nat)  (k16 : aW → Option aW)   (w : aW) : Option aW :=
  ltw (aset w a0 16 ((w a0 16) + 1)) (fun w18 => k16 w18)
def f_X11_goesOn_b16_b (F : Nat) (a0 : Nat)   (k16 : aW → Option aW)  (w : aW) : Option aW :=
  if (w a0 13) ≤ (w a0 16) then (f_X11_goesOn_b68 F a0 w) else (gd (inb (w a0 16) (shL (shR a0 12))) (if (w (shR a0 12) (w a0 16).toNatClampNeg) = 32 then (f_X11_goesOn_b55 F a0 k16 w) else (gd (inb (w a0 16) (shL (shR a0 12))) (if (w (shR a0 12) (w a0 16).toNatClampNeg) = 10 then (f_X11_goesOn_b55 F a0 k16 w) else (f_X11_goesOn_b68 F a0 w)))))
def f_X11_goesOn_b16 (F : Nat) (a0 : Nat)   : Nat → aW → Option aW :=
  lp (f_X11_goesOn_b16_b F a0  ) (fun  _ => none)
def f_X11_goesOn (F : Nat) (a0 : Nat) (w : aW) : Option aW :=
  if (w a0 20) ≤ 0 then (ltw (aset w a0 16 (w a0 17)) (fun w1 => f_X11_goesOn_b16 F a0 F w1)) else (some w)
def f_X11_need (F : Nat) (a0 : Nat) (p1 : Int32) (p2 : Int32) (w : aW) : Option aW :=
  if (w a0 20) = 0 then (if p1 = 0 then (ltw (aset w a0 20 p2) (fun w1 => ltw (aset w1 a0 21 (w1 a0 16)) (fun w2 => some w2))) else (some w)) else (some w)
def f_X11_starts (F : Nat) (a0 : Nat) (w : aW) : Option aW :=
  ltw (aset w a0 20 0) (fun w1 => ltw (aset w1 a0 17 0) (fun w2 => (f_X11_goesOn F a0 w2).bind (fun w3 => some w3)))
def f_X11_ending (F : Nat) (a0 : Nat) (w : aW) : Option aW :=
  ltw (aset w a0 14 (w a0 20)) (fun w1 => if (w1 a0 20) = 0 then (ltw (aset w1 a0 15 (-1)) (fun w4 => ltw (aset w4 a0 13 0) (fun w5 => some w5))) else (ltw (aset w1 a0 15 (w1 a0 21)) (fun w2 => ltw (aset w2 a0 13 0) (fun w3 => some w3))))
def f_X11_isWord_b35_b (F : Nat) (a0 : Nat) (s1 : Nat) (w : aW)  (k35 : Int32 → Option Bool) (v2 : Int32)  : Option Bool :=
  (f_strlen s1).bind (fun r2 => if r2 ≤ v2 then (some true) else (gd (inb ((w a0 16) + v2) (shL (shR a0 12))) ((f_strchr s1 v2).bind (fun r3 => if (w (shR a0 12) ((w a0 16) + v2).toNatClampNeg) = r3 then (k35 (v2 + 1)) else (some false)))))
def f_X11_isWord_b35 (F : Nat) (a0 : Nat) (s1 : Nat) (w : aW)  : Nat → Int32 → Option Bool :=
  lp (f_X11_isWord_b35_b F a0 s1 w ) (fun _ => none)
def f_X11_isWord (F : Nat) (a0 : Nat) (s1 : Nat) (w : aW) : Option Bool :=
  if 0 < (w a0 20) then (some false) else (if (w a0 18) = 1 then ((f_strlen s1).bind (fun r1 => if ((w a0 17) - (w a0 16)) = r1 then (f_X11_isWord_b35 F a0 s1 w F 0) else (some false))) else (some false))
def f_X11_numberHere_b14 (F : Nat) (a0 : Nat) (p1 : Int32) (p2 : Int32)    (z0 : Int32) (z1 : Nat) (w : aW) : Option (Int32 × aW) :=
  (f_X11_need F z1 z0 1 w).bind (fun w1 => (f_X11_in F ((w1 a0 19).toInt64) p1.toInt64 p2.toInt64 w1).bind (fun r2 => (f_X11_need F a0 (bi r2) 2 w1).bind (fun w3 => if (w3 a0 20) = 0 then (some (w3 a0 19, w3)) else (some (p1, w3)))))
def f_X11_numberHere (F : Nat) (a0 : Nat) (p1 : Int32) (p2 : Int32) (w : aW) : Option (Int32 × aW) :=
  if (w a0 18) = 2 then (f_X11_numberHere_b14 F a0 p1 p2 1 a0 w) else (f_X11_numberHere_b14 F a0 p1 p2 0 a0 w)
def f_X11_number (F : Nat) (a0 : Nat) (p1 : Int32) (p2 : Int32) (w : aW) : Option (Int32 × aW) :=
  bIW (f_X11_numberHere F a0 p1 p2 w) (fun r1 w2 => (f_X11_goesOn F a0 w2).bind (fun w3 => some (r1, w3)))
def f_X11_semicolon (F : Nat) (a0 : Nat) (w : aW) : Option aW :=
  if (w a0 18) = 3 then ((f_X11_need F a0 1 1 w).bind (fun w3 => (f_X11_goesOn F a0 w3).bind (fun w4 => some w4))) else ((f_X11_need F a0 0 1 w).bind (fun w1 => (f_X11_goesOn F a0 w1).bind (fun w2 => some w2)))
def f_X11_spells_b58_b (F : Nat) (a0 : Nat)   (k58 : Int32 → aW → Option aW) (v1 : Int32) (w : aW) : Option aW :=
  if (w a0 8) ≤ v1 then (some w) else (gd (inb ((w a0 16) + v1) (shL (shR a0 12))) (gd (inb v1 (shL (shR a0 7))) (ltw (aset w (shR a0 7) v1.toNatClampNeg (w (shR a0 12) ((w a0 16) + v1).toNatClampNeg)) (fun w3 => k58 (v1 + 1) w3))))
def f_X11_spells_b58 (F : Nat) (a0 : Nat)   : Nat → Int32 → aW → Option aW :=
  lp (f_X11_spells_b58_b F a0  ) (fun _ _ => none)
def f_X11_spells_b28 (F : Nat) (a0 : Nat)    (z0 : Int32) (z1 : Nat) (w : aW) : Option aW :=
  (f_X11_need F z1 z0 1 w).bind (fun w1 => if (w1 a0 20) = 0 then (ltw (aset w1 a0 8 ((w1 a0 17) - (w1 a0 16))) (fun w4 => f_X11_spells_b58 F a0 F 0 w4)) else (ltw (aset w1 a0 8 0) (fun w2 => f_X11_spells_b58 F a0 F 0 w2)))
def f_X11_spells_b27 (F : Nat) (a0 : Nat)    (z0 : Nat) (w : aW) : Option aW :=
  f_X11_spells_b28 F a0 0 z0 w
def f_X11_spells (F : Nat) (a0 : Nat) (w : aW) : Option aW :=
  if (w a0 18) = 1 then (if 6 < ((w a0 17) - (w a0 16)) then (f_X11_spells_b27 F a0 a0 w) else (f_X11_spells_b28 F a0 1 a0 w)) else (f_X11_spells_b27 F a0 a0 w)
def f_X11_roofHere_b38 (F : Nat) (a0 : Nat) (p1 : Int32)    (v2 : Int32) (z0 : Nat) (w : aW) : Option (Int32 × aW) :=
  (f_X11_need F z0 1 3 w).bind (fun w2 => some (imax 0 v2, w2))
def f_X11_roofHere_b19 (F : Nat) (a0 : Nat) (p1 : Int32)    (z0 : Int32) (w : aW) : Option (Int32 × aW) :=
  if 0 < (w a0 20) then (f_X11_roofHere_b38 F a0 p1 z0 a0 w) else (if z0 = (-1) then ((f_X11_need F a0 0 3 w).bind (fun w3 => some (imax 0 z0, w3))) else (if z0 = p1 then ((f_X11_need F a0 0 3 w).bind (fun w4 => some (imax 0 z0, w4))) else (f_X11_roofHere_b38 F a0 p1 z0 a0 w)))
def f_X11_roofHere (F : Nat) (a0 : Nat) (p1 : Int32) (w : aW) : Option (Int32 × aW) :=
  (f_X11_spells F a0 w).bind (fun w1 => if (w1 a0 20) = 0 then ((f_X11_named F a0 w1).bind (fun r5 => f_X11_roofHere_b19 F a0 p1 r5 w1)) else (f_X11_roofHere_b19 F a0 p1 0 w1))
def f_X11_roofOfText (F : Nat) (a0 : Nat) (p1 : Int32) (w : aW) : Option (Int32 × aW) :=
  bIW (f_X11_roofHere F a0 p1 w) (fun r1 w2 => (f_X11_goesOn F a0 w2).bind (fun w3 => some (r1, w3)))
def f_X11_settingHere (F : Nat) (a0 : Nat) (w : aW) : Option Int32 :=
  (f_X11_isWord F a0 23 w).bind (fun r1 => if r1 then (some 4) else ((f_X11_isWord F a0 24 w).bind (fun r2 => if r2 then (some 5) else ((f_X11_isWord F a0 25 w).bind (fun r3 => if r3 then (some 6) else (some (-1)))))))
def f_X11_readsRoof_b50 (F : Nat) (a0 : Nat)    (z0 : Int32) (z1 : Nat) (w : aW) : Option aW :=
  (f_X11_need F z1 z0 3 w).bind (fun w4 => (f_X11_goesOn F a0 w4).bind (fun w5 => bIW (f_X11_number F a0 1 8 w5) (fun r6 w7 => bIW (f_X11_number F a0 0 9 w7) (fun r8 w9 => bIW (f_X11_number F a0 0 9 w9) (fun r10 w11 => bIW (f_X11_number F a0 0 999 w11) (fun r12 w13 => if (w13 a0 20) = 0 then ((f_X11_newRoof F a0 r6 r8 r10 r12 w13).bind (fun w14 => some w14)) else (some w13)))))))
def f_X11_readsRoof_b45 (F : Nat) (a0 : Nat)    (z0 : Nat) (w : aW) : Option aW :=
  f_X11_readsRoof_b50 F a0 1 z0 w
def f_X11_readsRoof_b17 (F : Nat) (a0 : Nat)    (z0 : Int32) (z1 : Nat) (w : aW) : Option aW :=
  (f_X11_need F z1 z0 5 w).bind (fun w1 => (f_X11_goesOn F a0 w1).bind (fun w2 => (f_X11_spells F a0 w2).bind (fun w3 => if 0 < (w3 a0 20) then (f_X11_readsRoof_b45 F a0 a0 w3) else ((f_X11_named F a0 w3).bind (fun r15 => if r15 = (-1) then (f_X11_readsRoof_b45 F a0 a0 w3) else (f_X11_readsRoof_b50 F a0 0 a0 w3))))))
def f_X11_readsRoof (F : Nat) (a0 : Nat) (w : aW) : Option aW :=
  gd (inb 0 (shL (shR a0 0))) (if 10 ≤ (w (shR a0 0) 0.toNatClampNeg) then (f_X11_readsRoof_b17 F a0 0 a0 w) else (f_X11_readsRoof_b17 F a0 1 a0 w))
def f_X11_readsWay_b60 (F : Nat) (a0 : Nat)    (v1 : Int32) (v2 : Int32) (z0 : Int32) (z1 : Nat) (w : aW) : Option aW :=
  (f_X11_need F z1 z0 4 w).bind (fun w7 => (f_X11_goesOn F a0 w7).bind (fun w8 => bIW (f_X11_number F a0 1 9 w8) (fun r9 w10 => if (w10 a0 20) = 0 then ((f_X11_newWay F a0 v1 v2 r9 w10).bind (fun w11 => some w11)) else (some w10))))
def f_X11_readsWay_b55 (F : Nat) (a0 : Nat)    (v1 : Int32) (v2 : Int32) (z0 : Nat) (w : aW) : Option aW :=
  f_X11_readsWay_b60 F a0 v1 v2 1 z0 w
def f_X11_readsWay_b17 (F : Nat) (a0 : Nat)    (z0 : Int32) (z1 : Nat) (w : aW) : Option aW :=
  (f_X11_need F z1 z0 5 w).bind (fun w1 => (f_X11_goesOn F a0 w1).bind (fun w2 => bIW (f_X11_roofOfText F a0 (-1) w2) (fun r3 w4 => bIW (f_X11_roofHere F a0 r3 w4) (fun r5 w6 => if 0 < (w6 a0 20) then (f_X11_readsWay_b55 F a0 r3 r5 a0 w6) else ((f_X11_wayBetween F a0 r3 r5 w6).bind (fun r12 => if r12 = (-1) then (f_X11_readsWay_b55 F a0 r3 r5 a0 w6) else (f_X11_readsWay_b60 F a0 r3 r5 0 a0 w6)))))))
def f_X11_readsWay (F : Nat) (a0 : Nat) (w : aW) : Option aW :=
  gd (inb 1 (shL (shR a0 0))) (if 20 ≤ (w (shR a0 0) 1.toNatClampNeg) then (f_X11_readsWay_b17 F a0 0 a0 w) else (f_X11_readsWay_b17 F a0 1 a0 w))
def f_X11_readsSetting_b16 (F : Nat) (a0 : Nat)    (v1 : Int32) (z0 : Int32) (z1 : Nat) (w : aW) : Option aW :=
  (f_X11_need F z1 z0 1 w).bind (fun w2 => (f_X11_goesOn F a0 w2).bind (fun w3 => if (w3 a0 20) = 0 then ((f_X11_lowOf F v1 w3).bind (fun r4 => (f_X11_highOf F v1 w3).bind (fun r5 => bIW (f_X11_number F a0 r4 r5 w3) (fun r6 w7 => gd (inb v1 (shL (shR a0 0))) (ltw (aset w7 (shR a0 0) v1.toNatClampNeg r6) (fun w8 => some w8)))))) else (some w3)))
def f_X11_readsSetting (F : Nat) (a0 : Nat) (w : aW) : Option aW :=
  (f_X11_settingHere F a0 w).bind (fun r1 => if r1 = (-1) then (f_X11_readsSetting_b16 F a0 r1 0 a0 w) else (f_X11_readsSetting_b16 F a0 r1 1 a0 w))
def f_X11_readsStatement (F : Nat) (a0 : Nat) (w : aW) : Option aW :=
  (f_X11_isWord F a0 26 w).bind (fun r1 => if r1 then ((f_X11_readsRoof F a0 w).bind (fun w7 => (f_X11_semicolon F a0 w7).bind (fun w8 => some w8))) else ((f_X11_isWord F a0 27 w).bind (fun r2 => if r2 then ((f_X11_readsWay F a0 w).bind (fun w5 => (f_X11_semicolon F a0 w5).bind (fun w6 => some w6))) else ((f_X11_readsSetting F a0 w).bind (fun w3 => (f_X11_semicolon F a0 w3).bind (fun w4 => some w4))))))
def f_X11_loadPost_b58 (F : Nat) (a0 : Nat)    (z0 : Int32) (z1 : Nat) (w : aW) : Option (Int32 × aW) :=
  (f_X11_need F z1 z0 6 w).bind (fun w5 => (f_X11_ending F a0 w5).bind (fun w6 => if (w6 a0 20) ≤ 0 then (ltw (aset w6 a0 4 0) (fun w7 => ltw (aset w7 a0 5 0) (fun w8 => gd (inb 1 (shL (shR a0 0))) (some (w8 (shR a0 0) 1.toNatClampNeg, w8))))) else (bIW (f_X11_gives F a0 (shR a0 1) (-1) w6) (fun r9 w10 => some (r9, w10)))))
def f_X11_loadPost_b42 (F : Nat) (a0 : Nat)     (w : aW) : Option (Int32 × aW) :=
  gd (inb 0 (shL (shR a0 0))) (if (w (shR a0 0) 0.toNatClampNeg) ≤ 1 then (f_X11_loadPost_b58 F a0 0 a0 w) else (f_X11_loadPost_b58 F a0 1 a0 w))
def f_X11_loadPost_b21_b (F : Nat) (a0 : Nat)   (k21 : aW → Option (Int32 × aW))  (w : aW) : Option (Int32 × aW) :=
  if (w a0 20) = 0 then (if (w a0 18) = 0 then (f_X11_loadPost_b42 F a0 w) else ((f_X11_readsStatement F a0 w).bind (fun w11 => k21 w11))) else (f_X11_loadPost_b42 F a0 w)
def f_X11_loadPost_b21 (F : Nat) (a0 : Nat)   : Nat → aW → Option (Int32 × aW) :=
  lp (f_X11_loadPost_b21_b F a0  ) (fun  _ => none)
def f_X11_loadPost (F : Nat) (a0 : Nat) (w : aW) : Option (Int32 × aW) :=
  ltw (aset w a0 6 0) (fun w1 => (f_X11_copies F a0 (shR a0 1) w1).bind (fun w2 => (f_X11_clears F a0 w2).bind (fun w3 => (f_X11_starts F a0 w3).bind (fun w4 => f_X11_loadPost_b21 F a0 F w4))))
def f_X11_kindHere (F : Nat) (a0 : Nat) (w : aW) : Option Int32 :=
  (f_X11_isWord F a0 28 w).bind (fun r1 => if r1 then (some 0) else ((f_X11_isWord F a0 29 w).bind (fun r2 => if r2 then (some 1) else ((f_X11_isWord F a0 30 w).bind (fun r3 => if r3 then (some 2) else ((f_X11_isWord F a0 31 w).bind (fun r4 => if r4 then (some 3) else ((f_X11_isWord F a0 32 w).bind (fun r5 => if r5 then (some 4) else ((f_X11_settingHere F a0 w).bind (fun r6 => if r6 = (-1) then (some (-1)) else (some 5))))))))))))
def f_X11_readsNotes_b66 (F : Nat) (a0 : Nat) (p1 : Int32)    (v2 : Int32) (w : aW) : Option aW :=
  gd (inb (p1 + 3) (shL (shR a0 22))) (ltw (aset w (shR a0 22) (p1 + 3).toNatClampNeg v2) (fun w5 => some w5))
def f_X11_readsNotes_b47 (F : Nat) (a0 : Nat) (p1 : Int32)  (k2 : Int32 → aW → Option aW)  (v2 : Int32) (w : aW) : Option aW :=
  (f_X11_goesOn F a0 w).bind (fun w4 => if (w4 a0 20) = 0 then (if (w4 a0 18) = 2 then (k2 v2 w4) else (f_X11_readsNotes_b66 F a0 p1 v2 w4)) else (f_X11_readsNotes_b66 F a0 p1 v2 w4))
def f_X11_readsNotes_b22 (F : Nat) (a0 : Nat) (p1 : Int32)  (k2 : Int32 → aW → Option aW)  (v2 : Int32) (v3 : Int32) (z0 : Int32) (z1 : Nat) (w : aW) : Option aW :=
  (f_X11_need F z1 z0 5 w).bind (fun w3 => if (w3 a0 20) = 0 then (gd (inb ((p1 + 4) + v2) (shL (shR a0 22))) (ltw (aset w3 (shR a0 22) ((p1 + 4) + v2).toNatClampNeg v3) (fun w6 => f_X11_readsNotes_b47 F a0 p1 k2 (v2 + 1) w6))) else (f_X11_readsNotes_b47 F a0 p1 k2 v2 w3))
def f_X11_readsNotes_b2_b (F : Nat) (a0 : Nat) (p1 : Int32)   (k2 : Int32 → aW → Option aW) (v2 : Int32) (w : aW) : Option aW :=
  bIW (f_X11_numberHere F a0 0 7 w) (fun r1 w2 => if 8 ≤ v2 then (f_X11_readsNotes_b22 F a0 p1 k2 v2 r1 0 a0 w2) else (f_X11_readsNotes_b22 F a0 p1 k2 v2 r1 1 a0 w2))
def f_X11_readsNotes_b2 (F : Nat) (a0 : Nat) (p1 : Int32)   : Nat → Int32 → aW → Option aW :=
  lp (f_X11_readsNotes_b2_b F a0 p1  ) (fun _ _ => none)
def f_X11_readsNotes (F : Nat) (a0 : Nat) (p1 : Int32) (w : aW) : Option aW :=
  f_X11_readsNotes_b2 F a0 p1 F 0 w
def f_X11_readsDeed_b264 (F : Nat) (a0 : Nat)     (w : aW) : Option aW :=
  (f_X11_semicolon F a0 w).bind (fun w16 => ltw (aset w16 a0 23 ((w16 a0 23) + 1)) (fun w17 => some w17))
def f_X11_readsDeed_b40 (F : Nat) (a0 : Nat)    (v1 : Int32) (v2 : Int32) (z0 : Int32) (z1 : Nat) (w : aW) : Option aW :=
  (f_X11_need F z1 z0 5 w).bind (fun w4 => (f_X11_goesOn F a0 w4).bind (fun w5 => if (w5 a0 20) ≤ 0 then (ltv (12 * (w5 a0 23)) (fun v3_6 => gd (inb v3_6 (shL (shR a0 22))) (ltw (aset w5 (shR a0 22) v3_6.toNatClampNeg v1) (fun w7 => if v1 = 0 then (bIW (f_X11_roofOfText F a0 (-1) w7) (fun r9 w10 => gd (inb (v3_6 + 1) (shL (shR a0 22))) (ltw (aset w10 (shR a0 22) (v3_6 + 1).toNatClampNeg r9) (fun w11 => gd (inb (v3_6 + 1) (shL (shR a0 22))) (bIW (f_X11_roofOfText F a0 (w11 (shR a0 22) (v3_6 + 1).toNatClampNeg) w11) (fun r12 w13 => gd (inb (v3_6 + 2) (shL (shR a0 22))) (ltw (aset w13 (shR a0 22) (v3_6 + 2).toNatClampNeg r12) (fun w14 => (f_X11_readsNotes F a0 v3_6 w14).bind (fun w15 => f_X11_readsDeed_b264 F a0 w15))))))))) else (if v1 = 1 then (bIW (f_X11_roofOfText F a0 (-1) w7) (fun r19 w20 => gd (inb (v3_6 + 1) (shL (shR a0 22))) (ltw (aset w20 (shR a0 22) (v3_6 + 1).toNatClampNeg r19) (fun w21 => gd (inb (v3_6 + 1) (shL (shR a0 22))) (bIW (f_X11_roofOfText F a0 (w21 (shR a0 22) (v3_6 + 1).toNatClampNeg) w21) (fun r22 w23 => gd (inb (v3_6 + 2) (shL (shR a0 22))) (ltw (aset w23 (shR a0 22) (v3_6 + 2).toNatClampNeg r22) (fun w24 => (f_X11_readsNotes F a0 v3_6 w24).bind (fun w25 => f_X11_readsDeed_b264 F a0 w25))))))))) else (if v1 = 2 then (bIW (f_X11_number F a0 1 200 w7) (fun r27 w28 => gd (inb (v3_6 + 1) (shL (shR a0 22))) (ltw (aset w28 (shR a0 22) (v3_6 + 1).toNatClampNeg r27) (fun w29 => f_X11_readsDeed_b264 F a0 w29)))) else (if v1 = 3 then (bIW (f_X11_roofOfText F a0 (-1) w7) (fun r31 w32 => gd (inb (v3_6 + 1) (shL (shR a0 22))) (ltw (aset w32 (shR a0 22) (v3_6 + 1).toNatClampNeg r31) (fun w33 => bIW (f_X11_number F a0 1 99 w33) (fun r34 w35 => gd (inb (v3_6 + 2) (shL (shR a0 22))) (ltw (aset w35 (shR a0 22) (v3_6 + 2).toNatClampNeg r34) (fun w36 => f_X11_readsDeed_b264 F a0 w36))))))) else (if v1 = 4 then (bIW (f_X11_roofOfText F a0 (-1) w7) (fun r38 w39 => gd (inb (v3_6 + 1) (shL (shR a0 22))) (ltw (aset w39 (shR a0 22) (v3_6 + 1).toNatClampNeg r38) (fun w40 => gd (inb (v3_6 + 1) (shL (shR a0 22))) (bIW (f_X11_roofOfText F a0 (w40 (shR a0 22) (v3_6 + 1).toNatClampNeg) w40) (fun r41 w42 => gd (inb (v3_6 + 2) (shL (shR a0 22))) (ltw (aset w42 (shR a0 22) (v3_6 + 2).toNatClampNeg r41) (fun w43 => f_X11_readsDeed_b264 F a0 w43)))))))) else (gd (inb (v3_6 + 1) (shL (shR a0 22))) (ltw (aset w7 (shR a0 22) (v3_6 + 1).toNatClampNeg v2) (fun w44 => (f_X11_lowOf F v2 w44).bind (fun r45 => (f_X11_highOf F v2 w44).bind (fun r46 => bIW (f_X11_number F a0 r45 r46 w44) (fun r47 w48 => gd (inb (v3_6 + 2) (shL (shR a0 22))) (ltw (aset w48 (shR a0 22) (v3_6 + 2).toNatClampNeg r47) (fun w49 => f_X11_readsDeed_b264 F a0 w49)))))))))))))))) else (some w5)))
def f_X11_readsDeed_b21 (F : Nat) (a0 : Nat)    (v1 : Int32) (v2 : Int32) (z0 : Int32) (z1 : Nat) (w : aW) : Option aW :=
  (f_X11_need F z1 z0 1 w).bind (fun w3 => if 30 ≤ (w3 a0 23) then (f_X11_readsDeed_b40 F a0 v1 v2 0 a0 w3) else (f_X11_readsDeed_b40 F a0 v1 v2 1 a0 w3))
def f_X11_readsDeed (F : Nat) (a0 : Nat) (w : aW) : Option aW :=
  (f_X11_kindHere F a0 w).bind (fun r1 => (f_X11_settingHere F a0 w).bind (fun r2 => if r1 = (-1) then (f_X11_readsDeed_b21 F a0 r1 r2 0 a0 w) else (f_X11_readsDeed_b21 F a0 r1 r2 1 a0 w)))
def f_X11_sendsDeed_b14_b (F : Nat) (a0 : Nat) (p1 : Int32)   (k14 : Int32 → aW → Option (Int32 × aW)) (v2 : Int32) (w : aW) : Option (Int32 × aW) :=
  if (w a0 11) ≤ v2 then (gd (inb (p1 + 1) (shL (shR a0 22))) (gd (inb (p1 + 2) (shL (shR a0 22))) (gd (inb p1 (shL (shR a0 22))) (if (w (shR a0 22) p1.toNatClampNeg) = 1 then (bIW (f_X11_newTune F a0 (w (shR a0 22) (p1 + 1).toNatClampNeg) (w (shR a0 22) (p1 + 2).toNatClampNeg) 0 1 w) (fun r4 w5 => some (r4, w5))) else (bIW (f_X11_newTune F a0 (w (shR a0 22) (p1 + 1).toNatClampNeg) (w (shR a0 22) (p1 + 2).toNatClampNeg) 0 0 w) (fun r2 w3 => some (r2, w3))))))) else (gd (inb ((p1 + 4) + v2) (shL (shR a0 22))) (gd (inb v2 (shL (shR a0 10))) (ltw (aset w (shR a0 10) v2.toNatClampNeg (w (shR a0 22) ((p1 + 4) + v2).toNatClampNeg)) (fun w6 => k14 (v2 + 1) w6))))
def f_X11_sendsDeed_b14 (F : Nat) (a0 : Nat) (p1 : Int32)   : Nat → Int32 → aW → Option (Int32 × aW) :=
  lp (f_X11_sendsDeed_b14_b F a0 p1  ) (fun _ _ => none)
def f_X11_sendsDeed (F : Nat) (a0 : Nat) (p1 : Int32) (w : aW) : Option (Int32 × aW) :=
  gd (inb (p1 + 3) (shL (shR a0 22))) (ltw (aset w a0 11 (w (shR a0 22) (p1 + 3).toNatClampNeg)) (fun w1 => f_X11_sendsDeed_b14 F a0 p1 F 0 w1))
def f_X11_does (F : Nat) (a0 : Nat) (p1 : Int32) (w : aW) : Option (Bool × aW) :=
  ltv (12 * p1) (fun v2_1 => gd (inb (v2_1 + 1) (shL (shR a0 22))) (ltv (w (shR a0 22) (v2_1 + 1).toNatClampNeg) (fun v3_2 => gd (inb (v2_1 + 2) (shL (shR a0 22))) (ltv (w (shR a0 22) (v2_1 + 2).toNatClampNeg) (fun v4_3 => gd (inb v2_1 (shL (shR a0 22))) (ltv (w (shR a0 22) v2_1.toNatClampNeg) (fun u4 => if u4 = 0 then (gd (inb 2 (shL (shR a0 0))) (if 30 ≤ (w (shR a0 0) 2.toNatClampNeg) then (some (false, w)) else (bIW (f_X11_sendsDeed F a0 v2_1 w) (fun r6 w7 => if r6 < 0 then (some (false, w7)) else (some (true, w7)))))) else (if u4 = 1 then (gd (inb 2 (shL (shR a0 0))) (if 30 ≤ (w (shR a0 0) 2.toNatClampNeg) then (some (false, w)) else (bIW (f_X11_sendsDeed F a0 v2_1 w) (fun r9 w10 => if r9 < 0 then (some (false, w10)) else (some (true, w10)))))) else (if u4 = 2 then (gd (inb 3 (shL (shR a0 0))) (if 9999 < ((w (shR a0 0) 3.toNatClampNeg) + v3_2) then (some (false, w)) else (bIW (f_X11_goes F a0 v3_2 w) (fun r12 w13 => if r12 < 0 then (some (false, w13)) else (some (true, w13)))))) else (if u4 = 3 then ((f_X11_r F v3_2 w).bind (fun r15 => gd (inb (r15 + 10) (shL (shR a0 0))) (if 9999 < ((w (shR a0 0) (r15 + 10).toNatClampNeg) + v4_3) then (some (false, w)) else (bIW (f_X11_givesCoins F a0 v3_2 v4_3 w) (fun r16 w17 => if r16 ≤ 0 then (some (false, w17)) else (some (true, w17))))))) else (if u4 = 4 then ((f_X11_wayBetween F a0 v3_2 v4_3 w).bind (fun r19 => if r19 = (-1) then (some (false, w)) else ((f_X11_wayBetween F a0 v3_2 v4_3 w).bind (fun r20 => bIW (f_X11_cuts F a0 r20 w) (fun r21 w22 => if r21 < 0 then (some (false, w22)) else (some (true, w22))))))) else (bIW (f_X11_sets F a0 v3_2 v4_3 w) (fun r23 w24 => if r23 < 0 then (some (false, w24)) else (some (true, w24)))))))))))))))
def f_X11_playScript_b54_b (F : Nat) (a0 : Nat)   (k54 : Int32 → aW → Option (Int32 × aW)) (v1 : Int32) (w : aW) : Option (Int32 × aW) :=
  if (w a0 23) ≤ v1 then (some (v1, w)) else (bBW (f_X11_does F a0 v1 w) (fun r6 w7 => if r6 then (k54 (v1 + 1) w7) else (some (v1, w7))))
def f_X11_playScript_b54 (F : Nat) (a0 : Nat)   : Nat → Int32 → aW → Option (Int32 × aW) :=
  lp (f_X11_playScript_b54_b F a0  ) (fun _ _ => none)
def f_X11_playScript_b35 (F : Nat) (a0 : Nat)     (w : aW) : Option (Int32 × aW) :=
  (f_X11_ending F a0 w).bind (fun w4 => if (w4 a0 20) ≤ 0 then ((f_X11_remembers F a0 w4).bind (fun w5 => f_X11_playScript_b54 F a0 F 0 w5)) else (some ((-1), w4)))
def f_X11_playScript_b14_b (F : Nat) (a0 : Nat)   (k14 : aW → Option (Int32 × aW))  (w : aW) : Option (Int32 × aW) :=
  if (w a0 20) = 0 then (if (w a0 18) = 0 then (f_X11_playScript_b35 F a0 w) else ((f_X11_readsDeed F a0 w).bind (fun w8 => k14 w8))) else (f_X11_playScript_b35 F a0 w)
def f_X11_playScript_b14 (F : Nat) (a0 : Nat)   : Nat → aW → Option (Int32 × aW) :=
  lp (f_X11_playScript_b14_b F a0  ) (fun  _ => none)
def f_X11_playScript (F : Nat) (a0 : Nat) (w : aW) : Option (Int32 × aW) :=
  ltw (aset w a0 6 0) (fun w1 => ltw (aset w1 a0 23 0) (fun w2 => (f_X11_starts F a0 w2).bind (fun w3 => f_X11_playScript_b14 F a0 F w3)))
def f_X11_those_b4_b (F : Nat) (a0 : Nat) (p1 : Int32) (w : aW)  (k4 : Int32 → Int32 → Option Int32) (v2 : Int32) (v3 : Int32)  : Option Int32 :=
  gd (inb 2 (shL (shR a0 0))) (if (w (shR a0 0) 2.toNatClampNeg) ≤ v3 then (some v2) else ((f_X11_t F v3 w).bind (fun r1 => gd (inb (r1 + 3) (shL (shR a0 0))) (if (w (shR a0 0) (r1 + 3).toNatClampNeg) = p1 then ((f_X11_one F 1 w).bind (fun r4 => ltv (v2 + r4) (fun v2_5 => k4 v2_5 (v3 + 1)))) else ((f_X11_one F 0 w).bind (fun r2 => ltv (v2 + r2) (fun v2_3 => k4 v2_3 (v3 + 1))))))))
def f_X11_those_b4 (F : Nat) (a0 : Nat) (p1 : Int32) (w : aW)  : Nat → Int32 → Int32 → Option Int32 :=
  lp (f_X11_those_b4_b F a0 p1 w ) (fun _ _ => none)
def f_X11_those (F : Nat) (a0 : Nat) (p1 : Int32) (w : aW) : Option Int32 :=
  f_X11_those_b4 F a0 p1 w F 0 0
def f_X11_busyMany_b4_b (F : Nat) (a0 : Nat) (w : aW)  (k4 : Int32 → Int32 → Option Int32) (v1 : Int32) (v2 : Int32)  : Option Int32 :=
  gd (inb 0 (shL (shR a0 0))) (if (w (shR a0 0) 0.toNatClampNeg) ≤ v2 then (some v1) else (gd (inb 3 (shL (shR a0 0))) ((f_X11_isBusy F a0 v2 (w (shR a0 0) 3.toNatClampNeg) w).bind (fun r1 => (f_X11_one F (bi r1) w).bind (fun r2 => ltv (v1 + r2) (fun v1_3 => k4 v1_3 (v2 + 1)))))))
def f_X11_busyMany_b4 (F : Nat) (a0 : Nat) (w : aW)  : Nat → Int32 → Int32 → Option Int32 :=
  lp (f_X11_busyMany_b4_b F a0 w ) (fun _ _ => none)
def f_X11_busyMany (F : Nat) (a0 : Nat) (w : aW) : Option Int32 :=
  f_X11_busyMany_b4 F a0 w F 0 0
def f_X11_purses_b4_b (F : Nat) (a0 : Nat) (w : aW)  (k4 : Int32 → Int32 → Option Int32) (v1 : Int32) (v2 : Int32)  : Option Int32 :=
  gd (inb 0 (shL (shR a0 0))) (if (w (shR a0 0) 0.toNatClampNeg) ≤ v2 then (some v1) else ((f_X11_r F v2 w).bind (fun r1 => gd (inb (r1 + 10) (shL (shR a0 0))) (ltv (v1 + (w (shR a0 0) (r1 + 10).toNatClampNeg)) (fun v1_2 => k4 v1_2 (v2 + 1))))))
def f_X11_purses_b4 (F : Nat) (a0 : Nat) (w : aW)  : Nat → Int32 → Int32 → Option Int32 :=
  lp (f_X11_purses_b4_b F a0 w ) (fun _ _ => none)
def f_X11_purses (F : Nat) (a0 : Nat) (w : aW) : Option Int32 :=
  f_X11_purses_b4 F a0 w F 0 0
def f_X11_count (F : Nat) (a0 : Nat) (p1 : Int32) (w : aW) : Option (Int32 × aW) :=
  (f_X11_in F p1.toInt64 0 13 w).bind (fun r1 => bBW (f_X11_may F a0 (bi r1) 1 1 w) (fun r2 w3 => if r2 then (if p1 = 0 then (gd (inb p1 (shL (shR a0 0))) (some (w3 (shR a0 0) p1.toNatClampNeg, w3))) else (if p1 = 1 then (gd (inb p1 (shL (shR a0 0))) (some (w3 (shR a0 0) p1.toNatClampNeg, w3))) else (if p1 = 2 then (gd (inb p1 (shL (shR a0 0))) (some (w3 (shR a0 0) p1.toNatClampNeg, w3))) else (if p1 = 3 then ((f_X11_those F a0 (p1 - 3) w3).bind (fun r8 => some (r8, w3))) else (if p1 = 4 then ((f_X11_those F a0 (p1 - 3) w3).bind (fun r10 => some (r10, w3))) else (if p1 = 5 then ((f_X11_those F a0 (p1 - 3) w3).bind (fun r12 => some (r12, w3))) else (if p1 = 6 then ((f_X11_those F a0 (p1 - 3) w3).bind (fun r14 => some (r14, w3))) else (if p1 = 7 then (gd (inb (p1 - 4) (shL (shR a0 0))) (some (w3 (shR a0 0) (p1 - 4).toNatClampNeg, w3))) else (if p1 = 8 then (gd (inb (p1 - 4) (shL (shR a0 0))) (some (w3 (shR a0 0) (p1 - 4).toNatClampNeg, w3))) else (if p1 = 9 then (gd (inb (p1 - 4) (shL (shR a0 0))) (some (w3 (shR a0 0) (p1 - 4).toNatClampNeg, w3))) else (if p1 = 10 then (gd (inb (p1 - 4) (shL (shR a0 0))) (some (w3 (shR a0 0) (p1 - 4).toNatClampNeg, w3))) else (if p1 = 11 then ((f_X11_busyMany F a0 w3).bind (fun r20 => some (r20, w3))) else (if p1 = 12 then ((f_X11_purses F a0 w3).bind (fun r22 => some (r22, w3))) else (if p1 = 13 then (some (w3 a0 4, w3)) else (gd (inb (p1 - 4) (shL (shR a0 0))) (some (w3 (shR a0 0) (p1 - 4).toNatClampNeg, w3))))))))))))))))) else (some (0, w3))))
def f_X11_account (F : Nat) (a0 : Nat) (p1 : Int32) (w : aW) : Option (Int32 × aW) :=
  (f_X11_in F p1.toInt64 0 10 w).bind (fun r1 => bBW (f_X11_may F a0 (bi r1) 1 1 w) (fun r2 w3 => if r2 then (gd (inb (10 + p1) (shL (shR a0 0))) (some (w3 (shR a0 0) (10 + p1).toNatClampNeg, w3))) else (some (0, w3))))
def f_X11_isRoof (F : Nat) (a0 : Nat) (p1 : Int32) (w : aW) : Option Bool :=
  gd (inb 0 (shL (shR a0 0))) ((f_X11_in F p1.toInt64 0 (((w (shR a0 0) 0.toNatClampNeg) - 1).toInt64) w).bind (fun r1 => some r1))
def f_X11_areRoofs (F : Nat) (a0 : Nat) (p1 : Int32) (p2 : Int32) (w : aW) : Option Bool :=
  (f_X11_isRoof F a0 p1 w).bind (fun r1 => if r1 then ((f_X11_isRoof F a0 p2 w).bind (fun r2 => if r2 then (some true) else (some false))) else (some false))
def f_X11_isTune (F : Nat) (a0 : Nat) (p1 : Int32) (w : aW) : Option Bool :=
  gd (inb 2 (shL (shR a0 0))) ((f_X11_in F p1.toInt64 0 (((w (shR a0 0) 2.toNatClampNeg) - 1).toInt64) w).bind (fun r1 => some r1))
def f_X11_nameByte (F : Nat) (a0 : Nat) (p1 : Int32) (p2 : Int32) (w : aW) : Option (Int32 × aW) :=
  (f_X11_isRoof F a0 p1 w).bind (fun r1 => bBW (f_X11_may F a0 (bi r1) 1 1 w) (fun r2 w3 => if r2 then ((f_X11_r F p1 w3).bind (fun r4 => gd (inb r4 (shL (shR a0 0))) ((f_X11_in F p2.toInt64 0 (((w3 (shR a0 0) r4.toNatClampNeg) - 1).toInt64) w3).bind (fun r5 => if r5 then ((f_X11_r F p1 w3).bind (fun r6 => gd (inb ((r6 + 1) + p2) (shL (shR a0 0))) (some (w3 (shR a0 0) ((r6 + 1) + p2).toNatClampNeg, w3)))) else (some ((-1), w3)))))) else (some (0, w3))))
def f_X11_waitingMany_b4_b (F : Nat) (a0 : Nat) (p1 : Int32) (w : aW)  (k4 : Int32 → Int32 → Option Int32) (v2 : Int32) (v3 : Int32)  : Option Int32 :=
  gd (inb 2 (shL (shR a0 0))) (if (w (shR a0 0) 2.toNatClampNeg) ≤ v3 then (some v2) else ((f_X11_waitsAt F a0 v3 p1 w).bind (fun r1 => (f_X11_one F (bi r1) w).bind (fun r2 => ltv (v2 + r2) (fun v2_3 => k4 v2_3 (v3 + 1))))))
def f_X11_waitingMany_b4 (F : Nat) (a0 : Nat) (p1 : Int32) (w : aW)  : Nat → Int32 → Int32 → Option Int32 :=
  lp (f_X11_waitingMany_b4_b F a0 p1 w ) (fun _ _ => none)
def f_X11_waitingMany (F : Nat) (a0 : Nat) (p1 : Int32) (w : aW) : Option Int32 :=
  f_X11_waitingMany_b4 F a0 p1 w F 0 0
def f_X11_waysAt_b4_b (F : Nat) (a0 : Nat) (p1 : Int32) (w : aW)  (k4 : Int32 → Int32 → Option Int32) (v2 : Int32) (v3 : Int32)  : Option Int32 :=
  gd (inb 1 (shL (shR a0 0))) (if (w (shR a0 0) 1.toNatClampNeg) ≤ v3 then (some v2) else ((f_X11_ends F a0 v3 p1 w).bind (fun r1 => (f_X11_one F (bi r1) w).bind (fun r2 => ltv (v2 + r2) (fun v2_3 => k4 v2_3 (v3 + 1))))))
def f_X11_waysAt_b4 (F : Nat) (a0 : Nat) (p1 : Int32) (w : aW)  : Nat → Int32 → Int32 → Option Int32 :=
  lp (f_X11_waysAt_b4_b F a0 p1 w ) (fun _ _ => none)
def f_X11_waysAt (F : Nat) (a0 : Nat) (p1 : Int32) (w : aW) : Option Int32 :=
  f_X11_waysAt_b4 F a0 p1 w F 0 0
def f_X11_roof (F : Nat) (a0 : Nat) (p1 : Int32) (p2 : Int32) (w : aW) : Option (Int32 × aW) :=
  (f_X11_isRoof F a0 p1 w).bind (fun r1 => (f_X11_in F p2.toInt64 0 7 w).bind (fun r2 => bBW (f_X11_may F a0 (bi r1) (bi r2) 1 w) (fun r3 w4 => if r3 then (if p2 = 4 then ((f_X11_r F p1 w4).bind (fun r6 => gd (inb (r6 + 11) (shL (shR a0 0))) (gd (inb 3 (shL (shR a0 0))) (some (imax 0 ((w4 (shR a0 0) (r6 + 11).toNatClampNeg) - (w4 (shR a0 0) 3.toNatClampNeg)), w4))))) else (if p2 = 5 then ((f_X11_waitingMany F a0 p1 w4).bind (fun r8 => some (r8, w4))) else (if p2 = 6 then ((f_X11_waysAt F a0 p1 w4).bind (fun r10 => some (r10, w4))) else (if p2 = 7 then ((f_X11_r F p1 w4).bind (fun r12 => gd (inb (r12 + 12) (shL (shR a0 0))) (some (w4 (shR a0 0) (r12 + 12).toNatClampNeg, w4)))) else ((f_X11_r F p1 w4).bind (fun r13 => gd (inb ((r13 + 7) + p2) (shL (shR a0 0))) (some (w4 (shR a0 0) ((r13 + 7) + p2).toNatClampNeg, w4)))))))) else (some (0, w4)))))
def f_X11_way (F : Nat) (a0 : Nat) (p1 : Int32) (p2 : Int32) (w : aW) : Option (Int32 × aW) :=
  gd (inb 1 (shL (shR a0 0))) ((f_X11_in F p1.toInt64 0 (((w (shR a0 0) 1.toNatClampNeg) - 1).toInt64) w).bind (fun r1 => (f_X11_in F p2.toInt64 0 2 w).bind (fun r2 => bBW (f_X11_may F a0 (bi r1) (bi r2) 1 w) (fun r3 w4 => if r3 then ((f_X11_w F p1 w4).bind (fun r5 => gd (inb (r5 + p2) (shL (shR a0 0))) (some (w4 (shR a0 0) (r5 + p2).toNatClampNeg, w4)))) else (some (0, w4))))))
def f_X11_route (F : Nat) (a0 : Nat) (p1 : Int32) (p2 : Int32) (w : aW) : Option (Int32 × aW) :=
  (f_X11_areRoofs F a0 p1 p2 w).bind (fun r1 => bBW (f_X11_may F a0 (bi r1) 1 1 w) (fun r2 w3 => if r2 then (bIW (f_X11_sumTo F a0 p1 p2 w3) (fun r4 w5 => some (r4, w5))) else (some (0, w3))))
def f_X11_next (F : Nat) (a0 : Nat) (p1 : Int32) (p2 : Int32) (w : aW) : Option (Int32 × aW) :=
  (f_X11_areRoofs F a0 p1 p2 w).bind (fun r1 => bBW (f_X11_may F a0 (bi r1) 1 1 w) (fun r2 w3 => if r2 then (bIW (f_X11_nextTo F a0 p1 p2 w3) (fun r4 w5 => some (r4, w5))) else (some (0, w3))))
def f_X11_tune (F : Nat) (a0 : Nat) (p1 : Int32) (p2 : Int32) (w : aW) : Option (Int32 × aW) :=
  (f_X11_isTune F a0 p1 w).bind (fun r1 => (f_X11_in F p2.toInt64 0 11 w).bind (fun r2 => bBW (f_X11_may F a0 (bi r1) (bi r2) 1 w) (fun r3 w4 => if r3 then (if p2 = 9 then ((f_X11_bars F a0 p1 w4).bind (fun r6 => some (r6, w4))) else (if p2 = 10 then ((f_X11_unlike F a0 p1 w4).bind (fun r8 => some (r8, w4))) else (if p2 = 11 then ((f_X11_t F p1 w4).bind (fun r10 => gd (inb (r10 + 9) (shL (shR a0 0))) (some (w4 (shR a0 0) (r10 + 9).toNatClampNeg, w4)))) else ((f_X11_t F p1 w4).bind (fun r11 => gd (inb (r11 + p2) (shL (shR a0 0))) (some (w4 (shR a0 0) (r11 + p2).toNatClampNeg, w4))))))) else (some (0, w4)))))
def f_X11_note (F : Nat) (a0 : Nat) (p1 : Int32) (p2 : Int32) (p3 : Int32) (w : aW) : Option (Int32 × aW) :=
  (f_X11_isTune F a0 p1 w).bind (fun r1 => bBW (f_X11_may F a0 (bi r1) 1 1 w) (fun r2 w3 => if r2 then ((f_X11_t F p1 w3).bind (fun r4 => gd (inb (r4 + 2) (shL (shR a0 0))) ((f_X11_in F p2.toInt64 0 (((w3 (shR a0 0) (r4 + 2).toNatClampNeg) - 1).toInt64) w3).bind (fun r5 => if r5 then ((f_X11_t F p1 w3).bind (fun r6 => if p3 = 0 then (gd (inb ((r6 + 11) + p2) (shL (shR a0 0))) (some (w3 (shR a0 0) ((r6 + 11) + p2).toNatClampNeg, w3))) else (gd (inb ((r6 + 19) + p2) (shL (shR a0 0))) (some (w3 (shR a0 0) ((r6 + 19) + p2).toNatClampNeg, w3))))) else (some ((-1), w3)))))) else (some (0, w3))))
def f_X11_placeOf_b57 (F : Nat) (a0 : Nat) (p1 : Int32) (p2 : Int32) (w : aW) (k5 : Int32 → Int32 → Option Int32)  (v4 : Int32) (z0 : Int32)  : Option Int32 :=
  (f_X11_one F 1 w).bind (fun r7 => ltv (z0 + r7) (fun v3_8 => k5 v3_8 (v4 + 1)))
def f_X11_placeOf_b5_b (F : Nat) (a0 : Nat) (p1 : Int32) (p2 : Int32) (w : aW)  (k5 : Int32 → Int32 → Option Int32) (v3 : Int32) (v4 : Int32)  : Option Int32 :=
  gd (inb 2 (shL (shR a0 0))) (if (w (shR a0 0) 2.toNatClampNeg) ≤ v4 then (some v3) else ((f_X11_bars F a0 v4 w).bind (fun r1 => (f_X11_bars F a0 p1 w).bind (fun r2 => ltv (r1 - r2) (fun v5_3 => (f_X11_waitsAt F a0 v4 p2 w).bind (fun r4 => if r4 then (if 0 < v5_3 then (f_X11_placeOf_b57 F a0 p1 p2 w k5 v4 v3) else (if v5_3 = 0 then (if p1 ≤ v4 then ((f_X11_one F 0 w).bind (fun r11 => ltv (v3 + r11) (fun v3_12 => k5 v3_12 (v4 + 1)))) else (f_X11_placeOf_b57 F a0 p1 p2 w k5 v4 v3)) else ((f_X11_one F 0 w).bind (fun r9 => ltv (v3 + r9) (fun v3_10 => k5 v3_10 (v4 + 1)))))) else ((f_X11_one F 0 w).bind (fun r5 => ltv (v3 + r5) (fun v3_6 => k5 v3_6 (v4 + 1))))))))))
def f_X11_placeOf_b5 (F : Nat) (a0 : Nat) (p1 : Int32) (p2 : Int32) (w : aW)  : Nat → Int32 → Int32 → Option Int32 :=
  lp (f_X11_placeOf_b5_b F a0 p1 p2 w ) (fun _ _ => none)
def f_X11_placeOf (F : Nat) (a0 : Nat) (p1 : Int32) (p2 : Int32) (w : aW) : Option Int32 :=
  f_X11_placeOf_b5 F a0 p1 p2 w F 0 0
def f_X11_waiting_b18_b (F : Nat) (a0 : Nat) (p1 : Int32) (p2 : Int32)   (k18 : Int32 → aW → Option (Int32 × aW)) (v3 : Int32) (w : aW) : Option (Int32 × aW) :=
  gd (inb 2 (shL (shR a0 0))) (if (w (shR a0 0) 2.toNatClampNeg) ≤ v3 then (some ((-1), w)) else ((f_X11_waitsAt F a0 v3 p1 w).bind (fun r4 => if r4 then ((f_X11_placeOf F a0 v3 p1 w).bind (fun r5 => if r5 = p2 then (some (v3, w)) else (k18 (v3 + 1) w))) else (k18 (v3 + 1) w))))
def f_X11_waiting_b18 (F : Nat) (a0 : Nat) (p1 : Int32) (p2 : Int32)   : Nat → Int32 → aW → Option (Int32 × aW) :=
  lp (f_X11_waiting_b18_b F a0 p1 p2  ) (fun _ _ => none)
def f_X11_waiting (F : Nat) (a0 : Nat) (p1 : Int32) (p2 : Int32) (w : aW) : Option (Int32 × aW) :=
  (f_X11_isRoof F a0 p1 w).bind (fun r1 => bBW (f_X11_may F a0 (bi r1) 1 1 w) (fun r2 w3 => if r2 then (f_X11_waiting_b18 F a0 p1 p2 F 0 w3) else (some (0, w3))))
def f_X11_reason (F : Nat) (a0 : Nat) (p1 : Int32) (w : aW) : Option (Int32 × aW) :=
  (f_X11_t F p1 w).bind (fun r1 => gd (inb (r1 + 4) (shL (shR a0 0))) (ltv (w (shR a0 0) (r1 + 4).toNatClampNeg) (fun v3_2 => gd (inb (r1 + 3) (shL (shR a0 0))) (if (w (shR a0 0) (r1 + 3).toNatClampNeg) = 0 then (gd (inb (r1 + 1) (shL (shR a0 0))) (bIW (f_X11_sumTo F a0 v3_2 (w (shR a0 0) (r1 + 1).toNatClampNeg) w) (fun r3 w4 => if r3 = (-1) then (some (2, w4)) else (gd (inb 3 (shL (shR a0 0))) (gd (inb 5 (shL (shR a0 0))) (if (irm ((w4 (shR a0 0) 3.toNatClampNeg) + 1) 60) < (w4 (shR a0 0) 5.toNatClampNeg) then (gd (inb 3 (shL (shR a0 0))) ((f_X11_isBusy F a0 v3_2 ((w4 (shR a0 0) 3.toNatClampNeg) + 1) w4).bind (fun r5 => if r5 then (some (4, w4)) else ((f_X11_purseFor F a0 p1 w4).bind (fun r6 => (f_X11_feeAt F a0 p1 v3_2 w4).bind (fun r7 => if r7 ≤ r6 then (bIW (f_X11_firstAt F a0 v3_2 w4) (fun r8 w9 => if r8 = p1 then (some (0, w9)) else (some (6, w9)))) else (some (5, w4)))))))) else (some (3, w4)))))))) else (some (1, w))))))
def f_X11_cause (F : Nat) (a0 : Nat) (p1 : Int32) (p2 : Int32) (w : aW) : Option (Int32 × aW) :=
  (f_X11_t F p1 w).bind (fun r1 => gd (inb (r1 + 4) (shL (shR a0 0))) (ltv (w (shR a0 0) (r1 + 4).toNatClampNeg) (fun v4_2 => if p2 = 1 then (gd (inb (r1 + 3) (shL (shR a0 0))) (some (100 + (w (shR a0 0) (r1 + 3).toNatClampNeg), w))) else (if p2 = 2 then (gd (inb (r1 + 1) (shL (shR a0 0))) (some (200 + (w (shR a0 0) (r1 + 1).toNatClampNeg), w))) else (if p2 = 3 then (gd (inb 3 (shL (shR a0 0))) (some (300 + (irm ((w (shR a0 0) 3.toNatClampNeg) + 1) 60), w))) else (if p2 = 4 then ((f_X11_r F v4_2 w).bind (fun r7 => gd (inb (r7 + 11) (shL (shR a0 0))) (gd (inb 3 (shL (shR a0 0))) (some (((400 + (w (shR a0 0) (r7 + 11).toNatClampNeg)) - (w (shR a0 0) 3.toNatClampNeg)) - 1, w))))) else (if p2 = 5 then ((f_X11_feeAt F a0 p1 v4_2 w).bind (fun r9 => (f_X11_purseFor F a0 p1 w).bind (fun r10 => some ((500 + r9) - r10, w)))) else (if p2 = 6 then (bIW (f_X11_firstAt F a0 v4_2 w) (fun r12 w13 => some (600 + r12, w13))) else (some (0, w))))))))))
def f_X11_why (F : Nat) (a0 : Nat) (p1 : Int32) (p2 : Int32) (w : aW) : Option (Int32 × aW) :=
  (f_X11_isTune F a0 p1 w).bind (fun r1 => (f_X11_in F p2.toInt64 0 1 w).bind (fun r2 => bBW (f_X11_may F a0 (bi r1) (bi r2) 1 w) (fun r3 w4 => if r3 then (bIW (f_X11_reason F a0 p1 w4) (fun r5 w6 => if p2 = 0 then (some (r5, w6)) else (bIW (f_X11_cause F a0 p1 r5 w6) (fun r7 w8 => some (r7, w8))))) else (some (0, w4)))))
def f_X11_costOf_b43_b (F : Nat) (a0 : Nat) (p1 : Int32) (p2 : Int32) (p3 : Int32)   (k43 : Int32 → Int32 → aW → Option (Int32 × aW)) (v4 : Int32) (v5 : Int32) (w : aW) : Option (Int32 × aW) :=
  if v5 = p2 then (some (v4, w)) else ((f_X11_r F v5 w).bind (fun r7 => gd (inb (r7 + 9) (shL (shR a0 0))) ((f_X11_barsOf F a0 p3 w).bind (fun r8 => ltv (v4 + ((w (shR a0 0) (r7 + 9).toNatClampNeg) * r8)) (fun v4_9 => bIW (f_X11_nextTo F a0 v5 p2 w) (fun r10 w11 => k43 v4_9 r10 w11))))))
def f_X11_costOf_b43 (F : Nat) (a0 : Nat) (p1 : Int32) (p2 : Int32) (p3 : Int32)   : Nat → Int32 → Int32 → aW → Option (Int32 × aW) :=
  lp (f_X11_costOf_b43_b F a0 p1 p2 p3  ) (fun _ _ _ => none)
def f_X11_costOf (F : Nat) (a0 : Nat) (p1 : Int32) (p2 : Int32) (p3 : Int32) (w : aW) : Option (Int32 × aW) :=
  (f_X11_areRoofs F a0 p1 p2 w).bind (fun r1 => (f_X11_in F p3.toInt64 1 8 w).bind (fun r2 => bBW (f_X11_may F a0 (bi r1) (bi r2) 1 w) (fun r3 w4 => if r3 then (bIW (f_X11_sumTo F a0 p1 p2 w4) (fun r5 w6 => if r5 = (-1) then (some ((-1), w6)) else (f_X11_costOf_b43 F a0 p1 p2 p3 F 0 p1 w6))) else (some (0, w4)))))
def f_X11_wrongOf_b6_b (F : Nat) (a0 : Nat) (p1 : Int32) (p2 : Int32) (p3 : Int32) (p4 : Int32)   (k6 : Int32 → Int32 → aW → Option (Int32 × aW)) (v5 : Int32) (v6 : Int32) (w : aW) : Option (Int32 × aW) :=
  if v6 = p2 then (some (v5, w)) else (bIW (f_X11_nextTo F a0 v6 p2 w) (fun r1 w2 => (f_X11_wayBetween F a0 v6 r1 w2).bind (fun r3 => (f_X11_w F r3 w2).bind (fun r4 => gd (inb (r4 + 2) (shL (shR a0 0))) ((f_X11_wrongBy F a0 p4 (w2 (shR a0 0) (r4 + 2).toNatClampNeg) r1 p3 w2).bind (fun r5 => ltv (v5 + r5) (fun v5_6 => k6 v5_6 r1 w2)))))))
def f_X11_wrongOf_b6 (F : Nat) (a0 : Nat) (p1 : Int32) (p2 : Int32) (p3 : Int32) (p4 : Int32)   : Nat → Int32 → Int32 → aW → Option (Int32 × aW) :=
  lp (f_X11_wrongOf_b6_b F a0 p1 p2 p3 p4  ) (fun _ _ _ => none)
def f_X11_wrongOf (F : Nat) (a0 : Nat) (p1 : Int32) (p2 : Int32) (p3 : Int32) (p4 : Int32) (w : aW) : Option (Int32 × aW) :=
  f_X11_wrongOf_b6 F a0 p1 p2 p3 p4 F 0 p1 w
def f_X11_wrongOn (F : Nat) (a0 : Nat) (p1 : Int32) (p2 : Int32) (p3 : Int32) (w : aW) : Option (Int32 × aW) :=
  (f_X11_areRoofs F a0 p1 p2 w).bind (fun r1 => (f_X11_in F p3.toInt64 1 8 w).bind (fun r2 => bBW (f_X11_may F a0 (bi r1) (bi r2) 1 w) (fun r3 w4 => if r3 then (bIW (f_X11_sumTo F a0 p1 p2 w4) (fun r5 w6 => if r5 = (-1) then (some ((-1), w6)) else (gd (inb 4 (shL (shR a0 0))) (bIW (f_X11_wrongOf F a0 p1 p2 p3 (w6 (shR a0 0) 4.toNatClampNeg) w6) (fun r7 w8 => some (r7, w8)))))) else (some (0, w4)))))
def f_X11_calmest_b32_b (F : Nat) (a0 : Nat) (p1 : Int32) (p2 : Int32)   (k32 : Int32 → aW → Option (Int32 × aW)) (v3 : Int32) (w : aW) : Option (Int32 × aW) :=
  bIW (f_X11_wrongOf F a0 p1 p2 1 v3 w) (fun r6 w7 => if r6 ≤ 0 then (some (v3, w7)) else (k32 (v3 + (-1)) w7))
def f_X11_calmest_b32 (F : Nat) (a0 : Nat) (p1 : Int32) (p2 : Int32)   : Nat → Int32 → aW → Option (Int32 × aW) :=
  lp (f_X11_calmest_b32_b F a0 p1 p2  ) (fun _ _ => none)
def f_X11_calmest (F : Nat) (a0 : Nat) (p1 : Int32) (p2 : Int32) (w : aW) : Option (Int32 × aW) :=
  (f_X11_areRoofs F a0 p1 p2 w).bind (fun r1 => bBW (f_X11_may F a0 (bi r1) 1 1 w) (fun r2 w3 => if r2 then (bIW (f_X11_sumTo F a0 p1 p2 w3) (fun r4 w5 => if r4 = (-1) then (some ((-1), w5)) else (f_X11_calmest_b32 F a0 p1 p2 F 9 w5))) else (some (0, w3))))
def f_X11_arrivesIn_b26_b (F : Nat) (a0 : Nat) (p1 : Int32)   (k26 : Int32 → aW → Option (Int32 × aW)) (v2 : Int32) (w : aW) : Option (Int32 × aW) :=
  if 200 < v2 then (bIW (f_X11_gives F a0 (shR a0 1) (-1) w) (fun r5 w6 => some (r5, w6))) else ((f_X11_t F p1 w).bind (fun r7 => gd (inb (r7 + 3) (shL (shR a0 0))) (if (w (shR a0 0) (r7 + 3).toNatClampNeg) = 2 then (bIW (f_X11_gives F a0 (shR a0 1) v2 w) (fun r9 w10 => some (r9, w10))) else ((f_X11_ticks F a0 w).bind (fun w8 => k26 (v2 + 1) w8)))))
def f_X11_arrivesIn_b26 (F : Nat) (a0 : Nat) (p1 : Int32)   : Nat → Int32 → aW → Option (Int32 × aW) :=
  lp (f_X11_arrivesIn_b26_b F a0 p1  ) (fun _ _ => none)
def f_X11_arrivesIn (F : Nat) (a0 : Nat) (p1 : Int32) (w : aW) : Option (Int32 × aW) :=
  (f_X11_isTune F a0 p1 w).bind (fun r1 => bBW (f_X11_may F a0 (bi r1) 1 1 w) (fun r2 w3 => if r2 then ((f_X11_copies F a0 (shR a0 1) w3).bind (fun w4 => f_X11_arrivesIn_b26 F a0 p1 F 0 w4)) else (some (0, w3))))
def f_X11_growsBy_b30 (F : Nat) (a0 : Nat) (p1 : Int32) (p2 : Int32)    (z0 : Int32) (z1 : Nat) (w : aW) : Option (Int32 × aW) :=
  bBW (f_X11_may F z1 z0 1 1 w) (fun r2 w3 => if r2 then (gd (inb (10 + p1) (shL (shR a0 0))) (ltv (w3 (shR a0 0) (10 + p1).toNatClampNeg) (fun v3_4 => (f_X11_copies F a0 (shR a0 1) w3).bind (fun w5 => bIW (f_X11_goes F a0 p2 w5) (fun r6 w7 => gd (inb (10 + p1) (shL (shR a0 0))) (bIW (f_X11_gives F a0 (shR a0 1) ((w7 (shR a0 0) (10 + p1).toNatClampNeg) - v3_4) w7) (fun r8 w9 => some (r8, w9)))))))) else (some (0, w3)))
def f_X11_growsBy_b29 (F : Nat) (a0 : Nat) (p1 : Int32) (p2 : Int32)    (z0 : Nat) (w : aW) : Option (Int32 × aW) :=
  f_X11_growsBy_b30 F a0 p1 p2 0 z0 w
def f_X11_growsBy (F : Nat) (a0 : Nat) (p1 : Int32) (p2 : Int32) (w : aW) : Option (Int32 × aW) :=
  (f_X11_in F p1.toInt64 0 10 w).bind (fun r1 => if r1 then ((f_X11_in F p2.toInt64 0 200 w).bind (fun r10 => if r10 then (f_X11_growsBy_b30 F a0 p1 p2 1 a0 w) else (f_X11_growsBy_b29 F a0 p1 p2 a0 w))) else (f_X11_growsBy_b29 F a0 p1 p2 a0 w))
def f_X11_partedWithout_b23_b (F : Nat) (a0 : Nat) (p1 : Int32)  (k4 : Int32 → Int32 → aW → Option (Int32 × aW)) (k23 : Int32 → Int32 → Int32 → aW → Option (Int32 × aW)) (v2 : Int32) (v3 : Int32) (v4 : Int32) (w : aW) : Option (Int32 × aW) :=
  if v3 ≤ v4 then (k4 v2 (v3 + 1) w) else (gd (inb v4 (shL (shR a0 9))) (if (w (shR a0 9) v4.toNatClampNeg) = (-1) then ((f_X11_one F 1 w).bind (fun r4 => ltv (v2 + r4) (fun v2_5 => k23 v2_5 v3 (v4 + 1) w))) else ((f_X11_one F 0 w).bind (fun r2 => ltv (v2 + r2) (fun v2_3 => k23 v2_3 v3 (v4 + 1) w)))))
def f_X11_partedWithout_b23 (F : Nat) (a0 : Nat) (p1 : Int32)  (k4 : Int32 → Int32 → aW → Option (Int32 × aW)) : Nat → Int32 → Int32 → Int32 → aW → Option (Int32 × aW) :=
  lp (f_X11_partedWithout_b23_b F a0 p1  k4) (fun _ _ _ _ => none)
def f_X11_partedWithout_b4_b (F : Nat) (a0 : Nat) (p1 : Int32)   (k4 : Int32 → Int32 → aW → Option (Int32 × aW)) (v2 : Int32) (v3 : Int32) (w : aW) : Option (Int32 × aW) :=
  gd (inb 0 (shL (shR a0 0))) (if (w (shR a0 0) 0.toNatClampNeg) ≤ v3 then (some (v2, w)) else ((f_X11_reckons F a0 v3 p1 w).bind (fun w1 => f_X11_partedWithout_b23 F a0 p1 k4 F v2 v3 0 w1)))
def f_X11_partedWithout_b4 (F : Nat) (a0 : Nat) (p1 : Int32)   : Nat → Int32 → Int32 → aW → Option (Int32 × aW) :=
  lp (f_X11_partedWithout_b4_b F a0 p1  ) (fun _ _ _ => none)
def f_X11_partedWithout (F : Nat) (a0 : Nat) (p1 : Int32) (w : aW) : Option (Int32 × aW) :=
  f_X11_partedWithout_b4 F a0 p1 F 0 0 w
def f_X11_dearestWay_b11_b (F : Nat) (a0 : Nat)   (k11 : Int32 → Int32 → Int32 → aW → Option (Int32 × aW)) (v1 : Int32) (v2 : Int32) (v3 : Int32) (w : aW) : Option (Int32 × aW) :=
  gd (inb 1 (shL (shR a0 0))) (if (w (shR a0 0) 1.toNatClampNeg) ≤ v3 then (some (v1, w)) else (bIW (f_X11_partedWithout F a0 v3 w) (fun r2 w3 => if r2 ≤ v2 then (k11 v1 v2 (v3 + 1) w3) else (k11 v3 r2 (v3 + 1) w3))))
def f_X11_dearestWay_b11 (F : Nat) (a0 : Nat)   : Nat → Int32 → Int32 → Int32 → aW → Option (Int32 × aW) :=
  lp (f_X11_dearestWay_b11_b F a0  ) (fun _ _ _ _ => none)
def f_X11_dearestWay (F : Nat) (a0 : Nat) (w : aW) : Option (Int32 × aW) :=
  ltw (aset w a0 6 0) (fun w1 => f_X11_dearestWay_b11 F a0 F (-1) (-1) 0 w1)
def f_X11_nearestOpen_b4_b (F : Nat) (a0 : Nat) (w : aW)  (k4 : Int32 → Int32 → Option Int32) (v1 : Int32) (v2 : Int32)  : Option Int32 :=
  gd (inb 0 (shL (shR a0 0))) (if (w (shR a0 0) 0.toNatClampNeg) ≤ v2 then (some v1) else (gd (inb v2 (shL (shR a0 25))) (if (w (shR a0 25) v2.toNatClampNeg) = 0 then (gd (inb v2 (shL (shR a0 24))) (if (w (shR a0 24) v2.toNatClampNeg) = (-1) then (k4 v1 (v2 + 1)) else (if v1 = (-1) then (k4 v2 (v2 + 1)) else (gd (inb v2 (shL (shR a0 24))) (gd (inb v1 (shL (shR a0 24))) (if (w (shR a0 24) v1.toNatClampNeg) ≤ (w (shR a0 24) v2.toNatClampNeg) then (k4 v1 (v2 + 1)) else (k4 v2 (v2 + 1)))))))) else (k4 v1 (v2 + 1)))))
def f_X11_nearestOpen_b4 (F : Nat) (a0 : Nat) (w : aW)  : Nat → Int32 → Int32 → Option Int32 :=
  lp (f_X11_nearestOpen_b4_b F a0 w ) (fun _ _ => none)
def f_X11_nearestOpen (F : Nat) (a0 : Nat) (w : aW) : Option Int32 :=
  f_X11_nearestOpen_b4 F a0 w F (-1) 0
def f_X11_goesOut_b56_b (F : Nat) (a0 : Nat) (p1 : Int32)  (k42 : Int32 → aW → Option aW) (k56 : Int32 → Int32 → aW → Option aW) (v2 : Int32) (v3 : Int32) (w : aW) : Option aW :=
  gd (inb 1 (shL (shR a0 0))) (if (w (shR a0 0) 1.toNatClampNeg) ≤ v3 then ((f_X11_nearestOpen F a0 w).bind (fun r3 => k42 r3 w)) else ((f_X11_ends F a0 v3 v2 w).bind (fun r4 => if r4 then ((f_X11_otherEnd F a0 v3 v2 w).bind (fun r5 => gd (inb v2 (shL (shR a0 24))) ((f_X11_w F v3 w).bind (fun r6 => gd (inb (r6 + 2) (shL (shR a0 0))) (ltv ((w (shR a0 24) v2.toNatClampNeg) + (w (shR a0 0) (r6 + 2).toNatClampNeg)) (fun v5_7 => gd (inb r5 (shL (shR a0 24))) (if (w (shR a0 24) r5.toNatClampNeg) = (-1) then (gd (inb r5 (shL (shR a0 24))) (ltw (aset w (shR a0 24) r5.toNatClampNeg v5_7) (fun w9 => k56 v2 (v3 + 1) w9))) else (gd (inb r5 (shL (shR a0 24))) (gd (inb r5 (shL (shR a0 24))) (ltw (aset w (shR a0 24) r5.toNatClampNeg (imin (w (shR a0 24) r5.toNatClampNeg) v5_7)) (fun w8 => k56 v2 (v3 + 1) w8))))))))))) else (k56 v2 (v3 + 1) w))))
def f_X11_goesOut_b56 (F : Nat) (a0 : Nat) (p1 : Int32)  (k42 : Int32 → aW → Option aW) : Nat → Int32 → Int32 → aW → Option aW :=
  lp (f_X11_goesOut_b56_b F a0 p1  k42) (fun _ _ _ => none)
def f_X11_goesOut_b42_b (F : Nat) (a0 : Nat) (p1 : Int32)   (k42 : Int32 → aW → Option aW) (v2 : Int32) (w : aW) : Option aW :=
  if v2 = (-1) then (some w) else (gd (inb v2 (shL (shR a0 25))) (ltw (aset w (shR a0 25) v2.toNatClampNeg (vp_nar .boolean 1)) (fun w2 => f_X11_goesOut_b56 F a0 p1 k42 F v2 0 w2)))
def f_X11_goesOut_b42 (F : Nat) (a0 : Nat) (p1 : Int32)   : Nat → Int32 → aW → Option aW :=
  lp (f_X11_goesOut_b42_b F a0 p1  ) (fun _ _ => none)
def f_X11_goesOut_b23 (F : Nat) (a0 : Nat) (p1 : Int32)  (k2 : Int32 → aW → Option aW)  (v2 : Int32) (z0 : Int32) (z1 : Int32) (z2 : Nat) (w : aW) : Option aW :=
  gd (inb z1 (shL z2)) (ltw (aset w z2 z1.toNatClampNeg z0) (fun w10 => gd (inb v2 (shL (shR a0 25))) (ltw (aset w10 (shR a0 25) v2.toNatClampNeg (vp_nar .boolean 0)) (fun w11 => k2 (v2 + 1) w11))))
def f_X11_goesOut_b2_b (F : Nat) (a0 : Nat) (p1 : Int32)   (k2 : Int32 → aW → Option aW) (v2 : Int32) (w : aW) : Option aW :=
  if 10 ≤ v2 then ((f_X11_nearestOpen F a0 w).bind (fun r1 => f_X11_goesOut_b42 F a0 p1 F r1 w)) else (if v2 = p1 then (f_X11_goesOut_b23 F a0 p1 k2 v2 0 v2 (shR a0 24) w) else (f_X11_goesOut_b23 F a0 p1 k2 v2 (-1) v2 (shR a0 24) w))
def f_X11_goesOut_b2 (F : Nat) (a0 : Nat) (p1 : Int32)   : Nat → Int32 → aW → Option aW :=
  lp (f_X11_goesOut_b2_b F a0 p1  ) (fun _ _ => none)
def f_X11_goesOut (F : Nat) (a0 : Nat) (p1 : Int32) (w : aW) : Option aW :=
  f_X11_goesOut_b2 F a0 p1 F 0 w
def f_X11_areRoutes_b25_b (F : Nat) (a0 : Nat)  (k2 : Int32 → aW → Option (Bool × aW)) (k25 : Int32 → Int32 → aW → Option (Bool × aW)) (v1 : Int32) (v2 : Int32) (w : aW) : Option (Bool × aW) :=
  gd (inb 0 (shL (shR a0 0))) (if (w (shR a0 0) 0.toNatClampNeg) ≤ v2 then (k2 (v1 + 1) w) else (gd (inb v2 (shL (shR a0 24))) (gd (inb v2 (shL (shR a0 9))) (if (w (shR a0 24) v2.toNatClampNeg) = (w (shR a0 9) v2.toNatClampNeg) then (k25 v1 (v2 + 1) w) else (some (false, w))))))
def f_X11_areRoutes_b25 (F : Nat) (a0 : Nat)  (k2 : Int32 → aW → Option (Bool × aW)) : Nat → Int32 → Int32 → aW → Option (Bool × aW) :=
  lp (f_X11_areRoutes_b25_b F a0  k2) (fun _ _ _ => none)
def f_X11_areRoutes_b2_b (F : Nat) (a0 : Nat)   (k2 : Int32 → aW → Option (Bool × aW)) (v1 : Int32) (w : aW) : Option (Bool × aW) :=
  gd (inb 0 (shL (shR a0 0))) (if (w (shR a0 0) 0.toNatClampNeg) ≤ v1 then (some (true, w)) else ((f_X11_goesOut F a0 v1 w).bind (fun w1 => (f_X11_reckons F a0 v1 (-1) w1).bind (fun w2 => f_X11_areRoutes_b25 F a0 k2 F v1 0 w2))))
def f_X11_areRoutes_b2 (F : Nat) (a0 : Nat)   : Nat → Int32 → aW → Option (Bool × aW) :=
  lp (f_X11_areRoutes_b2_b F a0  ) (fun _ _ => none)
def f_X11_areRoutes (F : Nat) (a0 : Nat) (w : aW) : Option (Bool × aW) :=
  f_X11_areRoutes_b2 F a0 F 0 w
def f_X11_areTunes_b4_b (F : Nat) (a0 : Nat) (w : aW)  (k4 : Int32 → Int32 → Option Bool) (v1 : Int32) (v2 : Int32)  : Option Bool :=
  gd (inb 2 (shL (shR a0 0))) (if (w (shR a0 0) 2.toNatClampNeg) ≤ v2 then (gd (inb 13 (shL (shR a0 0))) (if v1 = (w (shR a0 0) 13.toNatClampNeg) then (some true) else (some false))) else ((f_X11_t F v2 w).bind (fun r1 => gd (inb (r1 + 9) (shL (shR a0 0))) (ltv (v1 + (w (shR a0 0) (r1 + 9).toNatClampNeg)) (fun v1_2 => gd (inb (r1 + 4) (shL (shR a0 0))) ((f_X11_isRoof F a0 (w (shR a0 0) (r1 + 4).toNatClampNeg) w).bind (fun r3 => if r3 then (gd (inb (r1 + 3) (shL (shR a0 0))) (if (w (shR a0 0) (r1 + 3).toNatClampNeg) = 2 then (gd (inb (r1 + 4) (shL (shR a0 0))) (gd (inb (r1 + 1) (shL (shR a0 0))) (if (w (shR a0 0) (r1 + 4).toNatClampNeg) = (w (shR a0 0) (r1 + 1).toNatClampNeg) then (k4 v1_2 (v2 + 1)) else (some false)))) else (k4 v1_2 (v2 + 1)))) else (some false))))))))
def f_X11_areTunes_b4 (F : Nat) (a0 : Nat) (w : aW)  : Nat → Int32 → Int32 → Option Bool :=
  lp (f_X11_areTunes_b4_b F a0 w ) (fun _ _ => none)
def f_X11_areTunes (F : Nat) (a0 : Nat) (w : aW) : Option Bool :=
  f_X11_areTunes_b4 F a0 w F 0 0
def f_X11_agree_b88 (F : Nat) (a0 : Nat)    (z0 : Int32) (w : aW) : Option (Bool × aW) :=
  if z0 = 0 then (some (false, w)) else (gd (inb 16 (shL (shR a0 0))) (gd (inb 15 (shL (shR a0 0))) (if (w (shR a0 0) 15.toNatClampNeg) < (w (shR a0 0) 16.toNatClampNeg) then (some (false, w)) else ((f_X11_areTunes F a0 w).bind (fun r2 => if r2 then (bBW (f_X11_areRoutes F a0 w) (fun r3 w4 => if r3 then (some (true, w4)) else (some (false, w4)))) else (some (false, w)))))))
def f_X11_agree_b87 (F : Nat) (a0 : Nat)     (w : aW) : Option (Bool × aW) :=
  f_X11_agree_b88 F a0 0 w
def f_X11_agree_b41 (F : Nat) (a0 : Nat)    (z0 : Int32) (w : aW) : Option (Bool × aW) :=
  if z0 = 0 then (f_X11_agree_b87 F a0 w) else ((f_X11_those F a0 3 w).bind (fun r5 => gd (inb 18 (shL (shR a0 0))) (if r5 = (w (shR a0 0) 18.toNatClampNeg) then ((f_X11_purses F a0 w).bind (fun r6 => gd (inb 7 (shL (shR a0 0))) (gd (inb 20 (shL (shR a0 0))) (if r6 = ((w (shR a0 0) 7.toNatClampNeg) + (w (shR a0 0) 20.toNatClampNeg)) then (f_X11_agree_b88 F a0 1 w) else (f_X11_agree_b87 F a0 w))))) else (f_X11_agree_b87 F a0 w))))
def f_X11_agree_b40 (F : Nat) (a0 : Nat)     (w : aW) : Option (Bool × aW) :=
  f_X11_agree_b41 F a0 0 w
def f_X11_agree (F : Nat) (a0 : Nat) (w : aW) : Option (Bool × aW) :=
  ltw (aset w a0 6 0) (fun w1 => gd (inb 11 (shL (shR a0 0))) (gd (inb 2 (shL (shR a0 0))) (if (w1 (shR a0 0) 11.toNatClampNeg) = (w1 (shR a0 0) 2.toNatClampNeg) then ((f_X11_those F a0 2 w1).bind (fun r7 => gd (inb 15 (shL (shR a0 0))) (if r7 = (w1 (shR a0 0) 15.toNatClampNeg) then (f_X11_agree_b41 F a0 1 w1) else (f_X11_agree_b40 F a0 w1)))) else (f_X11_agree_b40 F a0 w1))))
def f_X11_sings_b81 (F : Nat) (a0 : Nat) (p1 : Int32)  (k44 : Int32 → Int32 → Int32 → aW → Option (Bool × aW))  (v2 : Int32) (v4 : Int32) (z0 : Int32) (w : aW) : Option (Bool × aW) :=
  ltv (v2 / 10) (fun v2_6 => k44 v2_6 z0 (v4 + (-1)) w)
def f_X11_sings_b80 (F : Nat) (a0 : Nat) (p1 : Int32)  (k44 : Int32 → Int32 → Int32 → aW → Option (Bool × aW))  (v2 : Int32) (v4 : Int32) (w : aW) : Option (Bool × aW) :=
  f_X11_sings_b81 F a0 p1 k44 v2 v4 0 w
def f_X11_sings_b44_b (F : Nat) (a0 : Nat) (p1 : Int32)   (k44 : Int32 → Int32 → Int32 → aW → Option (Bool × aW)) (v2 : Int32) (v3 : Int32) (v4 : Int32) (w : aW) : Option (Bool × aW) :=
  if v4 < 0 then (gd (v3 = 0 ∨ v3 = 1) (some ((v3 == 1), w))) else (gd (inb v4 (shL (shR a0 10))) (ltw (aset w (shR a0 10) v4.toNatClampNeg (irm v2 10)) (fun w5 => if v3 = 0 then (f_X11_sings_b80 F a0 p1 k44 v2 v4 w5) else (gd (inb v4 (shL (shR a0 10))) (if 8 ≤ (w5 (shR a0 10) v4.toNatClampNeg) then (f_X11_sings_b80 F a0 p1 k44 v2 v4 w5) else (f_X11_sings_b81 F a0 p1 k44 v2 v4 1 w5))))))
def f_X11_sings_b44 (F : Nat) (a0 : Nat) (p1 : Int32)   : Nat → Int32 → Int32 → Int32 → aW → Option (Bool × aW) :=
  lp (f_X11_sings_b44_b F a0 p1  ) (fun _ _ _ _ => none)
def f_X11_sings_b10_b (F : Nat) (a0 : Nat) (p1 : Int32)   (k10 : Int32 → aW → Option (Bool × aW)) (v2 : Int32) (w : aW) : Option (Bool × aW) :=
  if v2 ≤ 0 then (ltv ((w a0 11) - 1) (fun v4_3 => f_X11_sings_b44 F a0 p1 F p1 1 v4_3 w)) else (ltw (aset w a0 11 ((w a0 11) + 1)) (fun w7 => ltv (v2 / 10) (fun v2_8 => k10 v2_8 w7)))
def f_X11_sings_b10 (F : Nat) (a0 : Nat) (p1 : Int32)   : Nat → Int32 → aW → Option (Bool × aW) :=
  lp (f_X11_sings_b10_b F a0 p1  ) (fun _ _ => none)
def f_X11_sings (F : Nat) (a0 : Nat) (p1 : Int32) (w : aW) : Option (Bool × aW) :=
  ltw (aset w a0 11 1) (fun w1 => ltv (p1 / 10) (fun v2_2 => f_X11_sings_b10 F a0 p1 F v2_2 w1))
def f_X11_send_b57 (F : Nat) (a0 : Nat) (p1 : Int32) (p2 : Int32) (p3 : Int32) (p4 : Int32)    (z0 : Int32) (z1 : Int32) (z2 : Int32) (z3 : Nat) (w : aW) : Option (Int32 × aW) :=
  bBW (f_X11_may F z3 z2 z1 z0 w) (fun r2 w3 => if r2 then ((f_X11_remembers F a0 w3).bind (fun w4 => bIW (f_X11_newTune F a0 p1 p2 0 p4 w4) (fun r5 w6 => some (r5, w6)))) else (some (0, w3)))
def f_X11_send_b30 (F : Nat) (a0 : Nat) (p1 : Int32) (p2 : Int32) (p3 : Int32) (p4 : Int32)    (z0 : Int32) (w : aW) : Option (Int32 × aW) :=
  (f_X11_areRoofs F a0 p1 p2 w).bind (fun r1 => gd (inb 2 (shL (shR a0 0))) (if 30 ≤ (w (shR a0 0) 2.toNatClampNeg) then (f_X11_send_b57 F a0 p1 p2 p3 p4 0 z0 (bi r1) a0 w) else (f_X11_send_b57 F a0 p1 p2 p3 p4 1 z0 (bi r1) a0 w)))
def f_X11_send_b29 (F : Nat) (a0 : Nat) (p1 : Int32) (p2 : Int32) (p3 : Int32) (p4 : Int32)     (w : aW) : Option (Int32 × aW) :=
  f_X11_send_b30 F a0 p1 p2 p3 p4 0 w
def f_X11_send (F : Nat) (a0 : Nat) (p1 : Int32) (p2 : Int32) (p3 : Int32) (p4 : Int32) (w : aW) : Option (Int32 × aW) :=
  if p1 = p2 then (f_X11_send_b29 F a0 p1 p2 p3 p4 w) else ((f_X11_in F p3.toInt64 0 77777777 w).bind (fun r7 => if r7 then (bBW (f_X11_sings F a0 p3 w) (fun r8 w9 => if r8 then (f_X11_send_b30 F a0 p1 p2 p3 p4 1 w9) else (f_X11_send_b29 F a0 p1 p2 p3 p4 w9))) else (f_X11_send_b29 F a0 p1 p2 p3 p4 w)))
def f_X11_tick_b32 (F : Nat) (a0 : Nat) (p1 : Int32)    (z0 : Int32) (z1 : Int32) (z2 : Nat) (w : aW) : Option (Int32 × aW) :=
  bBW (f_X11_may F z2 z1 z0 1 w) (fun r2 w3 => if r2 then ((f_X11_remembers F a0 w3).bind (fun w4 => bIW (f_X11_goes F a0 p1 w4) (fun r5 w6 => some (r5, w6)))) else (some (0, w3)))
def f_X11_tick (F : Nat) (a0 : Nat) (p1 : Int32) (w : aW) : Option (Int32 × aW) :=
  (f_X11_in F p1.toInt64 1 200 w).bind (fun r1 => gd (inb 3 (shL (shR a0 0))) (if 0 < (lg_cmp (((w (shR a0 0) 3.toNatClampNeg).toInt64) + p1.toInt64) 9999) then (f_X11_tick_b32 F a0 p1 0 (bi r1) a0 w) else (f_X11_tick_b32 F a0 p1 1 (bi r1) a0 w)))
def f_X11_give_b55 (F : Nat) (a0 : Nat) (p1 : Int32) (p2 : Int32)    (z0 : Int32) (z1 : Int32) (z2 : Int32) (z3 : Nat) (w : aW) : Option (Int32 × aW) :=
  bBW (f_X11_may F z3 z2 z1 z0 w) (fun r3 w4 => if r3 then ((f_X11_remembers F a0 w4).bind (fun w5 => bIW (f_X11_givesCoins F a0 p1 p2 w5) (fun r6 w7 => some (r6, w7)))) else (some (0, w4)))
def f_X11_give_b54 (F : Nat) (a0 : Nat) (p1 : Int32) (p2 : Int32)    (z0 : Int32) (z1 : Int32) (z2 : Nat) (w : aW) : Option (Int32 × aW) :=
  f_X11_give_b55 F a0 p1 p2 0 z0 z1 z2 w
def f_X11_give (F : Nat) (a0 : Nat) (p1 : Int32) (p2 : Int32) (w : aW) : Option (Int32 × aW) :=
  (f_X11_isRoof F a0 p1 w).bind (fun r1 => (f_X11_in F p2.toInt64 1 99 w).bind (fun r2 => if r1 then (if r2 then ((f_X11_r F p1 w).bind (fun r8 => gd (inb (r8 + 10) (shL (shR a0 0))) (if 9999 < ((w (shR a0 0) (r8 + 10).toNatClampNeg) + p2) then (f_X11_give_b54 F a0 p1 p2 (bi r2) (bi r1) a0 w) else (f_X11_give_b55 F a0 p1 p2 1 (bi r2) (bi r1) a0 w)))) else (f_X11_give_b54 F a0 p1 p2 (bi r2) (bi r1) a0 w)) else (f_X11_give_b54 F a0 p1 p2 (bi r2) (bi r1) a0 w)))
def f_X11_cut_b28 (F : Nat) (a0 : Nat) (p1 : Int32) (p2 : Int32)    (z0 : Int32) (z1 : Int32) (z2 : Nat) (w : aW) : Option (Int32 × aW) :=
  bBW (f_X11_may F z2 z1 z0 1 w) (fun r2 w3 => if r2 then ((f_X11_remembers F a0 w3).bind (fun w4 => (f_X11_wayBetween F a0 p1 p2 w4).bind (fun r5 => bIW (f_X11_cuts F a0 r5 w4) (fun r6 w7 => some (r6, w7))))) else (some (0, w3)))
def f_X11_cut_b27 (F : Nat) (a0 : Nat) (p1 : Int32) (p2 : Int32)    (z0 : Int32) (z1 : Nat) (w : aW) : Option (Int32 × aW) :=
  f_X11_cut_b28 F a0 p1 p2 0 z0 z1 w
def f_X11_cut (F : Nat) (a0 : Nat) (p1 : Int32) (p2 : Int32) (w : aW) : Option (Int32 × aW) :=
  (f_X11_areRoofs F a0 p1 p2 w).bind (fun r1 => if r1 then ((f_X11_wayBetween F a0 p1 p2 w).bind (fun r8 => if r8 = (-1) then (f_X11_cut_b27 F a0 p1 p2 (bi r1) a0 w) else (f_X11_cut_b28 F a0 p1 p2 1 (bi r1) a0 w))) else (f_X11_cut_b27 F a0 p1 p2 (bi r1) a0 w))
def f_X11_set_b54 (F : Nat) (a0 : Nat) (p1 : Int32) (p2 : Int32)    (v3 : Int32) (z0 : Int32) (z1 : Nat) (w : aW) : Option (Int32 × aW) :=
  bBW (f_X11_may F z1 z0 1 1 w) (fun r2 w3 => if r2 then ((f_X11_remembers F a0 w3).bind (fun w4 => bIW (f_X11_sets F a0 v3 p2 w4) (fun r5 w6 => some (r5, w6)))) else (some (0, w3)))
def f_X11_set_b53 (F : Nat) (a0 : Nat) (p1 : Int32) (p2 : Int32)    (v3 : Int32) (z0 : Nat) (w : aW) : Option (Int32 × aW) :=
  f_X11_set_b54 F a0 p1 p2 v3 0 z0 w
def f_X11_set_b24 (F : Nat) (a0 : Nat) (p1 : Int32) (p2 : Int32)    (z0 : Int32) (w : aW) : Option (Int32 × aW) :=
  if z0 = (-1) then (f_X11_set_b53 F a0 p1 p2 z0 a0 w) else ((f_X11_lowOf F z0 w).bind (fun r7 => (f_X11_highOf F z0 w).bind (fun r8 => (f_X11_in F p2.toInt64 r7.toInt64 r8.toInt64 w).bind (fun r9 => if r9 then (f_X11_set_b54 F a0 p1 p2 z0 1 a0 w) else (f_X11_set_b53 F a0 p1 p2 z0 a0 w)))))
def f_X11_set (F : Nat) (a0 : Nat) (p1 : Int32) (p2 : Int32) (w : aW) : Option (Int32 × aW) :=
  (f_X11_in F p1.toInt64 8 10 w).bind (fun r1 => if r1 then (f_X11_set_b24 F a0 p1 p2 ((4 + p1) - 8) w) else (f_X11_set_b24 F a0 p1 p2 (-1) w))
def f_X11_undo_b35_b (F : Nat) (a0 : Nat)   (k35 : Int32 → aW → Option (Int32 × aW)) (v1 : Int32) (w : aW) : Option (Int32 × aW) :=
  if 1030 ≤ v1 then (some (w a0 4, w)) else (gd (inb ((1030 * (w a0 4)) + v1) (shL (shR a0 3))) (gd (inb v1 (shL (shR a0 0))) (ltw (aset w (shR a0 0) v1.toNatClampNeg (w (shR a0 3) ((1030 * (w a0 4)) + v1).toNatClampNeg)) (fun w4 => k35 (v1 + 1) w4))))
def f_X11_undo_b35 (F : Nat) (a0 : Nat)   : Nat → Int32 → aW → Option (Int32 × aW) :=
  lp (f_X11_undo_b35_b F a0  ) (fun _ _ => none)
def f_X11_undo_b13 (F : Nat) (a0 : Nat)    (z0 : Int32) (z1 : Nat) (w : aW) : Option (Int32 × aW) :=
  bBW (f_X11_may F z1 z0 1 1 w) (fun r1 w2 => if r1 then (ltw (aset w2 a0 4 ((w2 a0 4) - 1)) (fun w3 => f_X11_undo_b35 F a0 F 0 w3)) else (some (0, w2)))
def f_X11_undo (F : Nat) (a0 : Nat) (w : aW) : Option (Int32 × aW) :=
  if (w a0 4) ≤ 0 then (f_X11_undo_b13 F a0 0 a0 w) else (f_X11_undo_b13 F a0 1 a0 w)
def f_X11_says (F : Nat) (a0 : Nat) (p1 : Int32) (w : aW) : Option aW :=
  gd (inb (w a0 27) (shL (shR a0 26))) (ltw (aset w (shR a0 26) (w a0 27).toNatClampNeg (vp_nar .byte (i2b p1))) (fun w1 => ltw (aset w1 a0 27 ((w1 a0 27) + 1)) (fun w2 => some w2)))
def f_X11_saysNumber_b18_b (F : Nat) (a0 : Nat) (p1 : Int32)   (k18 : Int32 → aW → Option aW) (v2 : Int32) (w : aW) : Option aW :=
  if v2 ≤ 0 then (some w) else (gd (¬ v2 = 0) ((f_X11_says F a0 (48 + (irm (p1 / v2) 10)) w).bind (fun w3 => ltv (v2 / 10) (fun v2_4 => k18 v2_4 w3))))
def f_X11_saysNumber_b18 (F : Nat) (a0 : Nat) (p1 : Int32)   : Nat → Int32 → aW → Option aW :=
  lp (f_X11_saysNumber_b18_b F a0 p1  ) (fun _ _ => none)
def f_X11_saysNumber_b2_b (F : Nat) (a0 : Nat) (p1 : Int32)   (k2 : Int32 → aW → Option aW) (v2 : Int32) (w : aW) : Option aW :=
  gd (¬ v2 = 0) (if (p1 / v2) ≤ 9 then (f_X11_saysNumber_b18 F a0 p1 F v2 w) else (ltv (v2 * 10) (fun v2_5 => k2 v2_5 w)))
def f_X11_saysNumber_b2 (F : Nat) (a0 : Nat) (p1 : Int32)   : Nat → Int32 → aW → Option aW :=
  lp (f_X11_saysNumber_b2_b F a0 p1  ) (fun _ _ => none)
def f_X11_saysNumber (F : Nat) (a0 : Nat) (p1 : Int32) (w : aW) : Option aW :=
  f_X11_saysNumber_b2 F a0 p1 F 1 w
def f_X11_saysName_b2_b (F : Nat) (a0 : Nat) (p1 : Int32)   (k2 : Int32 → aW → Option aW) (v2 : Int32) (w : aW) : Option aW :=
  (f_X11_r F p1 w).bind (fun r1 => gd (inb r1 (shL (shR a0 0))) (if (w (shR a0 0) r1.toNatClampNeg) ≤ v2 then (some w) else ((f_X11_r F p1 w).bind (fun r2 => gd (inb ((r2 + 1) + v2) (shL (shR a0 0))) ((f_X11_says F a0 (w (shR a0 0) ((r2 + 1) + v2).toNatClampNeg) w).bind (fun w3 => k2 (v2 + 1) w3))))))
def f_X11_saysName_b2 (F : Nat) (a0 : Nat) (p1 : Int32)   : Nat → Int32 → aW → Option aW :=
  lp (f_X11_saysName_b2_b F a0 p1  ) (fun _ _ => none)
def f_X11_saysName (F : Nat) (a0 : Nat) (p1 : Int32) (w : aW) : Option aW :=
  f_X11_saysName_b2 F a0 p1 F 0 w
def f_X11_saysRoof_b57 (F : Nat) (a0 : Nat) (p1 : Int32)     (w : aW) : Option aW :=
  (f_X11_waitingMany F a0 p1 w).bind (fun r6 => if r6 ≤ 0 then (some w) else ((f_X11_says F a0 47 w).bind (fun w7 => (f_X11_waitingMany F a0 p1 w7).bind (fun r8 => (f_X11_saysNumber F a0 r8 w7).bind (fun w9 => some w9)))))
def f_X11_saysRoof_b10 (F : Nat) (a0 : Nat) (p1 : Int32)     (w : aW) : Option aW :=
  (f_X11_saysName F a0 p1 w).bind (fun w1 => (f_X11_says F a0 58 w1).bind (fun w2 => (f_X11_r F p1 w2).bind (fun r3 => gd (inb (r3 + 10) (shL (shR a0 0))) ((f_X11_saysNumber F a0 (w2 (shR a0 0) (r3 + 10).toNatClampNeg) w2).bind (fun w4 => gd (inb 3 (shL (shR a0 0))) ((f_X11_isBusy F a0 p1 (w4 (shR a0 0) 3.toNatClampNeg) w4).bind (fun r5 => if r5 then ((f_X11_says F a0 33 w4).bind (fun w10 => f_X11_saysRoof_b57 F a0 p1 w10)) else (f_X11_saysRoof_b57 F a0 p1 w4))))))))
def f_X11_saysRoof (F : Nat) (a0 : Nat) (p1 : Int32) (w : aW) : Option aW :=
  if p1 ≤ 0 then (f_X11_saysRoof_b10 F a0 p1 w) else ((f_X11_says F a0 32 w).bind (fun w11 => f_X11_saysRoof_b10 F a0 p1 w11))
def f_X11_printRoofs_b12_b (F : Nat) (a0 : Nat)   (k12 : Int32 → aW → Option (Int32 × aW)) (v1 : Int32) (w : aW) : Option (Int32 × aW) :=
  gd (inb 0 (shL (shR a0 0))) (if (w (shR a0 0) 0.toNatClampNeg) ≤ v1 then (some (w a0 27, w)) else ((f_X11_saysRoof F a0 v1 w).bind (fun w3 => k12 (v1 + 1) w3)))
def f_X11_printRoofs_b12 (F : Nat) (a0 : Nat)   : Nat → Int32 → aW → Option (Int32 × aW) :=
  lp (f_X11_printRoofs_b12_b F a0  ) (fun _ _ => none)
def f_X11_printRoofs (F : Nat) (a0 : Nat) (w : aW) : Option (Int32 × aW) :=
  ltw (aset w a0 6 0) (fun w1 => ltw (aset w1 a0 27 0) (fun w2 => f_X11_printRoofs_b12 F a0 F 0 w2))
def f_X11_printTune_b28_b (F : Nat) (a0 : Nat) (p1 : Int32)   (k28 : Int32 → Int32 → aW → Option (Int32 × aW)) (v2 : Int32) (v3 : Int32) (w : aW) : Option (Int32 × aW) :=
  gd (inb (v2 + 2) (shL (shR a0 0))) (if (w (shR a0 0) (v2 + 2).toNatClampNeg) ≤ v3 then ((f_X11_says F a0 62 w).bind (fun w6 => gd (inb (v2 + 1) (shL (shR a0 0))) ((f_X11_saysName F a0 (w6 (shR a0 0) (v2 + 1).toNatClampNeg) w6).bind (fun w7 => some (w7 a0 27, w7))))) else (gd (inb ((v2 + 19) + v3) (shL (shR a0 0))) ((f_X11_says F a0 (48 + (w (shR a0 0) ((v2 + 19) + v3).toNatClampNeg)) w).bind (fun w8 => gd (inb ((v2 + 19) + v3) (shL (shR a0 0))) (gd (inb ((v2 + 11) + v3) (shL (shR a0 0))) (if (w8 (shR a0 0) ((v2 + 19) + v3).toNatClampNeg) = (w8 (shR a0 0) ((v2 + 11) + v3).toNatClampNeg) then (k28 v2 (v3 + 1) w8) else ((f_X11_says F a0 39 w8).bind (fun w9 => k28 v2 (v3 + 1) w9))))))))
def f_X11_printTune_b28 (F : Nat) (a0 : Nat) (p1 : Int32)   : Nat → Int32 → Int32 → aW → Option (Int32 × aW) :=
  lp (f_X11_printTune_b28_b F a0 p1  ) (fun _ _ _ => none)
def f_X11_printTune (F : Nat) (a0 : Nat) (p1 : Int32) (w : aW) : Option (Int32 × aW) :=
  (f_X11_isTune F a0 p1 w).bind (fun r1 => bBW (f_X11_may F a0 (bi r1) 1 1 w) (fun r2 w3 => if r2 then (ltw (aset w3 a0 27 0) (fun w4 => (f_X11_t F p1 w4).bind (fun r5 => f_X11_printTune_b28 F a0 p1 F r5 0 w4))) else (some (0, w3))))
def f_X11_outputByte (F : Nat) (a0 : Nat) (p1 : Int32) (w : aW) : Option (Int32 × aW) :=
  ltw (aset w a0 6 0) (fun w1 => (f_X11_in F p1.toInt64 0 (((w1 a0 27) - 1).toInt64) w1).bind (fun r2 => if r2 then (gd (inb p1 (shL (shR a0 26))) (some (w1 (shR a0 26) p1.toNatClampNeg, w1))) else (some ((-1), w1))))
def f_X11_saveState (F : Nat) (a0 : Nat) (w : aW) : Option (Int32 × aW) :=
  ltw (aset w a0 6 0) (fun w1 => (f_X11_copies F a0 (shR a0 2) w1).bind (fun w2 => ltw (aset w2 a0 5 1) (fun w3 => gd (inb 2 (shL (shR a0 0))) (some (w3 (shR a0 0) 2.toNatClampNeg, w3)))))
def f_X11_restoreState (F : Nat) (a0 : Nat) (w : aW) : Option (Int32 × aW) :=
  bBW (f_X11_may F a0 (w a0 5) 1 1 w) (fun r1 w2 => if r1 then (bIW (f_X11_gives F a0 (shR a0 2) 0 w2) (fun r3 w4 => ltw (aset w4 a0 4 0) (fun w5 => gd (inb 2 (shL (shR a0 0))) (some (w5 (shR a0 0) 2.toNatClampNeg, w5))))) else (some (0, w2)))
