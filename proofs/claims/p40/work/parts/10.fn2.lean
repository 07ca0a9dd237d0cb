def f_X11_newTune_b127_b (F : Nat) (a0 : Nat) (p1 : Int) (p2 : Int) (p3 : Int) (p4 : Int)   (k127 : Int → Int → Int → aI → Option (Int × aI)) (v5 : Int) (v6 : Int) (v7 : Int) (w : aI) : Option (Int × aI) :=
  gd (rg v7 ∧ rg (w a0 11)) (if (w a0 11) ≤ v7 then ((f_X11_hearsAsSent F a0 v5 w).bind (fun w14 => gd (inI 2 (shL (shR a0 0))) (gd (inI 2 (shL (shR a0 0))) (ltM (iset w14 (shR a0 0) 2 ((w14 (shR a0 0) 2) + 1)) (fun w15 => (f_X11_counts F a0 1 1 w15).bind (fun w16 => (f_X11_one F p3 w16).bind (fun r17 => (f_X11_counts F a0 2 r17 w16).bind (fun w18 => some (v5, w18))))))))) else (gd (inI v7 (shL (shR a0 10))) (gd (inI ((v6 + 11) + v7) (shL (shR a0 0))) (ltM (iset w (shR a0 0) ((v6 + 11) + v7) (w (shR a0 10) v7)) (fun w19 => k127 v5 v6 (v7 + 1) w19)))))
def f_X11_newTune_b127 (F : Nat) (a0 : Nat) (p1 : Int) (p2 : Int) (p3 : Int) (p4 : Int)   : Nat → Int → Int → Int → aI → Option (Int × aI) :=
  lp (f_X11_newTune_b127_b F a0 p1 p2 p3 p4  ) (fun _ _ _ _ => none)
def f_X11_newTune_b18_b (F : Nat) (a0 : Nat) (p1 : Int) (p2 : Int) (p3 : Int) (p4 : Int)   (k18 : Int → Int → Int → aI → Option (Int × aI)) (v5 : Int) (v6 : Int) (v7 : Int) (w : aI) : Option (Int × aI) :=
  gd (rg v7) (if 27 ≤ v7 then (gd (inI (v6 + 0) (shL (shR a0 0))) (ltM (iset w (shR a0 0) (v6 + 0) p1) (fun w4 => gd (inI (v6 + 1) (shL (shR a0 0))) (ltM (iset w4 (shR a0 0) (v6 + 1) p2) (fun w5 => gd (inI (v6 + 2) (shL (shR a0 0))) (ltM (iset w5 (shR a0 0) (v6 + 2) (w5 a0 11)) (fun w6 => gd (inI (v6 + 4) (shL (shR a0 0))) (ltM (iset w6 (shR a0 0) (v6 + 4) p1) (fun w7 => gd (inI (v6 + 5) (shL (shR a0 0))) (ltM (iset w7 (shR a0 0) (v6 + 5) (-1)) (fun w8 => (f_X11_one F p3 w8).bind (fun r9 => gd (inI (v6 + 6) (shL (shR a0 0))) (ltM (iset w8 (shR a0 0) (v6 + 6) r9) (fun w10 => (f_X11_one F p4 w10).bind (fun r11 => gd (inI (v6 + 7) (shL (shR a0 0))) (ltM (iset w10 (shR a0 0) (v6 + 7) r11) (fun w12 => f_X11_newTune_b127 F a0 p1 p2 p3 p4 F v5 v6 0 w12))))))))))))))))) else (gd (inI (v6 + v7) (shL (shR a0 0))) (ltM (iset w (shR a0 0) (v6 + v7) 0) (fun w20 => k18 v5 v6 (v7 + 1) w20))))
def f_X11_newTune_b18 (F : Nat) (a0 : Nat) (p1 : Int) (p2 : Int) (p3 : Int) (p4 : Int)   : Nat → Int → Int → Int → aI → Option (Int × aI) :=
  lp (f_X11_newTune_b18_b F a0 p1 p2 p3 p4  ) (fun _ _ _ _ => none)
def f_X11_newTune (F : Nat) (a0 : Nat) (p1 : Int) (p2 : Int) (p3 : Int) (p4 : Int) (w : aI) : Option (Int × aI) :=
  gd (inI 2 (shL (shR a0 0))) (ltI (w (shR a0 0) 2) (fun v5_1 => (f_X11_t F v5_1 w).bind (fun r2 => f_X11_newTune_b18 F a0 p1 p2 p3 p4 F v5_1 r2 0 w)))
def f_X11_wrongBy (F : Nat) (a0 : Nat) (p1 : Int) (p2 : Int) (p3 : Int) (p4 : Int) (w : aI) : Option Int :=
  (f_X11_r F p3 w).bind (fun r1 => gd (inI (r1 + 8) (shL (shR a0 0))) (gd (rg ((p1 * p2) - (3 * (w (shR a0 0) (r1 + 8))))) (gd (rg (max 0 ((p1 * p2) - (3 * (w (shR a0 0) (r1 + 8)))))) (gd (rg p4 ∧ rg (Int.tdiv (max 0 ((p1 * p2) - (3 * (w (shR a0 0) (r1 + 8))))) 10)) (some (min p4 (Int.tdiv (max 0 ((p1 * p2) - (3 * (w (shR a0 0) (r1 + 8))))) 10)))))))
def f_X11_blurs_b47_b (F : Nat) (a0 : Nat) (p1 : Int)   (k47 : Int → Int → Int → Int → aI → Option aI) (v2 : Int) (v3 : Int) (v4 : Int) (v5 : Int) (w : aI) : Option aI :=
  gd (rg v5 ∧ rg v4) (if v4 ≤ v5 then ((f_X11_counts F a0 4 v4 w).bind (fun w5 => some w5)) else (gd (rg (p1 + v5) ∧ rg v3) (gd (¬ v3 = 0) (ltI ((v2 + 19) + (Int.tmod (p1 + v5) v3)) (fun v6_8 => gd (inI v6_8 (shL (shR a0 0))) (gd (rg ((w (shR a0 0) v6_8) + 1)) (gd (inI v6_8 (shL (shR a0 0))) (ltM (iset w (shR a0 0) v6_8 (Int.tmod ((w (shR a0 0) v6_8) + 1) 8)) (fun w10 => k47 v2 v3 v4 (v5 + 1) w10)))))))))
def f_X11_blurs_b47 (F : Nat) (a0 : Nat) (p1 : Int)   : Nat → Int → Int → Int → Int → aI → Option aI :=
  lp (f_X11_blurs_b47_b F a0 p1  ) (fun _ _ _ _ _ => none)
def f_X11_blurs (F : Nat) (a0 : Nat) (p1 : Int) (w : aI) : Option aI :=
  (f_X11_t F p1 w).bind (fun r1 => gd (inI (r1 + 2) (shL (shR a0 0))) (ltI (w (shR a0 0) (r1 + 2)) (fun v3_2 => gd (inI 4 (shL (shR a0 0))) (gd (inI (r1 + 10) (shL (shR a0 0))) (gd (inI (r1 + 4) (shL (shR a0 0))) ((f_X11_wrongBy F a0 (w (shR a0 0) 4) (w (shR a0 0) (r1 + 10)) (w (shR a0 0) (r1 + 4)) v3_2 w).bind (fun r3 => f_X11_blurs_b47 F a0 p1 F r1 v3_2 r3 0 w)))))))
def f_X11_replies_b51_b (F : Nat) (a0 : Nat) (p1 : Int)   (k51 : Int → Int → aI → Option aI) (v2 : Int) (v3 : Int) (w : aI) : Option aI :=
  gd (rg v3 ∧ rg (w a0 11)) (if (w a0 11) ≤ v3 then (gd (inI (v2 + 1) (shL (shR a0 0))) (gd (inI (v2 + 0) (shL (shR a0 0))) (bJW (f_X11_newTune F a0 (w (shR a0 0) (v2 + 1)) (w (shR a0 0) (v2 + 0)) 1 0 w) (fun r8 w9 => some w9)))) else (gd (inI ((((v2 + 11) + (w a0 11)) - 1) - v3) (shL (shR a0 0))) (gd (inI v3 (shL (shR a0 10))) (ltM (iset w (shR a0 10) v3 (w (shR a0 0) ((((v2 + 11) + (w a0 11)) - 1) - v3))) (fun w10 => k51 v2 (v3 + 1) w10)))))
def f_X11_replies_b51 (F : Nat) (a0 : Nat) (p1 : Int)   : Nat → Int → Int → aI → Option aI :=
  lp (f_X11_replies_b51_b F a0 p1  ) (fun _ _ _ => none)
def f_X11_replies (F : Nat) (a0 : Nat) (p1 : Int) (w : aI) : Option aI :=
  (f_X11_t F p1 w).bind (fun r1 => gd (inI (r1 + 7) (shL (shR a0 0))) (gd (rg (w (shR a0 0) (r1 + 7))) (if (w (shR a0 0) (r1 + 7)) = 0 then (some w) else ((f_X11_unlike F a0 p1 w).bind (fun r3 => gd (rg r3) (if 0 < r3 then (some w) else (gd (inI 2 (shL (shR a0 0))) (gd (rg (w (shR a0 0) 2)) (if (w (shR a0 0) 2) = 30 then (some w) else (gd (inI (r1 + 2) (shL (shR a0 0))) (ltM (iset w a0 11 (w (shR a0 0) (r1 + 2))) (fun w6 => f_X11_replies_b51 F a0 p1 F r1 0 w6))))))))))))
def f_X11_comes_b117 (F : Nat) (a0 : Nat) (p1 : Int)    (v2 : Int) (w : aI) : Option aI :=
  gd (inI (v2 + 3) (shL (shR a0 0))) (ltM (iset w (shR a0 0) (v2 + 3) 2) (fun w8 => (f_X11_counts F a0 5 1 w8).bind (fun w9 => (f_X11_unlike F a0 p1 w9).bind (fun r10 => gd (rg r10) (if r10 = 0 then ((f_X11_one F 1 w9).bind (fun r15 => (f_X11_counts F a0 6 r15 w9).bind (fun w16 => (f_X11_replies F a0 p1 w16).bind (fun w17 => some w17)))) else ((f_X11_one F 0 w9).bind (fun r12 => (f_X11_counts F a0 6 r12 w9).bind (fun w13 => (f_X11_replies F a0 p1 w13).bind (fun w14 => some w14)))))))))
def f_X11_comes (F : Nat) (a0 : Nat) (p1 : Int) (w : aI) : Option aI :=
  (f_X11_t F p1 w).bind (fun r1 => (f_X11_blurs F a0 p1 w).bind (fun w2 => gd (inI (r1 + 5) (shL (shR a0 0))) (ltM (iset w2 (shR a0 0) (r1 + 5) (-1)) (fun w3 => gd (inI (r1 + 3) (shL (shR a0 0))) (ltM (iset w3 (shR a0 0) (r1 + 3) 0) (fun w4 => gd (inI (r1 + 4) (shL (shR a0 0))) (gd (inI (r1 + 1) (shL (shR a0 0))) (gd (rg (w4 (shR a0 0) (r1 + 4)) ∧ rg (w4 (shR a0 0) (r1 + 1))) (if (w4 (shR a0 0) (r1 + 4)) = (w4 (shR a0 0) (r1 + 1)) then ((f_X11_unlike F a0 p1 w4).bind (fun r6 => gd (rg r6) (if r6 ≤ 0 then (f_X11_comes_b117 F a0 p1 r1 w4) else (gd (inI (r1 + 8) (shL (shR a0 0))) (gd (inI 6 (shL (shR a0 0))) (gd (rg (w4 (shR a0 0) (r1 + 8)) ∧ rg (w4 (shR a0 0) 6)) (if (w4 (shR a0 0) 6) ≤ (w4 (shR a0 0) (r1 + 8)) then (f_X11_comes_b117 F a0 p1 r1 w4) else (ltI (r1 + 8) (fun u19 => gd (inI u19 (shL (shR a0 0))) (gd (inI u19 (shL (shR a0 0))) (ltM (iset w4 (shR a0 0) u19 ((w4 (shR a0 0) u19) + 1)) (fun w20 => (f_X11_hearsAsSent F a0 p1 w20).bind (fun w21 => gd (inI (r1 + 0) (shL (shR a0 0))) (gd (inI (r1 + 4) (shL (shR a0 0))) (ltM (iset w21 (shR a0 0) (r1 + 4) (w21 (shR a0 0) (r1 + 0))) (fun w22 => (f_X11_counts F a0 7 1 w22).bind (fun w23 => some w23))))))))))))))))) else (some w4))))))))))
def f_X11_feeAt (F : Nat) (a0 : Nat) (p1 : Int) (p2 : Int) (w : aI) : Option Int :=
  (f_X11_r F p2 w).bind (fun r1 => gd (inI (r1 + 9) (shL (shR a0 0))) ((f_X11_bars F a0 p1 w).bind (fun r2 => some ((w (shR a0 0) (r1 + 9)) * r2))))
def f_X11_purseFor (F : Nat) (a0 : Nat) (p1 : Int) (w : aI) : Option Int :=
  (f_X11_t F p1 w).bind (fun r1 => gd (inI (r1 + 0) (shL (shR a0 0))) ((f_X11_r F (w (shR a0 0) (r1 + 0)) w).bind (fun r2 => gd (inI (r2 + 10) (shL (shR a0 0))) (some (w (shR a0 0) (r2 + 10))))))
def f_X11_firstAt_b83 (F : Nat) (a0 : Nat) (p1 : Int)  (k4 : Int → Int → aI → Option (Int × aI))  (v2 : Int) (v3 : Int) (z0 : Int) (w : aI) : Option (Int × aI) :=
  gd (rg z0) (if z0 = 0 then (k4 v2 (v3 + 1) w) else (k4 v3 (v3 + 1) w))
def f_X11_firstAt_b82 (F : Nat) (a0 : Nat) (p1 : Int)  (k4 : Int → Int → aI → Option (Int × aI))  (v2 : Int) (v3 : Int) (w : aI) : Option (Int × aI) :=
  f_X11_firstAt_b83 F a0 p1 k4 v2 v3 0 w
def f_X11_firstAt_b44 (F : Nat) (a0 : Nat) (p1 : Int)  (k4 : Int → Int → aI → Option (Int × aI))  (v2 : Int) (v3 : Int) (w : aI) : Option (Int × aI) :=
  (f_X11_purseFor F a0 v3 w).bind (fun r4 => (f_X11_feeAt F a0 v3 p1 w).bind (fun r5 => gd (rg r4 ∧ rg r5) (if r4 < r5 then (f_X11_firstAt_b82 F a0 p1 k4 v2 v3 w) else ((f_X11_t F v3 w).bind (fun r8 => gd (inI (r8 + 1) (shL (shR a0 0))) (bJW (f_X11_nextTo F a0 p1 (w (shR a0 0) (r8 + 1)) w) (fun r9 w10 => gd (rg r9) (if r9 = (-1) then (f_X11_firstAt_b82 F a0 p1 k4 v2 v3 w10) else (f_X11_firstAt_b83 F a0 p1 k4 v2 v3 1 w10)))))))))
def f_X11_firstAt_b4_b (F : Nat) (a0 : Nat) (p1 : Int)   (k4 : Int → Int → aI → Option (Int × aI)) (v2 : Int) (v3 : Int) (w : aI) : Option (Int × aI) :=
  gd (inI 2 (shL (shR a0 0))) (gd (rg v3 ∧ rg (w (shR a0 0) 2)) (if (w (shR a0 0) 2) ≤ v3 then (some (v2, w)) else ((f_X11_waitsAt F a0 v3 p1 w).bind (fun r2 => if r2 then (gd (rg v2) (if v2 = (-1) then (f_X11_firstAt_b44 F a0 p1 k4 v2 v3 w) else ((f_X11_bars F a0 v3 w).bind (fun r12 => (f_X11_bars F a0 v2 w).bind (fun r13 => gd (rg r12 ∧ rg r13) (if r13 < r12 then (f_X11_firstAt_b44 F a0 p1 k4 v2 v3 w) else (k4 v2 (v3 + 1) w))))))) else (k4 v2 (v3 + 1) w)))))
def f_X11_firstAt_b4 (F : Nat) (a0 : Nat) (p1 : Int)   : Nat → Int → Int → aI → Option (Int × aI) :=
  lp (f_X11_firstAt_b4_b F a0 p1  ) (fun _ _ _ => none)
def f_X11_firstAt (F : Nat) (a0 : Nat) (p1 : Int) (w : aI) : Option (Int × aI) :=
  f_X11_firstAt_b4 F a0 p1 F (-1) 0 w
def f_X11_whistles (F : Nat) (a0 : Nat) (p1 : Int) (p2 : Int) (w : aI) : Option aI :=
  (f_X11_t F p1 w).bind (fun r1 => gd (inI (r1 + 1) (shL (shR a0 0))) (bJW (f_X11_nextTo F a0 p2 (w (shR a0 0) (r1 + 1)) w) (fun r2 w3 => (f_X11_feeAt F a0 p1 p2 w3).bind (fun r4 => gd (inI (r1 + 0) (shL (shR a0 0))) ((f_X11_r F (w3 (shR a0 0) (r1 + 0)) w3).bind (fun r5 => ltI (r5 + 10) (fun u6 => gd (inI u6 (shL (shR a0 0))) (gd (inI u6 (shL (shR a0 0))) (ltM (iset w3 (shR a0 0) u6 ((w3 (shR a0 0) u6) - r4)) (fun w7 => (f_X11_r F p2 w7).bind (fun r8 => ltI (r8 + 10) (fun u9 => gd (inI u9 (shL (shR a0 0))) (gd (inI u9 (shL (shR a0 0))) (ltM (iset w7 (shR a0 0) u9 ((w7 (shR a0 0) u9) + r4)) (fun w10 => (f_X11_r F p2 w10).bind (fun r11 => gd (inI (r11 + 7) (shL (shR a0 0))) (ltI (w10 (shR a0 0) (r11 + 7)) (fun v6_12 => (f_X11_r F p2 w10).bind (fun r13 => gd (inI 3 (shL (shR a0 0))) (gd (inI (r1 + 2) (shL (shR a0 0))) (gd (rg (((w10 (shR a0 0) (r1 + 2)) + v6_12) - 1) ∧ rg v6_12) (gd (¬ v6_12 = 0) (gd (inI (r13 + 11) (shL (shR a0 0))) (ltM (iset w10 (shR a0 0) (r13 + 11) ((w10 (shR a0 0) 3) + (Int.tdiv (((w10 (shR a0 0) (r1 + 2)) + v6_12) - 1) v6_12))) (fun w16 => (f_X11_r F p2 w16).bind (fun r17 => ltI (r17 + 12) (fun u18 => gd (inI u18 (shL (shR a0 0))) (gd (inI u18 (shL (shR a0 0))) (ltM (iset w16 (shR a0 0) u18 ((w16 (shR a0 0) u18) + 1)) (fun w19 => (f_X11_wayBetween F a0 p2 r2 w19).bind (fun r20 => (f_X11_w F r20 w19).bind (fun r21 => gd (inI (r21 + 2) (shL (shR a0 0))) (gd (inI (r1 + 10) (shL (shR a0 0))) (ltM (iset w19 (shR a0 0) (r1 + 10) (w19 (shR a0 0) (r21 + 2))) (fun w22 => (f_X11_r F p2 w22).bind (fun r23 => gd (inI (r23 + 11) (shL (shR a0 0))) (gd (inI (r1 + 10) (shL (shR a0 0))) (gd (inI (r1 + 5) (shL (shR a0 0))) (ltM (iset w22 (shR a0 0) (r1 + 5) ((w22 (shR a0 0) (r23 + 11)) + (w22 (shR a0 0) (r1 + 10)))) (fun w24 => gd (inI (r1 + 4) (shL (shR a0 0))) (ltM (iset w24 (shR a0 0) (r1 + 4) r2) (fun w25 => gd (inI (r1 + 3) (shL (shR a0 0))) (ltM (iset w25 (shR a0 0) (r1 + 3) 1) (fun w26 => ltI (r1 + 9) (fun u27 => gd (inI u27 (shL (shR a0 0))) (gd (inI u27 (shL (shR a0 0))) (ltM (iset w26 (shR a0 0) u27 ((w26 (shR a0 0) u27) + 1)) (fun w28 => (f_X11_counts F a0 3 1 w28).bind (fun w29 => (f_X11_counts F a0 9 r4 w29).bind (fun w30 => some w30))))))))))))))))))))))))))))))))))))))))))))))))))
def f_X11_arrives_b9_b (F : Nat) (a0 : Nat)   (k9 : Int → Int → aI → Option aI) (v1 : Int) (v2 : Int) (w : aI) : Option aI :=
  gd (rg v2 ∧ rg v1) (if v1 ≤ v2 then (some w) else ((f_X11_t F v2 w).bind (fun r3 => gd (inI (r3 + 3) (shL (shR a0 0))) (gd (rg (w (shR a0 0) (r3 + 3))) (if (w (shR a0 0) (r3 + 3)) = 1 then ((f_X11_t F v2 w).bind (fun r5 => gd (inI (r5 + 5) (shL (shR a0 0))) (gd (inI 3 (shL (shR a0 0))) (gd (rg (w (shR a0 0) (r5 + 5)) ∧ rg (w (shR a0 0) 3)) (if (w (shR a0 0) (r5 + 5)) = (w (shR a0 0) 3) then ((f_X11_comes F a0 v2 w).bind (fun w7 => k9 v1 (v2 + 1) w7)) else (k9 v1 (v2 + 1) w)))))) else (k9 v1 (v2 + 1) w))))))
def f_X11_arrives_b9 (F : Nat) (a0 : Nat)   : Nat → Int → Int → aI → Option aI :=
  lp (f_X11_arrives_b9_b F a0  ) (fun _ _ _ => none)
def f_X11_arrives (F : Nat) (a0 : Nat) (w : aI) : Option aI :=
  gd (inI 2 (shL (shR a0 0))) (ltI (w (shR a0 0) 2) (fun v1_1 => f_X11_arrives_b9 F a0 F v1_1 0 w))
def f_X11_loses_b2_b (F : Nat) (a0 : Nat)   (k2 : Int → aI → Option aI) (v1 : Int) (w : aI) : Option aI :=
  gd (inI 2 (shL (shR a0 0))) (gd (rg v1 ∧ rg (w (shR a0 0) 2)) (if (w (shR a0 0) 2) ≤ v1 then (some w) else ((f_X11_t F v1 w).bind (fun r2 => gd (inI (r2 + 3) (shL (shR a0 0))) (gd (rg (w (shR a0 0) (r2 + 3))) (if (w (shR a0 0) (r2 + 3)) = 0 then (gd (inI (r2 + 4) (shL (shR a0 0))) (gd (inI (r2 + 1) (shL (shR a0 0))) (bJW (f_X11_sumTo F a0 (w (shR a0 0) (r2 + 4)) (w (shR a0 0) (r2 + 1)) w) (fun r4 w5 => gd (rg r4) (if r4 = (-1) then (gd (inI (r2 + 3) (shL (shR a0 0))) (ltM (iset w5 (shR a0 0) (r2 + 3) 3) (fun w7 => (f_X11_counts F a0 8 1 w7).bind (fun w8 => k2 (v1 + 1) w8)))) else (k2 (v1 + 1) w5)))))) else (k2 (v1 + 1) w)))))))
def f_X11_loses_b2 (F : Nat) (a0 : Nat)   : Nat → Int → aI → Option aI :=
  lp (f_X11_loses_b2_b F a0  ) (fun _ _ => none)
def f_X11_loses (F : Nat) (a0 : Nat) (w : aI) : Option aI :=
  f_X11_loses_b2 F a0 F 0 w
def f_X11_ticks_b73 (F : Nat) (a0 : Nat)  (k22 : Int → aI → Option aI)  (v1 : Int) (z0 : Int) (w : aI) : Option aI :=
  gd (rg z0) (if z0 = (-1) then (k22 (v1 + 1) w) else ((f_X11_whistles F a0 z0 v1 w).bind (fun w13 => k22 (v1 + 1) w13)))
def f_X11_ticks_b22_b (F : Nat) (a0 : Nat)   (k22 : Int → aI → Option aI) (v1 : Int) (w : aI) : Option aI :=
  gd (inI 0 (shL (shR a0 0))) (gd (rg v1 ∧ rg (w (shR a0 0) 0)) (if (w (shR a0 0) 0) ≤ v1 then ((f_X11_loses F a0 w).bind (fun w5 => some w5)) else (gd (inI 3 (shL (shR a0 0))) (gd (rg (w (shR a0 0) 3)) (gd (inI 5 (shL (shR a0 0))) (gd (rg (Int.tmod (w (shR a0 0) 3) 60) ∧ rg (w (shR a0 0) 5)) (if (w (shR a0 0) 5) ≤ (Int.tmod (w (shR a0 0) 3) 60) then ((f_X11_loses F a0 w).bind (fun w8 => some w8)) else (gd (inI 3 (shL (shR a0 0))) ((f_X11_isBusy F a0 v1 (w (shR a0 0) 3) w).bind (fun r9 => if r9 then (f_X11_ticks_b73 F a0 k22 v1 (-1) w) else (bJW (f_X11_firstAt F a0 v1 w) (fun r10 w11 => f_X11_ticks_b73 F a0 k22 v1 r10 w11))))))))))))
def f_X11_ticks_b22 (F : Nat) (a0 : Nat)   : Nat → Int → aI → Option aI :=
  lp (f_X11_ticks_b22_b F a0  ) (fun _ _ => none)
def f_X11_ticks (F : Nat) (a0 : Nat) (w : aI) : Option aI :=
  gd (inI 3 (shL (shR a0 0))) (gd (inI 3 (shL (shR a0 0))) (ltM (iset w (shR a0 0) 3 ((w (shR a0 0) 3) + 1)) (fun w1 => (f_X11_counts F a0 0 1 w1).bind (fun w2 => (f_X11_arrives F a0 w2).bind (fun w3 => f_X11_ticks_b22 F a0 F 0 w3)))))
def f_X11_goes_b10_b (F : Nat) (a0 : Nat) (p1 : Int)   (k10 : Int → Int → aI → Option (Int × aI)) (v2 : Int) (v3 : Int) (w : aI) : Option (Int × aI) :=
  gd (rg v3 ∧ rg p1) (if p1 ≤ v3 then (gd (inI 15 (shL (shR a0 0))) (some ((w (shR a0 0) 15) - v2, w))) else ((f_X11_ticks F a0 w).bind (fun w3 => k10 v2 (v3 + 1) w3)))
def f_X11_goes_b10 (F : Nat) (a0 : Nat) (p1 : Int)   : Nat → Int → Int → aI → Option (Int × aI) :=
  lp (f_X11_goes_b10_b F a0 p1  ) (fun _ _ _ => none)
def f_X11_goes (F : Nat) (a0 : Nat) (p1 : Int) (w : aI) : Option (Int × aI) :=
  gd (inI 15 (shL (shR a0 0))) (ltI (w (shR a0 0) 15) (fun v2_1 => f_X11_goes_b10 F a0 p1 F v2_1 0 w))
def f_X11_givesCoins (F : Nat) (a0 : Nat) (p1 : Int) (p2 : Int) (w : aI) : Option (Int × aI) :=
  (f_X11_r F p1 w).bind (fun r1 => ltI (r1 + 10) (fun u2 => gd (inI u2 (shL (shR a0 0))) (gd (inI u2 (shL (shR a0 0))) (ltM (iset w (shR a0 0) u2 ((w (shR a0 0) u2) + p2)) (fun w3 => (f_X11_counts F a0 10 p2 w3).bind (fun w4 => (f_X11_r F p1 w4).bind (fun r5 => gd (inI (r5 + 10) (shL (shR a0 0))) (some (w4 (shR a0 0) (r5 + 10), w4)))))))))
def f_X11_cuts_b5_b (F : Nat) (a0 : Nat) (p1 : Int)   (k5 : Int → aI → Option (Int × aI)) (v2 : Int) (w : aI) : Option (Int × aI) :=
  gd (inI 1 (shL (shR a0 0))) ((f_X11_w F ((w (shR a0 0) 1) - 1) w).bind (fun r2 => gd (rg v2 ∧ rg r2) (if r2 ≤ v2 then (gd (inI 1 (shL (shR a0 0))) (gd (inI 1 (shL (shR a0 0))) (ltM (iset w (shR a0 0) 1 ((w (shR a0 0) 1) - 1)) (fun w4 => gd (inI 1 (shL (shR a0 0))) (some (w4 (shR a0 0) 1, w4)))))) else (gd (inI (v2 + 3) (shL (shR a0 0))) (gd (inI v2 (shL (shR a0 0))) (ltM (iset w (shR a0 0) v2 (w (shR a0 0) (v2 + 3))) (fun w5 => k5 (v2 + 1) w5)))))))
def f_X11_cuts_b5 (F : Nat) (a0 : Nat) (p1 : Int)   : Nat → Int → aI → Option (Int × aI) :=
  lp (f_X11_cuts_b5_b F a0 p1  ) (fun _ _ => none)
def f_X11_cuts (F : Nat) (a0 : Nat) (p1 : Int) (w : aI) : Option (Int × aI) :=
  (f_X11_w F p1 w).bind (fun r1 => f_X11_cuts_b5 F a0 p1 F r1 w)
def f_X11_lowOf (F : Nat) (p0 : Int) (w : aI) : Option Int :=
  gd (rg p0) (if p0 = 5 then (some 1) else (some 0))
def f_X11_highOf (F : Nat) (p0 : Int) (w : aI) : Option Int :=
  gd (rg p0) (if p0 = 5 then (some 60) else (if p0 = 4 then (some 9) else (some 3)))
def f_X11_sets (F : Nat) (a0 : Nat) (p1 : Int) (p2 : Int) (w : aI) : Option (Int × aI) :=
  gd (inI p1 (shL (shR a0 0))) (ltI (w (shR a0 0) p1) (fun v3_1 => gd (inI p1 (shL (shR a0 0))) (ltM (iset w (shR a0 0) p1 p2) (fun w2 => some (v3_1, w2)))))
def f_X11_four_b2_b (F : Nat) (a0 : Nat) (p1 : Int)   (k2 : Int → aI → Option aI) (v2 : Int) (w : aI) : Option aI :=
  gd (rg v2) (if v2 < 0 then (some w) else (gd (rg p1) (gd (0 ≤ (8 * v2) ∧ (8 * v2) < 32) (gd (inI (w a0 13) (shL (shR a0 12)) ∧ -128 ≤ ((i2bI (shr p1 (8 * v2))) : Int) ∧ ((i2bI (shr p1 (8 * v2))) : Int) ≤ 127) (ltM (iset w (shR a0 12) (w a0 13) (i2bI (shr p1 (8 * v2)))) (fun w4 => ltM (iset w4 a0 13 ((w4 a0 13) + 1)) (fun w5 => k2 (v2 + (-1)) w5)))))))
def f_X11_four_b2 (F : Nat) (a0 : Nat) (p1 : Int)   : Nat → Int → aI → Option aI :=
  lp (f_X11_four_b2_b F a0 p1  ) (fun _ _ => none)
def f_X11_four (F : Nat) (a0 : Nat) (p1 : Int) (w : aI) : Option aI :=
  f_X11_four_b2 F a0 p1 F 3 w
def f_X11_appendInput (F : Nat) (a0 : Nat) (p1 : Int) (p2 : Int) (p3 : Int) (p4 : Int) (p5 : Int) (w : aI) : Option (Int × aI) :=
  ltM (iset w a0 6 0) (fun w1 => gd (rg (w1 a0 13)) (if (w1 a0 13) ≤ 780 then ((f_X11_four F a0 p1 w1).bind (fun w3 => (f_X11_four F a0 p2 w3).bind (fun w4 => (f_X11_four F a0 p3 w4).bind (fun w5 => (f_X11_four F a0 p4 w5).bind (fun w6 => (f_X11_four F a0 p5 w6).bind (fun w7 => some (w7 a0 13, w7))))))) else (some ((-1), w1))))
def f_X11_truncateInput (F : Nat) (a0 : Nat) (p1 : Int) (w : aI) : Option (Bool × aI) :=
  ltM (iset w a0 6 0) (fun w1 => gd (rg p1) (gd (rg (w1 a0 13)) ((f_X11_in F p1 0 (w1 a0 13) w1).bind (fun r4 => if r4 then (ltM (iset w1 a0 13 p1) (fun w5 => some (true, w5))) else (some (false, w1))))))
def f_X11_errorCode (F : Nat) (a0 : Nat) (w : aI) : Option (Int × aI) :=
  ltM (iset w a0 6 0) (fun w1 => some (w1 a0 14, w1))
def f_X11_errorOffset (F : Nat) (a0 : Nat) (w : aI) : Option (Int × aI) :=
  ltM (iset w a0 6 0) (fun w1 => some (w1 a0 15, w1))
def f_X11_isLetter (F : Nat) (a0 : Nat) (p1 : Int) (w : aI) : Option Bool :=
  gd (rg p1 ∧ rg (w a0 13)) (if (w a0 13) ≤ p1 then (some false) else (gd (inI p1 (shL (shR a0 12))) (gd (rg (w (shR a0 12) p1)) ((f_X11_in F (w (shR a0 12) p1) 97 122 w).bind (fun r3 => if r3 then (some true) else (some false))))))
def f_X11_isDigit (F : Nat) (a0 : Nat) (p1 : Int) (w : aI) : Option Bool :=
  gd (rg p1 ∧ rg (w a0 13)) (if (w a0 13) ≤ p1 then (some false) else (gd (inI p1 (shL (shR a0 12))) (gd (rg (w (shR a0 12) p1)) ((f_X11_in F (w (shR a0 12) p1) 48 57 w).bind (fun r3 => if r3 then (some true) else (some false))))))
def f_X11_goesOn_b285 (F : Nat) (a0 : Nat)    (z0 : Int) (z1 : Nat) (w : aI) : Option aI :=
  ltM (iset w z1 18 z0) (fun w9 => ltM (iset w9 a0 17 ((w9 a0 17) + 1)) (fun w10 => some w10))
def f_X11_goesOn_b224 (F : Nat) (a0 : Nat)  (k172 : aI → Option aI)  (z0 : Int) (z1 : Nat) (w : aI) : Option aI :=
  ltM (iset w z1 19 z0) (fun w17 => ltM (iset w17 a0 17 ((w17 a0 17) + 1)) (fun w18 => k172 w18))
def f_X11_goesOn_b172_b (F : Nat) (a0 : Nat)   (k172 : aI → Option aI)  (w : aI) : Option aI :=
  (f_X11_isDigit F a0 (w a0 17) w).bind (fun r12 => if r12 then (gd (rg ((w a0 17) - (w a0 16))) (if 3 ≤ ((w a0 17) - (w a0 16)) then (f_X11_goesOn_b224 F a0 k172 (w a0 19) a0 w) else (gd (inI (w a0 17) (shL (shR a0 12))) (f_X11_goesOn_b224 F a0 k172 (((10 * (w a0 19)) + (w (shR a0 12) (w a0 17))) - 48) a0 w)))) else (gd (rg ((w a0 17) - (w a0 16))) (if ((w a0 17) - (w a0 16)) ≤ 3 then (ltM (iset w a0 18 2) (fun w14 => some w14)) else (ltM (iset w a0 18 4) (fun w15 => some w15)))))
def f_X11_goesOn_b172 (F : Nat) (a0 : Nat)   : Nat → aI → Option aI :=
  lp (f_X11_goesOn_b172_b F a0  ) (fun  _ => none)
def f_X11_goesOn_b106_b (F : Nat) (a0 : Nat)   (k106 : aI → Option aI)  (w : aI) : Option aI :=
  (f_X11_isLetter F a0 (w a0 17) w).bind (fun r19 => if r19 then (ltM (iset w a0 17 ((w a0 17) + 1)) (fun w23 => k106 w23)) else (gd (rg ((w a0 17) - (w a0 16))) (if ((w a0 17) - (w a0 16)) ≤ 8 then (ltM (iset w a0 18 1) (fun w21 => some w21)) else (ltM (iset w a0 18 4) (fun w22 => some w22)))))
def f_X11_goesOn_b106 (F : Nat) (a0 : Nat)   : Nat → aI → Option aI :=
  lp (f_X11_goesOn_b106_b F a0  ) (fun  _ => none)
def f_X11_goesOn_b68 (F : Nat) (a0 : Nat)     (w : aI) : Option aI :=
  ltM (iset w a0 17 (w a0 16)) (fun w4 => gd (rg (w4 a0 16) ∧ rg (w4 a0 13)) (if (w4 a0 16) = (w4 a0 13) then (ltM (iset w4 a0 18 0) (fun w24 => some w24)) else ((f_X11_isLetter F a0 (w4 a0 16) w4).bind (fun r6 => if r6 then (f_X11_goesOn_b106 F a0 F w4) else ((f_X11_isDigit F a0 (w4 a0 16) w4).bind (fun r7 => if r7 then (ltM (iset w4 a0 19 0) (fun w11 => f_X11_goesOn_b172 F a0 F w11)) else (gd (inI (w4 a0 16) (shL (shR a0 12))) (gd (rg (w4 (shR a0 12) (w4 a0 16))) (if (w4 (shR a0 12) (w4 a0 16)) = 59 then (f_X11_goesOn_b285 F a0 3 a0 w4) else (f_X11_goesOn_b285 F a0 4 a0 w4))))))))))
def f_X11_goesOn_b55 (F : Nat) (a0 : Nat)  (k16 : aI → Option aI)   (w : aI) : Option aI :=
  ltM (iset w a0 16 ((w a0 16) + 1)) (fun w26 => k16 w26)
def f_X11_goesOn_b16_b (F : Nat) (a0 : Nat)   (k16 : aI → Option aI)  (w : aI) : Option aI :=
  gd (rg (w a0 16) ∧ rg (w a0 13)) (if (w a0 13) ≤ (w a0 16) then (f_X11_goesOn_b68 F a0 w) else (gd (inI (w a0 16) (shL (shR a0 12))) (gd (rg (w (shR a0 12) (w a0 16))) (if (w (shR a0 12) (w a0 16)) = 32 then (f_X11_goesOn_b55 F a0 k16 w) else (gd (inI (w a0 16) (shL (shR a0 12))) (if (w (shR a0 12) (w a0 16)) = 10 then (f_X11_goesOn_b55 F a0 k16 w) else (f_X11_goesOn_b68 F a0 w)))))))
def f_X11_goesOn_b16 (F : Nat) (a0 : Nat)   : Nat → aI → Option aI :=
  lp (f_X11_goesOn_b16_b F a0  ) (fun  _ => none)
def f_X11_goesOn (F : Nat) (a0 : Nat) (w : aI) : Option aI :=
  gd (rg (w a0 20)) (if (w a0 20) ≤ 0 then (ltM (iset w a0 16 (w a0 17)) (fun w2 => f_X11_goesOn_b16 F a0 F w2)) else (some w))
def f_X11_need (F : Nat) (a0 : Nat) (p1 : Int) (p2 : Int) (w : aI) : Option aI :=
  gd (rg (w a0 20)) (if (w a0 20) = 0 then (gd (rg p1) (if p1 = 0 then (ltM (iset w a0 20 p2) (fun w3 => ltM (iset w3 a0 21 (w3 a0 16)) (fun w4 => some w4))) else (some w))) else (some w))
def f_X11_starts (F : Nat) (a0 : Nat) (w : aI) : Option aI :=
  ltM (iset w a0 20 0) (fun w1 => ltM (iset w1 a0 17 0) (fun w2 => (f_X11_goesOn F a0 w2).bind (fun w3 => some w3)))
def f_X11_ending (F : Nat) (a0 : Nat) (w : aI) : Option aI :=
  ltM (iset w a0 14 (w a0 20)) (fun w1 => gd (rg (w1 a0 20)) (if (w1 a0 20) = 0 then (ltM (iset w1 a0 15 (-1)) (fun w5 => ltM (iset w5 a0 13 0) (fun w6 => some w6))) else (ltM (iset w1 a0 15 (w1 a0 21)) (fun w3 => ltM (iset w3 a0 13 0) (fun w4 => some w4)))))
def f_X11_isWord_b35_b (F : Nat) (a0 : Nat) (s1 : Nat) (w : aI)  (k35 : Int → Option Bool) (v2 : Int)  : Option Bool :=
  (f_strlen s1).bind (fun r5 => gd (rg v2 ∧ rg r5) (if r5 ≤ v2 then (some true) else (gd (inI ((w a0 16) + v2) (shL (shR a0 12))) ((f_strchr s1 v2).bind (fun r7 => gd (rg (w (shR a0 12) ((w a0 16) + v2)) ∧ rg r7) (if (w (shR a0 12) ((w a0 16) + v2)) = r7 then (k35 (v2 + 1)) else (some false)))))))
def f_X11_isWord_b35 (F : Nat) (a0 : Nat) (s1 : Nat) (w : aI)  : Nat → Int → Option Bool :=
  lp (f_X11_isWord_b35_b F a0 s1 w ) (fun _ => none)
def f_X11_isWord (F : Nat) (a0 : Nat) (s1 : Nat) (w : aI) : Option Bool :=
  gd (rg (w a0 20)) (if 0 < (w a0 20) then (some false) else (gd (rg (w a0 18)) (if (w a0 18) = 1 then ((f_strlen s1).bind (fun r3 => gd (rg ((w a0 17) - (w a0 16)) ∧ rg r3) (if ((w a0 17) - (w a0 16)) = r3 then (f_X11_isWord_b35 F a0 s1 w F 0) else (some false)))) else (some false))))
def f_X11_numberHere_b14 (F : Nat) (a0 : Nat) (p1 : Int) (p2 : Int)    (z0 : Int) (z1 : Nat) (w : aI) : Option (Int × aI) :=
  (f_X11_need F z1 z0 1 w).bind (fun w2 => gd (rg (w2 a0 19)) (gd (rg p1) (gd (rg p2) ((f_X11_in F (w2 a0 19) p1 p2 w2).bind (fun r6 => (f_X11_need F a0 (bI r6) 2 w2).bind (fun w7 => gd (rg (w7 a0 20)) (if (w7 a0 20) = 0 then (some (w7 a0 19, w7)) else (some (p1, w7)))))))))
def f_X11_numberHere (F : Nat) (a0 : Nat) (p1 : Int) (p2 : Int) (w : aI) : Option (Int × aI) :=
  gd (rg (w a0 18)) (if (w a0 18) = 2 then (f_X11_numberHere_b14 F a0 p1 p2 1 a0 w) else (f_X11_numberHere_b14 F a0 p1 p2 0 a0 w))
def f_X11_number (F : Nat) (a0 : Nat) (p1 : Int) (p2 : Int) (w : aI) : Option (Int × aI) :=
  bJW (f_X11_numberHere F a0 p1 p2 w) (fun r1 w2 => (f_X11_goesOn F a0 w2).bind (fun w3 => some (r1, w3)))
def f_X11_semicolon (F : Nat) (a0 : Nat) (w : aI) : Option aI :=
  gd (rg (w a0 18)) (if (w a0 18) = 3 then ((f_X11_need F a0 1 1 w).bind (fun w4 => (f_X11_goesOn F a0 w4).bind (fun w5 => some w5))) else ((f_X11_need F a0 0 1 w).bind (fun w2 => (f_X11_goesOn F a0 w2).bind (fun w3 => some w3))))
def f_X11_spells_b58_b (F : Nat) (a0 : Nat)   (k58 : Int → aI → Option aI) (v1 : Int) (w : aI) : Option aI :=
  gd (rg v1 ∧ rg (w a0 8)) (if (w a0 8) ≤ v1 then (some w) else (gd (inI ((w a0 16) + v1) (shL (shR a0 12))) (gd (inI v1 (shL (shR a0 7))) (ltM (iset w (shR a0 7) v1 (w (shR a0 12) ((w a0 16) + v1))) (fun w6 => k58 (v1 + 1) w6)))))
def f_X11_spells_b58 (F : Nat) (a0 : Nat)   : Nat → Int → aI → Option aI :=
  lp (f_X11_spells_b58_b F a0  ) (fun _ _ => none)
def f_X11_spells_b28 (F : Nat) (a0 : Nat)    (z0 : Int) (z1 : Nat) (w : aI) : Option aI :=
  (f_X11_need F z1 z0 1 w).bind (fun w2 => gd (rg (w2 a0 20)) (if (w2 a0 20) = 0 then (ltM (iset w2 a0 8 ((w2 a0 17) - (w2 a0 16))) (fun w7 => f_X11_spells_b58 F a0 F 0 w7)) else (ltM (iset w2 a0 8 0) (fun w4 => f_X11_spells_b58 F a0 F 0 w4))))
def f_X11_spells_b27 (F : Nat) (a0 : Nat)    (z0 : Nat) (w : aI) : Option aI :=
  f_X11_spells_b28 F a0 0 z0 w
def f_X11_spells (F : Nat) (a0 : Nat) (w : aI) : Option aI :=
  gd (rg (w a0 18)) (if (w a0 18) = 1 then (gd (rg ((w a0 17) - (w a0 16))) (if 6 < ((w a0 17) - (w a0 16)) then (f_X11_spells_b27 F a0 a0 w) else (f_X11_spells_b28 F a0 1 a0 w))) else (f_X11_spells_b27 F a0 a0 w))
def f_X11_roofHere_b38 (F : Nat) (a0 : Nat) (p1 : Int)    (v2 : Int) (z0 : Nat) (w : aI) : Option (Int × aI) :=
  (f_X11_need F z0 1 3 w).bind (fun w4 => gd (rg v2) (some (max 0 v2, w4)))
def f_X11_roofHere_b19 (F : Nat) (a0 : Nat) (p1 : Int)    (z0 : Int) (w : aI) : Option (Int × aI) :=
  gd (rg (w a0 20)) (if 0 < (w a0 20) then (f_X11_roofHere_b38 F a0 p1 z0 a0 w) else (gd (rg z0) (if z0 = (-1) then ((f_X11_need F a0 0 3 w).bind (fun w7 => some (max 0 z0, w7))) else (gd (rg p1) (if z0 = p1 then ((f_X11_need F a0 0 3 w).bind (fun w9 => some (max 0 z0, w9))) else (f_X11_roofHere_b38 F a0 p1 z0 a0 w))))))
def f_X11_roofHere (F : Nat) (a0 : Nat) (p1 : Int) (w : aI) : Option (Int × aI) :=
  (f_X11_spells F a0 w).bind (fun w1 => gd (rg (w1 a0 20)) (if (w1 a0 20) = 0 then ((f_X11_named F a0 w1).bind (fun r10 => f_X11_roofHere_b19 F a0 p1 r10 w1)) else (f_X11_roofHere_b19 F a0 p1 0 w1)))
def f_X11_roofOfText (F : Nat) (a0 : Nat) (p1 : Int) (w : aI) : Option (Int × aI) :=
  bJW (f_X11_roofHere F a0 p1 w) (fun r1 w2 => (f_X11_goesOn F a0 w2).bind (fun w3 => some (r1, w3)))
def f_X11_settingHere (F : Nat) (a0 : Nat) (w : aI) : Option Int :=
  (f_X11_isWord F a0 23 w).bind (fun r1 => if r1 then (some 4) else ((f_X11_isWord F a0 24 w).bind (fun r2 => if r2 then (some 5) else ((f_X11_isWord F a0 25 w).bind (fun r3 => if r3 then (some 6) else (some (-1)))))))
def f_X11_readsRoof_b50 (F : Nat) (a0 : Nat)    (z0 : Int) (z1 : Nat) (w : aI) : Option aI :=
  (f_X11_need F z1 z0 3 w).bind (fun w6 => (f_X11_goesOn F a0 w6).bind (fun w7 => bJW (f_X11_number F a0 1 8 w7) (fun r8 w9 => bJW (f_X11_number F a0 0 9 w9) (fun r10 w11 => bJW (f_X11_number F a0 0 9 w11) (fun r12 w13 => bJW (f_X11_number F a0 0 999 w13) (fun r14 w15 => gd (rg (w15 a0 20)) (if (w15 a0 20) = 0 then ((f_X11_newRoof F a0 r8 r10 r12 r14 w15).bind (fun w17 => some w17)) else (some w15))))))))
def f_X11_readsRoof_b45 (F : Nat) (a0 : Nat)    (z0 : Nat) (w : aI) : Option aI :=
  f_X11_readsRoof_b50 F a0 1 z0 w
def f_X11_readsRoof_b17 (F : Nat) (a0 : Nat)    (z0 : Int) (z1 : Nat) (w : aI) : Option aI :=
  (f_X11_need F z1 z0 5 w).bind (fun w2 => (f_X11_goesOn F a0 w2).bind (fun w3 => (f_X11_spells F a0 w3).bind (fun w4 => gd (rg (w4 a0 20)) (if 0 < (w4 a0 20) then (f_X11_readsRoof_b45 F a0 a0 w4) else ((f_X11_named F a0 w4).bind (fun r18 => gd (rg r18) (if r18 = (-1) then (f_X11_readsRoof_b45 F a0 a0 w4) else (f_X11_readsRoof_b50 F a0 0 a0 w4))))))))
def f_X11_readsRoof (F : Nat) (a0 : Nat) (w : aI) : Option aI :=
  gd (inI 0 (shL (shR a0 0))) (gd (rg (w (shR a0 0) 0)) (if 10 ≤ (w (shR a0 0) 0) then (f_X11_readsRoof_b17 F a0 0 a0 w) else (f_X11_readsRoof_b17 F a0 1 a0 w)))
def f_X11_readsWay_b60 (F : Nat) (a0 : Nat)    (v1 : Int) (v2 : Int) (z0 : Int) (z1 : Nat) (w : aI) : Option aI :=
  (f_X11_need F z1 z0 4 w).bind (fun w9 => (f_X11_goesOn F a0 w9).bind (fun w10 => bJW (f_X11_number F a0 1 9 w10) (fun r11 w12 => gd (rg (w12 a0 20)) (if (w12 a0 20) = 0 then ((f_X11_newWay F a0 v1 v2 r11 w12).bind (fun w14 => some w14)) else (some w12)))))
def f_X11_readsWay_b55 (F : Nat) (a0 : Nat)    (v1 : Int) (v2 : Int) (z0 : Nat) (w : aI) : Option aI :=
  f_X11_readsWay_b60 F a0 v1 v2 1 z0 w
def f_X11_readsWay_b17 (F : Nat) (a0 : Nat)    (z0 : Int) (z1 : Nat) (w : aI) : Option aI :=
  (f_X11_need F z1 z0 5 w).bind (fun w2 => (f_X11_goesOn F a0 w2).bind (fun w3 => bJW (f_X11_roofOfText F a0 (-1) w3) (fun r4 w5 => bJW (f_X11_roofHere F a0 r4 w5) (fun r6 w7 => gd (rg (w7 a0 20)) (if 0 < (w7 a0 20) then (f_X11_readsWay_b55 F a0 r4 r6 a0 w7) else ((f_X11_wayBetween F a0 r4 r6 w7).bind (fun r15 => gd (rg r15) (if r15 = (-1) then (f_X11_readsWay_b55 F a0 r4 r6 a0 w7) else (f_X11_readsWay_b60 F a0 r4 r6 0 a0 w7)))))))))
def f_X11_readsWay (F : Nat) (a0 : Nat) (w : aI) : Option aI :=
  gd (inI 1 (shL (shR a0 0))) (gd (rg (w (shR a0 0) 1)) (if 20 ≤ (w (shR a0 0) 1) then (f_X11_readsWay_b17 F a0 0 a0 w) else (f_X11_readsWay_b17 F a0 1 a0 w)))
def f_X11_readsSetting_b16 (F : Nat) (a0 : Nat)    (v1 : Int) (z0 : Int) (z1 : Nat) (w : aI) : Option aI :=
  (f_X11_need F z1 z0 1 w).bind (fun w3 => (f_X11_goesOn F a0 w3).bind (fun w4 => gd (rg (w4 a0 20)) (if (w4 a0 20) = 0 then ((f_X11_lowOf F v1 w4).bind (fun r6 => (f_X11_highOf F v1 w4).bind (fun r7 => bJW (f_X11_number F a0 r6 r7 w4) (fun r8 w9 => gd (inI v1 (shL (shR a0 0))) (ltM (iset w9 (shR a0 0) v1 r8) (fun w10 => some w10)))))) else (some w4))))
def f_X11_readsSetting (F : Nat) (a0 : Nat) (w : aI) : Option aI :=
  (f_X11_settingHere F a0 w).bind (fun r1 => gd (rg r1) (if r1 = (-1) then (f_X11_readsSetting_b16 F a0 r1 0 a0 w) else (f_X11_readsSetting_b16 F a0 r1 1 a0 w)))
def f_X11_readsStatement (F : Nat) (a0 : Nat) (w : aI) : Option aI :=
  (f_X11_isWord F a0 26 w).bind (fun r1 => if r1 then ((f_X11_readsRoof F a0 w).bind (fun w7 => (f_X11_semicolon F a0 w7).bind (fun w8 => some w8))) else ((f_X11_isWord F a0 27 w).bind (fun r2 => if r2 then ((f_X11_readsWay F a0 w).bind (fun w5 => (f_X11_semicolon F a0 w5).bind (fun w6 => some w6))) else ((f_X11_readsSetting F a0 w).bind (fun w3 => (f_X11_semicolon F a0 w3).bind (fun w4 => some w4))))))
def f_X11_loadPost_b58 (F : Nat) (a0 : Nat)    (z0 : Int) (z1 : Nat) (w : aI) : Option (Int × aI) :=
  (f_X11_need F z1 z0 6 w).bind (fun w7 => (f_X11_ending F a0 w7).bind (fun w8 => gd (rg (w8 a0 20)) (if (w8 a0 20) ≤ 0 then (ltM (iset w8 a0 4 0) (fun w10 => ltM (iset w10 a0 5 0) (fun w11 => gd (inI 1 (shL (shR a0 0))) (some (w11 (shR a0 0) 1, w11))))) else (bJW (f_X11_gives F a0 (shR a0 1) (-1) w8) (fun r12 w13 => some (r12, w13))))))
def f_X11_loadPost_b42 (F : Nat) (a0 : Nat)     (w : aI) : Option (Int × aI) :=
  gd (inI 0 (shL (shR a0 0))) (gd (rg (w (shR a0 0) 0)) (if (w (shR a0 0) 0) ≤ 1 then (f_X11_loadPost_b58 F a0 0 a0 w) else (f_X11_loadPost_b58 F a0 1 a0 w)))
def f_X11_loadPost_b21_b (F : Nat) (a0 : Nat)   (k21 : aI → Option (Int × aI))  (w : aI) : Option (Int × aI) :=
  gd (rg (w a0 20)) (if (w a0 20) = 0 then (gd (rg (w a0 18)) (if (w a0 18) = 0 then (f_X11_loadPost_b42 F a0 w) else ((f_X11_readsStatement F a0 w).bind (fun w15 => k21 w15)))) else (f_X11_loadPost_b42 F a0 w))
def f_X11_loadPost_b21 (F : Nat) (a0 : Nat)   : Nat → aI → Option (Int × aI) :=
  lp (f_X11_loadPost_b21_b F a0  ) (fun  _ => none)
def f_X11_loadPost (F : Nat) (a0 : Nat) (w : aI) : Option (Int × aI) :=
  ltM (iset w a0 6 0) (fun w1 => (f_X11_copies F a0 (shR a0 1) w1).bind (fun w2 => (f_X11_clears F a0 w2).bind (fun w3 => (f_X11_starts F a0 w3).bind (fun w4 => f_X11_loadPost_b21 F a0 F w4))))
def f_X11_kindHere (F : Nat) (a0 : Nat) (w : aI) : Option Int :=
  (f_X11_isWord F a0 28 w).bind (fun r1 => if r1 then (some 0) else ((f_X11_isWord F a0 29 w).bind (fun r2 => if r2 then (some 1) else ((f_X11_isWord F a0 30 w).bind (fun r3 => if r3 then (some 2) else ((f_X11_isWord F a0 31 w).bind (fun r4 => if r4 then (some 3) else ((f_X11_isWord F a0 32 w).bind (fun r5 => if r5 then (some 4) else ((f_X11_settingHere F a0 w).bind (fun r6 => gd (rg r6) (if r6 = (-1) then (some (-1)) else (some 5)))))))))))))
def f_X11_readsNotes_b66 (F : Nat) (a0 : Nat) (p1 : Int)    (v2 : Int) (w : aI) : Option aI :=
  gd (inI (p1 + 3) (shL (shR a0 22))) (ltM (iset w (shR a0 22) (p1 + 3) v2) (fun w8 => some w8))
def f_X11_readsNotes_b47 (F : Nat) (a0 : Nat) (p1 : Int)  (k2 : Int → aI → Option aI)  (v2 : Int) (w : aI) : Option aI :=
  (f_X11_goesOn F a0 w).bind (fun w6 => gd (rg (w6 a0 20)) (if (w6 a0 20) = 0 then (gd (rg (w6 a0 18)) (if (w6 a0 18) = 2 then (k2 v2 w6) else (f_X11_readsNotes_b66 F a0 p1 v2 w6))) else (f_X11_readsNotes_b66 F a0 p1 v2 w6)))
def f_X11_readsNotes_b22 (F : Nat) (a0 : Nat) (p1 : Int)  (k2 : Int → aI → Option aI)  (v2 : Int) (v3 : Int) (z0 : Int) (z1 : Nat) (w : aI) : Option aI :=
  (f_X11_need F z1 z0 5 w).bind (fun w4 => gd (rg (w4 a0 20)) (if (w4 a0 20) = 0 then (gd (inI ((p1 + 4) + v2) (shL (shR a0 22))) (ltM (iset w4 (shR a0 22) ((p1 + 4) + v2) v3) (fun w10 => f_X11_readsNotes_b47 F a0 p1 k2 (v2 + 1) w10))) else (f_X11_readsNotes_b47 F a0 p1 k2 v2 w4)))
def f_X11_readsNotes_b2_b (F : Nat) (a0 : Nat) (p1 : Int)   (k2 : Int → aI → Option aI) (v2 : Int) (w : aI) : Option aI :=
  bJW (f_X11_numberHere F a0 0 7 w) (fun r1 w2 => gd (rg v2) (if 8 ≤ v2 then (f_X11_readsNotes_b22 F a0 p1 k2 v2 r1 0 a0 w2) else (f_X11_readsNotes_b22 F a0 p1 k2 v2 r1 1 a0 w2)))
def f_X11_readsNotes_b2 (F : Nat) (a0 : Nat) (p1 : Int)   : Nat → Int → aI → Option aI :=
  lp (f_X11_readsNotes_b2_b F a0 p1  ) (fun _ _ => none)
def f_X11_readsNotes (F : Nat) (a0 : Nat) (p1 : Int) (w : aI) : Option aI :=
  f_X11_readsNotes_b2 F a0 p1 F 0 w
def f_X11_readsDeed_b264 (F : Nat) (a0 : Nat)     (w : aI) : Option aI :=
  (f_X11_semicolon F a0 w).bind (fun w20 => ltM (iset w20 a0 23 ((w20 a0 23) + 1)) (fun w21 => some w21))
def f_X11_readsDeed_b40 (F : Nat) (a0 : Nat)    (v1 : Int) (v2 : Int) (z0 : Int) (z1 : Nat) (w : aI) : Option aI :=
  (f_X11_need F z1 z0 5 w).bind (fun w6 => (f_X11_goesOn F a0 w6).bind (fun w7 => gd (rg (w7 a0 20)) (if (w7 a0 20) ≤ 0 then (ltI (12 * (w7 a0 23)) (fun v3_9 => gd (inI v3_9 (shL (shR a0 22))) (ltM (iset w7 (shR a0 22) v3_9 v1) (fun w10 => gd (rg v1) (if v1 = 0 then (bJW (f_X11_roofOfText F a0 (-1) w10) (fun r13 w14 => gd (inI (v3_9 + 1) (shL (shR a0 22))) (ltM (iset w14 (shR a0 22) (v3_9 + 1) r13) (fun w15 => gd (inI (v3_9 + 1) (shL (shR a0 22))) (bJW (f_X11_roofOfText F a0 (w15 (shR a0 22) (v3_9 + 1)) w15) (fun r16 w17 => gd (inI (v3_9 + 2) (shL (shR a0 22))) (ltM (iset w17 (shR a0 22) (v3_9 + 2) r16) (fun w18 => (f_X11_readsNotes F a0 v3_9 w18).bind (fun w19 => f_X11_readsDeed_b264 F a0 w19))))))))) else (if v1 = 1 then (bJW (f_X11_roofOfText F a0 (-1) w10) (fun r23 w24 => gd (inI (v3_9 + 1) (shL (shR a0 22))) (ltM (iset w24 (shR a0 22) (v3_9 + 1) r23) (fun w25 => gd (inI (v3_9 + 1) (shL (shR a0 22))) (bJW (f_X11_roofOfText F a0 (w25 (shR a0 22) (v3_9 + 1)) w25) (fun r26 w27 => gd (inI (v3_9 + 2) (shL (shR a0 22))) (ltM (iset w27 (shR a0 22) (v3_9 + 2) r26) (fun w28 => (f_X11_readsNotes F a0 v3_9 w28).bind (fun w29 => f_X11_readsDeed_b264 F a0 w29))))))))) else (if v1 = 2 then (bJW (f_X11_number F a0 1 200 w10) (fun r31 w32 => gd (inI (v3_9 + 1) (shL (shR a0 22))) (ltM (iset w32 (shR a0 22) (v3_9 + 1) r31) (fun w33 => f_X11_readsDeed_b264 F a0 w33)))) else (if v1 = 3 then (bJW (f_X11_roofOfText F a0 (-1) w10) (fun r35 w36 => gd (inI (v3_9 + 1) (shL (shR a0 22))) (ltM (iset w36 (shR a0 22) (v3_9 + 1) r35) (fun w37 => bJW (f_X11_number F a0 1 99 w37) (fun r38 w39 => gd (inI (v3_9 + 2) (shL (shR a0 22))) (ltM (iset w39 (shR a0 22) (v3_9 + 2) r38) (fun w40 => f_X11_readsDeed_b264 F a0 w40))))))) else (if v1 = 4 then (bJW (f_X11_roofOfText F a0 (-1) w10) (fun r42 w43 => gd (inI (v3_9 + 1) (shL (shR a0 22))) (ltM (iset w43 (shR a0 22) (v3_9 + 1) r42) (fun w44 => gd (inI (v3_9 + 1) (shL (shR a0 22))) (bJW (f_X11_roofOfText F a0 (w44 (shR a0 22) (v3_9 + 1)) w44) (fun r45 w46 => gd (inI (v3_9 + 2) (shL (shR a0 22))) (ltM (iset w46 (shR a0 22) (v3_9 + 2) r45) (fun w47 => f_X11_readsDeed_b264 F a0 w47)))))))) else (gd (inI (v3_9 + 1) (shL (shR a0 22))) (ltM (iset w10 (shR a0 22) (v3_9 + 1) v2) (fun w48 => (f_X11_lowOf F v2 w48).bind (fun r49 => (f_X11_highOf F v2 w48).bind (fun r50 => bJW (f_X11_number F a0 r49 r50 w48) (fun r51 w52 => gd (inI (v3_9 + 2) (shL (shR a0 22))) (ltM (iset w52 (shR a0 22) (v3_9 + 2) r51) (fun w53 => f_X11_readsDeed_b264 F a0 w53))))))))))))))))) else (some w7))))
def f_X11_readsDeed_b21 (F : Nat) (a0 : Nat)    (v1 : Int) (v2 : Int) (z0 : Int) (z1 : Nat) (w : aI) : Option aI :=
  (f_X11_need F z1 z0 1 w).bind (fun w4 => gd (rg (w4 a0 23)) (if 30 ≤ (w4 a0 23) then (f_X11_readsDeed_b40 F a0 v1 v2 0 a0 w4) else (f_X11_readsDeed_b40 F a0 v1 v2 1 a0 w4)))
def f_X11_readsDeed (F : Nat) (a0 : Nat) (w : aI) : Option aI :=
  (f_X11_kindHere F a0 w).bind (fun r1 => (f_X11_settingHere F a0 w).bind (fun r2 => gd (rg r1) (if r1 = (-1) then (f_X11_readsDeed_b21 F a0 r1 r2 0 a0 w) else (f_X11_readsDeed_b21 F a0 r1 r2 1 a0 w))))
def f_X11_sendsDeed_b14_b (F : Nat) (a0 : Nat) (p1 : Int)   (k14 : Int → aI → Option (Int × aI)) (v2 : Int) (w : aI) : Option (Int × aI) :=
  gd (rg v2 ∧ rg (w a0 11)) (if (w a0 11) ≤ v2 then (gd (inI (p1 + 1) (shL (shR a0 22))) (gd (inI (p1 + 2) (shL (shR a0 22))) (gd (inI p1 (shL (shR a0 22))) (gd (rg (w (shR a0 22) p1)) (if (w (shR a0 22) p1) = 1 then (bJW (f_X11_newTune F a0 (w (shR a0 22) (p1 + 1)) (w (shR a0 22) (p1 + 2)) 0 1 w) (fun r6 w7 => some (r6, w7))) else (bJW (f_X11_newTune F a0 (w (shR a0 22) (p1 + 1)) (w (shR a0 22) (p1 + 2)) 0 0 w) (fun r4 w5 => some (r4, w5)))))))) else (gd (inI ((p1 + 4) + v2) (shL (shR a0 22))) (gd (inI v2 (shL (shR a0 10))) (ltM (iset w (shR a0 10) v2 (w (shR a0 22) ((p1 + 4) + v2))) (fun w8 => k14 (v2 + 1) w8)))))
def f_X11_sendsDeed_b14 (F : Nat) (a0 : Nat) (p1 : Int)   : Nat → Int → aI → Option (Int × aI) :=
  lp (f_X11_sendsDeed_b14_b F a0 p1  ) (fun _ _ => none)
def f_X11_sendsDeed (F : Nat) (a0 : Nat) (p1 : Int) (w : aI) : Option (Int × aI) :=
  gd (inI (p1 + 3) (shL (shR a0 22))) (ltM (iset w a0 11 (w (shR a0 22) (p1 + 3))) (fun w1 => f_X11_sendsDeed_b14 F a0 p1 F 0 w1))
def f_X11_does (F : Nat) (a0 : Nat) (p1 : Int) (w : aI) : Option (Bool × aI) :=
  ltI (12 * p1) (fun v2_1 => gd (inI (v2_1 + 1) (shL (shR a0 22))) (ltI (w (shR a0 22) (v2_1 + 1)) (fun v3_2 => gd (inI (v2_1 + 2) (shL (shR a0 22))) (ltI (w (shR a0 22) (v2_1 + 2)) (fun v4_3 => gd (inI v2_1 (shL (shR a0 22))) (ltI (w (shR a0 22) v2_1) (fun u4 => gd (rg u4) (if u4 = 0 then (gd (inI 2 (shL (shR a0 0))) (gd (rg (w (shR a0 0) 2)) (if 30 ≤ (w (shR a0 0) 2) then (some (false, w)) else (bJW (f_X11_sendsDeed F a0 v2_1 w) (fun r8 w9 => gd (rg r8) (if r8 < 0 then (some (false, w9)) else (some (true, w9)))))))) else (if u4 = 1 then (gd (inI 2 (shL (shR a0 0))) (gd (rg (w (shR a0 0) 2)) (if 30 ≤ (w (shR a0 0) 2) then (some (false, w)) else (bJW (f_X11_sendsDeed F a0 v2_1 w) (fun r13 w14 => gd (rg r13) (if r13 < 0 then (some (false, w14)) else (some (true, w14)))))))) else (if u4 = 2 then (gd (inI 3 (shL (shR a0 0))) (gd (rg ((w (shR a0 0) 3) + v3_2)) (if 9999 < ((w (shR a0 0) 3) + v3_2) then (some (false, w)) else (bJW (f_X11_goes F a0 v3_2 w) (fun r18 w19 => gd (rg r18) (if r18 < 0 then (some (false, w19)) else (some (true, w19)))))))) else (if u4 = 3 then ((f_X11_r F v3_2 w).bind (fun r22 => gd (inI (r22 + 10) (shL (shR a0 0))) (gd (rg ((w (shR a0 0) (r22 + 10)) + v4_3)) (if 9999 < ((w (shR a0 0) (r22 + 10)) + v4_3) then (some (false, w)) else (bJW (f_X11_givesCoins F a0 v3_2 v4_3 w) (fun r24 w25 => gd (rg r24) (if r24 ≤ 0 then (some (false, w25)) else (some (true, w25))))))))) else (if u4 = 4 then ((f_X11_wayBetween F a0 v3_2 v4_3 w).bind (fun r28 => gd (rg r28) (if r28 = (-1) then (some (false, w)) else ((f_X11_wayBetween F a0 v3_2 v4_3 w).bind (fun r30 => bJW (f_X11_cuts F a0 r30 w) (fun r31 w32 => gd (rg r31) (if r31 < 0 then (some (false, w32)) else (some (true, w32))))))))) else (bJW (f_X11_sets F a0 v3_2 v4_3 w) (fun r34 w35 => gd (rg r34) (if r34 < 0 then (some (false, w35)) else (some (true, w35)))))))))))))))))
def f_X11_playScript_b54_b (F : Nat) (a0 : Nat)   (k54 : Int → aI → Option (Int × aI)) (v1 : Int) (w : aI) : Option (Int × aI) :=
  gd (rg v1 ∧ rg (w a0 23)) (if (w a0 23) ≤ v1 then (some (v1, w)) else (bKW (f_X11_does F a0 v1 w) (fun r9 w10 => if r9 then (k54 (v1 + 1) w10) else (some (v1, w10)))))
def f_X11_playScript_b54 (F : Nat) (a0 : Nat)   : Nat → Int → aI → Option (Int × aI) :=
  lp (f_X11_playScript_b54_b F a0  ) (fun _ _ => none)
def f_X11_playScript_b35 (F : Nat) (a0 : Nat)     (w : aI) : Option (Int × aI) :=
  (f_X11_ending F a0 w).bind (fun w5 => gd (rg (w5 a0 20)) (if (w5 a0 20) ≤ 0 then ((f_X11_remembers F a0 w5).bind (fun w7 => f_X11_playScript_b54 F a0 F 0 w7)) else (some ((-1), w5))))
def f_X11_playScript_b14_b (F : Nat) (a0 : Nat)   (k14 : aI → Option (Int × aI))  (w : aI) : Option (Int × aI) :=
  gd (rg (w a0 20)) (if (w a0 20) = 0 then (gd (rg (w a0 18)) (if (w a0 18) = 0 then (f_X11_playScript_b35 F a0 w) else ((f_X11_readsDeed F a0 w).bind (fun w12 => k14 w12)))) else (f_X11_playScript_b35 F a0 w))
def f_X11_playScript_b14 (F : Nat) (a0 : Nat)   : Nat → aI → Option (Int × aI) :=
  lp (f_X11_playScript_b14_b F a0  ) (fun  _ => none)
def f_X11_playScript (F : Nat) (a0 : Nat) (w : aI) : Option (Int × aI) :=
  ltM (iset w a0 6 0) (fun w1 => ltM (iset w1 a0 23 0) (fun w2 => (f_X11_starts F a0 w2).bind (fun w3 => f_X11_playScript_b14 F a0 F w3)))
def f_X11_those_b4_b (F : Nat) (a0 : Nat) (p1 : Int) (w : aI)  (k4 : Int → Int → Option Int) (v2 : Int) (v3 : Int)  : Option Int :=
  gd (inI 2 (shL (shR a0 0))) (gd (rg v3 ∧ rg (w (shR a0 0) 2)) (if (w (shR a0 0) 2) ≤ v3 then (some v2) else ((f_X11_t F v3 w).bind (fun r2 => gd (inI (r2 + 3) (shL (shR a0 0))) (gd (rg (w (shR a0 0) (r2 + 3)) ∧ rg p1) (if (w (shR a0 0) (r2 + 3)) = p1 then ((f_X11_one F 1 w).bind (fun r6 => ltI (v2 + r6) (fun v2_7 => k4 v2_7 (v3 + 1)))) else ((f_X11_one F 0 w).bind (fun r4 => ltI (v2 + r4) (fun v2_5 => k4 v2_5 (v3 + 1))))))))))
def f_X11_those_b4 (F : Nat) (a0 : Nat) (p1 : Int) (w : aI)  : Nat → Int → Int → Option Int :=
  lp (f_X11_those_b4_b F a0 p1 w ) (fun _ _ => none)
def f_X11_those (F : Nat) (a0 : Nat) (p1 : Int) (w : aI) : Option Int :=
  f_X11_those_b4 F a0 p1 w F 0 0
def f_X11_busyMany_b4_b (F : Nat) (a0 : Nat) (w : aI)  (k4 : Int → Int → Option Int) (v1 : Int) (v2 : Int)  : Option Int :=
  gd (inI 0 (shL (shR a0 0))) (gd (rg v2 ∧ rg (w (shR a0 0) 0)) (if (w (shR a0 0) 0) ≤ v2 then (some v1) else (gd (inI 3 (shL (shR a0 0))) ((f_X11_isBusy F a0 v2 (w (shR a0 0) 3) w).bind (fun r2 => (f_X11_one F (bI r2) w).bind (fun r3 => ltI (v1 + r3) (fun v1_4 => k4 v1_4 (v2 + 1))))))))
def f_X11_busyMany_b4 (F : Nat) (a0 : Nat) (w : aI)  : Nat → Int → Int → Option Int :=
  lp (f_X11_busyMany_b4_b F a0 w ) (fun _ _ => none)
def f_X11_busyMany (F : Nat) (a0 : Nat) (w : aI) : Option Int :=
  f_X11_busyMany_b4 F a0 w F 0 0
def f_X11_purses_b4_b (F : Nat) (a0 : Nat) (w : aI)  (k4 : Int → Int → Option Int) (v1 : Int) (v2 : Int)  : Option Int :=
  gd (inI 0 (shL (shR a0 0))) (gd (rg v2 ∧ rg (w (shR a0 0) 0)) (if (w (shR a0 0) 0) ≤ v2 then (some v1) else ((f_X11_r F v2 w).bind (fun r2 => gd (inI (r2 + 10) (shL (shR a0 0))) (ltI (v1 + (w (shR a0 0) (r2 + 10))) (fun v1_3 => k4 v1_3 (v2 + 1)))))))
def f_X11_purses_b4 (F : Nat) (a0 : Nat) (w : aI)  : Nat → Int → Int → Option Int :=
  lp (f_X11_purses_b4_b F a0 w ) (fun _ _ => none)
def f_X11_purses (F : Nat) (a0 : Nat) (w : aI) : Option Int :=
  f_X11_purses_b4 F a0 w F 0 0
def f_X11_count (F : Nat) (a0 : Nat) (p1 : Int) (w : aI) : Option (Int × aI) :=
  gd (rg p1) ((f_X11_in F p1 0 13 w).bind (fun r2 => bKW (f_X11_may F a0 (bI r2) 1 1 w) (fun r3 w4 => if r3 then (if p1 = 0 then (gd (inI p1 (shL (shR a0 0))) (some (w4 (shR a0 0) p1, w4))) else (if p1 = 1 then (gd (inI p1 (shL (shR a0 0))) (some (w4 (shR a0 0) p1, w4))) else (if p1 = 2 then (gd (inI p1 (shL (shR a0 0))) (some (w4 (shR a0 0) p1, w4))) else (if p1 = 3 then ((f_X11_those F a0 (p1 - 3) w4).bind (fun r9 => some (r9, w4))) else (if p1 = 4 then ((f_X11_those F a0 (p1 - 3) w4).bind (fun r11 => some (r11, w4))) else (if p1 = 5 then ((f_X11_those F a0 (p1 - 3) w4).bind (fun r13 => some (r13, w4))) else (if p1 = 6 then ((f_X11_those F a0 (p1 - 3) w4).bind (fun r15 => some (r15, w4))) else (if p1 = 7 then (gd (inI (p1 - 4) (shL (shR a0 0))) (some (w4 (shR a0 0) (p1 - 4), w4))) else (if p1 = 8 then (gd (inI (p1 - 4) (shL (shR a0 0))) (some (w4 (shR a0 0) (p1 - 4), w4))) else (if p1 = 9 then (gd (inI (p1 - 4) (shL (shR a0 0))) (some (w4 (shR a0 0) (p1 - 4), w4))) else (if p1 = 10 then (gd (inI (p1 - 4) (shL (shR a0 0))) (some (w4 (shR a0 0) (p1 - 4), w4))) else (if p1 = 11 then ((f_X11_busyMany F a0 w4).bind (fun r21 => some (r21, w4))) else (if p1 = 12 then ((f_X11_purses F a0 w4).bind (fun r23 => some (r23, w4))) else (if p1 = 13 then (some (w4 a0 4, w4)) else (gd (inI (p1 - 4) (shL (shR a0 0))) (some (w4 (shR a0 0) (p1 - 4), w4))))))))))))))))) else (some (0, w4)))))
def f_X11_account (F : Nat) (a0 : Nat) (p1 : Int) (w : aI) : Option (Int × aI) :=
  gd (rg p1) ((f_X11_in F p1 0 10 w).bind (fun r2 => bKW (f_X11_may F a0 (bI r2) 1 1 w) (fun r3 w4 => if r3 then (gd (inI (10 + p1) (shL (shR a0 0))) (some (w4 (shR a0 0) (10 + p1), w4))) else (some (0, w4)))))
def f_X11_isRoof (F : Nat) (a0 : Nat) (p1 : Int) (w : aI) : Option Bool :=
  gd (rg p1) (gd (inI 0 (shL (shR a0 0))) (gd (rg ((w (shR a0 0) 0) - 1)) ((f_X11_in F p1 0 ((w (shR a0 0) 0) - 1) w).bind (fun r3 => some r3))))
def f_X11_areRoofs (F : Nat) (a0 : Nat) (p1 : Int) (p2 : Int) (w : aI) : Option Bool :=
  (f_X11_isRoof F a0 p1 w).bind (fun r1 => if r1 then ((f_X11_isRoof F a0 p2 w).bind (fun r2 => if r2 then (some true) else (some false))) else (some false))
def f_X11_isTune (F : Nat) (a0 : Nat) (p1 : Int) (w : aI) : Option Bool :=
  gd (rg p1) (gd (inI 2 (shL (shR a0 0))) (gd (rg ((w (shR a0 0) 2) - 1)) ((f_X11_in F p1 0 ((w (shR a0 0) 2) - 1) w).bind (fun r3 => some r3))))
def f_X11_nameByte (F : Nat) (a0 : Nat) (p1 : Int) (p2 : Int) (w : aI) : Option (Int × aI) :=
  (f_X11_isRoof F a0 p1 w).bind (fun r1 => bKW (f_X11_may F a0 (bI r1) 1 1 w) (fun r2 w3 => if r2 then (gd (rg p2) ((f_X11_r F p1 w3).bind (fun r5 => gd (inI r5 (shL (shR a0 0))) (gd (rg ((w3 (shR a0 0) r5) - 1)) ((f_X11_in F p2 0 ((w3 (shR a0 0) r5) - 1) w3).bind (fun r7 => if r7 then ((f_X11_r F p1 w3).bind (fun r8 => gd (inI ((r8 + 1) + p2) (shL (shR a0 0))) (some (w3 (shR a0 0) ((r8 + 1) + p2), w3)))) else (some ((-1), w3)))))))) else (some (0, w3))))
def f_X11_waitingMany_b4_b (F : Nat) (a0 : Nat) (p1 : Int) (w : aI)  (k4 : Int → Int → Option Int) (v2 : Int) (v3 : Int)  : Option Int :=
  gd (inI 2 (shL (shR a0 0))) (gd (rg v3 ∧ rg (w (shR a0 0) 2)) (if (w (shR a0 0) 2) ≤ v3 then (some v2) else ((f_X11_waitsAt F a0 v3 p1 w).bind (fun r2 => (f_X11_one F (bI r2) w).bind (fun r3 => ltI (v2 + r3) (fun v2_4 => k4 v2_4 (v3 + 1)))))))
def f_X11_waitingMany_b4 (F : Nat) (a0 : Nat) (p1 : Int) (w : aI)  : Nat → Int → Int → Option Int :=
  lp (f_X11_waitingMany_b4_b F a0 p1 w ) (fun _ _ => none)
def f_X11_waitingMany (F : Nat) (a0 : Nat) (p1 : Int) (w : aI) : Option Int :=
  f_X11_waitingMany_b4 F a0 p1 w F 0 0
def f_X11_waysAt_b4_b (F : Nat) (a0 : Nat) (p1 : Int) (w : aI)  (k4 : Int → Int → Option Int) (v2 : Int) (v3 : Int)  : Option Int :=
  gd (inI 1 (shL (shR a0 0))) (gd (rg v3 ∧ rg (w (shR a0 0) 1)) (if (w (shR a0 0) 1) ≤ v3 then (some v2) else ((f_X11_ends F a0 v3 p1 w).bind (fun r2 => (f_X11_one F (bI r2) w).bind (fun r3 => ltI (v2 + r3) (fun v2_4 => k4 v2_4 (v3 + 1)))))))
def f_X11_waysAt_b4 (F : Nat) (a0 : Nat) (p1 : Int) (w : aI)  : Nat → Int → Int → Option Int :=
  lp (f_X11_waysAt_b4_b F a0 p1 w ) (fun _ _ => none)
def f_X11_waysAt (F : Nat) (a0 : Nat) (p1 : Int) (w : aI) : Option Int :=
  f_X11_waysAt_b4 F a0 p1 w F 0 0
def f_X11_roof (F : Nat) (a0 : Nat) (p1 : Int) (p2 : Int) (w : aI) : Option (Int × aI) :=
  (f_X11_isRoof F a0 p1 w).bind (fun r1 => gd (rg p2) ((f_X11_in F p2 0 7 w).bind (fun r3 => bKW (f_X11_may F a0 (bI r1) (bI r3) 1 w) (fun r4 w5 => if r4 then (if p2 = 4 then ((f_X11_r F p1 w5).bind (fun r7 => gd (inI (r7 + 11) (shL (shR a0 0))) (gd (inI 3 (shL (shR a0 0))) (gd (rg ((w5 (shR a0 0) (r7 + 11)) - (w5 (shR a0 0) 3))) (some (max 0 ((w5 (shR a0 0) (r7 + 11)) - (w5 (shR a0 0) 3)), w5)))))) else (if p2 = 5 then ((f_X11_waitingMany F a0 p1 w5).bind (fun r10 => some (r10, w5))) else (if p2 = 6 then ((f_X11_waysAt F a0 p1 w5).bind (fun r12 => some (r12, w5))) else (if p2 = 7 then ((f_X11_r F p1 w5).bind (fun r14 => gd (inI (r14 + 12) (shL (shR a0 0))) (some (w5 (shR a0 0) (r14 + 12), w5)))) else ((f_X11_r F p1 w5).bind (fun r15 => gd (inI ((r15 + 7) + p2) (shL (shR a0 0))) (some (w5 (shR a0 0) ((r15 + 7) + p2), w5)))))))) else (some (0, w5))))))
def f_X11_way (F : Nat) (a0 : Nat) (p1 : Int) (p2 : Int) (w : aI) : Option (Int × aI) :=
  gd (rg p1) (gd (inI 1 (shL (shR a0 0))) (gd (rg ((w (shR a0 0) 1) - 1)) ((f_X11_in F p1 0 ((w (shR a0 0) 1) - 1) w).bind (fun r3 => gd (rg p2) ((f_X11_in F p2 0 2 w).bind (fun r5 => bKW (f_X11_may F a0 (bI r3) (bI r5) 1 w) (fun r6 w7 => if r6 then ((f_X11_w F p1 w7).bind (fun r8 => gd (inI (r8 + p2) (shL (shR a0 0))) (some (w7 (shR a0 0) (r8 + p2), w7)))) else (some (0, w7)))))))))
def f_X11_route (F : Nat) (a0 : Nat) (p1 : Int) (p2 : Int) (w : aI) : Option (Int × aI) :=
  (f_X11_areRoofs F a0 p1 p2 w).bind (fun r1 => bKW (f_X11_may F a0 (bI r1) 1 1 w) (fun r2 w3 => if r2 then (bJW (f_X11_sumTo F a0 p1 p2 w3) (fun r4 w5 => some (r4, w5))) else (some (0, w3))))
def f_X11_next (F : Nat) (a0 : Nat) (p1 : Int) (p2 : Int) (w : aI) : Option (Int × aI) :=
  (f_X11_areRoofs F a0 p1 p2 w).bind (fun r1 => bKW (f_X11_may F a0 (bI r1) 1 1 w) (fun r2 w3 => if r2 then (bJW (f_X11_nextTo F a0 p1 p2 w3) (fun r4 w5 => some (r4, w5))) else (some (0, w3))))
def f_X11_tune (F : Nat) (a0 : Nat) (p1 : Int) (p2 : Int) (w : aI) : Option (Int × aI) :=
  (f_X11_isTune F a0 p1 w).bind (fun r1 => gd (rg p2) ((f_X11_in F p2 0 11 w).bind (fun r3 => bKW (f_X11_may F a0 (bI r1) (bI r3) 1 w) (fun r4 w5 => if r4 then (if p2 = 9 then ((f_X11_bars F a0 p1 w5).bind (fun r7 => some (r7, w5))) else (if p2 = 10 then ((f_X11_unlike F a0 p1 w5).bind (fun r9 => some (r9, w5))) else (if p2 = 11 then ((f_X11_t F p1 w5).bind (fun r11 => gd (inI (r11 + 9) (shL (shR a0 0))) (some (w5 (shR a0 0) (r11 + 9), w5)))) else ((f_X11_t F p1 w5).bind (fun r12 => gd (inI (r12 + p2) (shL (shR a0 0))) (some (w5 (shR a0 0) (r12 + p2), w5))))))) else (some (0, w5))))))
def f_X11_note (F : Nat) (a0 : Nat) (p1 : Int) (p2 : Int) (p3 : Int) (w : aI) : Option (Int × aI) :=
  (f_X11_isTune F a0 p1 w).bind (fun r1 => bKW (f_X11_may F a0 (bI r1) 1 1 w) (fun r2 w3 => if r2 then (gd (rg p2) ((f_X11_t F p1 w3).bind (fun r5 => gd (inI (r5 + 2) (shL (shR a0 0))) (gd (rg ((w3 (shR a0 0) (r5 + 2)) - 1)) ((f_X11_in F p2 0 ((w3 (shR a0 0) (r5 + 2)) - 1) w3).bind (fun r7 => if r7 then ((f_X11_t F p1 w3).bind (fun r8 => gd (rg p3) (if p3 = 0 then (gd (inI ((r8 + 11) + p2) (shL (shR a0 0))) (some (w3 (shR a0 0) ((r8 + 11) + p2), w3))) else (gd (inI ((r8 + 19) + p2) (shL (shR a0 0))) (some (w3 (shR a0 0) ((r8 + 19) + p2), w3)))))) else (some ((-1), w3)))))))) else (some (0, w3))))
def f_X11_placeOf_b57 (F : Nat) (a0 : Nat) (p1 : Int) (p2 : Int) (w : aI) (k5 : Int → Int → Option Int)  (v4 : Int) (z0 : Int)  : Option Int :=
  (f_X11_one F 1 w).bind (fun r9 => ltI (z0 + r9) (fun v3_10 => k5 v3_10 (v4 + 1)))
def f_X11_placeOf_b5_b (F : Nat) (a0 : Nat) (p1 : Int) (p2 : Int) (w : aI)  (k5 : Int → Int → Option Int) (v3 : Int) (v4 : Int)  : Option Int :=
  gd (inI 2 (shL (shR a0 0))) (gd (rg v4 ∧ rg (w (shR a0 0) 2)) (if (w (shR a0 0) 2) ≤ v4 then (some v3) else ((f_X11_bars F a0 v4 w).bind (fun r2 => (f_X11_bars F a0 p1 w).bind (fun r3 => ltI (r2 - r3) (fun v5_4 => (f_X11_waitsAt F a0 v4 p2 w).bind (fun r5 => if r5 then (gd (rg v5_4) (if 0 < v5_4 then (f_X11_placeOf_b57 F a0 p1 p2 w k5 v4 v3) else (if v5_4 = 0 then (gd (rg p1) (if p1 ≤ v4 then ((f_X11_one F 0 w).bind (fun r14 => ltI (v3 + r14) (fun v3_15 => k5 v3_15 (v4 + 1)))) else (f_X11_placeOf_b57 F a0 p1 p2 w k5 v4 v3))) else ((f_X11_one F 0 w).bind (fun r11 => ltI (v3 + r11) (fun v3_12 => k5 v3_12 (v4 + 1))))))) else ((f_X11_one F 0 w).bind (fun r6 => ltI (v3 + r6) (fun v3_7 => k5 v3_7 (v4 + 1)))))))))))
def f_X11_placeOf_b5 (F : Nat) (a0 : Nat) (p1 : Int) (p2 : Int) (w : aI)  : Nat → Int → Int → Option Int :=
  lp (f_X11_placeOf_b5_b F a0 p1 p2 w ) (fun _ _ => none)
def f_X11_placeOf (F : Nat) (a0 : Nat) (p1 : Int) (p2 : Int) (w : aI) : Option Int :=
  f_X11_placeOf_b5 F a0 p1 p2 w F 0 0
def f_X11_waiting_b18_b (F : Nat) (a0 : Nat) (p1 : Int) (p2 : Int)   (k18 : Int → aI → Option (Int × aI)) (v3 : Int) (w : aI) : Option (Int × aI) :=
  gd (inI 2 (shL (shR a0 0))) (gd (rg v3 ∧ rg (w (shR a0 0) 2)) (if (w (shR a0 0) 2) ≤ v3 then (some ((-1), w)) else ((f_X11_waitsAt F a0 v3 p1 w).bind (fun r5 => if r5 then ((f_X11_placeOf F a0 v3 p1 w).bind (fun r6 => gd (rg r6 ∧ rg p2) (if r6 = p2 then (some (v3, w)) else (k18 (v3 + 1) w)))) else (k18 (v3 + 1) w)))))
def f_X11_waiting_b18 (F : Nat) (a0 : Nat) (p1 : Int) (p2 : Int)   : Nat → Int → aI → Option (Int × aI) :=
  lp (f_X11_waiting_b18_b F a0 p1 p2  ) (fun _ _ => none)
def f_X11_waiting (F : Nat) (a0 : Nat) (p1 : Int) (p2 : Int) (w : aI) : Option (Int × aI) :=
  (f_X11_isRoof F a0 p1 w).bind (fun r1 => bKW (f_X11_may F a0 (bI r1) 1 1 w) (fun r2 w3 => if r2 then (f_X11_waiting_b18 F a0 p1 p2 F 0 w3) else (some (0, w3))))
def f_X11_reason (F : Nat) (a0 : Nat) (p1 : Int) (w : aI) : Option (Int × aI) :=
  (f_X11_t F p1 w).bind (fun r1 => gd (inI (r1 + 4) (shL (shR a0 0))) (ltI (w (shR a0 0) (r1 + 4)) (fun v3_2 => gd (inI (r1 + 3) (shL (shR a0 0))) (gd (rg (w (shR a0 0) (r1 + 3))) (if (w (shR a0 0) (r1 + 3)) = 0 then (gd (inI (r1 + 1) (shL (shR a0 0))) (bJW (f_X11_sumTo F a0 v3_2 (w (shR a0 0) (r1 + 1)) w) (fun r4 w5 => gd (rg r4) (if r4 = (-1) then (some (2, w5)) else (gd (inI 3 (shL (shR a0 0))) (gd (rg ((w5 (shR a0 0) 3) + 1)) (gd (inI 5 (shL (shR a0 0))) (gd (rg (Int.tmod ((w5 (shR a0 0) 3) + 1) 60) ∧ rg (w5 (shR a0 0) 5)) (if (Int.tmod ((w5 (shR a0 0) 3) + 1) 60) < (w5 (shR a0 0) 5) then (gd (inI 3 (shL (shR a0 0))) ((f_X11_isBusy F a0 v3_2 ((w5 (shR a0 0) 3) + 1) w5).bind (fun r9 => if r9 then (some (4, w5)) else ((f_X11_purseFor F a0 p1 w5).bind (fun r10 => (f_X11_feeAt F a0 p1 v3_2 w5).bind (fun r11 => gd (rg r10 ∧ rg r11) (if r11 ≤ r10 then (bJW (f_X11_firstAt F a0 v3_2 w5) (fun r13 w14 => gd (rg r13 ∧ rg p1) (if r13 = p1 then (some (0, w14)) else (some (6, w14))))) else (some (5, w5))))))))) else (some (3, w5))))))))))) else (some (1, w)))))))
def f_X11_cause (F : Nat) (a0 : Nat) (p1 : Int) (p2 : Int) (w : aI) : Option (Int × aI) :=
  (f_X11_t F p1 w).bind (fun r1 => gd (inI (r1 + 4) (shL (shR a0 0))) (ltI (w (shR a0 0) (r1 + 4)) (fun v4_2 => gd (rg p2) (if p2 = 1 then (gd (inI (r1 + 3) (shL (shR a0 0))) (some (100 + (w (shR a0 0) (r1 + 3)), w))) else (if p2 = 2 then (gd (inI (r1 + 1) (shL (shR a0 0))) (some (200 + (w (shR a0 0) (r1 + 1)), w))) else (if p2 = 3 then (gd (inI 3 (shL (shR a0 0))) (gd (rg ((w (shR a0 0) 3) + 1)) (some (300 + (Int.tmod ((w (shR a0 0) 3) + 1) 60), w)))) else (if p2 = 4 then ((f_X11_r F v4_2 w).bind (fun r9 => gd (inI (r9 + 11) (shL (shR a0 0))) (gd (inI 3 (shL (shR a0 0))) (some (((400 + (w (shR a0 0) (r9 + 11))) - (w (shR a0 0) 3)) - 1, w))))) else (if p2 = 5 then ((f_X11_feeAt F a0 p1 v4_2 w).bind (fun r11 => (f_X11_purseFor F a0 p1 w).bind (fun r12 => some ((500 + r11) - r12, w)))) else (if p2 = 6 then (bJW (f_X11_firstAt F a0 v4_2 w) (fun r14 w15 => some (600 + r14, w15))) else (some (0, w)))))))))))
def f_X11_why (F : Nat) (a0 : Nat) (p1 : Int) (p2 : Int) (w : aI) : Option (Int × aI) :=
  (f_X11_isTune F a0 p1 w).bind (fun r1 => gd (rg p2) ((f_X11_in F p2 0 1 w).bind (fun r3 => bKW (f_X11_may F a0 (bI r1) (bI r3) 1 w) (fun r4 w5 => if r4 then (bJW (f_X11_reason F a0 p1 w5) (fun r6 w7 => if p2 = 0 then (some (r6, w7)) else (bJW (f_X11_cause F a0 p1 r6 w7) (fun r8 w9 => some (r8, w9))))) else (some (0, w5))))))
def f_X11_costOf_b43_b (F : Nat) (a0 : Nat) (p1 : Int) (p2 : Int) (p3 : Int)   (k43 : Int → Int → aI → Option (Int × aI)) (v4 : Int) (v5 : Int) (w : aI) : Option (Int × aI) :=
  gd (rg v5 ∧ rg p2) (if v5 = p2 then (some (v4, w)) else ((f_X11_r F v5 w).bind (fun r10 => gd (inI (r10 + 9) (shL (shR a0 0))) ((f_X11_barsOf F a0 p3 w).bind (fun r11 => ltI (v4 + ((w (shR a0 0) (r10 + 9)) * r11)) (fun v4_12 => bJW (f_X11_nextTo F a0 v5 p2 w) (fun r13 w14 => k43 v4_12 r13 w14)))))))
def f_X11_costOf_b43 (F : Nat) (a0 : Nat) (p1 : Int) (p2 : Int) (p3 : Int)   : Nat → Int → Int → aI → Option (Int × aI) :=
  lp (f_X11_costOf_b43_b F a0 p1 p2 p3  ) (fun _ _ _ => none)
def f_X11_costOf (F : Nat) (a0 : Nat) (p1 : Int) (p2 : Int) (p3 : Int) (w : aI) : Option (Int × aI) :=
  (f_X11_areRoofs F a0 p1 p2 w).bind (fun r1 => gd (rg p3) ((f_X11_in F p3 1 8 w).bind (fun r3 => bKW (f_X11_may F a0 (bI r1) (bI r3) 1 w) (fun r4 w5 => if r4 then (bJW (f_X11_sumTo F a0 p1 p2 w5) (fun r6 w7 => gd (rg r6) (if r6 = (-1) then (some ((-1), w7)) else (f_X11_costOf_b43 F a0 p1 p2 p3 F 0 p1 w7)))) else (some (0, w5))))))
def f_X11_wrongOf_b6_b (F : Nat) (a0 : Nat) (p1 : Int) (p2 : Int) (p3 : Int) (p4 : Int)   (k6 : Int → Int → aI → Option (Int × aI)) (v5 : Int) (v6 : Int) (w : aI) : Option (Int × aI) :=
  gd (rg v6 ∧ rg p2) (if v6 = p2 then (some (v5, w)) else (bJW (f_X11_nextTo F a0 v6 p2 w) (fun r2 w3 => (f_X11_wayBetween F a0 v6 r2 w3).bind (fun r4 => (f_X11_w F r4 w3).bind (fun r5 => gd (inI (r5 + 2) (shL (shR a0 0))) ((f_X11_wrongBy F a0 p4 (w3 (shR a0 0) (r5 + 2)) r2 p3 w3).bind (fun r6 => ltI (v5 + r6) (fun v5_7 => k6 v5_7 r2 w3))))))))
def f_X11_wrongOf_b6 (F : Nat) (a0 : Nat) (p1 : Int) (p2 : Int) (p3 : Int) (p4 : Int)   : Nat → Int → Int → aI → Option (Int × aI) :=
  lp (f_X11_wrongOf_b6_b F a0 p1 p2 p3 p4  ) (fun _ _ _ => none)
def f_X11_wrongOf (F : Nat) (a0 : Nat) (p1 : Int) (p2 : Int) (p3 : Int) (p4 : Int) (w : aI) : Option (Int × aI) :=
  f_X11_wrongOf_b6 F a0 p1 p2 p3 p4 F 0 p1 w
def f_X11_wrongOn (F : Nat) (a0 : Nat) (p1 : Int) (p2 : Int) (p3 : Int) (w : aI) : Option (Int × aI) :=
  (f_X11_areRoofs F a0 p1 p2 w).bind (fun r1 => gd (rg p3) ((f_X11_in F p3 1 8 w).bind (fun r3 => bKW (f_X11_may F a0 (bI r1) (bI r3) 1 w) (fun r4 w5 => if r4 then (bJW (f_X11_sumTo F a0 p1 p2 w5) (fun r6 w7 => gd (rg r6) (if r6 = (-1) then (some ((-1), w7)) else (gd (inI 4 (shL (shR a0 0))) (bJW (f_X11_wrongOf F a0 p1 p2 p3 (w7 (shR a0 0) 4) w7) (fun r9 w10 => some (r9, w10))))))) else (some (0, w5))))))
def f_X11_calmest_b32_b (F : Nat) (a0 : Nat) (p1 : Int) (p2 : Int)   (k32 : Int → aI → Option (Int × aI)) (v3 : Int) (w : aI) : Option (Int × aI) :=
  bJW (f_X11_wrongOf F a0 p1 p2 1 v3 w) (fun r7 w8 => gd (rg r7) (if r7 ≤ 0 then (some (v3, w8)) else (k32 (v3 + (-1)) w8)))
def f_X11_calmest_b32 (F : Nat) (a0 : Nat) (p1 : Int) (p2 : Int)   : Nat → Int → aI → Option (Int × aI) :=
  lp (f_X11_calmest_b32_b F a0 p1 p2  ) (fun _ _ => none)
def f_X11_calmest (F : Nat) (a0 : Nat) (p1 : Int) (p2 : Int) (w : aI) : Option (Int × aI) :=
  (f_X11_areRoofs F a0 p1 p2 w).bind (fun r1 => bKW (f_X11_may F a0 (bI r1) 1 1 w) (fun r2 w3 => if r2 then (bJW (f_X11_sumTo F a0 p1 p2 w3) (fun r4 w5 => gd (rg r4) (if r4 = (-1) then (some ((-1), w5)) else (f_X11_calmest_b32 F a0 p1 p2 F 9 w5)))) else (some (0, w3))))
def f_X11_arrivesIn_b26_b (F : Nat) (a0 : Nat) (p1 : Int)   (k26 : Int → aI → Option (Int × aI)) (v2 : Int) (w : aI) : Option (Int × aI) :=
  gd (rg v2) (if 200 < v2 then (bJW (f_X11_gives F a0 (shR a0 1) (-1) w) (fun r6 w7 => some (r6, w7))) else ((f_X11_t F p1 w).bind (fun r8 => gd (inI (r8 + 3) (shL (shR a0 0))) (gd (rg (w (shR a0 0) (r8 + 3))) (if (w (shR a0 0) (r8 + 3)) = 2 then (bJW (f_X11_gives F a0 (shR a0 1) v2 w) (fun r11 w12 => some (r11, w12))) else ((f_X11_ticks F a0 w).bind (fun w10 => k26 (v2 + 1) w10)))))))
def f_X11_arrivesIn_b26 (F : Nat) (a0 : Nat) (p1 : Int)   : Nat → Int → aI → Option (Int × aI) :=
  lp (f_X11_arrivesIn_b26_b F a0 p1  ) (fun _ _ => none)
def f_X11_arrivesIn (F : Nat) (a0 : Nat) (p1 : Int) (w : aI) : Option (Int × aI) :=
  (f_X11_isTune F a0 p1 w).bind (fun r1 => bKW (f_X11_may F a0 (bI r1) 1 1 w) (fun r2 w3 => if r2 then ((f_X11_copies F a0 (shR a0 1) w3).bind (fun w4 => f_X11_arrivesIn_b26 F a0 p1 F 0 w4)) else (some (0, w3))))
def f_X11_growsBy_b30 (F : Nat) (a0 : Nat) (p1 : Int) (p2 : Int)    (z0 : Int) (z1 : Nat) (w : aI) : Option (Int × aI) :=
  bKW (f_X11_may F z1 z0 1 1 w) (fun r3 w4 => if r3 then (gd (inI (10 + p1) (shL (shR a0 0))) (ltI (w4 (shR a0 0) (10 + p1)) (fun v3_5 => (f_X11_copies F a0 (shR a0 1) w4).bind (fun w6 => bJW (f_X11_goes F a0 p2 w6) (fun r7 w8 => gd (inI (10 + p1) (shL (shR a0 0))) (bJW (f_X11_gives F a0 (shR a0 1) ((w8 (shR a0 0) (10 + p1)) - v3_5) w8) (fun r9 w10 => some (r9, w10)))))))) else (some (0, w4)))
def f_X11_growsBy_b29 (F : Nat) (a0 : Nat) (p1 : Int) (p2 : Int)    (z0 : Nat) (w : aI) : Option (Int × aI) :=
  f_X11_growsBy_b30 F a0 p1 p2 0 z0 w
def f_X11_growsBy (F : Nat) (a0 : Nat) (p1 : Int) (p2 : Int) (w : aI) : Option (Int × aI) :=
  gd (rg p1) ((f_X11_in F p1 0 10 w).bind (fun r2 => if r2 then (gd (rg p2) ((f_X11_in F p2 0 200 w).bind (fun r12 => if r12 then (f_X11_growsBy_b30 F a0 p1 p2 1 a0 w) else (f_X11_growsBy_b29 F a0 p1 p2 a0 w)))) else (f_X11_growsBy_b29 F a0 p1 p2 a0 w)))
def f_X11_partedWithout_b23_b (F : Nat) (a0 : Nat) (p1 : Int)  (k4 : Int → Int → aI → Option (Int × aI)) (k23 : Int → Int → Int → aI → Option (Int × aI)) (v2 : Int) (v3 : Int) (v4 : Int) (w : aI) : Option (Int × aI) :=
  gd (rg v4 ∧ rg v3) (if v3 ≤ v4 then (k4 v2 (v3 + 1) w) else (gd (inI v4 (shL (shR a0 9))) (gd (rg (w (shR a0 9) v4)) (if (w (shR a0 9) v4) = (-1) then ((f_X11_one F 1 w).bind (fun r7 => ltI (v2 + r7) (fun v2_8 => k23 v2_8 v3 (v4 + 1) w))) else ((f_X11_one F 0 w).bind (fun r5 => ltI (v2 + r5) (fun v2_6 => k23 v2_6 v3 (v4 + 1) w)))))))
def f_X11_partedWithout_b23 (F : Nat) (a0 : Nat) (p1 : Int)  (k4 : Int → Int → aI → Option (Int × aI)) : Nat → Int → Int → Int → aI → Option (Int × aI) :=
  lp (f_X11_partedWithout_b23_b F a0 p1  k4) (fun _ _ _ _ => none)
def f_X11_partedWithout_b4_b (F : Nat) (a0 : Nat) (p1 : Int)   (k4 : Int → Int → aI → Option (Int × aI)) (v2 : Int) (v3 : Int) (w : aI) : Option (Int × aI) :=
  gd (inI 0 (shL (shR a0 0))) (gd (rg v3 ∧ rg (w (shR a0 0) 0)) (if (w (shR a0 0) 0) ≤ v3 then (some (v2, w)) else ((f_X11_reckons F a0 v3 p1 w).bind (fun w2 => f_X11_partedWithout_b23 F a0 p1 k4 F v2 v3 0 w2))))
def f_X11_partedWithout_b4 (F : Nat) (a0 : Nat) (p1 : Int)   : Nat → Int → Int → aI → Option (Int × aI) :=
  lp (f_X11_partedWithout_b4_b F a0 p1  ) (fun _ _ _ => none)
def f_X11_partedWithout (F : Nat) (a0 : Nat) (p1 : Int) (w : aI) : Option (Int × aI) :=
  f_X11_partedWithout_b4 F a0 p1 F 0 0 w
def f_X11_dearestWay_b11_b (F : Nat) (a0 : Nat)   (k11 : Int → Int → Int → aI → Option (Int × aI)) (v1 : Int) (v2 : Int) (v3 : Int) (w : aI) : Option (Int × aI) :=
  gd (inI 1 (shL (shR a0 0))) (gd (rg v3 ∧ rg (w (shR a0 0) 1)) (if (w (shR a0 0) 1) ≤ v3 then (some (v1, w)) else (bJW (f_X11_partedWithout F a0 v3 w) (fun r3 w4 => gd (rg r3 ∧ rg v2) (if r3 ≤ v2 then (k11 v1 v2 (v3 + 1) w4) else (k11 v3 r3 (v3 + 1) w4))))))
def f_X11_dearestWay_b11 (F : Nat) (a0 : Nat)   : Nat → Int → Int → Int → aI → Option (Int × aI) :=
  lp (f_X11_dearestWay_b11_b F a0  ) (fun _ _ _ _ => none)
def f_X11_dearestWay (F : Nat) (a0 : Nat) (w : aI) : Option (Int × aI) :=
  ltM (iset w a0 6 0) (fun w1 => f_X11_dearestWay_b11 F a0 F (-1) (-1) 0 w1)
def f_X11_nearestOpen_b4_b (F : Nat) (a0 : Nat) (w : aI)  (k4 : Int → Int → Option Int) (v1 : Int) (v2 : Int)  : Option Int :=
  gd (inI 0 (shL (shR a0 0))) (gd (rg v2 ∧ rg (w (shR a0 0) 0)) (if (w (shR a0 0) 0) ≤ v2 then (some v1) else (gd (inI v2 (shL (shR a0 25))) (gd (rg (w (shR a0 25) v2)) (if (w (shR a0 25) v2) = 0 then (gd (inI v2 (shL (shR a0 24))) (gd (rg (w (shR a0 24) v2)) (if (w (shR a0 24) v2) = (-1) then (k4 v1 (v2 + 1)) else (gd (rg v1) (if v1 = (-1) then (k4 v2 (v2 + 1)) else (gd (inI v2 (shL (shR a0 24))) (gd (inI v1 (shL (shR a0 24))) (gd (rg (w (shR a0 24) v1)) (if (w (shR a0 24) v1) ≤ (w (shR a0 24) v2) then (k4 v1 (v2 + 1)) else (k4 v2 (v2 + 1))))))))))) else (k4 v1 (v2 + 1)))))))
def f_X11_nearestOpen_b4 (F : Nat) (a0 : Nat) (w : aI)  : Nat → Int → Int → Option Int :=
  lp (f_X11_nearestOpen_b4_b F a0 w ) (fun _ _ => none)
def f_X11_nearestOpen (F : Nat) (a0 : Nat) (w : aI) : Option Int :=
  f_X11_nearestOpen_b4 F a0 w F (-1) 0
def f_X11_goesOut_b56_b (F : Nat) (a0 : Nat) (p1 : Int)  (k42 : Int → aI → Option aI) (k56 : Int → Int → aI → Option aI) (v2 : Int) (v3 : Int) (w : aI) : Option aI :=
  gd (inI 1 (shL (shR a0 0))) (gd (rg v3 ∧ rg (w (shR a0 0) 1)) (if (w (shR a0 0) 1) ≤ v3 then ((f_X11_nearestOpen F a0 w).bind (fun r6 => k42 r6 w)) else ((f_X11_ends F a0 v3 v2 w).bind (fun r7 => if r7 then ((f_X11_otherEnd F a0 v3 v2 w).bind (fun r8 => gd (inI v2 (shL (shR a0 24))) ((f_X11_w F v3 w).bind (fun r9 => gd (inI (r9 + 2) (shL (shR a0 0))) (ltI ((w (shR a0 24) v2) + (w (shR a0 0) (r9 + 2))) (fun v5_10 => gd (inI r8 (shL (shR a0 24))) (gd (rg (w (shR a0 24) r8)) (if (w (shR a0 24) r8) = (-1) then (gd (inI r8 (shL (shR a0 24))) (ltM (iset w (shR a0 24) r8 v5_10) (fun w14 => k56 v2 (v3 + 1) w14))) else (gd (inI r8 (shL (shR a0 24))) (gd (rg v5_10) (gd (inI r8 (shL (shR a0 24))) (ltM (iset w (shR a0 24) r8 (min (w (shR a0 24) r8) v5_10)) (fun w13 => k56 v2 (v3 + 1) w13))))))))))))) else (k56 v2 (v3 + 1) w)))))
def f_X11_goesOut_b56 (F : Nat) (a0 : Nat) (p1 : Int)  (k42 : Int → aI → Option aI) : Nat → Int → Int → aI → Option aI :=
  lp (f_X11_goesOut_b56_b F a0 p1  k42) (fun _ _ _ => none)
def f_X11_goesOut_b42_b (F : Nat) (a0 : Nat) (p1 : Int)   (k42 : Int → aI → Option aI) (v2 : Int) (w : aI) : Option aI :=
  gd (rg v2) (if v2 = (-1) then (some w) else (gd (inI v2 (shL (shR a0 25)) ∧ ((1 : Int) = 0 ∨ (1 : Int) = 1)) (ltM (iset w (shR a0 25) v2 1) (fun w4 => f_X11_goesOut_b56 F a0 p1 k42 F v2 0 w4))))
def f_X11_goesOut_b42 (F : Nat) (a0 : Nat) (p1 : Int)   : Nat → Int → aI → Option aI :=
  lp (f_X11_goesOut_b42_b F a0 p1  ) (fun _ _ => none)
def f_X11_goesOut_b23 (F : Nat) (a0 : Nat) (p1 : Int)  (k2 : Int → aI → Option aI)  (v2 : Int) (z0 : Int) (z1 : Int) (z2 : Nat) (w : aI) : Option aI :=
  gd (inI z1 (shL z2)) (ltM (iset w z2 z1 z0) (fun w16 => gd (inI v2 (shL (shR a0 25)) ∧ ((0 : Int) = 0 ∨ (0 : Int) = 1)) (ltM (iset w16 (shR a0 25) v2 0) (fun w17 => k2 (v2 + 1) w17))))
def f_X11_goesOut_b2_b (F : Nat) (a0 : Nat) (p1 : Int)   (k2 : Int → aI → Option aI) (v2 : Int) (w : aI) : Option aI :=
  gd (rg v2) (if 10 ≤ v2 then ((f_X11_nearestOpen F a0 w).bind (fun r2 => f_X11_goesOut_b42 F a0 p1 F r2 w)) else (gd (rg p1) (if v2 = p1 then (f_X11_goesOut_b23 F a0 p1 k2 v2 0 v2 (shR a0 24) w) else (f_X11_goesOut_b23 F a0 p1 k2 v2 (-1) v2 (shR a0 24) w))))
def f_X11_goesOut_b2 (F : Nat) (a0 : Nat) (p1 : Int)   : Nat → Int → aI → Option aI :=
  lp (f_X11_goesOut_b2_b F a0 p1  ) (fun _ _ => none)
def f_X11_goesOut (F : Nat) (a0 : Nat) (p1 : Int) (w : aI) : Option aI :=
  f_X11_goesOut_b2 F a0 p1 F 0 w
def f_X11_areRoutes_b25_b (F : Nat) (a0 : Nat)  (k2 : Int → aI → Option (Bool × aI)) (k25 : Int → Int → aI → Option (Bool × aI)) (v1 : Int) (v2 : Int) (w : aI) : Option (Bool × aI) :=
  gd (inI 0 (shL (shR a0 0))) (gd (rg v2 ∧ rg (w (shR a0 0) 0)) (if (w (shR a0 0) 0) ≤ v2 then (k2 (v1 + 1) w) else (gd (inI v2 (shL (shR a0 24))) (gd (inI v2 (shL (shR a0 9))) (gd (rg (w (shR a0 24) v2) ∧ rg (w (shR a0 9) v2)) (if (w (shR a0 24) v2) = (w (shR a0 9) v2) then (k25 v1 (v2 + 1) w) else (some (false, w))))))))
def f_X11_areRoutes_b25 (F : Nat) (a0 : Nat)  (k2 : Int → aI → Option (Bool × aI)) : Nat → Int → Int → aI → Option (Bool × aI) :=
  lp (f_X11_areRoutes_b25_b F a0  k2) (fun _ _ _ => none)
def f_X11_areRoutes_b2_b (F : Nat) (a0 : Nat)   (k2 : Int → aI → Option (Bool × aI)) (v1 : Int) (w : aI) : Option (Bool × aI) :=
  gd (inI 0 (shL (shR a0 0))) (gd (rg v1 ∧ rg (w (shR a0 0) 0)) (if (w (shR a0 0) 0) ≤ v1 then (some (true, w)) else ((f_X11_goesOut F a0 v1 w).bind (fun w2 => (f_X11_reckons F a0 v1 (-1) w2).bind (fun w3 => f_X11_areRoutes_b25 F a0 k2 F v1 0 w3)))))
def f_X11_areRoutes_b2 (F : Nat) (a0 : Nat)   : Nat → Int → aI → Option (Bool × aI) :=
  lp (f_X11_areRoutes_b2_b F a0  ) (fun _ _ => none)
def f_X11_areRoutes (F : Nat) (a0 : Nat) (w : aI) : Option (Bool × aI) :=
  f_X11_areRoutes_b2 F a0 F 0 w
def f_X11_areTunes_b4_b (F : Nat) (a0 : Nat) (w : aI)  (k4 : Int → Int → Option Bool) (v1 : Int) (v2 : Int)  : Option Bool :=
  gd (inI 2 (shL (shR a0 0))) (gd (rg v2 ∧ rg (w (shR a0 0) 2)) (if (w (shR a0 0) 2) ≤ v2 then (gd (inI 13 (shL (shR a0 0))) (gd (rg v1 ∧ rg (w (shR a0 0) 13)) (if v1 = (w (shR a0 0) 13) then (some true) else (some false)))) else ((f_X11_t F v2 w).bind (fun r3 => gd (inI (r3 + 9) (shL (shR a0 0))) (ltI (v1 + (w (shR a0 0) (r3 + 9))) (fun v1_4 => gd (inI (r3 + 4) (shL (shR a0 0))) ((f_X11_isRoof F a0 (w (shR a0 0) (r3 + 4)) w).bind (fun r5 => if r5 then (gd (inI (r3 + 3) (shL (shR a0 0))) (gd (rg (w (shR a0 0) (r3 + 3))) (if (w (shR a0 0) (r3 + 3)) = 2 then (gd (inI (r3 + 4) (shL (shR a0 0))) (gd (inI (r3 + 1) (shL (shR a0 0))) (gd (rg (w (shR a0 0) (r3 + 4)) ∧ rg (w (shR a0 0) (r3 + 1))) (if (w (shR a0 0) (r3 + 4)) = (w (shR a0 0) (r3 + 1)) then (k4 v1_4 (v2 + 1)) else (some false))))) else (k4 v1_4 (v2 + 1))))) else (some false)))))))))
def f_X11_areTunes_b4 (F : Nat) (a0 : Nat) (w : aI)  : Nat → Int → Int → Option Bool :=
  lp (f_X11_areTunes_b4_b F a0 w ) (fun _ _ => none)
def f_X11_areTunes (F : Nat) (a0 : Nat) (w : aI) : Option Bool :=
  f_X11_areTunes_b4 F a0 w F 0 0
def f_X11_agree_b88 (F : Nat) (a0 : Nat)    (z0 : Int) (w : aI) : Option (Bool × aI) :=
  gd (rg z0) (if z0 = 0 then (some (false, w)) else (gd (inI 16 (shL (shR a0 0))) (gd (inI 15 (shL (shR a0 0))) (gd (rg (w (shR a0 0) 16) ∧ rg (w (shR a0 0) 15)) (if (w (shR a0 0) 15) < (w (shR a0 0) 16) then (some (false, w)) else ((f_X11_areTunes F a0 w).bind (fun r6 => if r6 then (bKW (f_X11_areRoutes F a0 w) (fun r7 w8 => if r7 then (some (true, w8)) else (some (false, w8)))) else (some (false, w)))))))))
def f_X11_agree_b87 (F : Nat) (a0 : Nat)     (w : aI) : Option (Bool × aI) :=
  f_X11_agree_b88 F a0 0 w
def f_X11_agree_b41 (F : Nat) (a0 : Nat)    (z0 : Int) (w : aI) : Option (Bool × aI) :=
  gd (rg z0) (if z0 = 0 then (f_X11_agree_b87 F a0 w) else ((f_X11_those F a0 3 w).bind (fun r9 => gd (inI 18 (shL (shR a0 0))) (gd (rg r9 ∧ rg (w (shR a0 0) 18)) (if r9 = (w (shR a0 0) 18) then ((f_X11_purses F a0 w).bind (fun r11 => gd (inI 7 (shL (shR a0 0))) (gd (inI 20 (shL (shR a0 0))) (gd (rg r11 ∧ rg ((w (shR a0 0) 7) + (w (shR a0 0) 20))) (if r11 = ((w (shR a0 0) 7) + (w (shR a0 0) 20)) then (f_X11_agree_b88 F a0 1 w) else (f_X11_agree_b87 F a0 w)))))) else (f_X11_agree_b87 F a0 w))))))
def f_X11_agree_b40 (F : Nat) (a0 : Nat)     (w : aI) : Option (Bool × aI) :=
  f_X11_agree_b41 F a0 0 w
def f_X11_agree (F : Nat) (a0 : Nat) (w : aI) : Option (Bool × aI) :=
  ltM (iset w a0 6 0) (fun w1 => gd (inI 11 (shL (shR a0 0))) (gd (inI 2 (shL (shR a0 0))) (gd (rg (w1 (shR a0 0) 11) ∧ rg (w1 (shR a0 0) 2)) (if (w1 (shR a0 0) 11) = (w1 (shR a0 0) 2) then ((f_X11_those F a0 2 w1).bind (fun r13 => gd (inI 15 (shL (shR a0 0))) (gd (rg r13 ∧ rg (w1 (shR a0 0) 15)) (if r13 = (w1 (shR a0 0) 15) then (f_X11_agree_b41 F a0 1 w1) else (f_X11_agree_b40 F a0 w1))))) else (f_X11_agree_b40 F a0 w1)))))
def f_X11_sings_b81 (F : Nat) (a0 : Nat) (p1 : Int)  (k44 : Int → Int → Int → aI → Option (Bool × aI))  (v2 : Int) (v4 : Int) (z0 : Int) (w : aI) : Option (Bool × aI) :=
  gd (rg v2) (ltI (Int.tdiv v2 10) (fun v2_12 => k44 v2_12 z0 (v4 + (-1)) w))
def f_X11_sings_b80 (F : Nat) (a0 : Nat) (p1 : Int)  (k44 : Int → Int → Int → aI → Option (Bool × aI))  (v2 : Int) (v4 : Int) (w : aI) : Option (Bool × aI) :=
  f_X11_sings_b81 F a0 p1 k44 v2 v4 0 w
def f_X11_sings_b44_b (F : Nat) (a0 : Nat) (p1 : Int)   (k44 : Int → Int → Int → aI → Option (Bool × aI)) (v2 : Int) (v3 : Int) (v4 : Int) (w : aI) : Option (Bool × aI) :=
  gd (rg v4) (if v4 < 0 then (gd (v3 = 0 ∨ v3 = 1) (some ((decide (v3 = 1)), w))) else (gd (rg v2) (gd (inI v4 (shL (shR a0 10))) (ltM (iset w (shR a0 10) v4 (Int.tmod v2 10)) (fun w9 => gd (rg v3) (if v3 = 0 then (f_X11_sings_b80 F a0 p1 k44 v2 v4 w9) else (gd (inI v4 (shL (shR a0 10))) (gd (rg (w9 (shR a0 10) v4)) (if 8 ≤ (w9 (shR a0 10) v4) then (f_X11_sings_b80 F a0 p1 k44 v2 v4 w9) else (f_X11_sings_b81 F a0 p1 k44 v2 v4 1 w9))))))))))
def f_X11_sings_b44 (F : Nat) (a0 : Nat) (p1 : Int)   : Nat → Int → Int → Int → aI → Option (Bool × aI) :=
  lp (f_X11_sings_b44_b F a0 p1  ) (fun _ _ _ _ => none)
def f_X11_sings_b10_b (F : Nat) (a0 : Nat) (p1 : Int)   (k10 : Int → aI → Option (Bool × aI)) (v2 : Int) (w : aI) : Option (Bool × aI) :=
  gd (rg v2) (if v2 ≤ 0 then (ltI ((w a0 11) - 1) (fun v4_5 => f_X11_sings_b44 F a0 p1 F p1 1 v4_5 w)) else (ltM (iset w a0 11 ((w a0 11) + 1)) (fun w14 => ltI (Int.tdiv v2 10) (fun v2_15 => k10 v2_15 w14))))
def f_X11_sings_b10 (F : Nat) (a0 : Nat) (p1 : Int)   : Nat → Int → aI → Option (Bool × aI) :=
  lp (f_X11_sings_b10_b F a0 p1  ) (fun _ _ => none)
def f_X11_sings (F : Nat) (a0 : Nat) (p1 : Int) (w : aI) : Option (Bool × aI) :=
  ltM (iset w a0 11 1) (fun w1 => gd (rg p1) (ltI (Int.tdiv p1 10) (fun v2_3 => f_X11_sings_b10 F a0 p1 F v2_3 w1)))
def f_X11_send_b57 (F : Nat) (a0 : Nat) (p1 : Int) (p2 : Int) (p3 : Int) (p4 : Int)    (z0 : Int) (z1 : Int) (z2 : Int) (z3 : Nat) (w : aI) : Option (Int × aI) :=
  bKW (f_X11_may F z3 z2 z1 z0 w) (fun r4 w5 => if r4 then ((f_X11_remembers F a0 w5).bind (fun w6 => bJW (f_X11_newTune F a0 p1 p2 0 p4 w6) (fun r7 w8 => some (r7, w8)))) else (some (0, w5)))
def f_X11_send_b30 (F : Nat) (a0 : Nat) (p1 : Int) (p2 : Int) (p3 : Int) (p4 : Int)    (z0 : Int) (w : aI) : Option (Int × aI) :=
  (f_X11_areRoofs F a0 p1 p2 w).bind (fun r2 => gd (inI 2 (shL (shR a0 0))) (gd (rg (w (shR a0 0) 2)) (if 30 ≤ (w (shR a0 0) 2) then (f_X11_send_b57 F a0 p1 p2 p3 p4 0 z0 (bI r2) a0 w) else (f_X11_send_b57 F a0 p1 p2 p3 p4 1 z0 (bI r2) a0 w))))
def f_X11_send_b29 (F : Nat) (a0 : Nat) (p1 : Int) (p2 : Int) (p3 : Int) (p4 : Int)     (w : aI) : Option (Int × aI) :=
  f_X11_send_b30 F a0 p1 p2 p3 p4 0 w
def f_X11_send (F : Nat) (a0 : Nat) (p1 : Int) (p2 : Int) (p3 : Int) (p4 : Int) (w : aI) : Option (Int × aI) :=
  gd (rg p1 ∧ rg p2) (if p1 = p2 then (f_X11_send_b29 F a0 p1 p2 p3 p4 w) else (gd (rg p3) ((f_X11_in F p3 0 77777777 w).bind (fun r10 => if r10 then (bKW (f_X11_sings F a0 p3 w) (fun r11 w12 => if r11 then (f_X11_send_b30 F a0 p1 p2 p3 p4 1 w12) else (f_X11_send_b29 F a0 p1 p2 p3 p4 w12))) else (f_X11_send_b29 F a0 p1 p2 p3 p4 w)))))
def f_X11_tick_b32 (F : Nat) (a0 : Nat) (p1 : Int)    (z0 : Int) (z1 : Int) (z2 : Nat) (w : aI) : Option (Int × aI) :=
  bKW (f_X11_may F z2 z1 z0 1 w) (fun r5 w6 => if r5 then ((f_X11_remembers F a0 w6).bind (fun w7 => bJW (f_X11_goes F a0 p1 w7) (fun r8 w9 => some (r8, w9)))) else (some (0, w6)))
def f_X11_tick (F : Nat) (a0 : Nat) (p1 : Int) (w : aI) : Option (Int × aI) :=
  gd (rg p1) ((f_X11_in F p1 1 200 w).bind (fun r2 => gd (inI 3 (shL (shR a0 0))) (gd (rg (w (shR a0 0) 3)) (gd (rgL ((w (shR a0 0) 3) + p1)) (if 0 < (lcmpI ((w (shR a0 0) 3) + p1) 9999) then (f_X11_tick_b32 F a0 p1 0 (bI r2) a0 w) else (f_X11_tick_b32 F a0 p1 1 (bI r2) a0 w))))))
def f_X11_give_b55 (F : Nat) (a0 : Nat) (p1 : Int) (p2 : Int)    (z0 : Int) (z1 : Int) (z2 : Int) (z3 : Nat) (w : aI) : Option (Int × aI) :=
  bKW (f_X11_may F z3 z2 z1 z0 w) (fun r4 w5 => if r4 then ((f_X11_remembers F a0 w5).bind (fun w6 => bJW (f_X11_givesCoins F a0 p1 p2 w6) (fun r7 w8 => some (r7, w8)))) else (some (0, w5)))
def f_X11_give_b54 (F : Nat) (a0 : Nat) (p1 : Int) (p2 : Int)    (z0 : Int) (z1 : Int) (z2 : Nat) (w : aI) : Option (Int × aI) :=
  f_X11_give_b55 F a0 p1 p2 0 z0 z1 z2 w
def f_X11_give (F : Nat) (a0 : Nat) (p1 : Int) (p2 : Int) (w : aI) : Option (Int × aI) :=
  (f_X11_isRoof F a0 p1 w).bind (fun r1 => gd (rg p2) ((f_X11_in F p2 1 99 w).bind (fun r3 => if r1 then (if r3 then ((f_X11_r F p1 w).bind (fun r9 => gd (inI (r9 + 10) (shL (shR a0 0))) (gd (rg ((w (shR a0 0) (r9 + 10)) + p2)) (if 9999 < ((w (shR a0 0) (r9 + 10)) + p2) then (f_X11_give_b54 F a0 p1 p2 (bI r3) (bI r1) a0 w) else (f_X11_give_b55 F a0 p1 p2 1 (bI r3) (bI r1) a0 w))))) else (f_X11_give_b54 F a0 p1 p2 (bI r3) (bI r1) a0 w)) else (f_X11_give_b54 F a0 p1 p2 (bI r3) (bI r1) a0 w))))
def f_X11_cut_b28 (F : Nat) (a0 : Nat) (p1 : Int) (p2 : Int)    (z0 : Int) (z1 : Int) (z2 : Nat) (w : aI) : Option (Int × aI) :=
  bKW (f_X11_may F z2 z1 z0 1 w) (fun r2 w3 => if r2 then ((f_X11_remembers F a0 w3).bind (fun w4 => (f_X11_wayBetween F a0 p1 p2 w4).bind (fun r5 => bJW (f_X11_cuts F a0 r5 w4) (fun r6 w7 => some (r6, w7))))) else (some (0, w3)))
def f_X11_cut_b27 (F : Nat) (a0 : Nat) (p1 : Int) (p2 : Int)    (z0 : Int) (z1 : Nat) (w : aI) : Option (Int × aI) :=
  f_X11_cut_b28 F a0 p1 p2 0 z0 z1 w
def f_X11_cut (F : Nat) (a0 : Nat) (p1 : Int) (p2 : Int) (w : aI) : Option (Int × aI) :=
  (f_X11_areRoofs F a0 p1 p2 w).bind (fun r1 => if r1 then ((f_X11_wayBetween F a0 p1 p2 w).bind (fun r8 => gd (rg r8) (if r8 = (-1) then (f_X11_cut_b27 F a0 p1 p2 (bI r1) a0 w) else (f_X11_cut_b28 F a0 p1 p2 1 (bI r1) a0 w)))) else (f_X11_cut_b27 F a0 p1 p2 (bI r1) a0 w))
def f_X11_set_b54 (F : Nat) (a0 : Nat) (p1 : Int) (p2 : Int)    (v3 : Int) (z0 : Int) (z1 : Nat) (w : aI) : Option (Int × aI) :=
  bKW (f_X11_may F z1 z0 1 1 w) (fun r4 w5 => if r4 then ((f_X11_remembers F a0 w5).bind (fun w6 => bJW (f_X11_sets F a0 v3 p2 w6) (fun r7 w8 => some (r7, w8)))) else (some (0, w5)))
def f_X11_set_b53 (F : Nat) (a0 : Nat) (p1 : Int) (p2 : Int)    (v3 : Int) (z0 : Nat) (w : aI) : Option (Int × aI) :=
  f_X11_set_b54 F a0 p1 p2 v3 0 z0 w
def f_X11_set_b24 (F : Nat) (a0 : Nat) (p1 : Int) (p2 : Int)    (z0 : Int) (w : aI) : Option (Int × aI) :=
  gd (rg z0) (if z0 = (-1) then (f_X11_set_b53 F a0 p1 p2 z0 a0 w) else (gd (rg p2) ((f_X11_lowOf F z0 w).bind (fun r10 => gd (rg r10) ((f_X11_highOf F z0 w).bind (fun r12 => gd (rg r12) ((f_X11_in F p2 r10 r12 w).bind (fun r14 => if r14 then (f_X11_set_b54 F a0 p1 p2 z0 1 a0 w) else (f_X11_set_b53 F a0 p1 p2 z0 a0 w)))))))))
def f_X11_set (F : Nat) (a0 : Nat) (p1 : Int) (p2 : Int) (w : aI) : Option (Int × aI) :=
  gd (rg p1) ((f_X11_in F p1 8 10 w).bind (fun r2 => if r2 then (f_X11_set_b24 F a0 p1 p2 ((4 + p1) - 8) w) else (f_X11_set_b24 F a0 p1 p2 (-1) w)))
def f_X11_undo_b35_b (F : Nat) (a0 : Nat)   (k35 : Int → aI → Option (Int × aI)) (v1 : Int) (w : aI) : Option (Int × aI) :=
  gd (rg v1) (if 1030 ≤ v1 then (some (w a0 4, w)) else (gd (inI ((1030 * (w a0 4)) + v1) (shL (shR a0 3))) (gd (inI v1 (shL (shR a0 0))) (ltM (iset w (shR a0 0) v1 (w (shR a0 3) ((1030 * (w a0 4)) + v1))) (fun w6 => k35 (v1 + 1) w6)))))
def f_X11_undo_b35 (F : Nat) (a0 : Nat)   : Nat → Int → aI → Option (Int × aI) :=
  lp (f_X11_undo_b35_b F a0  ) (fun _ _ => none)
def f_X11_undo_b13 (F : Nat) (a0 : Nat)    (z0 : Int) (z1 : Nat) (w : aI) : Option (Int × aI) :=
  bKW (f_X11_may F z1 z0 1 1 w) (fun r2 w3 => if r2 then (ltM (iset w3 a0 4 ((w3 a0 4) - 1)) (fun w4 => f_X11_undo_b35 F a0 F 0 w4)) else (some (0, w3)))
def f_X11_undo (F : Nat) (a0 : Nat) (w : aI) : Option (Int × aI) :=
  gd (rg (w a0 4)) (if (w a0 4) ≤ 0 then (f_X11_undo_b13 F a0 0 a0 w) else (f_X11_undo_b13 F a0 1 a0 w))
def f_X11_says (F : Nat) (a0 : Nat) (p1 : Int) (w : aI) : Option aI :=
  gd (inI (w a0 27) (shL (shR a0 26)) ∧ -128 ≤ ((i2bI p1) : Int) ∧ ((i2bI p1) : Int) ≤ 127) (ltM (iset w (shR a0 26) (w a0 27) (i2bI p1)) (fun w1 => ltM (iset w1 a0 27 ((w1 a0 27) + 1)) (fun w2 => some w2)))
def f_X11_saysNumber_b18_b (F : Nat) (a0 : Nat) (p1 : Int)   (k18 : Int → aI → Option aI) (v2 : Int) (w : aI) : Option aI :=
  gd (rg v2) (if v2 ≤ 0 then (some w) else (gd (rg p1) (gd (¬ v2 = 0) (gd (rg (Int.tdiv p1 v2)) ((f_X11_says F a0 (48 + (Int.tmod (Int.tdiv p1 v2) 10)) w).bind (fun w8 => ltI (Int.tdiv v2 10) (fun v2_9 => k18 v2_9 w8)))))))
def f_X11_saysNumber_b18 (F : Nat) (a0 : Nat) (p1 : Int)   : Nat → Int → aI → Option aI :=
  lp (f_X11_saysNumber_b18_b F a0 p1  ) (fun _ _ => none)
def f_X11_saysNumber_b2_b (F : Nat) (a0 : Nat) (p1 : Int)   (k2 : Int → aI → Option aI) (v2 : Int) (w : aI) : Option aI :=
  gd (rg p1 ∧ rg v2) (gd (¬ v2 = 0) (gd (rg (Int.tdiv p1 v2)) (if (Int.tdiv p1 v2) ≤ 9 then (f_X11_saysNumber_b18 F a0 p1 F v2 w) else (ltI (v2 * 10) (fun v2_10 => k2 v2_10 w)))))
def f_X11_saysNumber_b2 (F : Nat) (a0 : Nat) (p1 : Int)   : Nat → Int → aI → Option aI :=
  lp (f_X11_saysNumber_b2_b F a0 p1  ) (fun _ _ => none)
def f_X11_saysNumber (F : Nat) (a0 : Nat) (p1 : Int) (w : aI) : Option aI :=
  f_X11_saysNumber_b2 F a0 p1 F 1 w
def f_X11_saysName_b2_b (F : Nat) (a0 : Nat) (p1 : Int)   (k2 : Int → aI → Option aI) (v2 : Int) (w : aI) : Option aI :=
  (f_X11_r F p1 w).bind (fun r1 => gd (inI r1 (shL (shR a0 0))) (gd (rg v2 ∧ rg (w (shR a0 0) r1)) (if (w (shR a0 0) r1) ≤ v2 then (some w) else ((f_X11_r F p1 w).bind (fun r3 => gd (inI ((r3 + 1) + v2) (shL (shR a0 0))) ((f_X11_says F a0 (w (shR a0 0) ((r3 + 1) + v2)) w).bind (fun w4 => k2 (v2 + 1) w4)))))))
def f_X11_saysName_b2 (F : Nat) (a0 : Nat) (p1 : Int)   : Nat → Int → aI → Option aI :=
  lp (f_X11_saysName_b2_b F a0 p1  ) (fun _ _ => none)
def f_X11_saysName (F : Nat) (a0 : Nat) (p1 : Int) (w : aI) : Option aI :=
  f_X11_saysName_b2 F a0 p1 F 0 w
def f_X11_saysRoof_b57 (F : Nat) (a0 : Nat) (p1 : Int)     (w : aI) : Option aI :=
  (f_X11_waitingMany F a0 p1 w).bind (fun r7 => gd (rg r7) (if r7 ≤ 0 then (some w) else ((f_X11_says F a0 47 w).bind (fun w9 => (f_X11_waitingMany F a0 p1 w9).bind (fun r10 => (f_X11_saysNumber F a0 r10 w9).bind (fun w11 => some w11))))))
def f_X11_saysRoof_b10 (F : Nat) (a0 : Nat) (p1 : Int)     (w : aI) : Option aI :=
  (f_X11_saysName F a0 p1 w).bind (fun w2 => (f_X11_says F a0 58 w2).bind (fun w3 => (f_X11_r F p1 w3).bind (fun r4 => gd (inI (r4 + 10) (shL (shR a0 0))) ((f_X11_saysNumber F a0 (w3 (shR a0 0) (r4 + 10)) w3).bind (fun w5 => gd (inI 3 (shL (shR a0 0))) ((f_X11_isBusy F a0 p1 (w5 (shR a0 0) 3) w5).bind (fun r6 => if r6 then ((f_X11_says F a0 33 w5).bind (fun w12 => f_X11_saysRoof_b57 F a0 p1 w12)) else (f_X11_saysRoof_b57 F a0 p1 w5))))))))
def f_X11_saysRoof (F : Nat) (a0 : Nat) (p1 : Int) (w : aI) : Option aI :=
  gd (rg p1) (if p1 ≤ 0 then (f_X11_saysRoof_b10 F a0 p1 w) else ((f_X11_says F a0 32 w).bind (fun w13 => f_X11_saysRoof_b10 F a0 p1 w13)))
def f_X11_printRoofs_b12_b (F : Nat) (a0 : Nat)   (k12 : Int → aI → Option (Int × aI)) (v1 : Int) (w : aI) : Option (Int × aI) :=
  gd (inI 0 (shL (shR a0 0))) (gd (rg v1 ∧ rg (w (shR a0 0) 0)) (if (w (shR a0 0) 0) ≤ v1 then (some (w a0 27, w)) else ((f_X11_saysRoof F a0 v1 w).bind (fun w4 => k12 (v1 + 1) w4))))
def f_X11_printRoofs_b12 (F : Nat) (a0 : Nat)   : Nat → Int → aI → Option (Int × aI) :=
  lp (f_X11_printRoofs_b12_b F a0  ) (fun _ _ => none)
def f_X11_printRoofs (F : Nat) (a0 : Nat) (w : aI) : Option (Int × aI) :=
  ltM (iset w a0 6 0) (fun w1 => ltM (iset w1 a0 27 0) (fun w2 => f_X11_printRoofs_b12 F a0 F 0 w2))
def f_X11_printTune_b28_b (F : Nat) (a0 : Nat) (p1 : Int)   (k28 : Int → Int → aI → Option (Int × aI)) (v2 : Int) (v3 : Int) (w : aI) : Option (Int × aI) :=
  gd (inI (v2 + 2) (shL (shR a0 0))) (gd (rg v3 ∧ rg (w (shR a0 0) (v2 + 2))) (if (w (shR a0 0) (v2 + 2)) ≤ v3 then ((f_X11_says F a0 62 w).bind (fun w7 => gd (inI (v2 + 1) (shL (shR a0 0))) ((f_X11_saysName F a0 (w7 (shR a0 0) (v2 + 1)) w7).bind (fun w8 => some (w8 a0 27, w8))))) else (gd (inI ((v2 + 19) + v3) (shL (shR a0 0))) ((f_X11_says F a0 (48 + (w (shR a0 0) ((v2 + 19) + v3))) w).bind (fun w9 => gd (inI ((v2 + 19) + v3) (shL (shR a0 0))) (gd (inI ((v2 + 11) + v3) (shL (shR a0 0))) (gd (rg (w9 (shR a0 0) ((v2 + 19) + v3)) ∧ rg (w9 (shR a0 0) ((v2 + 11) + v3))) (if (w9 (shR a0 0) ((v2 + 19) + v3)) = (w9 (shR a0 0) ((v2 + 11) + v3)) then (k28 v2 (v3 + 1) w9) else ((f_X11_says F a0 39 w9).bind (fun w11 => k28 v2 (v3 + 1) w11))))))))))
def f_X11_printTune_b28 (F : Nat) (a0 : Nat) (p1 : Int)   : Nat → Int → Int → aI → Option (Int × aI) :=
  lp (f_X11_printTune_b28_b F a0 p1  ) (fun _ _ _ => none)
def f_X11_printTune (F : Nat) (a0 : Nat) (p1 : Int) (w : aI) : Option (Int × aI) :=
  (f_X11_isTune F a0 p1 w).bind (fun r1 => bKW (f_X11_may F a0 (bI r1) 1 1 w) (fun r2 w3 => if r2 then (ltM (iset w3 a0 27 0) (fun w4 => (f_X11_t F p1 w4).bind (fun r5 => f_X11_printTune_b28 F a0 p1 F r5 0 w4))) else (some (0, w3))))
def f_X11_outputByte (F : Nat) (a0 : Nat) (p1 : Int) (w : aI) : Option (Int × aI) :=
  ltM (iset w a0 6 0) (fun w1 => gd (rg p1) (gd (rg ((w1 a0 27) - 1)) ((f_X11_in F p1 0 ((w1 a0 27) - 1) w1).bind (fun r4 => if r4 then (gd (inI p1 (shL (shR a0 26))) (some (w1 (shR a0 26) p1, w1))) else (some ((-1), w1))))))
def f_X11_saveState (F : Nat) (a0 : Nat) (w : aI) : Option (Int × aI) :=
  ltM (iset w a0 6 0) (fun w1 => (f_X11_copies F a0 (shR a0 2) w1).bind (fun w2 => ltM (iset w2 a0 5 1) (fun w3 => gd (inI 2 (shL (shR a0 0))) (some (w3 (shR a0 0) 2, w3)))))
def f_X11_restoreState (F : Nat) (a0 : Nat) (w : aI) : Option (Int × aI) :=
  bKW (f_X11_may F a0 (w a0 5) 1 1 w) (fun r1 w2 => if r1 then (bJW (f_X11_gives F a0 (shR a0 2) 0 w2) (fun r3 w4 => ltM (iset w4 a0 4 0) (fun w5 => gd (inI 2 (shL (shR a0 0))) (some (w5 (shR a0 0) 2, w5))))) else (some (0, w2)))
