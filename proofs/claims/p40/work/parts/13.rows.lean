/-! ===== the reference's row of numbers, and what each of its steps makes of it ===== -/
def wrg (r : Row) (wind far roof notes : Int) : Int := min notes ((max 0 (wind * far - 3 * r (25 + 13 * roof + 8))) / 10)
def unl (r : Row) (i : Int) : Int := cnt (fun j => !decide (r (220 + 27 * i + 11 + j) = r (220 + 27 * i + 19 + j))) (r (220 + 27 * i + 2)).toNat
def bar (r : Row) (i : Int) : Int := (r (220 + 27 * i + 2) + 3) / 4
def hearT (r : Row) (i : Int) : Row := fun k => if 220 + 27 * i + 19 ≤ k ∧ k < 220 + 27 * i + 27 then r (k - 8) else r k
def blurT (r : Row) (i : Int) : Row := fun k =>
  if 220 + 27 * i + 19 ≤ k ∧ k < 220 + 27 * i + 19 + r (220 + 27 * i + 2) ∧ (k - (220 + 27 * i + 19) - i) % r (220 + 27 * i + 2) < wrg r (r 4) (r (220 + 27 * i + 10)) (r (220 + 27 * i + 4)) (r (220 + 27 * i + 2)) then (r k + 1) % 8
  else if k = 14 then r 14 + wrg r (r 4) (r (220 + 27 * i + 10)) (r (220 + 27 * i + 4)) (r (220 + 27 * i + 2)) else r k
def newT (r : Row) (s g n : Int) (notes : Int → Int) (reply wants : Int) : Row := fun k =>
  if 220 + 27 * r 2 ≤ k ∧ k < 220 + 27 * r 2 + 27 then
    (if k = 220 + 27 * r 2 then s else if k = 220 + 27 * r 2 + 1 then g else if k = 220 + 27 * r 2 + 2 then n else if k = 220 + 27 * r 2 + 3 then 0 else if k = 220 + 27 * r 2 + 4 then s else if k = 220 + 27 * r 2 + 5 then -1 else if k = 220 + 27 * r 2 + 6 then reply else if k = 220 + 27 * r 2 + 7 then wants else if k < 220 + 27 * r 2 + 11 then 0
     else if k < 220 + 27 * r 2 + 19 then (if k - (220 + 27 * r 2 + 11) < n then notes (k - (220 + 27 * r 2 + 11)) else 0)
     else (if k - (220 + 27 * r 2 + 19) < n then notes (k - (220 + 27 * r 2 + 19)) else 0))
  else if k = 2 then r 2 + 1 else if k = 11 then r 11 + 1 else if k = 12 then r 12 + reply else r k
def backT (r : Row) (i : Int) : Row :=
  rs (rs (hearT (rs r (220 + 27 * i + 8) (r (220 + 27 * i + 8) + 1)) i) (220 + 27 * i + 4) (r (220 + 27 * i))) 17 (r 17 + 1)
def replyT (r : Row) (i : Int) : Row :=
  if r (220 + 27 * i + 7) = 0 ∨ 0 < unl r i ∨ r 2 = 30 then r
  else newT r (r (220 + 27 * i + 1)) (r (220 + 27 * i)) (r (220 + 27 * i + 2)) (fun j => r (220 + 27 * i + 11 + r (220 + 27 * i + 2) - 1 - j)) 1 0
def landT (r : Row) (i : Int) : Row := rs (rs (blurT r i) (220 + 27 * i + 5) (-1)) (220 + 27 * i + 3) 0
def doneT (r : Row) (i : Int) : Row := rs (rs (rs r (220 + 27 * i + 3) 2) 15 (r 15 + 1)) 16 (r 16 + (if unl r i = 0 then 1 else 0))
def goalT (r : Row) (i : Int) : Row := if 0 < unl r i ∧ r (220 + 27 * i + 8) < r 6 then backT r i else replyT (doneT r i) i
def comesT (r : Row) (i : Int) : Row := if r (220 + 27 * i + 4) = r (220 + 27 * i + 1) then goalT (landT r i) i else landT r i
def arrT (r : Row) : Row := itr (fun i q => if q (220 + 27 * i + 3) = 1 ∧ q (220 + 27 * i + 5) = q 3 then comesT q i else q) r (r 2).toNat
/-- a way's two ends -/
def En2 (r : Row) (i x y : Int) : Prop := (r (160 + 3 * i) = x ∧ r (160 + 3 * i + 1) = y) ∨ (r (160 + 3 * i) = y ∧ r (160 + 3 * i + 1) = x)
/-- the least sums to g, a way W left out; -1: no route -/
def IsDist (r : Row) (W g : Int) (d : Int → Int) : Prop :=
  d g = 0 ∧ (∀ x, 0 ≤ x → x < r 0 → -1 ≤ d x) ∧
  (∀ i, 0 ≤ i → i < r 1 → ¬ i = W → ∀ x y, En2 r i x y → ¬ d y = -1 → ¬ d x = -1 ∧ d x ≤ d y + r (160 + 3 * i + 2)) ∧
  (∀ x, 0 ≤ x → x < r 0 → ¬ x = g → ¬ d x = -1 → ∃ i y, 0 ≤ i ∧ i < r 1 ∧ ¬ i = W ∧ En2 r i x y ∧ ¬ d y = -1 ∧ d x = d y + r (160 + 3 * i + 2))
noncomputable def dist (r : Row) (W g : Int) : Int → Int := @dite _ (∃ d, IsDist r W g d) (Classical.propDecidable _) (fun h => Classical.choose h) (fun _ _ => 0)
def wayB (r : Row) (a b : Int) : Int := ff (fun i => decide (¬ a = b ∧ (r (160 + 3 * i) = a ∨ r (160 + 3 * i + 1) = a) ∧ (r (160 + 3 * i) = b ∨ r (160 + 3 * i + 1) = b))) (r 1).toNat
def farB (r : Row) (a b : Int) : Int := if wayB r a b = -1 then -1 else r (160 + 3 * wayB r a b + 2)
noncomputable def nxt (r : Row) (x g : Int) : Int :=
  if x = g ∨ dist r (-1) g x = -1 then -1 else ff (fun y => decide (¬ farB r x y = -1 ∧ ¬ dist r (-1) g y = -1 ∧ farB r x y + dist r (-1) g y = dist r (-1) g x)) 10
def waits (r : Row) (i x : Int) : Bool := decide (r (220 + 27 * i + 3) = 0 ∧ r (220 + 27 * i + 4) = x)
def feeA (r : Row) (i x : Int) : Int := r (25 + 13 * x + 9) * bar r i
def pur (r : Row) (i : Int) : Int := r (25 + 13 * r (220 + 27 * i) + 10)
noncomputable def firstG (r : Row) (x : Int) : Int :=
  itr (fun i best => if waits r i x = true ∧ (best = -1 ∨ bar r best < bar r i) ∧ feeA r i x ≤ pur r i ∧ ¬ nxt r x (r (220 + 27 * i + 1)) = -1 then i else best) (-1) (r 2).toNat
def busy (r : Row) (x t : Int) : Bool := decide (t < r (25 + 13 * x + 11))
noncomputable def whT (r : Row) (i x : Int) : Row :=
  rs (rs (rs (rs (rs (rs (rs (rs (rs (rs (rs r (25 + 13 * r (220 + 27 * i) + 10) (pur r i - feeA r i x))
    (25 + 13 * x + 10) (rs r (25 + 13 * r (220 + 27 * i) + 10) (pur r i - feeA r i x) (25 + 13 * x + 10) + feeA r i x))
    (25 + 13 * x + 11) (r 3 + (r (220 + 27 * i + 2) + r (25 + 13 * x + 7) - 1) / r (25 + 13 * x + 7)))
    (25 + 13 * x + 12) (r (25 + 13 * x + 12) + 1))
    (220 + 27 * i + 10) (farB r x (nxt r x (r (220 + 27 * i + 1)))))
    (220 + 27 * i + 5) (r 3 + (r (220 + 27 * i + 2) + r (25 + 13 * x + 7) - 1) / r (25 + 13 * x + 7) + farB r x (nxt r x (r (220 + 27 * i + 1)))))
    (220 + 27 * i + 4) (nxt r x (r (220 + 27 * i + 1))))
    (220 + 27 * i + 3) 1)
    (220 + 27 * i + 9) (r (220 + 27 * i + 9) + 1))
    13 (r 13 + 1))
    19 (r 19 + feeA r i x)
noncomputable def whAllT (r : Row) : Row :=
  if r 3 % 60 < r 5 then itr (fun x q => if busy q x (q 3) = true ∨ firstG q x = -1 then q else whT q (firstG q x) x) r (r 0).toNat else r
noncomputable def loseT (r : Row) : Row := itr (fun i q => if q (220 + 27 * i + 3) = 0 ∧ dist q (-1) (q (220 + 27 * i + 1)) (q (220 + 27 * i + 4)) = -1 then rs (rs q (220 + 27 * i + 3) 3) 18 (q 18 + 1) else q) r (r 2).toNat
noncomputable def tickT (r : Row) : Row := loseT (whAllT (arrT (rs (rs r 3 (r 3 + 1)) 10 (r 10 + 1))))
noncomputable def goT (r : Row) (n : Nat) : Row := itr (fun _ q => tickT q) r n
/-! what holds of a row at all times -/
def Wb (r : Row) : Prop := (2 ≤ r 0 ∧ r 0 ≤ 10) ∧ (0 ≤ r 1 ∧ r 1 ≤ 20) ∧ (0 ≤ r 2 ∧ r 2 ≤ 30) ∧ (0 ≤ r 3 ∧ r 3 ≤ 20000) ∧ (0 ≤ r 4 ∧ r 4 ≤ 9) ∧ (1 ≤ r 5 ∧ r 5 ≤ 60) ∧ (0 ≤ r 6 ∧ r 6 ≤ 3)
def Wx (r : Row) (x : Int) : Prop := (1 ≤ r (25 + 13 * x) ∧ r (25 + 13 * x) ≤ 6) ∧ (∀ k, 0 ≤ k → k < r (25 + 13 * x) → 97 ≤ r (25 + 13 * x + 1 + k) ∧ r (25 + 13 * x + 1 + k) ≤ 122) ∧
  (1 ≤ r (25 + 13 * x + 7) ∧ r (25 + 13 * x + 7) ≤ 8) ∧ (0 ≤ r (25 + 13 * x + 8) ∧ r (25 + 13 * x + 8) ≤ 9) ∧ (0 ≤ r (25 + 13 * x + 9) ∧ r (25 + 13 * x + 9) ≤ 9) ∧
  (0 ≤ r (25 + 13 * x + 10) ∧ r (25 + 13 * x + 10) ≤ 9999 + 18 * r 3) ∧ (0 ≤ r (25 + 13 * x + 11) ∧ r (25 + 13 * x + 11) ≤ r 3 + 8)
def Wr (r : Row) : Prop := ∀ x, 0 ≤ x → x < r 0 → Wx r x
def Ww (r : Row) : Prop := (∀ i, 0 ≤ i → i < r 1 → (0 ≤ r (160 + 3 * i) ∧ r (160 + 3 * i) < r 0) ∧ (0 ≤ r (160 + 3 * i + 1) ∧ r (160 + 3 * i + 1) < r 0) ∧ ¬ r (160 + 3 * i) = r (160 + 3 * i + 1) ∧ (1 ≤ r (160 + 3 * i + 2) ∧ r (160 + 3 * i + 2) ≤ 9)) ∧
  (∀ i j x y, 0 ≤ i → i < r 1 → 0 ≤ j → j < r 1 → En2 r i x y → En2 r j x y → i = j)
def Wy (r : Row) (i : Int) : Prop := (0 ≤ r (220 + 27 * i) ∧ r (220 + 27 * i) < r 0) ∧ (0 ≤ r (220 + 27 * i + 1) ∧ r (220 + 27 * i + 1) < r 0) ∧ ¬ r (220 + 27 * i) = r (220 + 27 * i + 1) ∧
  (1 ≤ r (220 + 27 * i + 2) ∧ r (220 + 27 * i + 2) ≤ 8) ∧ (0 ≤ r (220 + 27 * i + 3) ∧ r (220 + 27 * i + 3) ≤ 3) ∧ (0 ≤ r (220 + 27 * i + 4) ∧ r (220 + 27 * i + 4) < r 0) ∧
  (-1 ≤ r (220 + 27 * i + 5) ∧ r (220 + 27 * i + 5) ≤ r 3 + 17) ∧ (0 ≤ r (220 + 27 * i + 6) ∧ r (220 + 27 * i + 6) ≤ 1) ∧ (0 ≤ r (220 + 27 * i + 7) ∧ r (220 + 27 * i + 7) ≤ 1) ∧ (0 ≤ r (220 + 27 * i + 8) ∧ r (220 + 27 * i + 8) ≤ 3) ∧
  (0 ≤ r (220 + 27 * i + 9) ∧ 0 ≤ r (220 + 27 * i + 9)) ∧ (0 ≤ r (220 + 27 * i + 10) ∧ r (220 + 27 * i + 10) ≤ 9) ∧
  (∀ k, 220 + 27 * i + 11 ≤ k → k < 220 + 27 * i + 27 → 0 ≤ r k ∧ r k ≤ 7) ∧
  (∀ k, r (220 + 27 * i + 2) ≤ k → k < 8 → r (220 + 27 * i + 11 + k) = 0 ∧ r (220 + 27 * i + 19 + k) = 0) ∧
  (r (220 + 27 * i + 3) = 0 → ¬ r (220 + 27 * i + 4) = r (220 + 27 * i + 1)) ∧ (r (220 + 27 * i + 3) = 2 → r (220 + 27 * i + 4) = r (220 + 27 * i + 1))
def Wt (r : Row) : Prop := ∀ i, 0 ≤ i → i < r 2 → Wy r i
def Wa (r : Row) : Prop := r 11 = r 2 ∧ r 15 = cnt (fun i => decide (r (220 + 27 * i + 3) = 2)) (r 2).toNat ∧ r 18 = cnt (fun i => decide (r (220 + 27 * i + 3) = 3)) (r 2).toNat ∧ (0 ≤ r 16 ∧ r 16 ≤ r 15) ∧
  r 13 = sm (fun i => r (220 + 27 * i + 9)) (r 2).toNat ∧ r 13 ≤ 10 * r 3 ∧ sm (fun x => r (25 + 13 * x + 10)) (r 0).toNat = r 7 + r 20
def WF (r : Row) : Prop := Wb r ∧ Wr r ∧ Ww r ∧ Wt r ∧ Wa r
