/-! WHAT THE CLASS'S METHODS SAY, in numbers -/
theorem ge_i {n i : Nat} (hn : n < 2 ^ 31) (hi : i ≤ n) (c : nI n ≤ nI i) : i = n := by
  have := (nI_leI hn (by omega)).mp c
  omega
theorem lt_i {n i : Nat} (hn : n < 2 ^ 31) (hi : i ≤ n) (c : ¬ nI n ≤ nI i) : i < n := by
  rcases Nat.lt_or_ge i n with h | h
  · exact h
  · exact absurd (nI_le (by omega) (by omega)) c
theorem ge_off {Y D i : Nat} (h : Y + D < 2 ^ 31) (hi : i ≤ D) (c : nI Y + nI D ≤ nI (Y + i)) : i = D := by
  rw [nI_add] at c
  have := ge_i h (by omega) c
  omega
theorem lt_off {Y D i : Nat} (h : Y + D < 2 ^ 31) (hi : i ≤ D) (c : ¬ nI Y + nI D ≤ nI (Y + i)) : i < D := by
  rw [nI_add] at c
  have := lt_i h (by omega) c
  omega
theorem cel_nI (x y : Nat) : nI y * 20 + nI x = nI (y * 20 + x) := by
  rw [show (20 : Int32) = nI 20 from rfl, pk_mul, nI_add]
def fIn (a b c : Int32) : Int32 := if b ≤ a ∧ a ≤ c then 1 else 0
/-- how many panes of a rectangle are in a state -/
def fCnt (p : Nat → Int32) (X Y W D : Nat) (st : Int32) : Int32 := sumI (fun i => sumI (fun j => if p ((Y + i) * 20 + (X + j)) = st then 1 else 0) W) D
def fClaim (v : Nat → Nat → Int32) (r : Nat) (d : Int32) : Int32 := if v r 1 = 0 then 0 else imax 0 (imin (d - v r 2) (v r 3 - v r 6))
def fPrem (v : Nat → Nat → Int32) (r : Nat) (d : Int32) : Int32 := if v r 1 = 0 then 0 else imin (d * v r 4 / 1000 * v r 5 / 100) (v r 0)
def fChg (v : Nat → Nat → Int32) (r : Nat) : Nat → Nat → Int32 := if v r 1 = 0 then v else up2 v r 5 (if 0 < v r 6 then imin 200 (v r 5 + 20) else imax 50 (v r 5 - 10))
def fOver (v : Nat → Nat → Int32) (r : Nat) (a b c d : Int32) : Int32 := if v r 1 < a + c ∧ a < v r 1 + v r 3 ∧ v r 2 < b + d ∧ b < v r 2 + v r 4 then 1 else 0
def fPay (v : Nat → Nat → Int32) (r : Nat) (c : Int32) : Int32 := imin (imin (imax 0 (c - v r 0)) (v r 1) * v r 2 / 100) (v r 3)
def hVal (v : Nat → Nat → Int32) (h : Nat) : Int32 := v (60 + h) 3 * v (60 + h) 4 * v (60 + h) 6
section SP
variable (v : Nat → Nat → Int32) (gx gy gw gd : Nat → Nat)
def hCnt (h : Nat) (st : Int32) : Int32 := fCnt (v 4) (gx h) (gy h) (gw h) (gd h) st
def hLost (h : Nat) : Int32 := hCnt v gx gy gw gd h 1 * (v (60 + h) 6 / 2) + hCnt v gx gy gw gd h 2 * v (60 + h) 6
def aCnt (nh : Nat) (st : Int32) : Int32 := sumI (fun h => hCnt v gx gy gw gd h st) nh
def aLost (nh : Nat) : Int32 := sumI (fun h => hLost v gx gy gw gd h) nh
def gHouses (nh : Nat) (g : Int32) : Int32 := sumI (fun h => if v (60 + h) 0 = g then 1 else 0) nh
def gVals (nh : Nat) (g : Int32) : Int32 := sumI (fun h => if v (60 + h) 0 = g then hVal v h else 0) nh
def gLost (nh : Nat) (g : Int32) : Int32 := sumI (fun h => if v (60 + h) 0 = g then hLost v gx gy gw gd h else 0) nh
def aOwed (ng : Nat) : Int32 := sumI (fun g => v (50 + g) 7) ng
def aPanes (nh : Nat) : Int32 := sumI (fun h => v (60 + h) 3 * v (60 + h) 4) nh
def aVals (nh : Nat) : Int32 := sumI (fun h => hVal v h) nh
def tGr (nh g : Nat) : Nat → Int32
  | 0 => v (50 + g) 0
  | 1 => v (50 + g) 2
  | 2 => v (50 + g) 3
  | 3 => v (50 + g) 4
  | 4 => v (50 + g) 5
  | 5 => v (50 + g) 6
  | 6 => v (50 + g) 7
  | 7 => gHouses v nh (nI g)
  | 8 => gVals v nh (nI g)
  | _ => gLost v gx gy gw gd nh (nI g)
def tHo (h : Nat) : Nat → Int32
  | 0 => v (60 + h) 0
  | 1 => v (60 + h) 1
  | 2 => v (60 + h) 2
  | 3 => v (60 + h) 3
  | 4 => v (60 + h) 4
  | 5 => v (60 + h) 5
  | 6 => v (60 + h) 6
  | 7 => if v (60 + h) 7 = 0 then 0 else 1
  | 8 => hCnt v gx gy gw gd h 1
  | 9 => hCnt v gx gy gw gd h 2
  | _ => hLost v gx gy gw gd h
def tLa (l : Nat) : Nat → Int32
  | 0 => v (80 + l) 0
  | 1 => v (80 + l) 1
  | 2 => v (80 + l) 2
  | 3 => v (80 + l) 3
  | _ => v (80 + l) 4
def tCo (ng nh nl : Nat) : Nat → Int32
  | 0 => nI ng
  | 1 => nI nh
  | 2 => nI nl
  | 3 => v 0 6
  | 4 => aOwed v ng
  | 5 => v 0 7
  | 6 => v 0 8
  | 7 => aPanes v nh
  | 8 => aCnt v gx gy gw gd nh 1
  | 9 => aCnt v gx gy gw gd nh 2
  | _ => aLost v gx gy gw gd nh
end SP
