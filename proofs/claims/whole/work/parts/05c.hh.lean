/-! rows for the walk of hitHouse -/
theorem hh_lo {a : Nat} {X r : Int} (ha : a < 1000) (h1 : -2000 ≤ X - r) (h2 : X - r ≤ 2000) : imax (nI a) (iI X - iI r) = nI (a + (X - r - (a : Int)).toNat) := by
  rw [iI_sub, ← iI_n, iI_max (by omega) (by omega) (by omega) (by omega), ← iI_n]
  congr 1
  omega
theorem hh_hi {a b : Nat} {X r : Int} (ha : a < 1000) (hb : b < 1000) (h1 : -2000 ≤ X + r) (h2 : X + r ≤ 2000) : imin (nI a + nI b - 1) (iI X + iI r) = iI (min ((a : Int) + (b : Int) - 1) (X + r)) := by
  rw [← iI_n, ← iI_n, iI_add, iI_add, show (1 : Int32) = iI 1 from rfl, iI_sub, iI_min (by omega) (by omega) (by omega) (by omega)]
theorem iI_lt_n {E : Int} {n : Nat} (h1 : -10000 ≤ E) (h2 : E ≤ 10000) (h3 : n < 10000) : iI E < nI n ↔ E < (n : Int) := by
  rw [← iI_n]
  exact iI_lt (by omega) (by omega) (by omega) (by omega)
theorem cell_out {u : Nat → Nat → Int32} {ow gx gy : Nat → Nat} {rad : Int} {F : Int32} {h : Nat} {X Y : Int} {i j : Nat} (hq : ¬ (((gx h : Int) + (j : Int) - X ≤ rad ∧ X - ((gx h : Int) + (j : Int)) ≤ rad) ∧ ((gy h : Int) + (i : Int) - Y ≤ rad ∧ Y - ((gy h : Int) + (i : Int)) ≤ rad))) : uHail u ow gx gy rad F h X Y i j = u :=
  if_neg (fun q => hq (far2_le.mp q))
theorem row_out {u : Nat → Nat → Int32} {ow gx gy : Nat → Nat} {rad : Int} {F : Int32} {h n : Nat} {X Y : Int} {i : Nat} (hq : ¬ ((gy h : Int) + (i : Int) - Y ≤ rad ∧ Y - ((gy h : Int) + (i : Int)) ≤ rad)) : itr (fun j u => uHail u ow gx gy rad F h X Y i j) n u = u :=
  itr_skip (n := 0) (Nat.zero_le _) (fun j u _ _ => cell_out (fun q => hq q.2))
theorem hh_far {x y : Nat} {X Y : Int} {a b : Nat} (hx : x + b < 1000) (hy : y + a < 1000) (h1 : -1000 ≤ X) (h2 : X ≤ 1000) (h3 : -1000 ≤ Y) (h4 : Y ≤ 1000) : imax (iabs (nI (x + b) - iI X)) (iabs (nI (y + a) - iI Y)) = iI (far2 ((x : Int) + (b : Int)) ((y : Int) + (a : Int)) X Y) := by
  rw [← iI_n, ← iI_n, iI_abs1 (by omega) (by omega) (by omega) (by omega), iI_abs1 (by omega) (by omega) (by omega) (by omega), iI_max, Int.natCast_add, Int.natCast_add]
  · rfl
  all_goals (unfold dist1; split <;> omega)
