/-! the model's own methods: what they answer, and their changes -/
theorem kr_t {S B k : Nat} {x : Int32} {v : Nat → Nat → Int32} : keepR S B (up2 v 100 k x) v := kr_up (by unfold depR; omega)
theorem kr_hi {S B r k : Nat} {x : Int32} {v : Nat → Nat → Int32} (h : 180 < r) : keepR S B (up2 v r k x) v := kr_up (by unfold depR; omega)
def offR (r0 : Nat) (u v : Nat → Nat → Int32) : Prop := ∀ r, r ≠ r0 → u r = v r
theorem off_up {r0 k : Nat} {x : Int32} {u v : Nat → Nat → Int32} (h : offR r0 u v) : offR r0 (up2 u r0 k x) v := fun r hr => (up2_other hr).trans (h r hr)
theorem off_new {r0 : Nat} {a : Nat → Int32} {v : Nat → Nat → Int32} : offR r0 (up1 v r0 a) v := fun _ hr => up1_n hr
theorem WD.forget {G : GG} {L : List Nat} {ad ad1 : Nat → Nat} {u v : Nat → Nat → Int32} {o o1 : Nat → Nat → Option Nat} {w : Nat → Int64} {s : State} {H : Heap} {r q : Nat} {b : Nat → Option Nat} (hW : WD G (L ++ [r]) ad1 u o1 w s H) (hr : r ∉ L) (he : ad1 = upA ad r q) (ho : up1 o r b = o1) (hF : offR r u v) : WD G L ad v o w s H := by
  subst he ho
  refine hW.drop.congr (fun x hx => ?_)
  have hn : x ≠ r := fun e => hr (e ▸ hx)
  exact ⟨(upA_n hn).symm, (hF x hn).symm, (up1_n hn).symm⟩
abbrev tz (v : Nat → Nat → Int32) : Nat → Nat → Int32 := up2 v 100 0 0
section R2
variable (v : Nat → Nat → Int32) (ow gx gy gw gd : Nat → Nat)
def rHs (nh : Nat) (g : Int32) : Int32 := sumI (fun h => if v 117 (7 * h) = g then 1 else 0) nh
def rGr (nh g : Nat) : Nat → Int32
  | 0 => v 111 g
  | 1 => v 112 (3 * g)
  | 2 => v 112 (3 * g + 1)
  | 3 => v 112 (3 * g + 2)
  | 4 => v 113 g
  | 5 => v 114 g
  | 6 => v 115 g
  | 7 => rHs v nh (nI g)
  | 8 => rVals v 110 gw gd nh (nI g)
  | _ => rBy v 110 gw gd nh (nI g)
def rHo (nh h : Nat) : Nat → Int32
  | 7 => if v 118 h = 0 then 0 else 1
  | 8 => rIn v 110 gw gd nh (nI h) 1
  | 9 => rIn v 110 gw gd nh (nI h) 2
  | 10 => rLost v 110 (gw h * gd h) h
  | k => v 117 (7 * h + k)
def rOwed (ng : Nat) : Int32 := sumI (fun g => v 115 g) ng
def rPanes (nh : Nat) : Int32 := sumI (fun h => nI (gw h * gd h)) nh
def rCo (ng nh nl ns : Nat) : Nat → Int32
  | 0 => nI ng
  | 1 => nI nh
  | 2 => nI nl
  | 3 => v 101 10
  | 4 => rOwed v ng
  | 5 => nI ns
  | 6 => v 101 15
  | 7 => rPanes gw gd nh
  | 8 => rIn v 110 gw gd nh (-1) 1
  | 9 => rIn v 110 gw gd nh (-1) 2
  | _ => rBy v 110 gw gd nh (-1)
def rAtF (x y : Int32) : Nat → Int32 → Int32 := fun h f => if fIn (x - nI (gx h)) 0 (nI (gw h) - 1) = 0 then f else if fIn (y - nI (gy h)) 0 (nI (gd h) - 1) = 0 then f else nI h
def rAt (nh : Nat) (x y : Int32) : Int32 := itr (rAtF gx gy gw gd x y) nh (-1)
def rAdd (ng : Nat) (cn : Int32) : Nat → Nat → Int32 := up2 (up2 (up2 (tz v) 111 ng cn) 113 ng 100) 101 0 (nI (ng + 1))
def rInsure (g : Nat) (d li ra : Int32) : Nat → Nat → Int32 := up2 (up2 (up2 (tz v) 112 (3 * g) d) 112 (3 * g + 1) li) 112 (3 * g + 2) ra
def rMend (h : Nat) : Nat → Nat → Int32 := itr (fun k u => up2 u 119 (36 * h + k) 0) (gw h * gd h) (up2 (tz v) 111 (ow h) (tz v 111 (ow h) - rLost (tz v) 110 (gw h * gd h) h))
/-- seven (five) ints are laid into a row -/
def rRow (r at_ n : Nat) (own : Nat → Int32) : Nat → Nat → Int32 := fun r' k => if r' = r ∧ at_ ≤ k ∧ k < at_ + n then own (k - at_) else v r' k
def own7 (a b c d e f g : Int32) : Nat → Int32
  | 0 => a | 1 => b | 2 => c | 3 => d | 4 => e | 5 => f | _ => g
def own5 (a b c d e : Int32) : Nat → Int32
  | 0 => a | 1 => b | 2 => c | 3 => d | _ => e
def rBuild (nh : Nat) (own : Nat → Int32) : Nat → Nat → Int32 := up2 (rRow (tz v) 117 (7 * nh) 7 own) 101 6 (nI (nh + 1))
def rAddL (nl : Nat) (own : Nat → Int32) : Nat → Nat → Int32 := up2 (rRow (tz v) 122 (5 * nl) 5 own) 101 11 (nI (nl + 1))
def rFree (nh x y wide deep : Nat) : Int32 := itr (fun k f => if f = 0 then 0 else if rAt gx gy gw gd nh (nI x + nI (k % wide)) (nI y + nI (k / wide)) = -1 then 1 else 0) (wide * deep) (if nh < 12 then 1 else 0)
/-- the copy of the state -/
def bInts : Nat → Nat → Int32 := up2 (up2 (up2 (up2 (up2 (up2 v 102 0 (v 101 0)) 102 6 (v 101 6)) 102 10 (v 101 10)) 102 11 (v 101 11)) 102 13 (v 101 13)) 102 15 (v 101 15)
def bRows : Nat → Nat → Int32 :=
  let c := fun (k n : Nat) (u : Nat → Nat → Int32) => cpy2 u (110 + k) (140 + k) 0 0 n
  c 14 180 (c 12 30 (c 9 432 (c 8 12 (c 7 84 (c 5 6 (c 4 6 (c 3 6 (c 2 18 (c 1 6 v)))))))))
def uBec : Nat → Nat → Int32 := bRows (bInts v)
/-- what a west storm would do, on the copy -/
def rWest (ng nh nl y : Nat) (rad : Int) (F : Int32) : Nat → Nat → Int32 := rStorm v 140 102 gx gy gw gd ng nh nl 0 (y : Int) 2 0 rad F 12
def rWo (ng nh nl : Nat) (rad : Int) (F : Int32) : Nat → ((Nat → Nat → Int32) × Int32 × Int32) → ((Nat → Nat → Int32) × Int32 × Int32) := fun y t =>
  let u := rWest (uBec t.1) gx gy gw gd ng nh nl y rad F
  if t.2.1 < u 156 3 then (u, u 156 3, nI y) else (u, t.2)
def rDam (ng nh nl y : Nat) (rad : Int) (F : Int32) : Nat → Nat → Int32 := rWest (uBec v) gx gy gw gd ng nh nl y rad F
def rDamN (ng nh nl h y : Nat) (rad : Int) (F : Int32) : Nat → Nat → Int32 := rWest (up2 (uBec v) 148 h 1) gx gy gw gd ng nh nl y rad F
def rAd (ng nh nl y : Nat) (rad : Int) (F : Int32) : Nat → ((Nat → Nat → Int32) × Int32 × Int32) → ((Nat → Nat → Int32) × Int32 × Int32) := fun h t =>
  if t.1 118 h = 0 then
    let u := rDamN t.1 gx gy gw gd ng nh nl h y rad F
    if u 156 2 < t.2.1 then (u, u 156 2, nI h) else (u, t.2)
  else t
def rDig (ng nh nl ns : Nat) : Int64 :=
  let d0 := dig (rCo v gw gd ng nh nl ns) 541 11
  let d1 := itr (fun g d => dig (rGr v gw gd nh g) d 10) ng d0
  let d2 := itr (fun h d => dig (fun k => v 119 (36 * h + k)) (dig (rHo v gw gd nh h) d 11) (gw h * gd h)) nh d1
  let d3 := dig (v 122) d2 (5 * nl)
  dig (v 124) d3 (6 * ns)
end R2
theorem rVals_up {v : Nat → Nat → Int32} {r k B nh : Nat} {x g : Int32} {gw gd : Nat → Nat} (h : B + 7 ≠ r) : rVals (up2 v r k x) B gw gd nh g = rVals v B gw gd nh g := by
  unfold rVals
  rw [up2_other h]
theorem rBy_up {v : Nat → Nat → Int32} {r k B nh : Nat} {x g : Int32} {gw gd : Nat → Nat} (h : B + 7 ≠ r) (h2 : B + 9 ≠ r) : rBy (up2 v r k x) B gw gd nh g = rBy v B gw gd nh g := by
  unfold rBy rLost rVal
  rw [up2_other h, up2_other h2]
theorem rIn_up {v : Nat → Nat → Int32} {r k B nh : Nat} {x h0 t : Int32} {gw gd : Nat → Nat} (h2 : B + 9 ≠ r) : rIn (up2 v r k x) B gw gd nh h0 t = rIn v B gw gd nh h0 t := by
  unfold rIn rCnt
  rw [up2_other h2]
theorem rVals_up1 {v : Nat → Nat → Int32} {r B nh : Nat} {a : Nat → Int32} {g : Int32} {gw gd : Nat → Nat} (h : B + 7 ≠ r) : rVals (up1 v r a) B gw gd nh g = rVals v B gw gd nh g := by
  unfold rVals
  rw [up1_n h]
theorem rBy_up1 {v : Nat → Nat → Int32} {r B nh : Nat} {a : Nat → Int32} {g : Int32} {gw gd : Nat → Nat} (h : B + 7 ≠ r) (h2 : B + 9 ≠ r) : rBy (up1 v r a) B gw gd nh g = rBy v B gw gd nh g := by
  unfold rBy rLost rVal
  rw [up1_n h, up1_n h2]
theorem rIn_up1 {v : Nat → Nat → Int32} {r B nh : Nat} {a : Nat → Int32} {h0 t : Int32} {gw gd : Nat → Nat} (h2 : B + 9 ≠ r) : rIn (up1 v r a) B gw gd nh h0 t = rIn v B gw gd nh h0 t := by
  unfold rIn rCnt
  rw [up1_n h2]
theorem fIn_01 {a b c : Int32} : fIn a b c = 0 ∨ fIn a b c = 1 := by
  unfold fIn
  split
  · exact Or.inr rfl
  · exact Or.inl rfl
theorem nI_six {n : Nat} (h : n < 6) : ¬ nI n = 6 := fun q => absurd ((nI_eq (a := n) (b := 6) (by omega) (by decide)).mp q) (by omega)
theorem lt7_of {n : Nat} (hn : n < 100) (c : ¬ (7 : Int32) ≤ nI n) : n < 7 := by
  rcases Nat.lt_or_ge n 7 with q | q
  · exact q
  · exact absurd (nI_le (a := 7) q (by omega)) c
theorem ge7_of {n : Nat} (hn : n < 100) (c : (7 : Int32) ≤ nI n) : 7 ≤ n := (nI_leI (a := 7) (b := n) (by decide) (by omega)).mp c
theorem rHo_lo {v : Nat → Nat → Int32} {gw gd : Nat → Nat} {nh h k : Nat} (hk : k < 7) : rHo v gw gd nh h k = v 117 (7 * h + k) := by
  match k, hk with
  | 0, _ => rfl
  | 1, _ => rfl
  | 2, _ => rfl
  | 3, _ => rfl
  | 4, _ => rfl
  | 5, _ => rfl
  | 6, _ => rfl
theorem rHo_hi {v : Nat → Nat → Int32} {gw gd : Nat → Nat} {nh h k : Nat} (h7 : 7 ≤ k) (n7 : k ≠ 7) (n10 : k ≠ 10) (hk : k < 11) : rIn v 110 gw gd nh (nI h) (nI k - 7) = rHo v gw gd nh h k := by
  rcases (show k = 8 ∨ k = 9 by omega) with rfl | rfl <;> rfl
