/-! WHAT A STATE OF THE CLASS IS, by roles: 0 the pool; 1, 2, 3 its lists; 4 panes; 5 reports (rows 20 ..); 6 the trial, 7 .. 12 its rows; 13 .. 16 the lists' arrays; 50 .. growers; 60 .. houses; 80 .. layers -/
abbrev imax (x y : Int32) : Int32 := if x < y then y else x
abbrev imin (x y : Int32) : Int32 := if y < x then y else x
abbrev iabs (x : Int32) : Int32 := if 0 ≤ x then x else 0 - x
theorem inc_nI (i : Nat) : nI i + Int32.ofInt 1 = nI (i + 1) := nI_1 i
theorem kd_row {i : Nat} (h : i < 30) : kd (20 + i) = 9 := by
  unfold kd
  rw [if_neg (by omega), if_neg (by omega), if_neg (by omega), if_neg (by omega), if_neg (by omega), if_neg (by omega), if_neg (by omega), if_pos (by omega)]
theorem kd_g {i : Nat} (h : i < 6) : kd (50 + i) = 1 := by
  unfold kd
  rw [if_neg (by omega), if_neg (by omega), if_neg (by omega), if_neg (by omega), if_neg (by omega), if_neg (by omega), if_neg (by omega), if_neg (by omega), if_pos (by omega)]
theorem kd_h {i : Nat} (h : i < 12) : kd (60 + i) = 2 := by
  unfold kd
  rw [if_neg (by omega), if_neg (by omega), if_neg (by omega), if_neg (by omega), if_neg (by omega), if_neg (by omega), if_neg (by omega), if_neg (by omega), if_neg (by omega), if_pos (by omega)]
theorem kd_l {i : Nat} (h : i < 6) : kd (80 + i) = 3 := by
  unfold kd
  rw [if_neg (by omega), if_neg (by omega), if_neg (by omega), if_neg (by omega), if_neg (by omega), if_neg (by omega), if_neg (by omega), if_neg (by omega), if_neg (by omega), if_neg (by omega), if_pos (by omega)]
/-- the list at lr holds the n objects at base .. -/
def LI (L : List Nat) (ad : Nat → Nat) (v : Nat → Nat → Int32) (o : Nat → Nat → Option Nat) (td lr n A B base : Nat) : Prop :=
  lr ∈ L ∧ kd lr = 0 ∧ v lr 2 = nI n ∧ n ≤ 15 ∧ (∀ i, i < n → base + i ∈ L) ∧ kd A = 11 ∧ kd B = 11 ∧ ln A = 10 ∧ ln B = 15 ∧ (∀ r, r = lr ∨ r = A ∨ r = B → r < 20) ∧
  ((n = 0 ∧ o lr 1 = some td) ∨ (0 < n ∧ n ≤ 10 ∧ A ∈ L ∧ o lr 1 = some (ad A) ∧ ∀ i, i < n → o A i = some (ad (base + i))) ∨ (10 < n ∧ B ∈ L ∧ o lr 1 = some (ad B) ∧ ∀ i, i < n → o B i = some (ad (base + i))))
def PI (td : Nat) (L : List Nat) (ad : Nat → Nat) (v : Nat → Nat → Int32) (o : Nat → Nat → Option Nat) (ng nh nl ns : Nat) (ow gx gy gw gd : Nat → Nat) : Prop :=
  (∀ r, r < 13 → r ∈ L) ∧ (∀ i, i < 30 → 20 + i ∈ L) ∧ (∀ k, k < 6 → o 0 k = some (ad (k + 1))) ∧ (∀ k, k < 6 → o 6 k = some (ad (7 + k))) ∧ (∀ i, i < 30 → o 5 i = some (ad (20 + i))) ∧
  LI L ad v o td 1 ng 13 19 50 ∧ LI L ad v o td 2 nh 14 16 60 ∧ LI L ad v o td 3 nl 15 17 80 ∧ ng ≤ 6 ∧ nh ≤ 12 ∧ nl ≤ 6 ∧ v 0 7 = nI ns ∧ ns ≤ 30 ∧
  (∀ h, h < nh → (ow h < ng ∧ gx h + gw h ≤ 20 ∧ gy h + gd h ≤ 20 ∧ 1 ≤ gw h ∧ gw h ≤ 6 ∧ 1 ≤ gd h ∧ gd h ≤ 6) ∧ v (60 + h) 0 = nI (ow h) ∧ v (60 + h) 1 = nI (gx h) ∧ v (60 + h) 2 = nI (gy h) ∧ v (60 + h) 3 = nI (gw h) ∧ v (60 + h) 4 = nI (gd h))
section PIA
variable {td : Nat} {L : List Nat} {ad : Nat → Nat} {v : Nat → Nat → Int32} {o : Nat → Nat → Option Nat} {ng nh nl ns : Nat} {ow gx gy gw gd : Nat → Nat}
theorem LI.m {lr n A B base : Nat} (h : LI L ad v o td lr n A B base) : lr ∈ L := h.1
theorem LI.k {lr n A B base : Nat} (h : LI L ad v o td lr n A B base) : kd lr = 0 := h.2.1
theorem LI.s {lr n A B base : Nat} (h : LI L ad v o td lr n A B base) : v lr 2 = nI n := h.2.2.1
theorem LI.n15 {lr n A B base : Nat} (h : LI L ad v o td lr n A B base) : n ≤ 15 := h.2.2.2.1
theorem LI.b {lr n A B base : Nat} (h : LI L ad v o td lr n A B base) : ∀ i, i < n → base + i ∈ L := h.2.2.2.2.1
/-- the array that holds the list's objects -/
theorem LI.arr {lr n A B base : Nat} (h : LI L ad v o td lr n A B base) {i : Nat} (hi : i < n) : ∃ X : Nat, X ∈ L ∧ kd X = 11 ∧ o lr 1 = some (ad X) ∧ o X i = some (ad (base + i)) ∧ i < ln X ∧ ln X < 2 ^ 31 := by
  obtain ⟨_, _, _, h15, _, kA, kB, lA, lB, _, h0 | ⟨_, h10, hA, e1, e2⟩ | ⟨_, hB, e1, e2⟩⟩ := h
  · omega
  · exact ⟨A, hA, kA, e1, e2 i hi, by omega, by omega⟩
  · exact ⟨B, hB, kB, e1, e2 i hi, by omega, by omega⟩
theorem PI.c (h : PI td L ad v o ng nh nl ns ow gx gy gw gd) : ∀ r, r < 13 → r ∈ L := h.1
theorem PI.rw (h : PI td L ad v o ng nh nl ns ow gx gy gw gd) : ∀ i, i < 30 → 20 + i ∈ L := h.2.1
theorem PI.o0 (h : PI td L ad v o ng nh nl ns ow gx gy gw gd) : ∀ k, k < 6 → o 0 k = some (ad (k + 1)) := h.2.2.1
theorem PI.o6 (h : PI td L ad v o ng nh nl ns ow gx gy gw gd) : ∀ k, k < 6 → o 6 k = some (ad (7 + k)) := h.2.2.2.1
theorem PI.o5 (h : PI td L ad v o ng nh nl ns ow gx gy gw gd) : ∀ i, i < 30 → o 5 i = some (ad (20 + i)) := h.2.2.2.2.1
theorem PI.lg (h : PI td L ad v o ng nh nl ns ow gx gy gw gd) : LI L ad v o td 1 ng 13 19 50 := h.2.2.2.2.2.1
theorem PI.lh (h : PI td L ad v o ng nh nl ns ow gx gy gw gd) : LI L ad v o td 2 nh 14 16 60 := h.2.2.2.2.2.2.1
theorem PI.ll (h : PI td L ad v o ng nh nl ns ow gx gy gw gd) : LI L ad v o td 3 nl 15 17 80 := h.2.2.2.2.2.2.2.1
theorem PI.g6 (h : PI td L ad v o ng nh nl ns ow gx gy gw gd) : ng ≤ 6 := h.2.2.2.2.2.2.2.2.1
theorem PI.h12 (h : PI td L ad v o ng nh nl ns ow gx gy gw gd) : nh ≤ 12 := h.2.2.2.2.2.2.2.2.2.1
theorem PI.l6 (h : PI td L ad v o ng nh nl ns ow gx gy gw gd) : nl ≤ 6 := h.2.2.2.2.2.2.2.2.2.2.1
theorem PI.eS (h : PI td L ad v o ng nh nl ns ow gx gy gw gd) : v 0 7 = nI ns := h.2.2.2.2.2.2.2.2.2.2.2.1
theorem PI.s30 (h : PI td L ad v o ng nh nl ns ow gx gy gw gd) : ns ≤ 30 := h.2.2.2.2.2.2.2.2.2.2.2.2.1
theorem PI.hs (h : PI td L ad v o ng nh nl ns ow gx gy gw gd) : ∀ h, h < nh → (ow h < ng ∧ gx h + gw h ≤ 20 ∧ gy h + gd h ≤ 20 ∧ 1 ≤ gw h ∧ gw h ≤ 6 ∧ 1 ≤ gd h ∧ gd h ≤ 6) ∧ v (60 + h) 0 = nI (ow h) ∧ v (60 + h) 1 = nI (gx h) ∧ v (60 + h) 2 = nI (gy h) ∧ v (60 + h) 3 = nI (gw h) ∧ v (60 + h) 4 = nI (gd h) := h.2.2.2.2.2.2.2.2.2.2.2.2.2
theorem PI.mg (h : PI td L ad v o ng nh nl ns ow gx gy gw gd) {i : Nat} (hi : i < ng) : 50 + i ∈ L := h.lg.b i hi
theorem PI.mh (h : PI td L ad v o ng nh nl ns ow gx gy gw gd) {i : Nat} (hi : i < nh) : 60 + i ∈ L := h.lh.b i hi
theorem PI.ml (h : PI td L ad v o ng nh nl ns ow gx gy gw gd) {i : Nat} (hi : i < nl) : 80 + i ∈ L := h.ll.b i hi
theorem PI.kg (h : PI td L ad v o ng nh nl ns ow gx gy gw gd) {i : Nat} (hi : i < ng) : kd (50 + i) = 1 := kd_g (by have := h.g6; omega)
theorem PI.kh (h : PI td L ad v o ng nh nl ns ow gx gy gw gd) {i : Nat} (hi : i < nh) : kd (60 + i) = 2 := kd_h (by have := h.h12; omega)
theorem PI.kl (h : PI td L ad v o ng nh nl ns ow gx gy gw gd) {i : Nat} (hi : i < nl) : kd (80 + i) = 3 := kd_l (by have := h.l6; omega)
theorem PI.eO (h : PI td L ad v o ng nh nl ns ow gx gy gw gd) {i : Nat} (hi : i < nh) : v (60 + i) 0 = nI (ow i) := (h.hs i hi).2.1
theorem PI.eX (h : PI td L ad v o ng nh nl ns ow gx gy gw gd) {i : Nat} (hi : i < nh) : v (60 + i) 1 = nI (gx i) := (h.hs i hi).2.2.1
theorem PI.eY (h : PI td L ad v o ng nh nl ns ow gx gy gw gd) {i : Nat} (hi : i < nh) : v (60 + i) 2 = nI (gy i) := (h.hs i hi).2.2.2.1
theorem PI.eW (h : PI td L ad v o ng nh nl ns ow gx gy gw gd) {i : Nat} (hi : i < nh) : v (60 + i) 3 = nI (gw i) := (h.hs i hi).2.2.2.2.1
theorem PI.eD (h : PI td L ad v o ng nh nl ns ow gx gy gw gd) {i : Nat} (hi : i < nh) : v (60 + i) 4 = nI (gd i) := (h.hs i hi).2.2.2.2.2
/-- what of the ints the shape rests on -/
def dep (r k : Nat) : Prop := (r = 0 ∧ k = 7) ∨ ((r = 1 ∨ r = 2 ∨ r = 3) ∧ k = 2) ∨ (60 ≤ r ∧ r < 72 ∧ k ≤ 4)
theorem LI.cong {lr n A B base : Nat} {v' : Nat → Nat → Int32} (h : LI L ad v o td lr n A B base) (e : v' lr 2 = v lr 2) : LI L ad v' o td lr n A B base := by
  obtain ⟨a, b, c, d⟩ := h
  exact ⟨a, b, e.trans c, d⟩
theorem PI.cong {v' : Nat → Nat → Int32} (h : PI td L ad v o ng nh nl ns ow gx gy gw gd) (e : ∀ r k, dep r k → v' r k = v r k) : PI td L ad v' o ng nh nl ns ow gx gy gw gd := by
  have h12 := h.h12
  obtain ⟨h1, h2, h3, h4, h5, h6, h7, h8, h9, h10, h11, hs, hs30, hh⟩ := h
  refine ⟨h1, h2, h3, h4, h5, h6.cong (e 1 2 (by unfold dep; omega)), h7.cong (e 2 2 (by unfold dep; omega)), h8.cong (e 3 2 (by unfold dep; omega)), h9, h10, h11, (e 0 7 (by unfold dep; omega)).trans hs, hs30, fun i hi => ?_⟩
  obtain ⟨q1, q2, q3, q4, q5, q6⟩ := hh i hi
  exact ⟨q1, (e (60 + i) 0 (by unfold dep; omega)).trans q2, (e (60 + i) 1 (by unfold dep; omega)).trans q3, (e (60 + i) 2 (by unfold dep; omega)).trans q4, (e (60 + i) 3 (by unfold dep; omega)).trans q5, (e (60 + i) 4 (by unfold dep; omega)).trans q6⟩
theorem PI.up {r k : Nat} {x : Int32} (h : PI td L ad v o ng nh nl ns ow gx gy gw gd) (hd9 : ¬ dep r k) : PI td L ad (up2 v r k x) o ng nh nl ns ow gx gy gw gd := h.cong (fun r' k' gd => by
  unfold up2
  rw [if_neg]
  rintro ⟨rfl, rfl⟩
  exact hd9 gd)
end PIA
/-- sums of ints -/
def sumI (f : Nat → Int32) : Nat → Int32
  | 0 => 0
  | n + 1 => sumI f n + f n
theorem sumI_congr {f g : Nat → Int32} : ∀ {n : Nat}, (∀ i, i < n → f i = g i) → sumI f n = sumI g n
  | 0, _ => rfl
  | n + 1, h => by rw [sumI, sumI, sumI_congr (fun i hi => h i (by omega)), h n (by omega)]
