/-! THE REFERENCE'S STATE, by roles: 100 the model; S = 101 or 102 a state, its rows at B + (number of the field), B = 110 or 140 -/
def SB (S B : Nat) : Prop := (S = 101 ∧ B = 110) ∨ (S = 102 ∧ B = 140)
def arrF (k : Nat) : Bool := k == 1 || k == 2 || k == 3 || k == 4 || k == 5 || k == 7 || k == 8 || k == 9 || k == 12 || k == 14 || k == 16 || k == 17 || k == 18
def lnB (k : Nat) : Nat := if k = 2 then 18 else if k = 7 then 84 else if k = 8 then 12 else if k = 9 then 432 else if k = 12 then 30 else if k = 14 then 180 else 6
def PQ (L : List Nat) (ad : Nat → Nat) (o : Nat → Nat → Option Nat) (S B : Nat) : Prop :=
  SB S B ∧ 100 ∈ L ∧ S ∈ L ∧ (∀ k, arrF k = true → B + k ∈ L ∧ o S k = some (ad (B + k)))
def PJ (L : List Nat) (ad : Nat → Nat) (v : Nat → Nat → Int32) (o : Nat → Nat → Option Nat) (S B ng nh nl ns : Nat) (ow gx gy gw gd : Nat → Nat) : Prop :=
  PQ L ad o S B ∧ (ng ≤ 6 ∧ nh ≤ 12 ∧ nl ≤ 6 ∧ ns ≤ 30) ∧ (v S 0 = nI ng ∧ v S 6 = nI nh ∧ v S 11 = nI nl ∧ v S 13 = nI ns) ∧
  (∀ h, h < nh → (ow h < ng ∧ gx h + gw h ≤ 20 ∧ gy h + gd h ≤ 20 ∧ 1 ≤ gw h ∧ gw h ≤ 6 ∧ 1 ≤ gd h ∧ gd h ≤ 6) ∧ v (B + 7) (7 * h) = nI (ow h) ∧ v (B + 7) (7 * h + 1) = nI (gx h) ∧ v (B + 7) (7 * h + 2) = nI (gy h) ∧ v (B + 7) (7 * h + 3) = nI (gw h) ∧ v (B + 7) (7 * h + 4) = nI (gd h))
theorem arr_lt : ∀ k, arrF k = true → k < 19 := by
  intro k h
  rcases Nat.lt_or_ge k 19 with q | q
  · exact q
  · exfalso
    simp [arrF] at h
    omega
theorem ref_k9 : ∀ k, k < 19 → arrF k = true → (kd (110 + k) = if k = 8 then 10 else 9) ∧ (kd (140 + k) = if k = 8 then 10 else 9) ∧ ln (110 + k) = lnB k ∧ ln (140 + k) = lnB k := by decide
section PJA
variable {L : List Nat} {ad : Nat → Nat} {v : Nat → Nat → Int32} {o : Nat → Nat → Option Nat} {S B ng nh nl ns : Nat} {ow gx gy gw gd : Nat → Nat}
theorem PQ.sb (h : PQ L ad o S B) : (S = 101 ∧ B = 110) ∨ (S = 102 ∧ B = 140) := h.1
theorem PQ.m0 (h : PQ L ad o S B) : 100 ∈ L := h.2.1
theorem PQ.mS (h : PQ L ad o S B) : S ∈ L := h.2.2.1
theorem PQ.mB (h : PQ L ad o S B) (k : Nat) (hk : arrF k = true) : B + k ∈ L := (h.2.2.2 k hk).1
theorem PQ.oB (h : PQ L ad o S B) (k : Nat) (hk : arrF k = true) : o S k = some (ad (B + k)) := (h.2.2.2 k hk).2
theorem PQ.kS (h : PQ L ad o S B) : kd S = 7 := by rcases h.1 with ⟨rfl, -⟩ | ⟨rfl, -⟩ <;> rfl
theorem PQ.k9 (h : PQ L ad o S B) (k : Nat) (hk : arrF k = true) (h8 : k ≠ 8) : kd (B + k) = 9 := by
  have q := ref_k9 k (arr_lt k hk) hk
  rcases h.1 with ⟨-, rfl⟩ | ⟨-, rfl⟩
  · exact q.1.trans (if_neg h8)
  · exact q.2.1.trans (if_neg h8)
theorem PQ.k10 (h : PQ L ad o S B) : kd (B + 8) = 10 := by rcases h.1 with ⟨-, rfl⟩ | ⟨-, rfl⟩ <;> rfl
theorem PQ.ln (h : PQ L ad o S B) (k : Nat) (hk : arrF k = true) : ln (B + k) = lnB k := by
  have q := ref_k9 k (arr_lt k hk) hk
  rcases h.1 with ⟨-, rfl⟩ | ⟨-, rfl⟩
  · exact q.2.2.1
  · exact q.2.2.2
theorem PJ.q (h : PJ L ad v o S B ng nh nl ns ow gx gy gw gd) : PQ L ad o S B := h.1
theorem PJ.bd (h : PJ L ad v o S B ng nh nl ns ow gx gy gw gd) : ng ≤ 6 ∧ nh ≤ 12 ∧ nl ≤ 6 ∧ ns ≤ 30 := h.2.1
theorem PJ.eG (h : PJ L ad v o S B ng nh nl ns ow gx gy gw gd) : v S 0 = nI ng := h.2.2.1.1
theorem PJ.eH (h : PJ L ad v o S B ng nh nl ns ow gx gy gw gd) : v S 6 = nI nh := h.2.2.1.2.1
theorem PJ.eL (h : PJ L ad v o S B ng nh nl ns ow gx gy gw gd) : v S 11 = nI nl := h.2.2.1.2.2.1
theorem PJ.eS (h : PJ L ad v o S B ng nh nl ns ow gx gy gw gd) : v S 13 = nI ns := h.2.2.1.2.2.2
theorem PJ.hs (h : PJ L ad v o S B ng nh nl ns ow gx gy gw gd) : ∀ h, h < nh → (ow h < ng ∧ gx h + gw h ≤ 20 ∧ gy h + gd h ≤ 20 ∧ 1 ≤ gw h ∧ gw h ≤ 6 ∧ 1 ≤ gd h ∧ gd h ≤ 6) ∧ v (B + 7) (7 * h) = nI (ow h) ∧ v (B + 7) (7 * h + 1) = nI (gx h) ∧ v (B + 7) (7 * h + 2) = nI (gy h) ∧ v (B + 7) (7 * h + 3) = nI (gw h) ∧ v (B + 7) (7 * h + 4) = nI (gd h) := h.2.2.2
theorem PJ.eO (h : PJ L ad v o S B ng nh nl ns ow gx gy gw gd) {i : Nat} (hi : i < nh) : v (B + 7) (7 * i) = nI (ow i) := (h.hs i hi).2.1
theorem PJ.eX (h : PJ L ad v o S B ng nh nl ns ow gx gy gw gd) {i : Nat} (hi : i < nh) : v (B + 7) (7 * i + 1) = nI (gx i) := (h.hs i hi).2.2.1
theorem PJ.eY (h : PJ L ad v o S B ng nh nl ns ow gx gy gw gd) {i : Nat} (hi : i < nh) : v (B + 7) (7 * i + 2) = nI (gy i) := (h.hs i hi).2.2.2.1
theorem PJ.eW (h : PJ L ad v o S B ng nh nl ns ow gx gy gw gd) {i : Nat} (hi : i < nh) : v (B + 7) (7 * i + 3) = nI (gw i) := (h.hs i hi).2.2.2.2.1
theorem PJ.eD (h : PJ L ad v o S B ng nh nl ns ow gx gy gw gd) {i : Nat} (hi : i < nh) : v (B + 7) (7 * i + 4) = nI (gd i) := (h.hs i hi).2.2.2.2.2
theorem sz36 {a b : Nat} (ha : a ≤ 6) (hb : b ≤ 6) : a * b ≤ 36 := Nat.mul_le_mul ha hb
theorem PJ.z36 (h : PJ L ad v o S B ng nh nl ns ow gx gy gw gd) {i : Nat} (hi : i < nh) : gw i * gd i ≤ 36 := sz36 (h.hs i hi).1.2.2.2.2.1 (h.hs i hi).1.2.2.2.2.2.2
/-- what stays behind a change of the state S, B -/
def depR (S B r k : Nat) : Prop := r ≤ 180 ∧ r ≠ 100 ∧ ((r ≠ S ∧ ¬ (B ≤ r ∧ r ≤ B + 18)) ∨ (r = S ∧ (k = 0 ∨ k = 6 ∨ k = 11 ∨ k = 13)) ∨ r = B + 7)
def keepR (S B : Nat) (u v : Nat → Nat → Int32) : Prop := ∀ r k, depR S B r k → u r k = v r k
theorem keepR.rf : keepR S B v v := fun _ _ _ => rfl
theorem keepR.tr {u x : Nat → Nat → Int32} (h : keepR S B u v) (g : keepR S B v x) : keepR S B u x := fun r k d => (h r k d).trans (g r k d)
theorem keepR.cls {u : Nat → Nat → Int32} (h : keepR S B u v) (hsb : SB S B) {r k : Nat} (hr : r < 100) : u r k = v r k := h r k (by unfold SB at hsb; unfold depR; omega)
theorem kr_up {r k : Nat} {x : Int32} (h : ¬ depR S B r k) : keepR S B (up2 v r k x) v := fun r' k' d => by
  unfold up2
  rw [if_neg]
  rintro ⟨rfl, rfl⟩
  exact h d
theorem kr_cpy {r0 r1 a b n : Nat} (h : ∀ k, ¬ depR S B r1 k) : keepR S B (cpy2 v r0 r1 a b n) v := fun r' k' d => by
  unfold cpy2
  rw [if_neg]
  rintro rfl
  exact h _ d
theorem kr_itr {f : Nat → (Nat → Nat → Int32) → (Nat → Nat → Int32)} : ∀ {n : Nat}, (∀ i u, i < n → keepR S B (f i u) u) → keepR S B (itr f n v) v
  | 0, _ => keepR.rf
  | n + 1, h => (h n _ (Nat.lt_succ_self n)).tr (kr_itr (n := n) (fun i u hi => h i u (by omega)))
theorem PJ.kp {u : Nat → Nat → Int32} (h : PJ L ad v o S B ng nh nl ns ow gx gy gw gd) (k : keepR S B u v) : PJ L ad u o S B ng nh nl ns ow gx gy gw gd := by
  obtain ⟨h1, h2, ⟨a1, a2, a3, a4⟩, hh⟩ := h
  have hsb := h1.sb
  refine ⟨h1, h2, ⟨(k S 0 (by unfold depR; omega)).trans a1, (k S 6 (by unfold depR; omega)).trans a2, (k S 11 (by unfold depR; omega)).trans a3, (k S 13 (by unfold depR; omega)).trans a4⟩, fun i hi => ?_⟩
  obtain ⟨q1, q2, q3, q4, q5, q6⟩ := hh i hi
  exact ⟨q1, (k _ _ (by unfold depR; omega)).trans q2, (k _ _ (by unfold depR; omega)).trans q3, (k _ _ (by unfold depR; omega)).trans q4, (k _ _ (by unfold depR; omega)).trans q5, (k _ _ (by unfold depR; omega)).trans q6⟩
/-- the class's changes don't touch it -/
theorem PJ.kpD {u : Nat → Nat → Int32} (h : PJ L ad v o S B ng nh nl ns ow gx gy gw gd) (k : keepD u v) : PJ L ad u o S B ng nh nl ns ow gx gy gw gd := by
  obtain ⟨h1, h2, ⟨a1, a2, a3, a4⟩, hh⟩ := h
  have hsb := h1.sb
  refine ⟨h1, h2, ⟨(k.far (by omega)).trans a1, (k.far (by omega)).trans a2, (k.far (by omega)).trans a3, (k.far (by omega)).trans a4⟩, fun i hi => ?_⟩
  obtain ⟨q1, q2, q3, q4, q5, q6⟩ := hh i hi
  exact ⟨q1, (k.far (by omega)).trans q2, (k.far (by omega)).trans q3, (k.far (by omega)).trans q4, (k.far (by omega)).trans q5, (k.far (by omega)).trans q6⟩
theorem PI.kpR {td : Nat} {u : Nat → Nat → Int32} (h : PI td L ad v o ng nh nl ns ow gx gy gw gd) (hsb : SB S B) (k : keepR S B u v) : PI td L ad u o ng nh nl ns ow gx gy gw gd := h.cong (fun r k' d => k.cls hsb (by have := d; unfold dep at this; omega))
end PJA
/-! what it answers, and its changes -/
section R1
variable (v : Nat → Nat → Int32) (B : Nat)
def rVal (h : Nat) (st : Int32) : Int32 := if st = 0 then 0 else if st = 1 then v (B + 7) (7 * h + 6) / 2 else v (B + 7) (7 * h + 6)
def rLost (n h : Nat) : Int32 := sumI (fun k => rVal v B h (v (B + 9) (36 * h + k))) n
def rBy (gw gd : Nat → Nat) (nh : Nat) (g : Int32) : Int32 := sumI (fun h => if g = -1 ∨ v (B + 7) (7 * h) = g then rLost v B (gw h * gd h) h else 0) nh
def rVals (gw gd : Nat → Nat) (nh : Nat) (g : Int32) : Int32 := sumI (fun h => if g = -1 ∨ v (B + 7) (7 * h) = g then nI (gw h * gd h) * v (B + 7) (7 * h + 6) else 0) nh
def rCnt (n h : Nat) (st : Int32) : Int32 := sumI (fun k => if v (B + 9) (36 * h + k) = st then 1 else 0) n
def rIn (gw gd : Nat → Nat) (nh : Nat) (h st : Int32) : Int32 := sumI (fun i => if h = -1 ∨ nI i = h then rCnt v B (gw i * gd i) i st else 0) nh
def rHit (h k : Nat) (own : Int32) : Nat → Nat → Int32 :=
  if v (B + 9) (36 * h + k) = 0 ∧ v (B + 7) (7 * h + 5) < own then
    let v1 := up2 v (B + 9) (36 * h + k) 1
    up2 v1 (B + 16) 0 (v1 (B + 16) 0 + 1)
  else if v (B + 9) (36 * h + k) = 1 ∧ v (B + 7) (7 * h + 5) < 2 * own then
    let v1 := up2 v (B + 9) (36 * h + k) 2
    up2 v1 (B + 16) 1 (v1 (B + 16) 1 + 1)
  else v
def rHail (gx gy gw : Nat → Nat) (rad : Int) (F : Int32) (h : Nat) (X Y : Int) (k : Nat) : Nat → Nat → Int32 :=
  if far2 ((gx h : Int) + ((k % gw h : Nat) : Int)) ((gy h : Int) + ((k / gw h : Nat) : Int)) X Y ≤ rad then
    rHit v B h k (F - 2 * iI (far2 ((gx h : Int) + ((k % gw h : Nat) : Int)) ((gy h : Int) + ((k / gw h : Nat) : Int)) X Y) - (if v (B + 8) h = 0 then 0 else 5))
  else v
def rHouse (gx gy gw gd : Nat → Nat) (rad : Int) (F : Int32) (h : Nat) (X Y : Int) : Nat → Nat → Int32 := itr (fun k u => rHail u B gx gy gw rad F h X Y k) (gw h * gd h) v
def rStep (gx gy gw gd : Nat → Nat) (nh : Nat) (rad : Int) (F : Int32) (X Y : Int) : Nat → Nat → Int32 := itr (fun h u => rHouse u B gx gy gw gd rad F h X Y) nh v
def rPay (S g : Nat) (most : Int32) : Nat → Nat → Int32 :=
  let p := imin (v S 10) most
  let v1 := up2 v S 10 (v S 10 - p)
  let v2 := up2 v1 (B + 1) g (v1 (B + 1) g + p)
  up2 v2 (B + 5) g (v2 (B + 5) g - p)
def rBefore (gw gd : Nat → Nat) (ng nh : Nat) : Nat → Nat → Int32 := itr (fun g u => up2 u (B + 17) g (rBy u B gw gd nh (nI g))) ng (itr (fun k u => up2 u (B + 16) k 0) 6 v)
def rBlow (gx gy gw gd : Nat → Nat) (ng nh : Nat) (sx sy dx dy rad : Int) (F : Int32) (st : Nat) : Nat → Nat → Int32 := itr (fun k u => rStep u B gx gy gw gd nh rad F (sx + k * dx) (sy + k * dy)) st (rBefore v B gw gd ng nh)
def rG (gw gd : Nat → Nat) (nh : Nat) : Nat → ((Nat → Nat → Int32) × Int32) → ((Nat → Nat → Int32) × Int32) := fun g t =>
  let d := rBy t.1 B gw gd nh (nI g) - t.1 (B + 17) g
  let v1 := up2 t.1 (B + 16) 2 (t.1 (B + 16) 2 + d)
  let c := if v1 (B + 2) (3 * g + 1) = 0 then 0 else imax 0 (imin (d - v1 (B + 2) (3 * g)) (v1 (B + 2) (3 * g + 1) - v1 (B + 4) g))
  let v2 := up2 v1 (B + 18) g c
  let v3 := up2 v2 (B + 4) g (v2 (B + 4) g + v2 (B + 18) g)
  (v3, t.2 + v3 (B + 18) g)
def rSum (gw gd : Nat → Nat) (ng nh : Nat) : (Nat → Nat → Int32) × Int32 := itr (rG B gw gd nh) ng (v, 0)
def rL (S : Nat) (sum : Int32) : Nat → (Nat → Nat → Int32) → (Nat → Nat → Int32) := fun k u =>
  let p := imin (u (B + 12) (5 * k + 3)) (imin (u (B + 12) (5 * k + 1)) (imax 0 (sum - u (B + 12) (5 * k))) * u (B + 12) (5 * k + 2) / 100)
  let v1 := up2 u (B + 12) (5 * k + 3) (u (B + 12) (5 * k + 3) - p)
  let v2 := up2 v1 (B + 12) (5 * k + 4) (v1 (B + 12) (5 * k + 4) + p)
  let v3 := up2 v2 S 10 (v2 S 10 + p)
  up2 v3 (B + 16) 4 (v3 (B + 16) 4 + p)
def rP (S : Nat) : Nat → (Nat → Nat → Int32) → (Nat → Nat → Int32) := fun g u =>
  let v1 := up2 u (B + 5) g (u (B + 5) g + u (B + 18) g)
  let v2 := rPay v1 B S g (v1 (B + 18) g)
  up2 v2 (B + 16) 5 (v1 (B + 16) 5 + (v1 (B + 18) g - imin (v1 S 10) (v1 (B + 18) g)))
def rEnd3 (gw gd : Nat → Nat) (ng nh : Nat) : Nat → Nat → Int32 := up2 (rSum v B gw gd ng nh).1 (B + 16) 3 (rSum v B gw gd ng nh).2
def rStorm (S : Nat) (gx gy gw gd : Nat → Nat) (ng nh nl : Nat) (sx sy dx dy rad : Int) (F : Int32) (st : Nat) : Nat → Nat → Int32 :=
  let v1 := rBlow v B gx gy gw gd ng nh sx sy dx dy rad F st
  itr (rP B S) ng (itr (rL B S (rSum v1 B gw gd ng nh).2) nl (rEnd3 v1 B gw gd ng nh))
def rPre (gw gd : Nat → Nat) (nh g : Nat) : Int32 := if v (B + 2) (3 * g + 1) = 0 then 0 else imin (v (B + 1) g) (rVals v B gw gd nh (nI g) * v (B + 2) (3 * g + 2) / 1000 * v (B + 3) g / 100)
def rY (gw gd : Nat → Nat) (nh : Nat) : Nat → ((Nat → Nat → Int32) × Int32) → ((Nat → Nat → Int32) × Int32) := fun g t =>
  if t.1 (B + 2) (3 * g + 1) = 0 then t else
  let p := imin (t.1 (B + 1) g) (rVals t.1 B gw gd nh (nI g) * t.1 (B + 2) (3 * g + 2) / 1000 * t.1 (B + 3) g / 100)
  let v1 := up2 t.1 (B + 1) g (t.1 (B + 1) g - p)
  (up2 v1 (B + 3) g (if 0 < v1 (B + 4) g then imin 200 (v1 (B + 3) g + 20) else imax 50 (v1 (B + 3) g - 10)), t.2 + p)
def rYs (gw gd : Nat → Nat) (ng nh : Nat) : (Nat → Nat → Int32) × Int32 := itr (rY B gw gd nh) ng (v, 0)
def rD (S : Nat) : Nat → (Nat → Nat → Int32) → (Nat → Nat → Int32) := fun g u => up2 (rPay u B S g (u (B + 5) g)) (B + 4) g 0
def rYear (S : Nat) (gw gd : Nat → Nat) (ng nh nl : Nat) : Nat → Nat → Int32 :=
  let v1 := up2 (rYs v B gw gd ng nh).1 S 10 ((rYs v B gw gd ng nh).1 S 10 + (rYs v B gw gd ng nh).2)
  let v2 := itr (rD B S) ng v1
  let v3 := itr (fun k u => up2 u (B + 12) (5 * k + 3) (2 * u (B + 12) (5 * k + 1))) nl v2
  let v4 := up2 v3 S 13 0
  up2 v4 S 15 (v4 S 15 + 1)
end R1
section KR
theorem kr_b {v : Nat → Nat → Int32} {S B r k : Nat} {x : Int32} (hs : SB S B) (h : (B ≤ r ∧ r ≤ B + 18 ∧ r ≠ B + 7) ∨ (r = S ∧ k ≠ 0 ∧ k ≠ 6 ∧ k ≠ 11 ∧ k ≠ 13)) : keepR S B (up2 v r k x) v := kr_up (by unfold SB at hs; unfold depR; omega)
variable {v : Nat → Nat → Int32} {S B : Nat} {gx gy gw gd : Nat → Nat}
theorem kr_rHit {h k : Nat} {x : Int32} (hs : SB S B) : keepR S B (rHit v B h k x) v := by
  unfold SB at hs
  unfold rHit
  split
  · exact (kr_up (by unfold depR; omega)).tr (kr_up (by unfold depR; omega))
  · split
    · exact (kr_up (by unfold depR; omega)).tr (kr_up (by unfold depR; omega))
    · exact keepR.rf
theorem kr_rHail {rad : Int} {F : Int32} {h k : Nat} {X Y : Int} (hs : SB S B) : keepR S B (rHail v B gx gy gw rad F h X Y k) v := by
  unfold rHail
  split
  · exact kr_rHit hs
  · exact keepR.rf
theorem kr_rHouse {rad : Int} {F : Int32} {h : Nat} {X Y : Int} (hs : SB S B) : keepR S B (rHouse v B gx gy gw gd rad F h X Y) v := kr_itr (fun _ _ _ => kr_rHail hs)
theorem kr_rStep {nh : Nat} {rad : Int} {F : Int32} {X Y : Int} (hs : SB S B) : keepR S B (rStep v B gx gy gw gd nh rad F X Y) v := kr_itr (fun _ _ _ => kr_rHouse hs)
theorem kr_rPay {g : Nat} {x : Int32} (hs : SB S B) : keepR S B (rPay v B S g x) v := by
  unfold SB at hs
  exact (kr_up (by unfold depR; omega)).tr ((kr_up (by unfold depR; omega)).tr (kr_up (by unfold depR; omega)))
theorem kr_lat {n : Nat} (hs : SB S B) : keepR S B (itr (fun k u => up2 u (B + 16) k 0) n v) v := by
  unfold SB at hs
  exact kr_itr (fun _ _ _ => kr_up (by unfold depR; omega))
theorem kr_bef {n nh : Nat} (hs : SB S B) : keepR S B (itr (fun g u => up2 u (B + 17) g (rBy u B gw gd nh (nI g))) n v) v := by
  unfold SB at hs
  exact kr_itr (fun _ _ _ => kr_up (by unfold depR; omega))
theorem kr_rBefore {ng nh : Nat} (hs : SB S B) : keepR S B (rBefore v B gw gd ng nh) v := (kr_bef hs).tr (kr_lat hs)
theorem kr_rBlow {ng nh : Nat} {sx sy dx dy rad : Int} {F : Int32} {st : Nat} (hs : SB S B) : keepR S B (rBlow v B gx gy gw gd ng nh sx sy dx dy rad F st) v := (kr_itr (fun _ _ _ => kr_rStep hs)).tr (kr_rBefore hs)
theorem kr_rG {g nh : Nat} {t : (Nat → Nat → Int32) × Int32} (hs : SB S B) : keepR S B (rG B gw gd nh g t).1 t.1 := by
  unfold SB at hs
  exact (kr_up (by unfold depR; omega)).tr ((kr_up (by unfold depR; omega)).tr (kr_up (by unfold depR; omega)))
theorem kr_rGs {nh : Nat} {t : (Nat → Nat → Int32) × Int32} (hs : SB S B) : ∀ {n : Nat}, keepR S B (itr (rG B gw gd nh) n t).1 t.1
  | 0 => keepR.rf
  | _ + 1 => (kr_rG hs).tr (kr_rGs hs)
theorem kr_rEnd3 {ng nh : Nat} (hs : SB S B) : keepR S B (rEnd3 v B gw gd ng nh) v := by
  refine keepR.tr ?_ (kr_rGs (t := (v, 0)) hs (n := ng) (nh := nh) (gw := gw) (gd := gd))
  unfold SB at hs
  exact kr_up (by unfold depR; omega)
theorem kr_rL {k : Nat} {sum : Int32} (hs : SB S B) : keepR S B (rL B S sum k v) v := by
  unfold SB at hs
  exact (kr_up (by unfold depR; omega)).tr ((kr_up (by unfold depR; omega)).tr ((kr_up (by unfold depR; omega)).tr (kr_up (by unfold depR; omega))))
theorem kr_rP {g : Nat} (hs : SB S B) : keepR S B (rP B S g v) v := by
  exact (kr_b hs (by omega)).tr ((kr_rPay hs).tr (kr_b hs (by omega)))
theorem kr_rStorm {ng nh nl : Nat} {sx sy dx dy rad : Int} {F : Int32} {st : Nat} (hs : SB S B) : keepR S B (rStorm v B S gx gy gw gd ng nh nl sx sy dx dy rad F st) v := (kr_itr (fun _ _ _ => kr_rP hs)).tr ((kr_itr (fun _ _ _ => kr_rL hs)).tr ((kr_rEnd3 hs).tr (kr_rBlow hs)))
theorem kr_rY {g nh : Nat} {t : (Nat → Nat → Int32) × Int32} (hs : SB S B) : keepR S B (rY B gw gd nh g t).1 t.1 := by
  unfold SB at hs
  unfold rY
  split
  · exact keepR.rf
  · exact (kr_up (by unfold depR; omega)).tr (kr_up (by unfold depR; omega))
theorem kr_rYs {nh : Nat} {t : (Nat → Nat → Int32) × Int32} (hs : SB S B) : ∀ {n : Nat}, keepR S B (itr (rY B gw gd nh) n t).1 t.1
  | 0 => keepR.rf
  | _ + 1 => (kr_rY hs).tr (kr_rYs hs)
theorem kr_rD {g : Nat} (hs : SB S B) : keepR S B (rD B S g v) v := by
  exact (kr_b hs (by omega)).tr (kr_rPay hs)
end KR
