/-! the state's changes, as functions of the ints -/
/-- the ints that the shape rests on stay, and all that is not the class's -/
def depC (r k : Nat) : Prop := dep r k ∨ 100 ≤ r
def keepD (u v : Nat → Nat → Int32) : Prop := ∀ r k, depC r k → u r k = v r k
theorem keepD.rf {v : Nat → Nat → Int32} : keepD v v := fun _ _ _ => rfl
theorem keepD.tr {u v x : Nat → Nat → Int32} (h : keepD u v) (g : keepD v x) : keepD u x := fun r k d => (h r k d).trans (g r k d)
theorem keepD.far {u v : Nat → Nat → Int32} (h : keepD u v) {r k : Nat} (hr : 100 ≤ r) : u r k = v r k := h r k (Or.inr hr)
theorem kp_up {v : Nat → Nat → Int32} {r k : Nat} {x : Int32} (h : ¬ depC r k) : keepD (up2 v r k x) v := fun r' k' d => by
  unfold up2
  rw [if_neg]
  rintro ⟨rfl, rfl⟩
  exact h d
theorem kp_cpy {v : Nat → Nat → Int32} {r0 r1 a b n : Nat} (h : ∀ k, ¬ depC r1 k) : keepD (cpy2 v r0 r1 a b n) v := fun r' k' d => by
  unfold cpy2
  rw [if_neg]
  rintro rfl
  exact h _ d
theorem kp_itr {f : Nat → (Nat → Nat → Int32) → (Nat → Nat → Int32)} {v : Nat → Nat → Int32} : ∀ {n : Nat}, (∀ i u, i < n → keepD (f i u) u) → keepD (itr f n v) v
  | 0, _ => keepD.rf
  | n + 1, h => (h n _ (Nat.lt_succ_self n)).tr (kp_itr (n := n) (fun i u hi => h i u (by omega)))
theorem PI.kp {td : Nat} {L : List Nat} {ad : Nat → Nat} {v u : Nat → Nat → Int32} {o : Nat → Nat → Option Nat} {ng nh nl ns : Nat} {ow gx gy gw gd : Nat → Nat} (h : PI td L ad v o ng nh nl ns ow gx gy gw gd) (k : keepD u v) : PI td L ad u o ng nh nl ns ow gx gy gw gd := h.cong (fun r k' d => k r k' (Or.inl d))
/-- the number of storms is another one -/
theorem PI.st {td : Nat} {L : List Nat} {ad : Nat → Nat} {v u : Nat → Nat → Int32} {o : Nat → Nat → Option Nat} {ng nh nl ns n' : Nat} {ow gx gy gw gd : Nat → Nat} (h : PI td L ad v o ng nh nl ns ow gx gy gw gd) (e : ∀ r k, dep r k → ¬ (r = 0 ∧ k = 7) → u r k = v r k) (e7 : u 0 7 = nI n') (hn : n' ≤ 30) : PI td L ad u o ng nh nl n' ow gx gy gw gd := by
  have h12 := h.h12
  obtain ⟨h1, h2, h3, h4, h5, h6, h7, h8, h9, h10, h11, hs, hs30, hh⟩ := h
  refine ⟨h1, h2, h3, h4, h5, h6.cong (e 1 2 (by unfold dep; omega) (by omega)), h7.cong (e 2 2 (by unfold dep; omega) (by omega)), h8.cong (e 3 2 (by unfold dep; omega) (by omega)), h9, h10, h11, e7, hn, fun i hi => ?_⟩
  obtain ⟨q1, q2, q3, q4, q5, q6⟩ := hh i hi
  exact ⟨q1, (e (60 + i) 0 (by unfold dep; omega) (by omega)).trans q2, (e (60 + i) 1 (by unfold dep; omega) (by omega)).trans q3, (e (60 + i) 2 (by unfold dep; omega) (by omega)).trans q4, (e (60 + i) 3 (by unfold dep; omega) (by omega)).trans q5, (e (60 + i) 4 (by unfold dep; omega) (by omega)).trans q6⟩
/-- some whole number as an int -/
def iI (a : Int) : Int32 := Int32.ofInt a
theorem iI_n (n : Nat) : iI (n : Int) = nI n := Int32.ofInt_eq_ofNat
theorem iI_add (a b : Int) : iI a + iI b = iI (a + b) := (Int32.ofInt_add a b).symm
theorem iI_sub (a b : Int) : iI a - iI b = iI (a - b) := (Int32.ofInt_sub a b).symm
theorem iI_mul (a b : Int) : iI a * iI b = iI (a * b) := (Int32.ofInt_mul a b).symm
theorem iI_toInt {a : Int} (h1 : -2147483648 ≤ a) (h2 : a < 2147483648) : (iI a).toInt = a := Int32.toInt_ofInt_of_le (by simpa using h1) (by simpa using h2)
theorem iI_le {a b : Int} (a1 : -2147483648 ≤ a) (a2 : a < 2147483648) (b1 : -2147483648 ≤ b) (b2 : b < 2147483648) : iI a ≤ iI b ↔ a ≤ b := by
  rw [Int32.le_iff_toInt_le, iI_toInt a1 a2, iI_toInt b1 b2]
theorem iI_lt {a b : Int} (a1 : -2147483648 ≤ a) (a2 : a < 2147483648) (b1 : -2147483648 ≤ b) (b2 : b < 2147483648) : iI a < iI b ↔ a < b := by
  rw [Int32.lt_iff_toInt_lt, iI_toInt a1 a2, iI_toInt b1 b2]
theorem iI_max {a b : Int} (a1 : -2147483648 ≤ a) (a2 : a < 2147483648) (b1 : -2147483648 ≤ b) (b2 : b < 2147483648) : imax (iI a) (iI b) = iI (max a b) := by
  unfold imax
  by_cases h : a < b
  · rw [if_pos ((iI_lt a1 a2 b1 b2).mpr h)]; congr 1; omega
  · rw [if_neg (fun q => h ((iI_lt a1 a2 b1 b2).mp q))]; congr 1; omega
theorem iI_min {a b : Int} (a1 : -2147483648 ≤ a) (a2 : a < 2147483648) (b1 : -2147483648 ≤ b) (b2 : b < 2147483648) : imin (iI a) (iI b) = iI (min a b) := by
  unfold imin
  by_cases h : b < a
  · rw [if_pos ((iI_lt b1 b2 a1 a2).mpr h)]; congr 1; omega
  · rw [if_neg (fun q => h ((iI_lt b1 b2 a1 a2).mp q))]; congr 1; omega
theorem iI_0 : iI 0 = 0 := rfl
theorem iI_abs {a : Int} (a1 : -2147483648 < a) (a2 : a < 2147483648) : iabs (iI a) = iI (if 0 ≤ a then a else 0 - a) := by
  unfold iabs
  have h0 : (0 : Int32) ≤ iI a ↔ 0 ≤ a := iI_le (a := 0) (by omega) (by omega) (by omega) a2
  by_cases h : 0 ≤ a
  · rw [if_pos (h0.mpr h), if_pos h]
  · rw [if_neg (fun q => h (h0.mp q)), if_neg h, show (0 : Int32) = iI 0 from rfl, iI_sub]
/-- how far a cell is from the middle -/
def dist1 (a b : Int) : Int := if 0 ≤ a - b then a - b else 0 - (a - b)
def far2 (x y X Y : Int) : Int := max (dist1 x X) (dist1 y Y)
section S3
variable (v : Nat → Nat → Int32) (ow gx gy gw gd : Nat → Nat)
def mkW (h : Nat) : Nat → Nat → Int32 := itr (fun i u => itr (fun j u => up2 u 4 ((gy h + i) * 20 + (gx h + j)) 0) (gw h) u) (gd h) v
def pPre (nh g : Nat) : Int32 := fPrem v (50 + g) (gVals v nh (nI g))
def uPre (nh g : Nat) : Nat → Nat → Int32 :=
  let p := pPre v nh g
  let v1 := up2 v (50 + g) 0 (v (50 + g) 0 - p)
  let v2 := up2 v1 0 6 (v1 0 6 + p)
  fChg v2 (50 + g)
def uDebt (g : Nat) : Nat → Nat → Int32 :=
  let p := imin (v (50 + g) 7) (v 0 6)
  let v1 := up2 v 0 6 (v 0 6 - p)
  let v2 := up2 v1 (50 + g) 0 (v1 (50 + g) 0 + p)
  up2 v2 (50 + g) 7 (v2 (50 + g) 7 - p)
def uDebts (ng : Nat) : Nat → Nat → Int32 := itr (fun g u => uDebt u g) ng v
def uYear0 (ng nl : Nat) : Nat → Nat → Int32 := itr (fun k u => up2 u (80 + k) 3 (2 * u (80 + k) 1)) nl (itr (fun g u => up2 u (50 + g) 6 0) ng v)
def uYear (ng nl : Nat) : Nat → Nat → Int32 := up2 (uYear0 v ng nl) 0 7 0
def pYear (nh ng : Nat) : Int32 := sumI (fun g => pPre (itr (fun g u => uPre u nh g) g v) nh g) ng
def uEnd (nh ng nl : Nat) : Nat → Nat → Int32 :=
  let v1 := uYear (uDebts (itr (fun g u => uPre u nh g) ng v) ng) ng nl
  up2 v1 0 8 (v1 0 8 + 1)
def uBegin : Nat → Nat → Int32 := itr (fun k u => up2 u 12 k 0) 6 (itr (fun k u => up2 u 8 k 0) 6 (cpy2 v 4 7 0 0 400))
def uAdd (g : Nat) (x : Int32) : Nat → Nat → Int32 :=
  let v1 := up2 v 8 g (v 8 g + x)
  up2 v1 12 2 (v1 12 2 + x)
def uCrack (h c : Nat) : Nat → Nat → Int32 :=
  let v1 := up2 v 7 c 1
  let v2 := up2 v1 12 0 (v1 12 0 + 1)
  uAdd v2 (ow h) (v2 (60 + h) 6 / 2)
def uBreak (h c : Nat) : Nat → Nat → Int32 :=
  let v1 := up2 v 7 c 2
  let v2 := up2 v1 12 1 (v1 12 1 + 1)
  uAdd v2 (ow h) (v2 (60 + h) 6 - v2 (60 + h) 6 / 2)
def uHit (h c : Nat) (hail : Int32) : Nat → Nat → Int32 :=
  if v 7 c = 0 ∧ v (60 + h) 5 < hail then uCrack v ow h c else if v 7 c = 1 ∧ v (60 + h) 5 < 2 * hail then uBreak v ow h c else v
def uHail (rad : Int) (F : Int32) (h : Nat) (X Y : Int) (i j : Nat) : Nat → Nat → Int32 :=
  if far2 (gx h + j) (gy h + i) X Y ≤ rad then uHit v ow h ((gy h + i) * 20 + (gx h + j)) (F - 2 * iI (far2 (gx h + j) (gy h + i) X Y)) else v
def fNet (F : Int32) (h : Nat) : Int32 := if v (60 + h) 7 = 0 then F else F - 5
def uHouse (rad : Int) (F : Int32) (h : Nat) (X Y : Int) : Nat → Nat → Int32 := itr (fun i u => itr (fun j u => uHail u ow gx gy rad (fNet v F h) h X Y i j) (gw h) u) (gd h) v
def uStep (nh : Nat) (rad : Int) (F : Int32) (X Y : Int) : Nat → Nat → Int32 := itr (fun h u => uHouse u ow gx gy gw gd rad F h X Y) nh v
def uBlow (nh : Nat) (sx sy dx dy rad : Int) (F : Int32) (st : Nat) : Nat → Nat → Int32 := itr (fun k u => uStep u ow gx gy gw gd nh rad F (sx + k * dx) (sy + k * dy)) st (uBegin v)
def cF : Nat → (Nat → Nat → Int32) → (Nat → Nat → Int32) := fun g u => up2 u 9 g (fClaim u (50 + g) (u 8 g))
def uClaims (ng : Nat) : Nat → Nat → Int32 := up2 (itr cF ng v) 12 3 (sumI (fun g => fClaim (itr cF g v) (50 + g) (itr cF g v 8 g)) ng)
def lF : Nat → (Nat → Nat → Int32) → (Nat → Nat → Int32) := fun k u => up2 u 11 k (fPay u (80 + k) (u 12 3))
def uLayers (nl : Nat) : Nat → Nat → Int32 := up2 (itr lF nl v) 12 4 (sumI (fun k => fPay (itr lF k v) (80 + k) (itr lF k v 12 3)) nl)
def pF : Nat → ((Nat → Nat → Int32) × Int32 × Int32) → ((Nat → Nat → Int32) × Int32 × Int32) := fun g t =>
  let p := imin (t.1 9 g) t.2.1
  let v1 := up2 t.1 10 g p
  (v1, t.2.1 - p, t.2.2 + (v1 9 g - p))
def uPays (ng : Nat) : Nat → Nat → Int32 := up2 (itr pF ng (v, v 0 6 + v 12 4, 0)).1 12 5 (itr pF ng (v, v 0 6 + v 12 4, 0)).2.2
def uTry (ng nh nl : Nat) (sx sy dx dy rad : Int) (F : Int32) (st : Nat) : Nat → Nat → Int32 := uPays (uLayers (uClaims (uBlow v ow gx gy gw gd nh sx sy dx dy rad F st) ng) nl) ng
def tL : Nat → (Nat → Nat → Int32) → (Nat → Nat → Int32) := fun k u =>
  let v1 := up2 u (80 + k) 3 (u (80 + k) 3 - u 11 k)
  up2 v1 (80 + k) 4 (v1 (80 + k) 4 + v1 11 k)
def tG : Nat → (Nat → Nat → Int32) → (Nat → Nat → Int32) := fun g u =>
  let v1 := up2 u (50 + g) 6 (u (50 + g) 6 + u 9 g)
  let v2 := up2 v1 (50 + g) 0 (v1 (50 + g) 0 + v1 10 g)
  let v3 := up2 v2 (50 + g) 7 (v2 (50 + g) 7 + (v2 9 g - v2 10 g))
  up2 v3 0 6 (v3 0 6 - v3 10 g)
def uPool : Nat → Nat → Int32 := up2 v 0 6 (v 0 6 + v 12 4)
def uTake (ng nl ns : Nat) : Nat → Nat → Int32 :=
  let v4 := itr tG ng (uPool (itr tL nl (cpy2 v 7 4 0 0 400)))
  let v5 := cpy2 v4 12 (20 + ns) 0 0 6
  up2 v5 0 7 (nI (ns + 1))
end S3
/-! they keep the shape -/
section KP
variable {v : Nat → Nat → Int32} {ow gx gy gw gd : Nat → Nat}
theorem kp_mkW {h : Nat} : keepD (mkW v gx gy gw gd h) v := kp_itr (fun _ _ _ => kp_itr (fun _ _ _ => kp_up (by unfold depC dep; omega)))
theorem kp_fChg {g : Nat} (hg : g < 6) : keepD (fChg v (50 + g)) v := by
  unfold fChg
  split
  · exact keepD.rf
  · exact kp_up (by unfold depC dep; omega)
theorem kp_uPre {nh g : Nat} (hg : g < 6) : keepD (uPre v nh g) v := (kp_fChg hg).tr ((kp_up (by unfold depC dep; omega)).tr (kp_up (by unfold depC dep; omega)))
theorem kp_uDebt {g : Nat} (hg : g < 6) : keepD (uDebt v g) v := (kp_up (by unfold depC dep; omega)).tr ((kp_up (by unfold depC dep; omega)).tr (kp_up (by unfold depC dep; omega)))
theorem kp_uDebts {ng : Nat} (hg : ng ≤ 6) : keepD (uDebts v ng) v := kp_itr (fun _ _ _ => kp_uDebt (by omega))
theorem kp_uYear0 {ng nl : Nat} (hg : ng ≤ 6) (hl : nl ≤ 6) : keepD (uYear0 v ng nl) v := (kp_itr (fun _ _ _ => kp_up (by unfold depC dep; omega))).tr (kp_itr (fun _ _ _ => kp_up (by unfold depC dep; omega)))
theorem kp_uBegin : keepD (uBegin v) v := (kp_itr (fun _ _ _ => kp_up (by unfold depC dep; omega))).tr ((kp_itr (fun _ _ _ => kp_up (by unfold depC dep; omega))).tr (kp_cpy (by intro k; unfold depC dep; omega)))
theorem kp_uAdd {g : Nat} {x : Int32} : keepD (uAdd v g x) v := (kp_up (by unfold depC dep; omega)).tr (kp_up (by unfold depC dep; omega))
theorem kp_uHit {h c : Nat} {x : Int32} : keepD (uHit v ow h c x) v := by
  unfold uHit
  split
  · exact kp_uAdd.tr ((kp_up (by unfold depC dep; omega)).tr (kp_up (by unfold depC dep; omega)))
  · split
    · exact kp_uAdd.tr ((kp_up (by unfold depC dep; omega)).tr (kp_up (by unfold depC dep; omega)))
    · exact keepD.rf
theorem kp_uHail {rad : Int} {F : Int32} {h : Nat} {X Y : Int} {i j : Nat} : keepD (uHail v ow gx gy rad F h X Y i j) v := by
  unfold uHail
  split
  · exact kp_uHit
  · exact keepD.rf
theorem kp_uHouse {rad : Int} {F : Int32} {h : Nat} {X Y : Int} : keepD (uHouse v ow gx gy gw gd rad F h X Y) v := kp_itr (fun _ _ _ => kp_itr (fun _ _ _ => kp_uHail))
theorem kp_uStep {nh : Nat} {rad : Int} {F : Int32} {X Y : Int} : keepD (uStep v ow gx gy gw gd nh rad F X Y) v := kp_itr (fun _ _ _ => kp_uHouse)
theorem kp_uBlow {nh : Nat} {sx sy dx dy rad : Int} {F : Int32} {st : Nat} : keepD (uBlow v ow gx gy gw gd nh sx sy dx dy rad F st) v := (kp_itr (fun _ _ _ => kp_uStep)).tr kp_uBegin
theorem kp_cF {g : Nat} : keepD (cF g v) v := kp_up (by unfold depC dep; omega)
theorem kp_lF {g : Nat} : keepD (lF g v) v := kp_up (by unfold depC dep; omega)
theorem kp_uClaims {ng : Nat} : keepD (uClaims v ng) v := (kp_up (by unfold depC dep; omega)).tr (kp_itr (fun _ _ _ => kp_cF))
theorem kp_uLayers {nl : Nat} : keepD (uLayers v nl) v := (kp_up (by unfold depC dep; omega)).tr (kp_itr (fun _ _ _ => kp_lF))
theorem kp_pF {t : (Nat → Nat → Int32) × Int32 × Int32} : ∀ {n : Nat}, keepD (itr pF n t).1 t.1
  | 0 => keepD.rf
  | n + 1 => keepD.tr (show keepD (pF n (itr pF n t)).1 (itr pF n t).1 from kp_up (by unfold depC dep; omega)) kp_pF
theorem kp_uPays {ng : Nat} : keepD (uPays v ng) v := (kp_up (by unfold depC dep; omega)).tr (kp_pF (t := (v, v 0 6 + v 12 4, 0)))
theorem kp_uTry {ng nh nl : Nat} {sx sy dx dy rad : Int} {F : Int32} {st : Nat} : keepD (uTry v ow gx gy gw gd ng nh nl sx sy dx dy rad F st) v := kp_uPays.tr (kp_uLayers.tr (kp_uClaims.tr kp_uBlow))
theorem kp_tL {k : Nat} (hk : k < 6) : keepD (tL k v) v := (kp_up (by unfold depC dep; omega)).tr (kp_up (by unfold depC dep; omega))
theorem kp_tG {g : Nat} (hg : g < 6) : keepD (tG g v) v := (kp_up (by unfold depC dep; omega)).tr ((kp_up (by unfold depC dep; omega)).tr ((kp_up (by unfold depC dep; omega)).tr (kp_up (by unfold depC dep; omega))))
theorem kp_uPool : keepD (uPool v) v := kp_up (by unfold depC dep; omega)
end KP
theorem itr_skip {α : Type} {f : Nat → α → α} {a : α} : ∀ {n m : Nat}, n ≤ m → (∀ i u, n ≤ i → i < m → f i u = u) → itr f m a = itr f n a
  | n, 0, h, _ => by rw [Nat.le_zero.mp h]
  | n, m + 1, h, g => by
    rcases Nat.lt_or_ge n (m + 1) with q | q
    · rw [itr_s, g m _ (by omega) (by omega)]
      exact itr_skip (by omega) (fun i u h1 h2 => g i u h1 (by omega))
    · rw [Nat.le_antisymm h q]
/-- a storm's numbers, at role 180 -/
def SI (v : Nat → Nat → Int32) (sx sy dx dy rad : Int) (F : Int32) (st : Nat) : Prop :=
  (v 180 0 = iI sx ∧ v 180 1 = iI sy ∧ v 180 2 = iI dx ∧ v 180 3 = iI dy ∧ v 180 4 = iI rad ∧ v 180 5 = F ∧ v 180 6 = nI st) ∧ (-20 ≤ sx ∧ sx ≤ 39 ∧ -20 ≤ sy ∧ sy ≤ 39 ∧ -3 ≤ dx ∧ dx ≤ 3 ∧ -3 ≤ dy ∧ dy ≤ 3 ∧ 0 ≤ rad ∧ rad ≤ 5 ∧ st ≤ 30)
theorem SI.kp {v u : Nat → Nat → Int32} {sx sy dx dy rad : Int} {F : Int32} {st : Nat} (h : SI v sx sy dx dy rad F st) (k : keepD u v) : SI u sx sy dx dy rad F st := by
  obtain ⟨⟨a1, a2, a3, a4, a5, a6, a7⟩, b⟩ := h
  exact ⟨⟨(k.far (by omega)).trans a1, (k.far (by omega)).trans a2, (k.far (by omega)).trans a3, (k.far (by omega)).trans a4, (k.far (by omega)).trans a5, (k.far (by omega)).trans a6, (k.far (by omega)).trans a7⟩, b⟩
theorem fIn_nat {i n : Nat} (h : i < n) (hn : n < 2 ^ 31) : fIn (nI i) 0 (nI n - 1) = 1 := by
  unfold fIn
  obtain ⟨m, rfl⟩ : ∃ m, n = m + 1 := ⟨n - 1, by omega⟩
  rw [nI_pred]
  exact if_pos ⟨nI_pos' (by omega), nI_le (by omega) (by omega)⟩
theorem iI_abs1 {a b : Int} (a1 : -1000000 < a) (a2 : a < 1000000) (b1 : -1000000 < b) (b2 : b < 1000000) : iabs (iI a - iI b) = iI (dist1 a b) := by
  rw [iI_sub, iI_abs (by omega) (by omega)]
  rfl
theorem dist1_le {a b r : Int} : dist1 a b ≤ r ↔ a - b ≤ r ∧ b - a ≤ r ∧ 0 ≤ r ∨ (a - b ≤ r ∧ b - a ≤ r) := by
  unfold dist1
  split <;> omega
theorem far2_le {x y X Y r : Int} : far2 x y X Y ≤ r ↔ (x - X ≤ r ∧ X - x ≤ r) ∧ (y - Y ≤ r ∧ Y - y ≤ r) := by
  unfold far2 dist1
  split <;> split <;> omega
