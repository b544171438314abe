/-! ONE CALL OF THE LAW: the class by its helper, then the reference -/
def INVe (td : Nat) (n : Int) (L : List Nat) (ad : Nat → Nat) (v : Nat → Nat → Int32) (o : Nat → Nat → Option Nat) : Prop := ∃ (ng nh nl ns : Nat) (ow gx gy gw gd : Nat → Nat), INV td n L ad v o ng nh nl ns ow gx gy gw gd
/-- a call's room -/
def rmK (rm : Room) : Prop := rm.frames ≤ 12 ∧ rm.cells ≤ 80 ∧ rm.slots ≤ 800 ∧ rm.locals ≤ 400
theorem rmK_ok {rm : Room} (h : (Nat.ble rm.frames 12 && Nat.ble rm.cells 80 && Nat.ble rm.slots 800 && Nat.ble rm.locals 400) = true) : rmK rm := by
  simp only [Bool.and_eq_true] at h
  exact ⟨Nat.le_of_ble_eq_true h.1.1.1, Nat.le_of_ble_eq_true h.1.1.2, Nat.le_of_ble_eq_true h.1.2, Nat.le_of_ble_eq_true h.2⟩
/-- the reference's half, at the world that the class left; k: what the helper said -/
def StB (l : Launch) (G : GG) (n : Int) (L : List Nat) (ad : Nat → Nat) (yM : MethodName) (bM : ByteArray) (mM : Nat) (rt : FieldType) (AM : List Value) (f : Int32 → Int64) (k : Int32) (P : PL) : Prop :=
  (∀ r, r ∈ L → r ∈ P.1.1 ∧ P.1.2.1 r = ad r) ∧ ∃ (rm : Room) (post : Int32 → (Nat → Nat → Int32) → Prop), rmK rm ∧ CtI l G P.1.1 P.1.2.1 P.1.2.2.1 P.1.2.2.2 P.2 yM bM mM rt rm AM post ∧ ∀ b u, post b u → u 100 0 = k ∧ (k = 0 → P.2 0 = f b) ∧ INVe G.2.2.2 (n + 1) P.1.1 P.1.2.1 u P.1.2.2.2
def StA (l : Launch) (G : GG) (n : Int) (L : List Nat) (ad : Nat → Nat) (v : Nat → Nat → Int32) (o : Nat → Nat → Option Nat) (w : Nat → Int64) (yH : MethodName) (bH : ByteArray) (mH : Nat) (hh : List (Nat × Nat × Nat × Nat)) (AH : List Value) (yM : MethodName) (bM : ByteArray) (mM : Nat) (rt : FieldType) (AM : List Value) (f : Int32 → Int64) : Prop :=
  ∃ (rm : Room) (post : Int32 → PL → Prop), rmK rm ∧ CtH l G L ad v o w yH bH mH hh rm AH post ∧ ∀ k P, post k P → StB l G n L ad yM bM mM rt AM f k P
section CA
variable {l : Launch} {G : GG} {n : Int} {L : List Nat} {ad : Nat → Nat} {v : Nat → Nat → Int32} {o : Nat → Nat → Option Nat} {w : Nat → Int64} {yH : MethodName} {bH : ByteArray} {mH : Nat} {hh : List (Nat × Nat × Nat × Nat)} {AH : List Value} {yM : MethodName} {bM : ByteArray} {mM : Nat} {rt : FieldType} {AM : List Value} {f : Int32 → Int64}
variable {td ng nh nl ns : Nat} {ow gx gy gw gd : Nat → Nat}
theorem INV.p (h : INV td n L ad v o ng nh nl ns ow gx gy gw gd) : PI td L ad v o ng nh nl ns ow gx gy gw gd := h.1
theorem INV.j (h : INV td n L ad v o ng nh nl ns ow gx gy gw gd) : PJ L ad v o 101 110 ng nh nl ns ow gx gy gw gd := h.2.1
theorem INV.o1 (h : INV td n L ad v o ng nh nl ns ow gx gy gw gd) : o 100 1 = some (ad 101) := h.2.2.1.1
theorem INV.o2 (h : INV td n L ad v o ng nh nl ns ow gx gy gw gd) : o 100 2 = some (ad 102) := h.2.2.1.2.1
theorem INV.q2 (h : INV td n L ad v o ng nh nl ns ow gx gy gw gd) : PQ L ad o 102 140 := h.2.2.1.2.2
theorem INV.x (h : INV td n L ad v o ng nh nl ns ow gx gy gw gd) : LX L ng nh nl := h.2.2.2.1
theorem INV.r (h : INV td n L ad v o ng nh nl ns ow gx gy gw gd) : RVl ow gx gy gw gd ng nh nl ns 101 110 v v := h.2.2.2.2.1
theorem INV.zb (h : INV td n L ad v o ng nh nl ns ow gx gy gw gd) : ZB ng nh v := h.2.2.2.2.2.1
theorem INV.bn (h : INV td n L ad v o ng nh nl ns ow gx gy gw gd) : BN ng nl n v := h.2.2.2.2.2.2.1
theorem INV.dj (h : INV td n L ad v o ng nh nl ns ow gx gy gw gd) : GDj gx gy gw gd nh := h.2.2.2.2.2.2.2.1
theorem INV.hv (h : INV td n L ad v o ng nh nl ns ow gx gy gw gd) : ∀ i, i < nh → (v (60 + i) 7 = 0 ∨ v (60 + i) 7 = 1) ∧ ∃ m : Nat, 1 ≤ m ∧ m ≤ 1000 ∧ v (60 + i) 6 = nI m := h.2.2.2.2.2.2.2.2
theorem INV.m0 (h : INV td n L ad v o ng nh nl ns ow gx gy gw gd) : 0 ∈ L := h.p.c 0 (by decide)
theorem INV.m170 (h : INV td n L ad v o ng nh nl ns ow gx gy gw gd) : 170 ∈ L := h.x.2.2.2.2.2.2.2.1
theorem INV.m100 (h : INV td n L ad v o ng nh nl ns ow gx gy gw gd) : 100 ∈ L := h.j.q.m0
theorem INV.hi (h : INV td n L ad v o ng nh nl ns ow gx gy gw gd) : ∀ r, 180 ≤ r → r ∉ L := h.x.2.2.2.2.2.2.2.2
/-- the relation, the reference's ints with the mark set -/
theorem INV.rtz (h : INV td n L ad v o ng nh nl ns ow gx gy gw gd) {k : Nat} {z : Int32} : RVl ow gx gy gw gd ng nh nl ns 101 110 v (up2 v 100 k z) := h.r.congr h.p.g6 h.p.h12 h.p.l6 h.p.s30 (fun _ _ _ _ => rfl) (fun r _ _ _ => up2_r (by omega))
theorem INV.xtz (h : INV td n L ad v o ng nh nl ns ow gx gy gw gd) {k : Nat} {z : Int32} : HXw ow gx gy gw gd nh v (up2 v 100 k z) := fun i hi => by
  have e : ∀ j, up2 v 100 k z 117 j = v 117 j := fun j => up2_r (by omega)
  rw [e, e, e, e, e]
  exact INV.hx h.p h.j i hi
theorem INV.more {m : Int} (h : INV td n L ad v o ng nh nl ns ow gx gy gw gd) (hm : n ≤ m) : INV td m L ad v o ng nh nl ns ow gx gy gw gd := by
  obtain ⟨hI, hJ, hO, hL, hR, hz, hB, hD, hv⟩ := h
  exact ⟨hI, hJ, hO, hL, hR, hz, hB.mono hm, hD, hv⟩
theorem INV.t (h : INV td n L ad v o ng nh nl ns ow gx gy gw gd) {k : Nat} {z : Int32} : INV td n L ad (up2 v 100 k z) o ng nh nl ns ow gx gy gw gd := h.same (fun r _ _ _ => up2_r (by omega)) (fun r _ _ _ _ => up2_r (by omega))
theorem INV.e (h : INV td (n + 1) L ad v o ng nh nl ns ow gx gy gw gd) : INVe td (n + 1) L ad v o := ⟨ng, nh, nl, ns, ow, gx, gy, gw, gd, h⟩
/-- nothing but the mark changed -/
theorem INV.te (h : INV td n L ad v o ng nh nl ns ow gx gy gw gd) : INVe td (n + 1) L ad (tz v) o := (h.t.more (by omega)).e
theorem hk_same {Z : Int32 → (Nat → Nat → Int32) → Prop} (h : 170 ∈ L) : ∀ (r : Int32) (P : PW), (∃ u, P = (L, ad, u, o) ∧ Z r u) → 170 ∈ P.1 ∧ P.2.1 170 = ad 170 := fun r P hp => by
  obtain ⟨u, rfl, -⟩ := hp
  exact ⟨h, rfl⟩
/-- both refuse -/
theorem StA.no {rm rmM : Room} (hrm : rmK rm) (hrmM : rmK rmM) (hI : INV G.2.2.2 n L ad v o ng nh nl ns ow gx gy gw gd) {kk : Int32} (hk : kk ≠ 0) (hH : CtH l G L ad v o w yH bH mH hh rm AH (fun k P => k = kk ∧ P = ((L, ad, v, o), w))) (hM : CtI l G L ad v o w yM bM mM rt rmM AM (fun r u => r = 0 ∧ u = up2 (tz v) 100 0 kk)) : StA l G n L ad v o w yH bH mH hh AH yM bM mM rt AM f :=
  ⟨rm, _, hrm, hH, fun k P h => by
    obtain ⟨rfl, rfl⟩ := h
    exact ⟨fun r hr => ⟨hr, rfl⟩, rmM, _, hrmM, hM, fun b u hu => by
      obtain ⟨rfl, rfl⟩ := hu
      exact ⟨up2_s, fun q => absurd q hk, (hI.t.t.more (by omega)).e⟩⟩⟩
/-- both answer, the world's shape as it was -/
theorem StA.yes {rm rmM : Room} {uX uM : Nat → Nat → Int32} {rX rM : Int32} {g : Int32 → Int64} (hrm : rmK rm) (hrmM : rmK rmM)
    (hH : CtH l G L ad v o w yH bH mH hh rm AH (fun k P => k = 0 ∧ ∃ r1, (∃ u, P.1 = (L, ad, u, o) ∧ (r1 = rX ∧ u = uX)) ∧ P.2 = vp_updL w 0 (g r1)))
    (hM : ∀ w, CtI l G L ad uX o w yM bM mM rt rmM AM (fun r u => r = rM ∧ u = uM)) (hz : uM 100 0 = 0) (hr : g rX = f rM) (hI : INVe G.2.2.2 (n + 1) L ad uM o) : StA l G n L ad v o w yH bH mH hh AH yM bM mM rt AM f :=
  ⟨rm, _, hrm, hH, fun k P h => by
    obtain ⟨P1, P2⟩ := P
    obtain ⟨rfl, r1, ⟨u, hP1, rfl, rfl⟩, hP2⟩ := h
    dsimp only at hP1 hP2
    subst hP1 hP2
    exact ⟨fun r hr => ⟨hr, rfl⟩, rmM, _, hrmM, hM _, fun b u hu => by
      obtain ⟨rfl, rfl⟩ := hu
      exact ⟨hz, fun _ => (show vp_updL w 0 (g r1) 0 = f b from (if_pos rfl).trans hr), hI⟩⟩⟩
end CA
theorem in_nat' {a b : Int32} {n : Nat} (hn : n < 1000) (hb : b = nI n - 1) (h : fIn a 0 b = 1) : ∃ i : Nat, a = nI i ∧ i < n := in_nat hn (by rw [← hb]; exact h)
theorem fIn_n {a b c : Int32} (h : ¬ fIn a b c = 1) : fIn a b c = 0 := fIn_01.resolve_right h
