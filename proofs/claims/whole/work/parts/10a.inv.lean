/-! what holds between two calls of the law -/
/-- which roles there are -/
def LX (L : List Nat) (ng nh nl : Nat) : Prop := (∀ i, ng ≤ i → i < 6 → 50 + i ∉ L) ∧ (∀ i, nh ≤ i → i < 12 → 60 + i ∉ L) ∧ (∀ i, nl ≤ i → i < 6 → 80 + i ∉ L) ∧ (ng = 0 → 13 ∉ L) ∧ (nh = 0 → 14 ∉ L) ∧ (nl = 0 → 15 ∉ L) ∧ (nh ≤ 10 → 16 ∉ L) ∧ 170 ∈ L ∧ (∀ r, 180 ≤ r → r ∉ L)
def INV (td : Nat) (n : Int) (L : List Nat) (ad : Nat → Nat) (v : Nat → Nat → Int32) (o : Nat → Nat → Option Nat) (ng nh nl ns : Nat) (ow gx gy gw gd : Nat → Nat) : Prop :=
  PI td L ad v o ng nh nl ns ow gx gy gw gd ∧ PJ L ad v o 101 110 ng nh nl ns ow gx gy gw gd ∧ (o 100 1 = some (ad 101) ∧ o 100 2 = some (ad 102) ∧ PQ L ad o 102 140) ∧ LX L ng nh nl ∧
  RVl ow gx gy gw gd ng nh nl ns 101 110 v v ∧ ZB ng nh v ∧ BN ng nl n v ∧ GDj gx gy gw gd nh ∧ (∀ h, h < nh → (v (60 + h) 7 = 0 ∨ v (60 + h) 7 = 1) ∧ ∃ m : Nat, 1 ≤ m ∧ m ≤ 1000 ∧ v (60 + h) 6 = nI m)
section IV
variable {td : Nat} {n : Int} {L : List Nat} {ad : Nat → Nat} {v : Nat → Nat → Int32} {o : Nat → Nat → Option Nat} {ng nh nl ns : Nat} {ow gx gy gw gd : Nat → Nat}
theorem PI.z (h : PI td L ad v o ng nh nl ns ow gx gy gw gd) : GSz ow gx gy gw gd ng nh := fun i hi => (h.hs i hi).1
theorem INV.hx (hI : PI td L ad v o ng nh nl ns ow gx gy gw gd) (hJ : PJ L ad v o 101 110 ng nh nl ns ow gx gy gw gd) : HXw ow gx gy gw gd nh v v := fun h hh => ⟨(hI.hs h hh).2, (hJ.hs h hh).2⟩
theorem INV.vb (h : INV td n L ad v o ng nh nl ns ow gx gy gw gd) : VB gw gd nh v := fun i hi => by
  obtain ⟨hI, hJ, hO, hL, hR, hz, hB, hD, hv⟩ := h
  exact ⟨(hv i hi).2, (hI.hs i hi).2.2.2.2.1, (hI.hs i hi).2.2.2.2.2⟩
theorem INV.n01 (h : INV td n L ad v o ng nh nl ns ow gx gy gw gd) : ∀ i, i < 12 → v 118 i = 0 ∨ v 118 i = 1 := fun i hi => by
  obtain ⟨hI, hJ, hO, hL, hR, hz, hB, hD, hv⟩ := h
  rcases Nat.lt_or_ge i nh with c | c
  · have := (hR.2.1 i c).2.2.1
    rw [show v 118 i = v (110 + 8) i from rfl, ← this]
    exact (hv i c).1
  · exact Or.inl (hz.2.2 i c)
end IV
