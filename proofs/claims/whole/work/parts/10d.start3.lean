/-! the first world holds what holds between two calls -/
section SV
variable {td : Nat} {L : List Nat} {ad : Nat → Nat} {v : Nat → Nat → Int32} {o : Nat → Nat → Option Nat} {ow gx gy gw gd : Nat → Nat}
theorem start_INV (h13 : ∀ r, r < 13 → r ∈ L) (h20 : ∀ i, i < 30 → 20 + i ∈ L) (hX : FO foX ad o) (htd : ad 9999 = td) (hm : 100 ∈ L ∧ 101 ∈ L ∧ 102 ∈ L ∧ (∀ k, arrF k = true → 110 + k ∈ L) ∧ (∀ k, arrF k = true → 140 + k ∈ L)) (hY : FO foY ad o) (hv : ∀ r k, r ≠ 4 → v r k = 0) (h4 : ∀ c, c < 400 → v 4 c = -1) (hL : LX L 0 0 0) : INV td 0 L ad v o 0 0 0 0 ow gx gy gw gd := by
  obtain ⟨m0, m1, m2, m3, m4⟩ := hm
  have q1 := start_PQ (S := 101) (B := 110) (Or.inl ⟨rfl, rfl⟩) ⟨m0, m1, m3⟩ hY
  have q2 := start_PQ (S := 102) (B := 140) (Or.inr ⟨rfl, rfl⟩) ⟨m0, m2, m4⟩ hY
  exact ⟨start_PI h13 h20 hX htd hv, start_PJ q1 hv, ⟨hY (100, 1, 101) (by decide), hY (100, 2, 102) (by decide), q2⟩, hL, start_RVl hv h4, start_ZB hv, BN.start hv, fun h k h' k' a => absurd a (by omega), fun h hh => absurd hh (by omega)⟩
end SV
