/-! the first world: the reference -/
section SU
variable {L : List Nat} {ad : Nat → Nat} {v : Nat → Nat → Int32} {o : Nat → Nat → Option Nat} {ow gx gy gw gd : Nat → Nat}
def foY : List (Nat × Nat × Nat) := [(101, 1, 111), (101, 2, 112), (101, 3, 113), (101, 4, 114), (101, 5, 115), (101, 7, 117), (101, 8, 118), (101, 9, 119), (101, 12, 122), (101, 14, 124), (101, 16, 126), (101, 17, 127), (101, 18, 128), (100, 1, 101), (102, 1, 141), (102, 2, 142), (102, 3, 143), (102, 4, 144), (102, 5, 145), (102, 7, 147), (102, 8, 148), (102, 9, 149), (102, 12, 152), (102, 14, 154), (102, 16, 156), (102, 17, 157), (102, 18, 158), (100, 2, 102)]
theorem arr_in {k : Nat} (h : arrF k = true) : k = 1 ∨ k = 2 ∨ k = 3 ∨ k = 4 ∨ k = 5 ∨ k = 7 ∨ k = 8 ∨ k = 9 ∨ k = 12 ∨ k = 14 ∨ k = 16 ∨ k = 17 ∨ k = 18 := by
  unfold arrF at h
  simp only [Bool.or_eq_true, beq_iff_eq] at h
  omega
theorem start_PQ {S B : Nat} (hSB : SB S B) (hm : 100 ∈ L ∧ S ∈ L ∧ ∀ k, arrF k = true → B + k ∈ L) (hF : FO foY ad o) : PQ L ad o S B := by
  refine ⟨hSB, hm.1, hm.2.1, fun k hk => ⟨hm.2.2 k hk, ?_⟩⟩
  have hk2 := arr_in hk
  rcases hSB with ⟨rfl, rfl⟩ | ⟨rfl, rfl⟩
  · exact hF (101, k, 110 + k) (by rcases hk2 with rfl | rfl | rfl | rfl | rfl | rfl | rfl | rfl | rfl | rfl | rfl | rfl | rfl <;> decide)
  · exact hF (102, k, 140 + k) (by rcases hk2 with rfl | rfl | rfl | rfl | rfl | rfl | rfl | rfl | rfl | rfl | rfl | rfl | rfl <;> decide)
theorem start_PJ (hq : PQ L ad o 101 110) (hv : ∀ r k, r ≠ 4 → v r k = 0) : PJ L ad v o 101 110 0 0 0 0 ow gx gy gw gd :=
  ⟨hq, ⟨by omega, by omega, by omega, by omega⟩, ⟨hv _ _ (by omega), hv _ _ (by omega), hv _ _ (by omega), hv _ _ (by omega)⟩, fun h hh => absurd hh (by omega)⟩
theorem start_RVl (hv : ∀ r k, r ≠ 4 → v r k = 0) (h4 : ∀ c, c < 400 → v 4 c = -1) : RVl ow gx gy gw gd 0 0 0 0 101 110 v v :=
  ⟨fun g hg => absurd hg (by omega), fun h hh => absurd hh (by omega), fun l hl => absurd hl (by omega), fun h k hh => absurd hh (by omega), (hv _ _ (by omega)).trans (hv _ _ (by omega)).symm, (hv _ _ (by omega)).trans (hv _ _ (by omega)).symm, fun s hs => absurd hs (by omega), fun c hc => h4 c hc.1⟩
theorem start_ZB (hv : ∀ r k, r ≠ 4 → v r k = 0) : ZB 0 0 v := ⟨fun g _ _ => ⟨hv _ _ (by omega), hv _ _ (by omega), hv _ _ (by omega), hv _ _ (by omega), hv _ _ (by omega)⟩, fun j _ => hv _ _ (by omega), fun h _ => hv _ _ (by omega)⟩
end SU
