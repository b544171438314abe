/-! the first world: class and reference have nothing yet -/
section ST
variable {td : Nat} {L : List Nat} {ad : Nat → Nat} {v : Nat → Nat → Int32} {o : Nat → Nat → Option Nat} {ow gx gy gw gd : Nat → Nat}
def foX : List (Nat × Nat × Nat) := [(1, 1, 9999), (0, 0, 1), (2, 1, 9999), (0, 1, 2), (3, 1, 9999), (0, 2, 3), (0, 3, 4)] ++ (List.range 30).map (fun i => (5, i, 20 + i)) ++ [(0, 4, 5), (6, 0, 7), (6, 1, 8), (6, 2, 9), (6, 3, 10), (6, 4, 11), (6, 5, 12), (0, 5, 6)]
theorem start_PI (h13 : ∀ r, r < 13 → r ∈ L) (h20 : ∀ i, i < 30 → 20 + i ∈ L) (hF : FO foX ad o) (htd : ad 9999 = td) (hv : ∀ r k, r ≠ 4 → v r k = 0) : PI td L ad v o 0 0 0 0 ow gx gy gw gd := by
  have li : ∀ lr A Bb base, lr < 4 → 0 < lr → kd lr = 0 → kd A = 11 → kd Bb = 11 → ln A = 10 → ln Bb = 15 → A < 20 → Bb < 20 → (lr, 1, 9999) ∈ foX → LI L ad v o td lr 0 A Bb base := fun lr A Bb base a b c d e f g a2 b2 h => ⟨h13 _ (by omega), c, hv _ _ (by omega), by omega, fun i hi => absurd hi (by omega), d, e, f, g, fun r hr => by omega, Or.inl ⟨rfl, by rw [← htd]; exact hF _ h⟩⟩
  refine ⟨h13, h20, fun k hk => ?_, fun k hk => ?_, fun i hi => ?_, li 1 13 19 50 (by omega) (by omega) rfl rfl rfl rfl rfl (by omega) (by omega) (by decide), li 2 14 16 60 (by omega) (by omega) rfl rfl rfl rfl rfl (by omega) (by omega) (by decide), li 3 15 17 80 (by omega) (by omega) rfl rfl rfl rfl rfl (by omega) (by omega) (by decide), by omega, by omega, by omega, hv _ _ (by omega), by omega, fun h hh => absurd hh (by omega)⟩
  · exact hF (0, k, k + 1) (by rcases (show k = 0 ∨ k = 1 ∨ k = 2 ∨ k = 3 ∨ k = 4 ∨ k = 5 by omega) with rfl | rfl | rfl | rfl | rfl | rfl <;> decide)
  · exact hF (6, k, 7 + k) (by rcases (show k = 0 ∨ k = 1 ∨ k = 2 ∨ k = 3 ∨ k = 4 ∨ k = 5 by omega) with rfl | rfl | rfl | rfl | rfl | rfl <;> decide)
  · exact hF (5, i, 20 + i) (List.mem_append_left _ (List.mem_append_right _ (List.mem_map.mpr ⟨i, List.mem_range.mpr hi, rfl⟩)))
end ST
