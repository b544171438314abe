/-! an int within bounds, in the form that the contracts take -/
section FM
theorem fIn_both {a b c : Int32} (h : fIn a b c = 1) : b ≤ a ∧ a ≤ c := by
  unfold fIn at h
  split at h
  · rename_i q; exact q
  · exact absurd h (by decide)
theorem ii_of (a : Int32) : a = iI a.toInt := (Int32.ofInt_toInt a).symm
/-- a number of something that there are n of -/
theorem in_nat {a : Int32} {n : Nat} (hn : n < 1000) (h : fIn a 0 (nI n - 1) = 1) : ∃ i : Nat, a = nI i ∧ i < n := by
  obtain ⟨h1, h2⟩ := fIn_both h
  have q1 := Int32.le_iff_toInt_le.mp h1
  have q2 := Int32.le_iff_toInt_le.mp h2
  have e : (nI n - 1).toInt = (n : Int) - 1 := by
    have t := nI_ti (m := n) (by omega)
    have o1 : (1 : Int32).toInt = 1 := by decide
    rw [ti_sub (by rw [t, o1]; omega) (by rw [t, o1]; omega), t, o1]
  rw [e] at q2
  rw [show (0 : Int32).toInt = 0 from rfl] at q1
  refine ⟨a.toInt.toNat, ?_, by omega⟩
  rw [← iI_n, show ((a.toInt.toNat : Nat) : Int) = a.toInt by omega]
  exact ii_of a
/-- a number between two given ones -/
theorem in_int {a : Int32} {b c : Int} (hb : -2147483648 ≤ b) (hb2 : b < 2147483648) (hc : -2147483648 ≤ c) (hc2 : c < 2147483648) (h : fIn a (iI b) (iI c) = 1) : ∃ i : Int, a = iI i ∧ b ≤ i ∧ i ≤ c := by
  obtain ⟨h1, h2⟩ := fIn_both h
  have q1 := Int32.le_iff_toInt_le.mp h1
  have q2 := Int32.le_iff_toInt_le.mp h2
  rw [iI_toInt hb hb2] at q1
  rw [iI_toInt hc hc2] at q2
  exact ⟨a.toInt, ii_of a, q1, q2⟩
end FM
