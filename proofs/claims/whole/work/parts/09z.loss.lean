/-! loss: class and reference -/
section LZ
variable {ow gx gy gw gd : Nat → Nat} {ng nh nl ns : Nat} {x y : Nat → Nat → Int32}
theorem hVal_b {h : Nat} (hZ : GSz ow gx gy gw gd ng nh) (hV : VB gw gd nh x) (hh : h < nh) : 1 ≤ (hVal x h).toInt ∧ (hVal x h).toInt ≤ 36000 := by
  obtain ⟨⟨m, m1, m2, e6⟩, e3, e4⟩ := hV h hh
  obtain ⟨_, _, _, w1, w2, d1, d2⟩ := hZ h hh
  have hm := hZ.m hh
  have hmul : gw h * gd h * m ≤ 36 * 1000 := Nat.mul_le_mul hm m2
  have hpos : 1 * 1 * 1 ≤ gw h * gd h * m := Nat.mul_le_mul (Nat.mul_le_mul w1 d1) m1
  have eV : (hVal x h).toInt = ((gw h * gd h * m : Nat) : Int) := by
    unfold hVal
    rw [e3, e4, e6, pk_mul, pk_mul]
    exact nI_ti (by omega)
  rw [eV]
  omega
theorem aVals_eq (hR : SCo ow nh 110 x y) (hV : VB gw gd nh x) : aVals x nh = rVals y 110 gw gd nh (-1) := by
  unfold aVals rVals hVal
  exact sumI_congr (fun h hh => by
    obtain ⟨_, b, _, _⟩ := hR h hh
    obtain ⟨_, e3, e4⟩ := hV h hh
    rw [if_pos (Or.inl rfl), e3, e4, b, pk_mul])
theorem aVals_ne (hZ : GSz ow gx gy gw gd ng nh) (hn : nh ≤ 12) (hV : VB gw gd nh x) (h0 : nh ≠ 0) : aVals x nh ≠ 0 := fun e => by
  obtain ⟨m, rfl⟩ : ∃ m, nh = m + 1 := ⟨nh - 1, by omega⟩
  have sb := sum_b (f := fun h => hVal x h) (c := 36000) (by omega) (by omega) (m := m) (by omega) (fun i hi => by
    have := hVal_b hZ hV (h := i) (by omega)
    show 0 ≤ (hVal x i).toInt ∧ _
    omega)
  have hb := hVal_b hZ hV (h := m) (by omega)
  have e2 : (aVals x (m + 1)).toInt = (sumI (fun h => hVal x h) m).toInt + (hVal x m).toInt := by
    unfold aVals
    rw [sumI_s]
    exact ti_add (by omega) (by omega) rfl
  rw [e, show (0 : Int32).toInt = 0 from rfl] at e2
  omega
theorem loss_eq (hZ : GSz ow gx gy gw gd ng nh) (hn : nh ≤ 12) (hR : RVl ow gx gy gw gd ng nh nl ns 101 110 x y) (hV : VB gw gd nh x) :
    (if aVals x nh = 0 then FP.dconst0 else dQ (aLost x gx gy gw gd nh) (aVals x nh)) = (if nh = 0 then FP.dconst0 else dQ (rBy y 110 gw gd nh (-1)) (rVals y 110 gw gd nh (-1))) ∧ (nh ≠ 0 → rVals y 110 gw gd nh (-1) ≠ 0) := by
  have e := aVals_eq hR.2.1 hV
  refine ⟨?_, fun h0 q => aVals_ne hZ hn hV h0 (e.trans q)⟩
  by_cases h0 : nh = 0
  · rw [if_pos h0, if_pos]
    rw [h0]; rfl
  · rw [if_neg h0, if_neg (aVals_ne hZ hn hV h0), e, aLost_eq hR.2.2.2.1 hR.2.1]
end LZ
