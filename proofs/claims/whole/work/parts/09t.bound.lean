/-! how large the coins can be -/
section BN9
variable {ow gx gy gw gd : Nat → Nat} {ng nh nl ns : Nat} {n : Int} {x x' : Nat → Nat → Int32}
def BG (n : Int) (f : Nat → Int32) : Prop := 0 ≤ (f 0).toInt ∧ 0 ≤ (f 7).toInt ∧ (f 0).toInt + (f 7).toInt ≤ 1000000 + 100000 * n ∧ 0 ≤ (f 6).toInt ∧ (f 6).toInt ≤ 100000 ∧ 0 ≤ (f 3).toInt ∧ (f 3).toInt ≤ 100000 ∧ 0 ≤ (f 4).toInt ∧ (f 4).toInt ≤ 100 ∧ 0 ≤ (f 5).toInt ∧ (f 5).toInt ≤ 200
def BL (f : Nat → Int32) : Prop := 0 ≤ (f 1).toInt ∧ (f 1).toInt ≤ 100000 ∧ 0 ≤ (f 2).toInt ∧ (f 2).toInt ≤ 100 ∧ 0 ≤ (f 3).toInt
def BN (ng nl : Nat) (n : Int) (x : Nat → Nat → Int32) : Prop := (0 ≤ (x 0 6).toInt ∧ (x 0 6).toInt ≤ 1000000 * n) ∧ (∀ g, g < ng → BG n (x (50 + g))) ∧ (∀ l, l < nl → BL (x (80 + l)))
theorem BG.mono {m : Int} {f : Nat → Int32} (h : BG n f) (hm : n ≤ m) : BG m f := by
  obtain ⟨a, b, c, d⟩ := h
  exact ⟨a, b, by omega, d⟩
theorem BN.mono {m : Int} (h : BN ng nl n x) (hm : n ≤ m) : BN ng nl m x := ⟨⟨h.1.1, by have := h.1.2; omega⟩, fun g hg => (h.2.1 g hg).mono hm, h.2.2⟩
/-- a claim -/
theorem claim_b {d : Int32} {r : Nat} (h : BG n (x r)) : 0 ≤ (fClaim x r d).toInt ∧ (fClaim x r d).toInt ≤ 100000 ∧ (x r 6).toInt + (fClaim x r d).toInt ≤ 100000 := by
  obtain ⟨a0, a7, a07, a6, b6, a3, b3, _⟩ := h
  unfold fClaim
  split
  · rw [show (0 : Int32).toInt = 0 from rfl]; omega
  · rw [ti_imax, ti_imin, ti_sub (a := x r 3) (b := x r 6) (by omega) (by omega), show (0 : Int32).toInt = 0 from rfl]
    omega
/-- a layer's payment -/
theorem layer_b {c : Int32} {r : Nat} (h : BL (x r)) : 0 ≤ (fPay x r c).toInt ∧ (fPay x r c).toInt ≤ 100000 ∧ (fPay x r c).toInt ≤ (x r 3).toInt := by
  obtain ⟨a1, b1, a2, b2, a3⟩ := h
  unfold fPay
  have e1 : 0 ≤ (imin (imax 0 (c - x r 0)) (x r 1)).toInt ∧ (imin (imax 0 (c - x r 0)) (x r 1)).toInt ≤ 100000 := by
    rw [ti_imin, ti_imax, show (0 : Int32).toInt = 0 from rfl]; omega
  generalize imin (imax 0 (c - x r 0)) (x r 1) = q at e1
  have m0 : 0 ≤ q.toInt * (x r 2).toInt := Int.mul_nonneg e1.1 a2
  have m1 : q.toInt * (x r 2).toInt ≤ 100000 * 100 := Int.mul_le_mul e1.2 b2 a2 (by omega)
  have e2 : (q * x r 2).toInt = q.toInt * (x r 2).toInt := ti_mul (by omega) (by omega)
  have e3 : (q * x r 2 / 100).toInt = q.toInt * (x r 2).toInt / 100 := by
    rw [Int32.toInt_div, e2, show (100 : Int32).toInt = 100 from by decide, Int.tdiv_eq_ediv_of_nonneg m0]
    exact Int.bmod_eq_of_le (by omega) (by omega)
  rw [ti_imin, e3]
  omega
/-- a premium -/
theorem prem_b {d : Int32} {r : Nat} (h : BG n (x r)) (d0 : 0 ≤ d.toInt) (d1 : d.toInt ≤ 432000) : 0 ≤ (fPrem x r d).toInt ∧ (fPrem x r d).toInt ≤ 100000 ∧ (fPrem x r d).toInt ≤ (x r 0).toInt := by
  obtain ⟨a0, a7, a07, a6, b6, a3, b3, a4, b4, a5, b5⟩ := h
  unfold fPrem
  split
  · rw [show (0 : Int32).toInt = 0 from rfl]; omega
  · have m0 : 0 ≤ d.toInt * (x r 4).toInt := Int.mul_nonneg d0 a4
    have m1 : d.toInt * (x r 4).toInt ≤ 432000 * 100 := Int.mul_le_mul d1 b4 a4 (by omega)
    have e2 : (d * x r 4).toInt = d.toInt * (x r 4).toInt := ti_mul (by omega) (by omega)
    have e3 : (d * x r 4 / 1000).toInt = d.toInt * (x r 4).toInt / 1000 := by
      rw [Int32.toInt_div, e2, show (1000 : Int32).toInt = 1000 from by decide, Int.tdiv_eq_ediv_of_nonneg m0]
      exact Int.bmod_eq_of_le (by omega) (by omega)
    generalize d * x r 4 / 1000 = q at e3
    have q0 : 0 ≤ q.toInt := by omega
    have q1 : q.toInt ≤ 43200 := by omega
    have m2 : 0 ≤ q.toInt * (x r 5).toInt := Int.mul_nonneg q0 a5
    have m3 : q.toInt * (x r 5).toInt ≤ 43200 * 200 := Int.mul_le_mul q1 b5 a5 (by omega)
    have e4 : (q * x r 5).toInt = q.toInt * (x r 5).toInt := ti_mul (by omega) (by omega)
    have e5 : (q * x r 5 / 100).toInt = q.toInt * (x r 5).toInt / 100 := by
      rw [Int32.toInt_div, e4, show (100 : Int32).toInt = 100 from by decide, Int.tdiv_eq_ediv_of_nonneg m2]
      exact Int.bmod_eq_of_le (by omega) (by omega)
    rw [ti_imin, e5]
    omega
theorem sum_b {f : Nat → Int32} {c : Int} (hc : 0 ≤ c) (hc2 : c ≤ 10000000) : ∀ {m : Nat}, m ≤ 40 → (∀ i, i < m → 0 ≤ (f i).toInt ∧ (f i).toInt ≤ c) → 0 ≤ (sumI f m).toInt ∧ (sumI f m).toInt ≤ c * m
  | 0, _, _ => by rw [sumI_0, show (0 : Int32).toInt = 0 from rfl]; omega
  | m + 1, hm, h => by
    obtain ⟨a, b⟩ := sum_b (f := f) hc hc2 (m := m) (by omega) (fun i hi => h i (by omega))
    obtain ⟨p, q⟩ := h m (by omega)
    have hcm : c * ((m + 1 : Nat) : Int) = c * (m : Int) + c := by rw [Int.natCast_add, Int.mul_add]; omega
    have hle : c * (m : Int) ≤ 10000000 * 40 := Int.mul_le_mul hc2 (by omega) (by omega) (by omega)
    rw [sumI_s, ti_add (m := (sumI f m).toInt + (f m).toInt) (by omega) (by omega) rfl, hcm]
    omega
end BN9
