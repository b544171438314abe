/-! .. and under the small changes -/
section ZS
variable {ow gx gy gw gd : Nat → Nat} {ng nh nl ns : Nat} {y : Nat → Nat → Int32}
theorem ZB.mend {h : Nat} {c : Int32} (hz : ZB ng nh y) (hZ : GSz ow gx gy gw gd ng nh) (hh : h < nh) : ZB ng nh (itr (fun k u => up2 u 119 (36 * h + k) 0) (gw h * gd h) (up2 y 111 (ow h) c)) := hz.congr (fun r k hr => by
  have := hZ.m hh
  rw [put_out (p := fun k => 36 * h + k) (fun e j hj q => by have q : 36 * h + j = k := q; omega), up2_at, if_neg (by omega)])
theorem ZB.net {h : Nat} {z : Int32} (hz : ZB ng nh y) (hh : h < nh) : ZB ng nh (up2 y 118 h z) := hz.congr (fun r k hr => by rw [up2_at, if_neg (by omega)])
theorem ZB.fund {z : Int32} (hz : ZB ng nh y) : ZB ng nh (up2 y 101 10 z) := hz.congr (fun r k hr => by rw [up2_at, if_neg (by omega)])
theorem ZB.t {z : Int32} {k : Nat} (hz : ZB ng nh y) : ZB ng nh (up2 y 100 k z) := hz.congr (fun r k hr => by rw [up2_at, if_neg (by omega)])
theorem ZB.insure {g : Nat} {d li ra : Int32} (hz : ZB ng nh y) (hg : g < ng) : ZB ng nh (up2 (up2 (up2 y 112 (3 * g) d) 112 (3 * g + 1) li) 112 (3 * g + 2) ra) := by
  have e2 : ∀ r k, ¬ (r = 112 ∧ k ≤ 3 * g + 2) → up2 (up2 (up2 y 112 (3 * g) d) 112 (3 * g + 1) li) 112 (3 * g + 2) ra r k = y r k := fun r k a => by rw [up2_at, if_neg (by omega), up2_at, if_neg (by omega), up2_at, if_neg (by omega)]
  obtain ⟨h1, h2, h3⟩ := hz
  refine ⟨fun i a b => ?_, fun j a => by rw [e2 _ _ (by omega)]; exact h2 j a, fun i a => by rw [e2 _ _ (by omega)]; exact h3 i a⟩
  obtain ⟨z0, z1, z2, z4, z5⟩ := h1 i a b
  rw [e2 _ _ (by omega), e2 _ _ (by omega), e2 _ _ (by omega), e2 114 _ (by omega), e2 115 _ (by omega)]
  exact ⟨z0, z1, z2, z4, z5⟩
theorem ZB.addL {own : Nat → Int32} (hz : ZB ng nh y) : ZB ng nh (rAddL y nl own) := hz.congr (fun r k hr => by
  have f0 : rAddL y nl own r k = if r = 101 ∧ k = 11 then nI (nl + 1) else if r = 122 ∧ 5 * nl ≤ k ∧ k < 5 * nl + 5 then own (k - 5 * nl) else if r = 100 ∧ k = 0 then 0 else y r k := rfl
  rw [f0, if_neg (by omega), if_neg (by omega), if_neg (by omega)])
theorem ZB.build {own : Nat → Int32} (hz : ZB ng nh y) : ZB ng (nh + 1) (rBuild y nh own) := by
  have f0 : ∀ r k, rBuild y nh own r k = if r = 101 ∧ k = 6 then nI (nh + 1) else if r = 117 ∧ 7 * nh ≤ k ∧ k < 7 * nh + 7 then own (k - 7 * nh) else if r = 100 ∧ k = 0 then 0 else y r k := fun r k => rfl
  have e2 : ∀ r k, (r = 112 ∨ r = 114 ∨ r = 115 ∨ r = 118 ∨ r = 119) → rBuild y nh own r k = y r k := fun r k a => by rw [f0, if_neg (by omega), if_neg (by omega), if_neg (by omega)]
  obtain ⟨h1, h2, h3⟩ := hz
  refine ⟨fun i a b => ?_, fun j a => by rw [e2 _ _ (by omega)]; exact h2 j (by omega), fun i a => by rw [e2 _ _ (by omega)]; exact h3 i (by omega)⟩
  obtain ⟨z0, z1, z2, z4, z5⟩ := h1 i a b
  rw [e2 _ _ (by omega), e2 _ _ (by omega), e2 _ _ (by omega), e2 114 _ (by omega), e2 115 _ (by omega)]
  exact ⟨z0, z1, z2, z4, z5⟩
/-! whole numbers as ints, added and multiplied within their bounds -/
theorem ti_add {a b : Int32} {m : Int} (h0 : -2147483648 ≤ a.toInt + b.toInt) (h1 : a.toInt + b.toInt < 2147483648) (h : m = a.toInt + b.toInt) : (a + b).toInt = m := by
  rw [Int32.toInt_add, h]
  exact Int.bmod_eq_of_le (by omega) (by omega)
theorem ti_sub {a b : Int32} (h0 : -2147483648 ≤ a.toInt - b.toInt) (h1 : a.toInt - b.toInt < 2147483648) : (a - b).toInt = a.toInt - b.toInt := by
  rw [Int32.toInt_sub]
  exact Int.bmod_eq_of_le (by omega) (by omega)
theorem ti_mul {a b : Int32} (h0 : -2147483648 ≤ a.toInt * b.toInt) (h1 : a.toInt * b.toInt < 2147483648) : (a * b).toInt = a.toInt * b.toInt := by
  rw [Int32.toInt_mul]
  exact Int.bmod_eq_of_le (by omega) (by omega)
theorem ti_imin {a b : Int32} : (imin a b).toInt = min a.toInt b.toInt := by
  unfold imin
  by_cases c : b < a
  · rw [if_pos c]
    have := Int32.lt_iff_toInt_lt.mp c
    omega
  · rw [if_neg c]
    have := Int32.le_iff_toInt_le.mp (Int32.not_lt.mp c)
    omega
theorem ti_imax {a b : Int32} : (imax a b).toInt = max a.toInt b.toInt := by
  unfold imax
  by_cases c : a < b
  · rw [if_pos c]
    have := Int32.lt_iff_toInt_lt.mp c
    omega
  · rw [if_neg c]
    have := Int32.le_iff_toInt_le.mp (Int32.not_lt.mp c)
    omega
/-- the fund's test: the same in class and reference while the pool is small -/
theorem fund_eq {p c : Int32} (h0 : 0 ≤ p.toInt) (h1 : p.toInt ≤ 1000000000) (c1 : 1 ≤ c.toInt) (c2 : c.toInt ≤ 1000000) : p ≤ 100000000 - c ↔ p + c ≤ 100000000 := by
  have e : (100000000 : Int32).toInt = 100000000 := by decide
  rw [Int32.le_iff_toInt_le, Int32.le_iff_toInt_le, ti_add (m := p.toInt + c.toInt) (by omega) (by omega) rfl, ti_sub (by rw [e]; omega) (by rw [e]; omega), e]
  omega
end ZS
