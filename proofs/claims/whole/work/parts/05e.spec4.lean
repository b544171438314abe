/-! more words for the public methods -/
theorem mul_b {k : Nat} {a : Int} (hk : k ≤ 30) (h1 : -3 ≤ a) (h2 : a ≤ 3) : -90 ≤ (k : Int) * a ∧ (k : Int) * a ≤ 90 := by
  have e : a = -3 ∨ a = -2 ∨ a = -1 ∨ a = 0 ∨ a = 1 ∨ a = 2 ∨ a = 3 := by omega
  rcases e with rfl | rfl | rfl | rfl | rfl | rfl | rfl <;> omega
theorem narZ {b : Int32} (h : b = 0 ∨ b = 1) : narrow .boolean (.int b) = .int b := by rcases h with rfl | rfl <;> rfl
theorem fitZ {b : Int32} (h : b = 0 ∨ b = 1) : fits .boolean (.int b) = true := by rcases h with rfl | rfl <;> rfl
section S4
variable (v : Nat → Nat → Int32) (ow gx gy gw gd : Nat → Nat)
def dNet (nh h : Nat) (sx sy dx dy rad : Int) (F : Int32) (st : Nat) : Int32 := uBlow (up2 v (60 + h) 7 1) ow gx gy gw gd nh sx sy dx dy rad F st 12 2
def uNet (nh h : Nat) (sx sy dx dy rad : Int) (F : Int32) (st : Nat) : Nat → Nat → Int32 := up2 (uBlow (up2 v (60 + h) 7 1) ow gx gy gw gd nh sx sy dx dy rad F st) (60 + h) 7 0
def uInsure (g : Nat) (d li ra : Int32) : Nat → Nat → Int32 := up2 (up2 (up2 (up2 v (50 + g) 1 1) (50 + g) 2 d) (50 + g) 3 li) (50 + g) 4 ra
def uMend (h : Nat) : Nat → Nat → Int32 := mkW (up2 v (50 + ow h) 0 (v (50 + ow h) 0 - hLost v gx gy gw gd h)) gx gy gw gd h
end S4
theorem kp_uNet {v : Nat → Nat → Int32} {ow gx gy gw gd : Nat → Nat} {nh h : Nat} {sx sy dx dy rad : Int} {F : Int32} {st : Nat} (hh : h < 12) : keepD (uNet v ow gx gy gw gd nh h sx sy dx dy rad F st) v := (kp_up (by unfold depC dep; omega)).tr (kp_uBlow.tr (kp_up (by unfold depC dep; omega)))
/-- 1 if one of the first n houses overlaps -/
def fBuilt (v : Nat → Nat → Int32) (a b c d : Int32) (n : Nat) : Int32 := if ∃ h, h < n ∧ ¬ fOver v (60 + h) a b c d = 0 then 1 else 0
theorem fBuilt_1 {v : Nat → Nat → Int32} {a b c d : Int32} {n h : Nat} (hh : h < n) (h0 : ¬ fOver v (60 + h) a b c d = 0) : fBuilt v a b c d n = 1 := if_pos ⟨h, hh, h0⟩
theorem fBuilt_0 {v : Nat → Nat → Int32} {a b c d : Int32} {n : Nat} (h0 : ∀ j, j < n → fOver v (60 + j) a b c d = 0) : fBuilt v a b c d n = 0 := if_neg (fun ⟨h, hh, q⟩ => q (h0 h hh))
