/-! a storm tried: class and reference -/
section TR
variable {v y : Nat → Nat → Int32} {B S n : Nat} {gw gd gx gy ow : Nat → Nat} {nh ng nl : Nat}
def mP (y : Nat → Nat → Int32) (B : Nat) (sum : Int32) (k : Nat) : Int32 := imin (y (B + 12) (5 * k + 3)) (imin (y (B + 12) (5 * k + 1)) (imax 0 (sum - y (B + 12) (5 * k))) * y (B + 12) (5 * k + 2) / 100)
theorem rL_at {sum : Int32} (hSB : S < B) : ∀ {n r k : Nat}, itr (rL B S sum) n y r k = if r = S ∧ k = 10 then y S 10 + sumI (mP y B sum) n else if r = B + 16 ∧ k = 4 then y (B + 16) 4 + sumI (mP y B sum) n else if r = B + 12 ∧ k % 5 = 3 ∧ k / 5 < n then y (B + 12) k - mP y B sum (k / 5) else if r = B + 12 ∧ k % 5 = 4 ∧ k / 5 < n then y (B + 12) k + mP y B sum (k / 5) else y r k
  | 0, r, k => by
    by_cases e : r = S ∧ k = 10
    · rw [if_pos e, sumI_0, Int32.add_zero, e.1, e.2]; rfl
    · rw [if_neg e]
      by_cases e2 : r = B + 16 ∧ k = 4
      · rw [if_pos e2, sumI_0, Int32.add_zero, e2.1, e2.2]; rfl
      · rw [if_neg e2, if_neg (by omega), if_neg (by omega)]; rfl
  | n + 1, r, k => by
    have h1 : ∀ r k, itr (rL B S sum) n y r k = _ := fun r k => rL_at hSB (n := n) (r := r) (k := k)
    rw [itr_s]
    generalize itr (rL B S sum) n y = t at h1
    have e12 : ∀ j, j < 5 → t (B + 12) (5 * n + j) = y (B + 12) (5 * n + j) := fun j hj => by
      rw [h1, if_neg (by omega), if_neg (by omega), if_neg (by omega), if_neg (by omega)]
    have eP : imin (t (B + 12) (5 * n + 3)) (imin (t (B + 12) (5 * n + 1)) (imax 0 (sum - t (B + 12) (5 * n))) * t (B + 12) (5 * n + 2) / 100) = mP y B sum n := by
      unfold mP
      rw [e12 3 (by omega), e12 1 (by omega), e12 2 (by omega), show t (B + 12) (5 * n) = y (B + 12) (5 * n) from e12 0 (by omega)]
    unfold rL
    rw [eP]
    simp only [up2_at]
    by_cases c1 : r = B + 16 ∧ k = 4
    · obtain ⟨rfl, rfl⟩ := c1
      have hne : ¬ (B + 16 = S) := by omega
      simp [hne, h1, sumI_s]
      grind
    · rw [if_neg c1]
      by_cases c2 : r = S ∧ k = 10
      · obtain ⟨rfl, rfl⟩ := c2
        have hne : ¬ (r = B + 12) := by omega
        simp [hne, h1, sumI_s]
        grind
      · rw [if_neg c2, if_neg c2, if_neg c1]
        by_cases c3 : r = B + 12 ∧ k = 5 * n + 4
        · obtain ⟨rfl, rfl⟩ := c3
          rw [if_pos ⟨rfl, rfl⟩, if_neg (by omega), if_neg (by omega), if_pos (by omega), e12 4 (by omega), show (5 * n + 4) / 5 = n by omega]
        · rw [if_neg c3]
          by_cases c4 : r = B + 12 ∧ k = 5 * n + 3
          · obtain ⟨rfl, rfl⟩ := c4
            rw [if_pos ⟨rfl, rfl⟩, if_pos (by omega), e12 3 (by omega), show (5 * n + 3) / 5 = n by omega]
          · rw [if_neg c4, h1, if_neg c2, if_neg c1]
            by_cases c5 : r = B + 12 ∧ k % 5 = 3 ∧ k / 5 < n
            · rw [if_pos c5, if_pos (by omega)]
            · rw [if_neg c5]
              by_cases c6 : r = B + 12 ∧ k % 5 = 4 ∧ k / 5 < n
              · rw [if_pos c6, if_neg (show ¬ (r = B + 12 ∧ k % 5 = 3 ∧ k / 5 < n + 1) by omega), if_pos (show r = B + 12 ∧ k % 5 = 4 ∧ k / 5 < n + 1 by omega)]
              · rw [if_neg c6, if_neg (show ¬ (r = B + 12 ∧ k % 5 = 3 ∧ k / 5 < n + 1) by omega), if_neg (show ¬ (r = B + 12 ∧ k % 5 = 4 ∧ k / 5 < n + 1) by omega)]
/-- payments, step by step -/
def PR (x y : Nat → Nat → Int32) (B S : Nat) (n : Nat) (t : (Nat → Nat → Int32) × Int32 × Int32) (w : Nat → Nat → Int32) : Prop :=
  t.2.1 = w S 10 ∧ t.2.2 = w (B + 16) 5 ∧ t.2.1 = x 0 6 + x 12 4 - sumI (fun g => t.1 10 g) n ∧ (∀ r k, (r = 10 → n ≤ k) → t.1 r k = x r k) ∧
  (∀ g, g < n → w (B + 1) g = y (B + 1) g + t.1 10 g ∧ w (B + 5) g = y (B + 5) g + (x 9 g - t.1 10 g)) ∧
  (∀ r k, ¬ (r = S ∧ k = 10) → ¬ (r = B + 16 ∧ k = 5) → (r = B + 1 → n ≤ k) → (r = B + 5 → n ≤ k) → w r k = y r k)
theorem pay_sim {x : Nat → Nat → Int32} {t : (Nat → Nat → Int32) × Int32 × Int32} {w : Nat → Nat → Int32} (hSB : S < B) (hC : y (B + 18) n = x 9 n) (h : PR x y B S n t w) : PR x y B S (n + 1) (pF n t) (rP B S n w) := by
  obtain ⟨h1, h2, h3, h4, h5, h6⟩ := h
  have e9 : t.1 9 n = x 9 n := h4 9 n (by omega)
  have e18 : w (B + 18) n = x 9 n := (h6 _ _ (by omega) (by omega) (by omega) (by omega)).trans hC
  have e1 : w (B + 1) n = y (B + 1) n := h6 _ _ (by omega) (by omega) (by omega) (by omega)
  have e5 : w (B + 5) n = y (B + 5) n := h6 _ _ (by omega) (by omega) (by omega) (by omega)
  obtain ⟨p, hp⟩ : ∃ p, p = imin (x 9 n) t.2.1 := ⟨_, rfl⟩
  have hp2 : imin (w S 10) (x 9 n) = p := by rw [hp, imin_comm, h1]
  have q18 : ∀ z, up2 w (B + 5) n z (B + 18) n = x 9 n := fun z => by rw [up2_at, if_neg (by omega), e18]
  have qS : ∀ z, up2 w (B + 5) n z S 10 = w S 10 := fun z => by rw [up2_at, if_neg (by omega)]
  have q16 : ∀ z, up2 w (B + 5) n z (B + 16) 5 = w (B + 16) 5 := fun z => by rw [up2_at, if_neg (by omega)]
  unfold pF rP rPay
  dsimp only
  rw [e9, ← hp, e18, q18, qS, hp2, q16]
  have g9 : up2 t.1 10 n p 9 n = x 9 n := by rw [up2_at, if_neg (by omega), e9]
  rw [g9]
  refine ⟨?_, ?_, ?_, fun r k hr => ?_, fun g hg => ?_, fun r k a b c d => ?_⟩
  · have m1 : ¬ (S = B + 16) := by omega
    have m2 : ¬ (S = B + 5) := by omega
    have m3 : ¬ (S = B + 1) := by omega
    simp [up2_at, m1, m2, m3, h1]
  · show t.2.2 + (x 9 n - p) = _
    simp [up2_at, h2]
  · show t.2.1 - p = x 0 6 + x 12 4 - sumI (fun g => up2 t.1 10 n p 10 g) (n + 1)
    rw [sumI_s, sumI_congr (f := fun g => up2 t.1 10 n p 10 g) (g := fun g => t.1 10 g) (fun i hi => by rw [up2_at, if_neg (by omega)]), up2_at, if_pos ⟨rfl, rfl⟩, h3]
    grind
  · show up2 t.1 10 n p r k = _
    rw [up2_at, if_neg (by omega)]
    exact h4 r k (by omega)
  · show _ = _ + up2 t.1 10 n p 10 g ∧ _ = _ + (_ - up2 t.1 10 n p 10 g)
    simp only [up2_at]
    by_cases c : g = n
    · subst c
      have n1 : ¬ (B + 1 = B + 16) := by omega
      have n2 : ¬ (B + 1 = S) := by omega
      have n3 : ¬ (B + 5 = S) := by omega
      simp [n2, n3, e1, e5]
      grind
    · have a := h5 g (by omega)
      have n2 : ¬ (B + 1 = S) := by omega
      have n3 : ¬ (B + 5 = S) := by omega
      simp [c, n2, n3]
      exact a
  · simp only [up2_at]
    have n1 : ¬ (r = B + 1 ∧ k = n) := by omega
    have n2 : ¬ (r = B + 5 ∧ k = n) := by omega
    rw [if_neg b, if_neg n2, if_neg n1, if_neg a, if_neg n2]
    exact h6 r k a b (by omega) (by omega)
end TR
