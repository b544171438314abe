/-! claims, layers, payments: what the loops leave -/
section CS
variable {v y : Nat → Nat → Int32} {B S n : Nat} {gw gd : Nat → Nat} {nh : Nat}
theorem fClaim_congr {u v : Nat → Nat → Int32} {r : Nat} {d : Int32} (h : ∀ k, u r k = v r k) : fClaim u r d = fClaim v r d := by
  unfold fClaim
  rw [h, h, h, h]
theorem fPay_congr {u v : Nat → Nat → Int32} {r : Nat} {d : Int32} (h : ∀ k, u r k = v r k) : fPay u r d = fPay v r d := by
  unfold fPay
  rw [h, h, h, h]
theorem cF_at : ∀ {n r k : Nat}, itr cF n v r k = if r = 9 ∧ k < n then fClaim v (50 + k) (v 8 k) else v r k
  | 0, r, k => by rw [if_neg (by omega)]; rfl
  | n + 1, r, k => by
    rw [itr_s, cF, up2_at, fClaim_congr (v := v) (fun k => by rw [cF_at (n := n), if_neg (by omega)]), cF_at (n := n), cF_at (n := n), if_neg (show ¬ (8 = 9 ∧ n < n) by omega)]
    by_cases e : r = 9 ∧ k = n
    · rw [if_pos e, if_pos (by omega), e.2]
    · rw [if_neg e]
      by_cases e2 : r = 9 ∧ k < n
      · rw [if_pos e2, if_pos (by omega)]
      · rw [if_neg e2, if_neg (by omega)]
theorem lF_at : ∀ {n r k : Nat}, itr lF n v r k = if r = 11 ∧ k < n then fPay v (80 + k) (v 12 3) else v r k
  | 0, r, k => by rw [if_neg (by omega)]; rfl
  | n + 1, r, k => by
    rw [itr_s, lF, up2_at, fPay_congr (v := v) (fun k => by rw [lF_at (n := n), if_neg (by omega)]), lF_at (n := n), lF_at (n := n), if_neg (show ¬ (12 = 11 ∧ 3 < n) by omega)]
    by_cases e : r = 11 ∧ k = n
    · rw [if_pos e, if_pos (by omega), e.2]
    · rw [if_neg e]
      by_cases e2 : r = 11 ∧ k < n
      · rw [if_pos e2, if_pos (by omega)]
      · rw [if_neg e2, if_neg (by omega)]
theorem claims_at {r k : Nat} : uClaims v n r k = if r = 12 ∧ k = 3 then sumI (fun g => fClaim v (50 + g) (v 8 g)) n else if r = 9 ∧ k < n then fClaim v (50 + k) (v 8 k) else v r k := by
  unfold uClaims
  rw [up2_at, cF_at, sumI_congr (f := fun g => fClaim (itr cF g v) (50 + g) (itr cF g v 8 g)) (g := fun g => fClaim v (50 + g) (v 8 g)) (fun i _ => by rw [fClaim_congr (v := v) (fun k => by rw [cF_at, if_neg (by omega)]), cF_at, if_neg (by omega)])]
theorem layers_at {r k : Nat} : uLayers v n r k = if r = 12 ∧ k = 4 then sumI (fun k => fPay v (80 + k) (v 12 3)) n else if r = 11 ∧ k < n then fPay v (80 + k) (v 12 3) else v r k := by
  unfold uLayers
  rw [up2_at, lF_at, sumI_congr (f := fun k => fPay (itr lF k v) (80 + k) (itr lF k v 12 3)) (g := fun k => fPay v (80 + k) (v 12 3)) (fun i _ => by rw [fPay_congr (v := v) (fun k => by rw [lF_at, if_neg (by omega)]), lF_at, if_neg (by omega)])]
def mD (y : Nat → Nat → Int32) (B : Nat) (gw gd : Nat → Nat) (nh g : Nat) : Int32 := rBy y B gw gd nh (nI g) - y (B + 17) g
def mC (y : Nat → Nat → Int32) (B : Nat) (gw gd : Nat → Nat) (nh g : Nat) : Int32 := if y (B + 2) (3 * g + 1) = 0 then 0 else imax 0 (imin (mD y B gw gd nh g - y (B + 2) (3 * g)) (y (B + 2) (3 * g + 1) - y (B + 4) g))
theorem rG_at : ∀ {n : Nat}, (∀ r k, (itr (rG B gw gd nh) n (y, 0)).1 r k = if r = B + 16 ∧ k = 2 then y (B + 16) 2 + sumI (mD y B gw gd nh) n else if r = B + 18 ∧ k < n then mC y B gw gd nh k else if r = B + 4 ∧ k < n then y (B + 4) k + mC y B gw gd nh k else y r k) ∧ (itr (rG B gw gd nh) n (y, 0)).2 = sumI (mC y B gw gd nh) n
  | 0 => by
    refine ⟨fun r k => ?_, rfl⟩
    by_cases e : r = B + 16 ∧ k = 2
    · rw [if_pos e, sumI_0, Int32.add_zero, e.1, e.2]; rfl
    · rw [if_neg e, if_neg (by omega), if_neg (by omega)]; rfl
  | n + 1 => by
    obtain ⟨h1, h2⟩ := rG_at (n := n)
    rw [itr_s]
    generalize itr (rG B gw gd nh) n (y, 0) = t at h1 h2
    have eD : rBy t.1 B gw gd nh (nI n) - t.1 (B + 17) n = mD y B gw gd nh n := by
      unfold mD
      rw [rBy_congr (y := y) (fun j => by rw [h1, if_neg (by omega), if_neg (by omega), if_neg (by omega)]) (fun j => by rw [h1, if_neg (by omega), if_neg (by omega), if_neg (by omega)]), h1, if_neg (by omega), if_neg (by omega), if_neg (by omega)]
    have e2 : ∀ j, t.1 (B + 2) j = y (B + 2) j := fun j => by rw [h1, if_neg (by omega), if_neg (by omega), if_neg (by omega)]
    have e4 : t.1 (B + 4) n = y (B + 4) n := by rw [h1, if_neg (by omega), if_neg (by omega), if_neg (by omega)]
    have e16 : t.1 (B + 16) 2 = y (B + 16) 2 + sumI (mD y B gw gd nh) n := by rw [h1, if_pos ⟨rfl, rfl⟩]
    have eC : (if up2 t.1 (B + 16) 2 (t.1 (B + 16) 2 + mD y B gw gd nh n) (B + 2) (3 * n + 1) = 0 then 0 else imax 0 (imin (mD y B gw gd nh n - up2 t.1 (B + 16) 2 (t.1 (B + 16) 2 + mD y B gw gd nh n) (B + 2) (3 * n)) (up2 t.1 (B + 16) 2 (t.1 (B + 16) 2 + mD y B gw gd nh n) (B + 2) (3 * n + 1) - up2 t.1 (B + 16) 2 (t.1 (B + 16) 2 + mD y B gw gd nh n) (B + 4) n))) = mC y B gw gd nh n := by
      have a2 : ∀ x j, up2 t.1 (B + 16) 2 x (B + 2) j = y (B + 2) j := fun x j => by rw [up2_at, if_neg (by omega), e2]
      have a4 : ∀ x, up2 t.1 (B + 16) 2 x (B + 4) n = y (B + 4) n := fun x => by rw [up2_at, if_neg (by omega), e4]
      unfold mC
      rw [a2, a2, a4]
    unfold rG
    dsimp only
    rw [eD, eC]
    refine ⟨fun r k => ?_, ?_⟩
    · simp only [up2_at, h1, sumI_s]
      by_cases c1 : r = B + 16 ∧ k = 2
      · obtain ⟨rfl, rfl⟩ := c1
        simp
        grind
      · by_cases c2 : r = B + 18 ∧ k = n
        · obtain ⟨rfl, rfl⟩ := c2
          simp
        · by_cases c3 : r = B + 4 ∧ k = n
          · obtain ⟨rfl, rfl⟩ := c3
            simp
          · simp only [if_neg c1, if_neg c2, if_neg c3]
            by_cases c4 : r = B + 18 ∧ k < n
            · rw [if_pos c4, if_pos (by omega)]
            · rw [if_neg c4]
              by_cases c5 : r = B + 4 ∧ k < n
              · rw [if_pos c5, if_neg (show ¬ (r = B + 18 ∧ k < n + 1) by omega), if_pos (show r = B + 4 ∧ k < n + 1 by omega)]
              · rw [if_neg c5, if_neg (show ¬ (r = B + 18 ∧ k < n + 1) by omega), if_neg (show ¬ (r = B + 4 ∧ k < n + 1) by omega)]
    · rw [h2, sumI_s]
      simp [up2_at]
end CS
