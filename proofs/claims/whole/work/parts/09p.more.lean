/-! one more grower, layer, house: the relation stays -/
section MR
variable {ow gx gy gw gd : Nat → Nat} {ng nh nl ns : Nat} {x x' y : Nat → Nat → Int32}
/-- the reference's rows beyond what there is are empty -/
def ZB (ng nh : Nat) (y : Nat → Nat → Int32) : Prop := (∀ g, ng ≤ g → g < 6 → y 112 (3 * g) = 0 ∧ y 112 (3 * g + 1) = 0 ∧ y 112 (3 * g + 2) = 0 ∧ y 114 g = 0 ∧ y 115 g = 0) ∧ (∀ j, 36 * nh ≤ j → y 119 j = 0) ∧ (∀ h, nh ≤ h → y 118 h = 0)
theorem RVl.addG {cn : Int32} (hR : RVl ow gx gy gw gd ng nh nl ns 101 110 x y) (hz : ZB ng nh y) (hg : ng < 6) (hn : nh ≤ 12) (hl : nl ≤ 6) (hs : ns ≤ 30) (e1 : ∀ r k, r ≠ 1 → r ≠ 13 → r ≠ 50 + ng → x' r k = x r k) (e9 : x' (50 + ng) = iG (fun _ => z32) (50 + ng) cn (50 + ng)) :
    RVl ow gx gy gw gd (ng + 1) nh nl ns 101 110 x' (rAdd y ng cn) := by
  obtain ⟨rG, rS, rL, rP, r6, r8, rT, rO⟩ := hR
  have f0 : ∀ r k, rAdd y ng cn r k = if r = 101 ∧ k = 0 then nI (ng + 1) else if r = 113 ∧ k = ng then 100 else if r = 111 ∧ k = ng then cn else if r = 100 ∧ k = 0 then 0 else y r k := fun r k => rfl
  have e2 : ∀ r k, ¬ (r = 101 ∧ k = 0) → r ≠ 100 → ¬ (r = 113 ∧ k = ng) → ¬ (r = 111 ∧ k = ng) → rAdd y ng cn r k = y r k := fun r k a b c d => by rw [f0, if_neg a, if_neg c, if_neg d, if_neg (fun q => b q.1)]
  refine ⟨fun i hi => ?_, fun i hi => ?_, fun k hk j hj => ?_, fun a b c d => ?_, ?_, ?_, fun s hs9 k hk => ?_, fun c hc => ?_⟩
  · by_cases e : i = ng
    · subst e
      obtain ⟨z0, z1, z2, z4, z5⟩ := hz.1 i (Nat.le_refl _) hg
      rw [e9]
      refine ⟨?_, ?_, ?_, ?_, ?_, ?_, ?_, ?_⟩
      · rw [f0, if_neg (by omega), if_neg (by omega), if_pos ⟨rfl, rfl⟩]; simp [iG, up2_at]
      · rw [e2 _ _ (by omega) (by omega) (by omega) (by omega)]; exact Eq.trans (by simp [iG, up2_at]) z0.symm
      · rw [e2 _ _ (by omega) (by omega) (by omega) (by omega)]; exact Eq.trans (by simp [iG, up2_at]) z1.symm
      · rw [e2 _ _ (by omega) (by omega) (by omega) (by omega)]; exact Eq.trans (by simp [iG, up2_at]) z2.symm
      · rw [f0, if_neg (by omega), if_pos ⟨rfl, rfl⟩]; simp [iG, up2_at]
      · rw [e2 _ _ (by omega) (by omega) (by omega) (by omega)]; exact Eq.trans (by simp [iG, up2_at]) z4.symm
      · rw [e2 _ _ (by omega) (by omega) (by omega) (by omega)]; exact Eq.trans (by simp [iG, up2_at]) z5.symm
      · rw [e2 _ _ (by omega) (by omega) (by omega) (by omega)]; exact ⟨fun _ => z1, fun _ => by simp [iG, up2_at]⟩
    · rw [e1 _ _ (by omega) (by omega) (by omega), e1 _ _ (by omega) (by omega) (by omega), e1 _ _ (by omega) (by omega) (by omega), e1 _ _ (by omega) (by omega) (by omega), e1 _ _ (by omega) (by omega) (by omega), e1 _ _ (by omega) (by omega) (by omega), e1 _ _ (by omega) (by omega) (by omega), e1 _ _ (by omega) (by omega) (by omega), e2 (110 + 1) _ (by omega) (by omega) (by omega) (by omega), e2 (110 + 2) _ (by omega) (by omega) (by omega) (by omega), e2 (110 + 2) _ (by omega) (by omega) (by omega) (by omega), e2 (110 + 2) _ (by omega) (by omega) (by omega) (by omega), e2 (110 + 3) _ (by omega) (by omega) (by omega) (by omega), e2 (110 + 4) _ (by omega) (by omega) (by omega) (by omega), e2 (110 + 5) _ (by omega) (by omega) (by omega) (by omega)]
      exact rG i (by omega)
  · rw [e1 _ _ (by omega) (by omega) (by omega), e1 _ _ (by omega) (by omega) (by omega), e1 _ _ (by omega) (by omega) (by omega), e2 (110 + 7) _ (by omega) (by omega) (by omega) (by omega), e2 (110 + 7) _ (by omega) (by omega) (by omega) (by omega), e2 (110 + 7) _ (by omega) (by omega) (by omega) (by omega), e2 (110 + 8) _ (by omega) (by omega) (by omega) (by omega)]
    exact rS i hi
  · rw [e1 _ _ (by omega) (by omega) (by omega), e2 _ _ (by omega) (by omega) (by omega) (by omega)]; exact rL k hk j hj
  · rw [e1 _ _ (by omega) (by omega) (by omega), e2 _ _ (by omega) (by omega) (by omega) (by omega)]; exact rP a b c d
  · rw [e1 _ _ (by omega) (by omega) (by omega), e2 _ _ (by omega) (by omega) (by omega) (by omega)]; exact r6
  · rw [e1 _ _ (by omega) (by omega) (by omega), e2 _ _ (by omega) (by omega) (by omega) (by omega)]; exact r8
  · rw [e1 _ _ (by omega) (by omega) (by omega), e2 _ _ (by omega) (by omega) (by omega) (by omega)]; exact rT s hs9 k hk
  · rw [e1 _ _ (by omega) (by omega) (by omega)]; exact rO c hc
theorem RVl.addL {a b c0 : Int32} (hR : RVl ow gx gy gw gd ng nh nl ns 101 110 x y) (hg : ng ≤ 6) (hn : nh ≤ 12) (hl : nl < 6) (hs : ns ≤ 30) (e1 : ∀ r k, r ≠ 3 → r ≠ 15 → r ≠ 80 + nl → x' r k = x r k) (e9 : x' (80 + nl) = iL (fun _ => z32) (80 + nl) a b c0 (80 + nl)) :
    RVl ow gx gy gw gd ng nh (nl + 1) ns 101 110 x' (rAddL y nl (own5 a b c0 (2 * b) 0)) := by
  obtain ⟨rG, rS, rL, rP, r6, r8, rT, rO⟩ := hR
  have f0 : ∀ r k, rAddL y nl (own5 a b c0 (2 * b) 0) r k = if r = 101 ∧ k = 11 then nI (nl + 1) else if r = 122 ∧ 5 * nl ≤ k ∧ k < 5 * nl + 5 then own5 a b c0 (2 * b) 0 (k - 5 * nl) else if r = 100 ∧ k = 0 then 0 else y r k := fun r k => rfl
  have e2 : ∀ r k, ¬ (r = 101 ∧ k = 11) → r ≠ 100 → ¬ (r = 122 ∧ 5 * nl ≤ k) → rAddL y nl (own5 a b c0 (2 * b) 0) r k = y r k := fun r k a b c => by rw [f0, if_neg a, if_neg (by omega), if_neg (fun q => b q.1)]
  refine ⟨fun i hi => ?_, fun i hi => ?_, fun k hk j hj => ?_, fun a b c d => ?_, ?_, ?_, fun s hs9 k hk => ?_, fun c hc => ?_⟩
  · rw [e1 _ _ (by omega) (by omega) (by omega), e1 _ _ (by omega) (by omega) (by omega), e1 _ _ (by omega) (by omega) (by omega), e1 _ _ (by omega) (by omega) (by omega), e1 _ _ (by omega) (by omega) (by omega), e1 _ _ (by omega) (by omega) (by omega), e1 _ _ (by omega) (by omega) (by omega), e1 _ _ (by omega) (by omega) (by omega), e2 (110 + 1) _ (by omega) (by omega) (by omega), e2 (110 + 2) _ (by omega) (by omega) (by omega), e2 (110 + 2) _ (by omega) (by omega) (by omega), e2 (110 + 2) _ (by omega) (by omega) (by omega), e2 (110 + 3) _ (by omega) (by omega) (by omega), e2 (110 + 4) _ (by omega) (by omega) (by omega), e2 (110 + 5) _ (by omega) (by omega) (by omega)]
    exact rG i hi
  · rw [e1 _ _ (by omega) (by omega) (by omega), e1 _ _ (by omega) (by omega) (by omega), e1 _ _ (by omega) (by omega) (by omega), e2 (110 + 7) _ (by omega) (by omega) (by omega), e2 (110 + 7) _ (by omega) (by omega) (by omega), e2 (110 + 7) _ (by omega) (by omega) (by omega), e2 (110 + 8) _ (by omega) (by omega) (by omega)]
    exact rS i hi
  · by_cases e : k = nl
    · subst e
      show x' (80 + k) j = rAddL y k (own5 a b c0 (2 * b) 0) 122 (5 * k + j)
      rw [e9, f0, if_neg (by omega), if_pos (by omega), show 5 * k + j - 5 * k = j by omega]
      match j, hj with
      | 0, _ => simp [iL, up2_at, own5]
      | 1, _ => simp [iL, up2_at, own5]
      | 2, _ => simp [iL, up2_at, own5]
      | 3, _ => simp [iL, up2_at, own5]
      | 4, _ => simp [iL, up2_at, own5]
      | j + 5, q => exact absurd q (by omega)
    · rw [e1 _ _ (by omega) (by omega) (by omega), e2 _ _ (by omega) (by omega) (by omega)]; exact rL k (by omega) j hj
  · rw [e1 _ _ (by omega) (by omega) (by omega), e2 _ _ (by omega) (by omega) (by omega)]; exact rP a b c d
  · rw [e1 _ _ (by omega) (by omega) (by omega), e2 _ _ (by omega) (by omega) (by omega)]; exact r6
  · rw [e1 _ _ (by omega) (by omega) (by omega), e2 _ _ (by omega) (by omega) (by omega)]; exact r8
  · rw [e1 _ _ (by omega) (by omega) (by omega), e2 _ _ (by omega) (by omega) (by omega)]; exact rT s hs9 k hk
  · rw [e1 _ _ (by omega) (by omega) (by omega)]; exact rO c hc
end MR
