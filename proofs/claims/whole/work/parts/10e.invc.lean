/-! INV under what changes only trial and copy -/
section IC
variable {td : Nat} {n : Int} {L : List Nat} {ad : Nat → Nat} {v u : Nat → Nat → Int32} {o : Nat → Nat → Option Nat} {ng nh nl ns : Nat} {ow gx gy gw gd : Nat → Nat}
/-- the same but for the trial, the answer's mark and the copy -/
theorem INV.same (h : INV td n L ad v o ng nh nl ns ow gx gy gw gd) (e1 : ∀ r k, (r < 7 ∨ 13 ≤ r) → r < 100 → u r k = v r k) (e2 : ∀ r k, 101 ≤ r → r < 129 → r ≠ 102 → u r k = v r k) : INV td n L ad u o ng nh nl ns ow gx gy gw gd := by
  obtain ⟨hI, hJ, hO, hL, hR, hz, hB, hD, hv⟩ := h
  have g6 := hI.g6; have h12 := hI.h12; have l6 := hI.l6; have s30 := hI.s30
  have hI' : PI td L ad u o ng nh nl ns ow gx gy gw gd := hI.cong (fun r k d => by unfold dep at d; exact e1 r k (by omega) (by omega))
  have hJ' : PJ L ad u o 101 110 ng nh nl ns ow gx gy gw gd := by
    obtain ⟨q1, q2, ⟨a1, a2, a3, a4⟩, hh⟩ := hJ
    refine ⟨q1, q2, ⟨(e2 _ _ (by omega) (by omega) (by omega)).trans a1, (e2 _ _ (by omega) (by omega) (by omega)).trans a2, (e2 _ _ (by omega) (by omega) (by omega)).trans a3, (e2 _ _ (by omega) (by omega) (by omega)).trans a4⟩, fun i hi => ?_⟩
    obtain ⟨p1, p2, p3, p4, p5, p6⟩ := hh i hi
    exact ⟨p1, (e2 _ _ (by omega) (by omega) (by omega)).trans p2, (e2 _ _ (by omega) (by omega) (by omega)).trans p3, (e2 _ _ (by omega) (by omega) (by omega)).trans p4, (e2 _ _ (by omega) (by omega) (by omega)).trans p5, (e2 _ _ (by omega) (by omega) (by omega)).trans p6⟩
  refine ⟨hI', hJ', hO, hL, ?_, hz.congr (fun r k hr => e2 r k (by omega) (by omega) (by omega)), hB.congr (e1 _ _ (by omega) (by omega)) (fun g k hg => e1 _ _ (by omega) (by omega)) (fun l k hl => e1 _ _ (by omega) (by omega)), hD, fun h hh => ?_⟩
  · -- row 102 is no row of the relation
    have hR2 := hR.congr (x' := u) (y' := fun r k => if r = 102 then v 102 k else u r k) g6 h12 l6 s30 e1 (fun r k a b => by
      show (if r = 102 then v 102 k else u r k) = v r k
      by_cases c : r = 102
      · rw [if_pos c, c]
      · rw [if_neg c]; exact e2 r k a (by omega) c)
    obtain ⟨rG, rS, rL, rP, r6, r8, rT, rO⟩ := hR2
    exact ⟨rG, rS, rL, rP, r6, r8, rT, rO⟩
  · rw [e1 _ _ (by omega) (by omega), e1 _ _ (by omega) (by omega)]; exact hv h hh
end IC
