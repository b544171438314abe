/-! the reference's empty rows stay empty -/
section ZR
variable {ow gx gy gw gd : Nat → Nat} {ng nh nl ns B S : Nat} {y : Nat → Nat → Int32}
theorem itr_keep {α β : Type} (q : α → β) {f : Nat → α → α} {a : α} : ∀ {n : Nat}, (∀ i u, i < n → q (f i u) = q u) → q (itr f n a) = q a
  | 0, _ => rfl
  | n + 1, h => (h n _ (by omega)).trans (itr_keep q (n := n) (fun i u hi => h i u (by omega)))
theorem rHit_out {u : Nat → Nat → Int32} {h k j : Nat} {own : Int32} (hj : j ≠ 36 * h + k) : rHit u B h k own (B + 9) j = u (B + 9) j := by
  unfold rHit
  split
  · simp only [up2_at]
    rw [if_neg (by omega), if_neg (by omega)]
  · split
    · simp only [up2_at]
      rw [if_neg (by omega), if_neg (by omega)]
    · rfl
theorem storm_out {sx sy dx dy rad : Int} {F : Int32} {st j : Nat} (hSB : S < B) (hZ : GSz ow gx gy gw gd ng nh) (hj : 36 * nh ≤ j) : rStorm y B S gx gy gw gd ng nh nl sx sy dx dy rad F st (B + 9) j = y (B + 9) j := by
  unfold rStorm
  rw [itr_keep (fun u : Nat → Nat → Int32 => u (B + 9) j) (fun g u _ => by
    show rP B S g u (B + 9) j = u (B + 9) j
    unfold rP rPay
    simp only [up2_at]
    rw [if_neg (by omega), if_neg (by omega), if_neg (by omega), if_neg (by omega), if_neg (by omega)])]
  rw [itr_keep (fun u : Nat → Nat → Int32 => u (B + 9) j) (fun g u _ => by
    show rL B S _ g u (B + 9) j = u (B + 9) j
    unfold rL
    simp only [up2_at]
    rw [if_neg (by omega), if_neg (by omega), if_neg (by omega), if_neg (by omega)])]
  unfold rEnd3
  rw [up2_at, if_neg (by omega)]
  unfold rSum
  rw [(rG_at (n := ng)).1, if_neg (by omega), if_neg (by omega), if_neg (by omega)]
  unfold rBlow
  rw [itr_keep (fun u : Nat → Nat → Int32 => u (B + 9) j) (fun k u _ => by
    refine itr_keep (fun u : Nat → Nat → Int32 => u (B + 9) j) (fun h u hh => ?_)
    refine itr_keep (fun u : Nat → Nat → Int32 => u (B + 9) j) (fun k u hk => ?_)
    have := hZ.m hh
    show rHail u B gx gy gw rad F h _ _ k (B + 9) j = u (B + 9) j
    unfold rHail
    split
    · exact rHit_out (by omega)
    · rfl)]
  unfold rBefore
  rw [before_at, if_neg (by omega), itr_set (c := fun _ => 0), if_neg (by omega)]
theorem year_out {r k : Nat} (hr : r = 112 ∨ r = 118 ∨ r = 119 ∨ ((r = 114 ∨ r = 115) ∧ ng ≤ k)) : rYear y 110 101 gw gd ng nh nl r k = y r k := by
  unfold rYear
  rw [up2_at, if_neg (by omega), up2_at, if_neg (by omega), m3_at (B := 110), if_neg (by omega)]
  rw [itr_keep (fun u : Nat → Nat → Int32 => u r k) (fun g u hg => by
    show rD 110 101 g u r k = u r k
    unfold rD rPay
    simp only [up2_at]
    rw [if_neg (by omega), if_neg (by omega), if_neg (by omega), if_neg (by omega)])]
  rw [up2_at, if_neg (by omega)]
  unfold rYs
  exact itr_keep (fun t : (Nat → Nat → Int32) × Int32 => t.1 r k) (fun g t _ => by
    show (rY 110 gw gd nh g t).1 r k = t.1 r k
    unfold rY
    split
    · rfl
    · simp only [up2_at]
      rw [if_neg (by omega), if_neg (by omega)])
theorem ZB.congr {y' : Nat → Nat → Int32} (h : ZB ng nh y) (e : ∀ r k, (r = 112 ∨ (r = 118 ∧ nh ≤ k) ∨ (r = 119 ∧ 36 * nh ≤ k) ∨ ((r = 114 ∨ r = 115) ∧ ng ≤ k)) → y' r k = y r k) : ZB ng nh y' := by
  obtain ⟨h1, h2, h3⟩ := h
  refine ⟨fun g a b => ?_, fun j a => by rw [e _ _ (by omega)]; exact h2 j a, fun i a => by rw [e _ _ (by omega)]; exact h3 i a⟩
  obtain ⟨z0, z1, z2, z4, z5⟩ := h1 g a b
  rw [e _ _ (by omega), e _ _ (by omega), e _ _ (by omega), e 114 _ (by omega), e 115 _ (by omega)]
  exact ⟨z0, z1, z2, z4, z5⟩
theorem ZB.year (h : ZB ng nh y) : ZB ng nh (rYear y 110 101 gw gd ng nh nl) := h.congr (fun r k hr => year_out (by omega))
theorem ZB.storm {x X : Nat → Nat → Int32} {sx sy dx dy rad : Int} {F : Int32} {st : Nat} (h : ZB ng nh y) (hZ : GSz ow gx gy gw gd ng nh) (T : TRY gx gy gw gd ng nh nl 110 101 x y X (rStorm y 110 101 gx gy gw gd ng nh nl sx sy dx dy rad F st)) : ZB ng nh (up2 (cpy2 (rStorm y 110 101 gx gy gw gd ng nh nl sx sy dx dy rad F st) 126 124 0 (6 * ns) 6) 101 13 (nI (ns + 1))) := h.congr (fun r k hr => by
  rw [up2_at, if_neg (by omega), cpy2_at, if_neg (by omega)]
  by_cases c : r = 119
  · rw [c]
    exact storm_out (B := 110) (S := 101) (by omega) hZ (by omega)
  · exact T.2.2.2.2.2.2 r k (by omega) (by omega) (by omega) (by omega) (by omega) (by omega) (by omega))
theorem ZB.tz (h : ZB ng nh y) : ZB ng nh (up2 y 100 0 0) := h.congr (fun r k hr => by rw [up2_at, if_neg (by omega)])
theorem ZB.addG {cn : Int32} (h : ZB ng nh y) : ZB (ng + 1) nh (rAdd y ng cn) := by
  have f0 : ∀ r k, rAdd y ng cn r k = if r = 101 ∧ k = 0 then nI (ng + 1) else if r = 113 ∧ k = ng then 100 else if r = 111 ∧ k = ng then cn else if r = 100 ∧ k = 0 then 0 else y r k := fun r k => rfl
  have e2 : ∀ r k, (r = 112 ∨ r = 114 ∨ r = 115 ∨ r = 118 ∨ r = 119) → rAdd y ng cn r k = y r k := fun r k a => by rw [f0, if_neg (by omega), if_neg (by omega), if_neg (by omega), if_neg (by omega)]
  obtain ⟨h1, h2, h3⟩ := h
  refine ⟨fun g a b => ?_, fun j a => by rw [e2 _ _ (by omega)]; exact h2 j a, fun i a => by rw [e2 _ _ (by omega)]; exact h3 i a⟩
  obtain ⟨z0, z1, z2, z4, z5⟩ := h1 g (by omega) b
  rw [e2 _ _ (by omega), e2 _ _ (by omega), e2 _ _ (by omega), e2 114 _ (by omega), e2 115 _ (by omega)]
  exact ⟨z0, z1, z2, z4, z5⟩
end ZR
