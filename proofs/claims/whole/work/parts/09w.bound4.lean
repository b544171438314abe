/-! the bounds stay over a storm -/
section BW
variable {ow gx gy gw gd : Nat → Nat} {ng nh nl ns : Nat} {n : Int} {x X : Nat → Nat → Int32}
theorem BN.take (h : BN ng nl n x) (hg : ng ≤ 6) (hl : nl ≤ 6) (hs : ns < 30) (h0 : 0 ≤ n) (hn2 : n ≤ 600) (eg : ∀ g k, g < ng → X (50 + g) k = x (50 + g) k) (el : ∀ l k, l < nl → X (80 + l) k = x (80 + l) k)
    (hc : ∀ g, g < ng → 0 ≤ (X 9 g).toInt ∧ (X 9 g).toInt ≤ 100000 ∧ (x (50 + g) 6).toInt + (X 9 g).toInt ≤ 100000 ∧ 0 ≤ (X 10 g).toInt ∧ (X 10 g).toInt ≤ (X 9 g).toInt) (hp : ∀ l, l < nl → 0 ≤ (X 11 l).toInt ∧ (X 11 l).toInt ≤ (x (80 + l) 3).toInt)
    (hq : 0 ≤ (X 0 6 + X 12 4 - sumI (fun g => X 10 g) ng).toInt ∧ (X 0 6 + X 12 4 - sumI (fun g => X 10 g) ng).toInt ≤ 1000000 * (n + 1)) : BN ng nl (n + 1) (uTake X ng nl ns) := by
  obtain ⟨k1, k2, k3, k4, k5, k6, k7⟩ := take_at (X := X) hg hl hs
  refine ⟨by rw [k4]; exact hq, fun g hgl => ?_, fun l hl9 => ?_⟩
  · obtain ⟨a0, a7, a07, a6, b6, a3, b3, a4, b4, a5, b5⟩ := h.2.1 g hgl
    obtain ⟨c0, c1, c2, c3, c4⟩ := hc g hgl
    unfold BG
    rw [k1 g 0 hgl, k1 g 7 hgl, k1 g 6 hgl, k1 g 3 hgl, k1 g 4 hgl, k1 g 5 hgl]
    have t0 : (tGv X g 0).toInt = (x (50 + g) 0).toInt + (X 10 g).toInt := by
      show (X (50 + g) 0 + X 10 g).toInt = _
      rw [eg g 0 hgl]; exact ti_add (by omega) (by omega) rfl
    have s7 : (X 9 g - X 10 g).toInt = (X 9 g).toInt - (X 10 g).toInt := ti_sub (by omega) (by omega)
    have t7 : (tGv X g 7).toInt = (x (50 + g) 7).toInt + ((X 9 g).toInt - (X 10 g).toInt) := by
      show (X (50 + g) 7 + (X 9 g - X 10 g)).toInt = _
      rw [eg g 7 hgl, ← s7]; exact ti_add (by omega) (by omega) rfl
    have t6 : (tGv X g 6).toInt = (x (50 + g) 6).toInt + (X 9 g).toInt := by
      show (X (50 + g) 6 + X 9 g).toInt = _
      rw [eg g 6 hgl]; exact ti_add (by omega) (by omega) rfl
    have t3 : tGv X g 3 = x (50 + g) 3 := eg g 3 hgl
    have t4 : tGv X g 4 = x (50 + g) 4 := eg g 4 hgl
    have t5 : tGv X g 5 = x (50 + g) 5 := eg g 5 hgl
    rw [t0, t7, t6, t3, t4, t5]
    exact ⟨by omega, by omega, by omega, by omega, by omega, a3, b3, a4, b4, a5, b5⟩
  · obtain ⟨b1, c1, b2, c2, b3⟩ := h.2.2 l hl9
    obtain ⟨p0, p1⟩ := hp l hl9
    have u9 := Int32.toInt_lt (x (80 + l) 3)
    unfold BL
    rw [k2 l 1 hl9, k2 l 2 hl9, k2 l 3 hl9, if_neg (by omega), if_neg (by omega), if_neg (by omega), if_neg (by omega), if_pos rfl, el l 1 hl9, el l 2 hl9, el l 3 hl9, ti_sub (by omega) (by omega)]
    exact ⟨b1, c1, b2, c2, by omega⟩
/-- payments -/
theorem pays_b {v : Nat → Nat → Int32} {m : Nat} (hm : m ≤ 6) (h0 : 0 ≤ (v 0 6 + v 12 4).toInt) (hc : ∀ g, g < m → 0 ≤ (v 9 g).toInt) : 0 ≤ (itr pF m (v, v 0 6 + v 12 4, 0)).2.1.toInt ∧ (itr pF m (v, v 0 6 + v 12 4, 0)).2.1.toInt ≤ (v 0 6 + v 12 4).toInt ∧ (itr pF m (v, v 0 6 + v 12 4, 0)).2.1 = v 0 6 + v 12 4 - sumI (fun g => (itr pF m (v, v 0 6 + v 12 4, 0)).1 10 g) m ∧ (∀ r k, r ≠ 10 → (itr pF m (v, v 0 6 + v 12 4, 0)).1 r k = v r k) ∧ (∀ g, g < m → 0 ≤ ((itr pF m (v, v 0 6 + v 12 4, 0)).1 10 g).toInt ∧ ((itr pF m (v, v 0 6 + v 12 4, 0)).1 10 g).toInt ≤ (v 9 g).toInt) := by
  refine itr_ind (P := fun i (t : (Nat → Nat → Int32) × Int32 × Int32) => 0 ≤ t.2.1.toInt ∧ t.2.1.toInt ≤ (v 0 6 + v 12 4).toInt ∧ t.2.1 = v 0 6 + v 12 4 - sumI (fun g => t.1 10 g) i ∧ (∀ r k, r ≠ 10 → t.1 r k = v r k) ∧ (∀ g, g < i → 0 ≤ (t.1 10 g).toInt ∧ (t.1 10 g).toInt ≤ (v 9 g).toInt)) ?_ (fun i t hi q => ?_)
  · exact ⟨h0, Int.le_refl _, by rw [sumI_0]; grind, fun _ _ _ => rfl, fun g hg => absurd hg (by omega)⟩
  · obtain ⟨q0, q1, q2, q3, q4⟩ := q
    have e9 : t.1 9 i = v 9 i := q3 _ _ (by omega)
    obtain ⟨p, hp⟩ : ∃ p, p = imin (t.1 9 i) t.2.1 := ⟨_, rfl⟩
    have hpi : p.toInt = min (v 9 i).toInt t.2.1.toInt := by rw [hp, ti_imin, e9]
    have c9 := hc i hi
    have ed : (t.2.1 - p).toInt = t.2.1.toInt - p.toInt := ti_sub (by omega) (by have := Int32.toInt_lt t.2.1; omega)
    unfold pF
    dsimp only
    rw [← hp]
    refine ⟨by rw [ed]; omega, by rw [ed]; omega, ?_, fun r k a => by rw [up2_at, if_neg (by omega)]; exact q3 r k a, fun g hg => ?_⟩
    · rw [sumI_s, sumI_congr (f := fun g => up2 t.1 10 i p 10 g) (g := fun g => t.1 10 g) (fun j hj => by rw [up2_at, if_neg (by omega)]), up2_at, if_pos ⟨rfl, rfl⟩, q2]
      grind
    · rw [up2_at]
      by_cases c : g = i
      · rw [if_pos ⟨rfl, c⟩, c, hpi]; omega
      · rw [if_neg (fun q => c q.2)]; exact q4 g (by omega)
end BW
