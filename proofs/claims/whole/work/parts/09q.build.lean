/-! one more house: the relation stays -/
section BD
variable {ow gx gy gw gd : Nat → Nat} {ng nh nl ns : Nat} {x x' y : Nat → Nat → Int32} {g X Y W D : Nat}
theorem GSz.more (hZ : GSz ow gx gy gw gd ng nh) (hg : g < ng) (w1 : 1 ≤ W) (w2 : W ≤ 6) (d1 : 1 ≤ D) (d2 : D ≤ 6) (x2 : X + W ≤ 20) (y2 : Y + D ≤ 20) : GSz (up1 ow nh g) (up1 gx nh X) (up1 gy nh Y) (up1 gw nh W) (up1 gd nh D) ng (nh + 1) := fun h hh => by
  by_cases e : h = nh
  · subst e
    rw [up1_s, up1_s, up1_s, up1_s, up1_s]
    exact ⟨hg, x2, y2, w1, w2, d1, d2⟩
  · rw [up1_n e, up1_n e, up1_n e, up1_n e, up1_n e]
    exact hZ h (by omega)
theorem cel_o {h k : Nat} (e : h ≠ nh) : cel (up1 gx nh X) (up1 gy nh Y) (up1 gw nh W) h k = cel gx gy gw h k := by
  unfold cel
  rw [up1_n e, up1_n e, up1_n e]
theorem cel_n {k : Nat} : cel (up1 gx nh X) (up1 gy nh Y) (up1 gw nh W) nh k = (Y + k / W) * 20 + (X + k % W) := by
  unfold cel
  rw [up1_s, up1_s, up1_s]
/-- the new cells are no other house's -/
theorem nov_ne {h k k' : Nat} (hZ : GSz ow gx gy gw gd ng nh) (hN : Nov gx gy gw gd nh X Y W D) (w1 : 1 ≤ W) (x2 : X + W ≤ 20) (hh : h < nh) (hk : k < gw h * gd h) (hk' : k' < W * D) : cel gx gy gw h k ≠ (Y + k' / W) * 20 + (X + k' % W) := fun e => by
  have h1 : k' % W < W := Nat.mod_lt _ (by omega)
  have h2 : k' / W < D := (Nat.div_lt_iff_lt_mul (by omega)).mpr (by rw [Nat.mul_comm]; exact hk')
  generalize k' % W = m9 at h1 e
  generalize k' / W = q9 at h2 e
  obtain ⟨a, b, c, d⟩ := cel_inH (X := X + m9) (Y := Y + q9) hZ hh hk (by omega) e
  exact hN h hh ⟨by omega, by omega, by omega, by omega⟩
theorem GDj.more (hD : GDj gx gy gw gd nh) (hZ : GSz ow gx gy gw gd ng nh) (hN : Nov gx gy gw gd nh X Y W D) (w1 : 1 ≤ W) (x2 : X + W ≤ 20) : GDj (up1 gx nh X) (up1 gy nh Y) (up1 gw nh W) (up1 gd nh D) (nh + 1) := fun h k h' k' a b a' b' e => by
  by_cases c : h = nh
  · subst c
    rw [up1_s, up1_s] at b
    by_cases c' : h' = h
    · subst c'
      rw [up1_s, up1_s] at b'
      rw [cel_n, cel_n] at e
      have h1 : k % W < W := Nat.mod_lt _ (by omega)
      have h2 : k' % W < W := Nat.mod_lt _ (by omega)
      have q1 := Nat.div_add_mod k W
      have q2 := Nat.div_add_mod k' W
      generalize k % W = m1 at *
      generalize k' % W = m2 at *
      generalize hd1 : k / W = d1 at *
      generalize hd2 : k' / W = d2 at *
      have e1 : d1 = d2 := by omega
      have e2 : m1 = m2 := by omega
      exact ⟨rfl, by rw [← q1, ← q2, e1, e2]⟩
    · rw [up1_n c', up1_n c'] at b'
      rw [cel_n, cel_o c'] at e
      exact absurd e.symm (nov_ne hZ hN w1 x2 (by omega) b' b)
  · rw [up1_n c, up1_n c] at b
    by_cases c' : h' = nh
    · subst c'
      rw [up1_s, up1_s] at b'
      rw [cel_n, cel_o c] at e
      exact absurd e (nov_ne hZ hN w1 x2 (by omega) b b')
    · rw [up1_n c', up1_n c'] at b'
      rw [cel_o c, cel_o c'] at e
      exact hD h k h' k' (by omega) b (by omega) b' e
theorem RVl.build {e0 f : Int32} (hR : RVl ow gx gy gw gd ng nh nl ns 101 110 x y) (hz : ZB ng nh y) (hZ : GSz ow gx gy gw gd ng nh) (hN : Nov gx gy gw gd nh X Y W D) (w1 : 1 ≤ W) (w2 : W ≤ 6) (d2 : D ≤ 6) (x2 : X + W ≤ 20) (y2 : Y + D ≤ 20) (hg : ng ≤ 6) (hn : nh < 12) (hl : nl ≤ 6) (hs : ns ≤ 30)
    (e1 : ∀ r k, r ≠ 2 → r ≠ 14 → r ≠ 16 → r ≠ 60 + nh → r ≠ 4 → x' r k = x r k) (e9 : x' (60 + nh) = iH (fun _ => z32) (60 + nh) (nI g) (nI X) (nI Y) (nI W) (nI D) e0 f (60 + nh)) (e4 : x' 4 = mkW x (up1 gx nh X) (up1 gy nh Y) (up1 gw nh W) (up1 gd nh D) nh 4) :
    RVl (up1 ow nh g) (up1 gx nh X) (up1 gy nh Y) (up1 gw nh W) (up1 gd nh D) ng (nh + 1) nl ns 101 110 x' (rBuild y nh (own7 (nI g) (nI X) (nI Y) (nI W) (nI D) e0 f)) := by
  obtain ⟨rG, rS, rL, rP, r6, r8, rT, rO⟩ := hR
  have f0 : ∀ r k, rBuild y nh (own7 (nI g) (nI X) (nI Y) (nI W) (nI D) e0 f) r k = if r = 101 ∧ k = 6 then nI (nh + 1) else if r = 117 ∧ 7 * nh ≤ k ∧ k < 7 * nh + 7 then own7 (nI g) (nI X) (nI Y) (nI W) (nI D) e0 f (k - 7 * nh) else if r = 100 ∧ k = 0 then 0 else y r k := fun r k => rfl
  have e2 : ∀ r k, ¬ (r = 101 ∧ k = 6) → r ≠ 100 → ¬ (r = 117 ∧ 7 * nh ≤ k) → rBuild y nh (own7 (nI g) (nI X) (nI Y) (nI W) (nI D) e0 f) r k = y r k := fun r k a b c => by rw [f0, if_neg a, if_neg (by omega), if_neg (fun q => b q.1)]
  have e4a : ∀ c, (∀ k, k < W * D → (Y + k / W) * 20 + (X + k % W) ≠ c) → x' 4 c = x 4 c := fun c hc => by
    rw [e4, mkW_one, up1_s, up1_s]
    exact put_out (fun _ k hk => by rw [cel_n]; exact hc k hk)
  have e4b : ∀ k, k < W * D → x' 4 ((Y + k / W) * 20 + (X + k % W)) = 0 := fun k hk => by
    have := put_in (r := 4) (p := fun k => cel (up1 gx nh X) (up1 gy nh Y) (up1 gw nh W) nh k) (v := x) hk
    rw [e4, mkW_one, up1_s, up1_s, ← cel_n (gx := gx) (gy := gy) (gw := gw) (nh := nh)]
    exact this
  refine ⟨fun i hi => ?_, fun i hi => ?_, fun k hk j hj => ?_, fun a b a9 b9 => ?_, ?_, ?_, fun s hs9 k hk => ?_, fun c hc => ?_⟩
  · rw [e1 _ _ (by omega) (by omega) (by omega) (by omega) (by omega), e1 _ _ (by omega) (by omega) (by omega) (by omega) (by omega), e1 _ _ (by omega) (by omega) (by omega) (by omega) (by omega), e1 _ _ (by omega) (by omega) (by omega) (by omega) (by omega), e1 _ _ (by omega) (by omega) (by omega) (by omega) (by omega), e1 _ _ (by omega) (by omega) (by omega) (by omega) (by omega), e1 _ _ (by omega) (by omega) (by omega) (by omega) (by omega), e1 _ _ (by omega) (by omega) (by omega) (by omega) (by omega), e2 (110 + 1) _ (by omega) (by omega) (by omega), e2 (110 + 2) _ (by omega) (by omega) (by omega), e2 (110 + 2) _ (by omega) (by omega) (by omega), e2 (110 + 2) _ (by omega) (by omega) (by omega), e2 (110 + 3) _ (by omega) (by omega) (by omega), e2 (110 + 4) _ (by omega) (by omega) (by omega), e2 (110 + 5) _ (by omega) (by omega) (by omega)]
    exact rG i hi
  · by_cases e : i = nh
    · subst e
      rw [e9, up1_s]
      refine ⟨?_, ?_, ?_, ?_⟩
      · rw [f0, if_neg (by omega), if_pos (by omega), show 7 * i + 5 - 7 * i = 5 by omega]; simp [iH, up2_at, own7]
      · rw [f0, if_neg (by omega), if_pos (by omega), show 7 * i + 6 - 7 * i = 6 by omega]; simp [iH, up2_at, own7]
      · rw [e2 _ _ (by omega) (by omega) (by omega)]; exact Eq.trans (by simp [iH, up2_at]) (hz.2.2 i (Nat.le_refl _)).symm
      · rw [f0, if_neg (by omega), if_pos (by omega), show 7 * i - 7 * i = 0 by omega]; simp [own7]
    · rw [up1_n e, e1 _ _ (by omega) (by omega) (by omega) (by omega) (by omega), e1 _ _ (by omega) (by omega) (by omega) (by omega) (by omega), e1 _ _ (by omega) (by omega) (by omega) (by omega) (by omega), e2 (110 + 7) _ (by omega) (by omega) (by omega), e2 (110 + 7) _ (by omega) (by omega) (by omega), e2 (110 + 7) _ (by omega) (by omega) (by omega), e2 (110 + 8) _ (by omega) (by omega) (by omega)]
      exact rS i (by omega)
  · rw [e1 _ _ (by omega) (by omega) (by omega) (by omega) (by omega), e2 _ _ (by omega) (by omega) (by omega)]; exact rL k hk j hj
  · rw [e2 _ _ (by omega) (by omega) (by omega)]
    by_cases e : a = nh
    · subst e
      rw [up1_s, up1_s] at b9
      rw [cel_n, e4b b b9]
      have z : y (110 + 9) (36 * a + b) = 0 := hz.2.1 _ (by omega)
      rw [z]
      exact ⟨rfl, Or.inl rfl⟩
    · rw [up1_n e, up1_n e] at b9
      rw [cel_o e, e4a _ (fun k hk q => nov_ne hZ hN w1 x2 (by omega) b9 hk q.symm)]
      exact rP a b (by omega) b9
  · rw [e1 _ _ (by omega) (by omega) (by omega) (by omega) (by omega), e2 _ _ (by omega) (by omega) (by omega)]; exact r6
  · rw [e1 _ _ (by omega) (by omega) (by omega) (by omega) (by omega), e2 _ _ (by omega) (by omega) (by omega)]; exact r8
  · rw [e1 _ _ (by omega) (by omega) (by omega) (by omega) (by omega), e2 _ _ (by omega) (by omega) (by omega)]; exact rT s hs9 k hk
  · obtain ⟨c1, c2⟩ := hc
    rw [e4a c (fun k hk q => c2 nh k (by omega) (by rw [up1_s, up1_s]; exact hk) (by rw [cel_n]; exact q))]
    exact rO c ⟨c1, fun h k hh hk => by
      have := c2 h k (by omega) (by rw [up1_n (by omega), up1_n (by omega)]; exact hk)
      rw [cel_o (by omega)] at this
      exact this⟩
end BD
