/-! the relation stays: small changes -/
section KP
variable {ow gx gy gw gd : Nat → Nat} {ng nh nl ns : Nat} {x x' y y' : Nat → Nat → Int32}
theorem RVl.congr (h : RVl ow gx gy gw gd ng nh nl ns 101 110 x y) (hg : ng ≤ 6) (hn : nh ≤ 12) (hl : nl ≤ 6) (hs : ns ≤ 30) (e1 : ∀ r k, (r < 7 ∨ 13 ≤ r) → r < 100 → x' r k = x r k) (e2 : ∀ r k, 101 ≤ r → r < 125 → y' r k = y r k) : RVl ow gx gy gw gd ng nh nl ns 101 110 x' y' := by
  obtain ⟨rG, rS, rL, rP, r6, r8, rT, rO⟩ := h
  refine ⟨fun g hgl => ?_, fun i hi => ?_, fun k hk j hj => ?_, fun a b c d => ?_, ?_, ?_, fun s hs9 k hk => ?_, fun c hc => ?_⟩
  · rw [e1 _ _ (by omega) (by omega), e1 _ _ (by omega) (by omega), e1 _ _ (by omega) (by omega), e1 _ _ (by omega) (by omega), e1 _ _ (by omega) (by omega), e1 _ _ (by omega) (by omega), e1 _ _ (by omega) (by omega), e1 _ _ (by omega) (by omega), e2 (110 + 1) _ (by omega) (by omega), e2 (110 + 2) _ (by omega) (by omega), e2 (110 + 2) _ (by omega) (by omega), e2 (110 + 2) _ (by omega) (by omega), e2 (110 + 3) _ (by omega) (by omega), e2 (110 + 4) _ (by omega) (by omega), e2 (110 + 5) _ (by omega) (by omega)]
    exact rG g hgl
  · rw [e1 _ _ (by omega) (by omega), e1 _ _ (by omega) (by omega), e1 _ _ (by omega) (by omega), e2 (110 + 7) _ (by omega) (by omega), e2 (110 + 7) _ (by omega) (by omega), e2 (110 + 7) _ (by omega) (by omega), e2 (110 + 8) _ (by omega) (by omega)]
    exact rS i hi
  · rw [e1 _ _ (by omega) (by omega), e2 _ _ (by omega) (by omega)]; exact rL k hk j hj
  · rw [e1 _ _ (by omega) (by omega), e2 _ _ (by omega) (by omega)]; exact rP a b c d
  · rw [e1 _ _ (by omega) (by omega), e2 _ _ (by omega) (by omega)]; exact r6
  · rw [e1 _ _ (by omega) (by omega), e2 _ _ (by omega) (by omega)]; exact r8
  · rw [e1 _ _ (by omega) (by omega), e2 _ _ (by omega) (by omega)]; exact rT s hs9 k hk
  · rw [e1 _ _ (by omega) (by omega)]; exact rO c hc
theorem RVl.fund {z : Int32} (h : RVl ow gx gy gw gd ng nh nl ns 101 110 x y) : RVl ow gx gy gw gd ng nh nl ns 101 110 (up2 x 0 6 z) (up2 y 101 10 z) := by
  obtain ⟨rG, rS, rL, rP, r6, r8, rT, rO⟩ := h
  have e1 : ∀ r k, ¬ (r = 0 ∧ k = 6) → up2 x 0 6 z r k = x r k := fun r k a => by rw [up2_at, if_neg a]
  have e2 : ∀ r k, ¬ (r = 101 ∧ k = 10) → up2 y 101 10 z r k = y r k := fun r k a => by rw [up2_at, if_neg a]
  refine ⟨fun g hgl => ?_, fun i hi => ?_, fun k hk j hj => ?_, fun a b c d => ?_, ?_, ?_, fun s hs9 k hk => ?_, fun c hc => ?_⟩
  · rw [e1 _ _ (by omega), e1 _ _ (by omega), e1 _ _ (by omega), e1 _ _ (by omega), e1 _ _ (by omega), e1 _ _ (by omega), e1 _ _ (by omega), e1 _ _ (by omega), e2 (110 + 1) _ (by omega), e2 (110 + 2) _ (by omega), e2 (110 + 2) _ (by omega), e2 (110 + 2) _ (by omega), e2 (110 + 3) _ (by omega), e2 (110 + 4) _ (by omega), e2 (110 + 5) _ (by omega)]
    exact rG g hgl
  · rw [e1 _ _ (by omega), e1 _ _ (by omega), e1 _ _ (by omega), e2 (110 + 7) _ (by omega), e2 (110 + 7) _ (by omega), e2 (110 + 7) _ (by omega), e2 (110 + 8) _ (by omega)]
    exact rS i hi
  · rw [e1 _ _ (by omega), e2 _ _ (by omega)]; exact rL k hk j hj
  · rw [e1 _ _ (by omega), e2 _ _ (by omega)]; exact rP a b c d
  · rw [up2_at, if_pos ⟨rfl, rfl⟩, up2_at, if_pos ⟨rfl, rfl⟩]
  · rw [e1 _ _ (by omega), e2 _ _ (by omega)]; exact r8
  · rw [e1 _ _ (by omega), e2 _ _ (by omega)]; exact rT s hs9 k hk
  · rw [e1 _ _ (by omega)]; exact rO c hc
theorem RVl.net {h : Nat} {z : Int32} (hR : RVl ow gx gy gw gd ng nh nl ns 101 110 x y) (hg : ng ≤ 6) (hn : nh ≤ 12) (hs : ns ≤ 30) (hh : h < nh) : RVl ow gx gy gw gd ng nh nl ns 101 110 (up2 x (60 + h) 7 z) (up2 y 118 h z) := by
  obtain ⟨rG, rS, rL, rP, r6, r8, rT, rO⟩ := hR
  have e1 : ∀ r k, ¬ (r = 60 + h ∧ k = 7) → up2 x (60 + h) 7 z r k = x r k := fun r k a => by rw [up2_at, if_neg a]
  have e2 : ∀ r k, r ≠ 118 → up2 y 118 h z r k = y r k := fun r k a => by rw [up2_at, if_neg (fun q => a q.1)]
  refine ⟨fun g hgl => ?_, fun i hi => ?_, fun k hk j hj => ?_, fun a b c d => ?_, ?_, ?_, fun s hs9 k hk => ?_, fun c hc => ?_⟩
  · rw [e1 _ _ (by omega), e1 _ _ (by omega), e1 _ _ (by omega), e1 _ _ (by omega), e1 _ _ (by omega), e1 _ _ (by omega), e1 _ _ (by omega), e1 _ _ (by omega), e2 (110 + 1) _ (by omega), e2 (110 + 2) _ (by omega), e2 (110 + 2) _ (by omega), e2 (110 + 2) _ (by omega), e2 (110 + 3) _ (by omega), e2 (110 + 4) _ (by omega), e2 (110 + 5) _ (by omega)]
    exact rG g hgl
  · obtain ⟨a, b, c, d⟩ := rS i hi
    rw [e1 _ _ (by omega), e1 _ _ (by omega), e2 (110 + 7) _ (by omega), e2 (110 + 7) _ (by omega), e2 (110 + 7) _ (by omega)]
    refine ⟨a, b, ?_, d⟩
    rw [up2_at, up2_at]
    by_cases e : i = h
    · rw [if_pos (by omega), if_pos (by omega)]
    · rw [if_neg (by omega), if_neg (by omega)]; exact c
  · rw [e1 _ _ (by omega), e2 _ _ (by omega)]; exact rL k hk j hj
  · rw [e1 _ _ (by omega), e2 _ _ (by omega)]; exact rP a b c d
  · rw [e1 _ _ (by omega), e2 _ _ (by omega)]; exact r6
  · rw [e1 _ _ (by omega), e2 _ _ (by omega)]; exact r8
  · rw [e1 _ _ (by omega), e2 _ _ (by omega)]; exact rT s hs9 k hk
  · rw [e1 _ _ (by omega)]; exact rO c hc
theorem RVl.insure {g : Nat} {d li ra : Int32} (hR : RVl ow gx gy gw gd ng nh nl ns 101 110 x y) (hg6 : ng ≤ 6) (hn : nh ≤ 12) (hs : ns ≤ 30) (hg : g < ng) (hli : li ≠ 0) : RVl ow gx gy gw gd ng nh nl ns 101 110 (uInsure x g d li ra) (up2 (up2 (up2 y 112 (3 * g) d) 112 (3 * g + 1) li) 112 (3 * g + 2) ra) := by
  obtain ⟨rG, rS, rL, rP, r6, r8, rT, rO⟩ := hR
  have e0 : ∀ r k, uInsure x g d li ra r k = if r = 50 + g ∧ k = 4 then ra else if r = 50 + g ∧ k = 3 then li else if r = 50 + g ∧ k = 2 then d else if r = 50 + g ∧ k = 1 then 1 else x r k := fun r k => rfl
  have f0 : ∀ r k, up2 (up2 (up2 y 112 (3 * g) d) 112 (3 * g + 1) li) 112 (3 * g + 2) ra r k = if r = 112 ∧ k = 3 * g + 2 then ra else if r = 112 ∧ k = 3 * g + 1 then li else if r = 112 ∧ k = 3 * g then d else y r k := fun r k => rfl
  have e1 : ∀ r k, ¬ (r = 50 + g ∧ 1 ≤ k ∧ k ≤ 4) → uInsure x g d li ra r k = x r k := fun r k a => by rw [e0, if_neg (by omega), if_neg (by omega), if_neg (by omega), if_neg (by omega)]
  have e2 : ∀ r k, ¬ (r = 112 ∧ 3 * g ≤ k ∧ k ≤ 3 * g + 2) → up2 (up2 (up2 y 112 (3 * g) d) 112 (3 * g + 1) li) 112 (3 * g + 2) ra r k = y r k := fun r k a => by rw [f0, if_neg (by omega), if_neg (by omega), if_neg (by omega)]
  refine ⟨fun i hi => ?_, fun i hi => ?_, fun k hk j hj => ?_, fun a b c d => ?_, ?_, ?_, fun s hs9 k hk => ?_, fun c hc => ?_⟩
  · by_cases e : i = g
    · subst e
      obtain ⟨g0, g2, g3, g4, g5, g6, g7, g1⟩ := rG i hi
      refine ⟨?_, ?_, ?_, ?_, ?_, ?_, ?_, ?_⟩
      · rw [e1 _ _ (by omega), e2 _ _ (by omega)]; exact g0
      · rw [e0, if_neg (by omega), if_neg (by omega), if_pos ⟨rfl, rfl⟩, f0, if_neg (by omega), if_neg (by omega), if_pos ⟨rfl, rfl⟩]
      · rw [e0, if_neg (by omega), if_pos ⟨rfl, rfl⟩, f0, if_neg (by omega), if_pos ⟨rfl, rfl⟩]
      · rw [e0, if_pos ⟨rfl, rfl⟩, f0, if_pos ⟨rfl, rfl⟩]
      · rw [e1 _ _ (by omega), e2 _ _ (by omega)]; exact g5
      · rw [e1 _ _ (by omega), e2 _ _ (by omega)]; exact g6
      · rw [e1 _ _ (by omega), e2 _ _ (by omega)]; exact g7
      · rw [e0, if_neg (by omega), if_neg (by omega), if_neg (by omega), if_pos ⟨rfl, rfl⟩, f0, if_neg (by omega), if_pos ⟨rfl, rfl⟩]
        exact ⟨fun q => absurd q (by decide), fun q => absurd q hli⟩
    · rw [e1 _ _ (by omega), e1 _ _ (by omega), e1 _ _ (by omega), e1 _ _ (by omega), e1 _ _ (by omega), e1 _ _ (by omega), e1 _ _ (by omega), e1 _ _ (by omega), e2 (110 + 1) _ (by omega), e2 (110 + 2) _ (by omega), e2 (110 + 2) _ (by omega), e2 (110 + 2) _ (by omega), e2 (110 + 3) _ (by omega), e2 (110 + 4) _ (by omega), e2 (110 + 5) _ (by omega)]
      exact rG i hi
  · rw [e1 _ _ (by omega), e1 _ _ (by omega), e1 _ _ (by omega), e2 (110 + 7) _ (by omega), e2 (110 + 7) _ (by omega), e2 (110 + 7) _ (by omega), e2 (110 + 8) _ (by omega)]
    exact rS i hi
  · rw [e1 _ _ (by omega), e2 _ _ (by omega)]; exact rL k hk j hj
  · rw [e1 _ _ (by omega), e2 _ _ (by omega)]; exact rP a b c d
  · rw [e1 _ _ (by omega), e2 _ _ (by omega)]; exact r6
  · rw [e1 _ _ (by omega), e2 _ _ (by omega)]; exact r8
  · rw [e1 _ _ (by omega), e2 _ _ (by omega)]; exact rT s hs9 k hk
  · rw [e1 _ _ (by omega)]; exact rO c hc
end KP
