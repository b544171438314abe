/-! a storm taken over: the relation stays -/
section TK
variable {ow gx gy gw gd : Nat → Nat} {ng nh nl ns : Nat} {x x' y X W : Nat → Nat → Int32}
theorem cpy2_at {v : Nat → Nat → Int32} {a b sp dp n r k : Nat} : cpy2 v a b sp dp n r k = if r = b ∧ dp ≤ k ∧ k < dp + n then v a (sp + (k - dp)) else v r k := by
  unfold cpy2 va_cpy
  by_cases c : r = b
  · subst c
    rw [if_pos rfl]
    by_cases d : dp ≤ k ∧ k < dp + n
    · rw [if_pos d, if_pos ⟨rfl, d⟩]
    · rw [if_neg d, if_neg (fun q => d q.2)]
  · rw [if_neg c, if_neg (fun q => c q.1)]
theorem take_at (hg : ng ≤ 6) (hl : nl ≤ 6) (hs : ns < 30) : (∀ g k, g < ng → uTake X ng nl ns (50 + g) k = tGv X g k) ∧ (∀ l k, l < nl → uTake X ng nl ns (80 + l) k = if k = 3 then X (80 + l) 3 - X 11 l else if k = 4 then X (80 + l) 4 + X 11 l else X (80 + l) k) ∧ (∀ c, c < 400 → uTake X ng nl ns 4 c = X 7 c) ∧ uTake X ng nl ns 0 6 = X 0 6 + X 12 4 - sumI (fun g => X 10 g) ng ∧ uTake X ng nl ns 0 7 = nI (ns + 1) ∧
    (∀ k, k < 6 → uTake X ng nl ns (20 + ns) k = X 12 k) ∧ (∀ r k, ¬ (r = 4 ∧ k < 400) → (50 ≤ r → 50 + ng ≤ r) → (80 ≤ r → 80 + nl ≤ r) → r ≠ 20 + ns → ¬ (r = 0 ∧ (k = 6 ∨ k = 7)) → uTake X ng nl ns r k = X r k) := by
  have v2 : ∀ r k, itr tL nl (cpy2 X 7 4 0 0 400) r k = _ := fun r k => tL_at (v := cpy2 X 7 4 0 0 400) (n := nl) (r := r) (k := k)
  have v1 : ∀ r k, cpy2 X 7 4 0 0 400 r k = _ := fun r k => cpy2_at
  have e : uTake X ng nl ns = up2 (cpy2 (itr tG ng (uPool (itr tL nl (cpy2 X 7 4 0 0 400)))) 12 (20 + ns) 0 0 6) 0 7 (nI (ns + 1)) := rfl
  rw [e]
  generalize cpy2 X 7 4 0 0 400 = V1 at v1 v2
  have v3 : ∀ r k, uPool (itr tL nl V1) r k = if r = 0 ∧ k = 6 then itr tL nl V1 0 6 + itr tL nl V1 12 4 else itr tL nl V1 r k := fun r k => up2_at
  generalize itr tL nl V1 = V2 at v2 v3
  obtain ⟨w1, w2, w3⟩ := tG_at (v := uPool V2) (n := ng)
  generalize uPool V2 = V3 at v3 w1 w2 w3
  generalize itr tG ng V3 = V4 at w1 w2 w3
  have q3 : ∀ r k, ¬ (r = 4 ∧ k < 400) → (80 ≤ r → 80 + nl ≤ r) → ¬ (r = 0 ∧ k = 6) → V3 r k = X r k := fun r k a b c => by
    rw [v3, if_neg c, v2, if_neg (by omega), if_neg (by omega), v1, if_neg (by omega)]
  have u : ∀ r k, up2 (cpy2 V4 12 (20 + ns) 0 0 6) 0 7 (nI (ns + 1)) r k = if r = 0 ∧ k = 7 then nI (ns + 1) else if r = 20 + ns ∧ k < 6 then V4 12 k else V4 r k := fun r k => by
    rw [up2_at, cpy2_at]
    by_cases c : r = 20 + ns ∧ k < 6
    · rw [if_pos c, if_pos (show r = 20 + ns ∧ 0 ≤ k ∧ k < 0 + 6 by omega), show 0 + (k - 0) = k by omega]
    · rw [if_neg c, if_neg (show ¬ (r = 20 + ns ∧ 0 ≤ k ∧ k < 0 + 6) by omega)]
  refine ⟨fun g k h => ?_, fun l k h => ?_, fun c hc => ?_, ?_, ?_, fun k hk => ?_, fun r k a b c d f => ?_⟩
  · rw [u, if_neg (by omega), if_neg (by omega), w1 g k h]
    unfold tGv
    rw [q3 _ _ (by omega) (by omega) (by omega), q3 _ _ (by omega) (by omega) (by omega), q3 _ _ (by omega) (by omega) (by omega), q3 _ _ (by omega) (by omega) (by omega), q3 _ _ (by omega) (by omega) (by omega), q3 _ _ (by omega) (by omega) (by omega)]
  · rw [u, if_neg (by omega), if_neg (by omega), w3 _ _ (by omega) (by omega), v3, if_neg (by omega), v2]
    by_cases c3 : k = 3
    · rw [if_pos (by omega), if_pos c3, v1, if_neg (by omega), v1, if_neg (by omega), show 80 + l - 80 = l by omega]
    · rw [if_neg (by omega), if_neg c3]
      by_cases c4 : k = 4
      · rw [if_pos (by omega), if_pos c4, v1, if_neg (by omega), v1, if_neg (by omega), show 80 + l - 80 = l by omega]
      · rw [if_neg (by omega), if_neg c4, v1, if_neg (by omega)]
  · rw [u, if_neg (by omega), if_neg (by omega), w3 _ _ (by omega) (by omega), v3, if_neg (by omega), v2, if_neg (by omega), if_neg (by omega), v1, if_pos (by omega), show 0 + (c - 0) = c by omega]
  · rw [u, if_neg (by omega), if_neg (by omega), w2, v3, if_pos ⟨rfl, rfl⟩, v2, if_neg (by omega), if_neg (by omega), v1, if_neg (by omega), v2, if_neg (by omega), if_neg (by omega), v1, if_neg (by omega), sumI_congr (f := fun g => V3 10 g) (g := fun g => X 10 g) (fun i _ => q3 _ _ (by omega) (by omega) (by omega))]
  · rw [u, if_pos ⟨rfl, rfl⟩]
  · rw [u, if_neg (by omega), if_pos ⟨rfl, hk⟩, w3 _ _ (by omega) (by omega), q3 _ _ (by omega) (by omega) (by omega)]
  · rw [u, if_neg (by omega), if_neg (by omega), w3 _ _ (by omega) (by omega), q3 _ _ a c (by omega)]
theorem take_sim (hZ : GSz ow gx gy gw gd ng nh) (hg : ng ≤ 6) (hn : nh ≤ 12) (hl : nl ≤ 6) (hs : ns < 30) (hR : RVl ow gx gy gw gd ng nh nl ns 101 110 x y) (hx : ∀ r k, r ≠ 180 → x' r k = x r k) (T : TRY gx gy gw gd ng nh nl 110 101 x' y X W) (hO : ∀ c, Out gx gy gw gd nh c → X 7 c = x' 4 c) :
    RVl ow gx gy gw gd ng nh nl (ns + 1) 101 110 (uTake X ng nl ns) (up2 (cpy2 W 126 124 0 (6 * ns) 6) 101 13 (nI (ns + 1))) := by
  obtain ⟨rG, rS, rL, rP, r6, r8, rT, rO⟩ := hR
  obtain ⟨t1, t2, t3, t4, t5, t6, t7⟩ := T
  obtain ⟨k1, k2, k3, k4, k5, k6, k7⟩ := take_at (X := X) hg hl hs
  have w : ∀ r k, r ≠ 124 → ¬ (r = 101 ∧ k = 13) → up2 (cpy2 W 126 124 0 (6 * ns) 6) 101 13 (nI (ns + 1)) r k = W r k := fun r k a b => by rw [up2_at, if_neg b, cpy2_at, if_neg (by omega)]
  have X0 : ∀ r k, (r < 7 ∨ 13 ≤ r) → r ≠ 180 → X r k = x r k := fun r k a b => (t6 r k a).trans (hx r k b)
  refine ⟨fun g hgl => ?_, fun h hh => ?_, fun l hl9 j hj => ?_, fun h k hh hk => ?_, ?_, ?_, fun s hs9 k hk => ?_, fun c hc => ?_⟩
  · obtain ⟨g0, g2, g3, g4, g5, g6, g7, g1⟩ := rG g hgl
    obtain ⟨p1, p4, p5⟩ := t3 g hgl
    have n0 : (50 + g < 7 ∨ 13 ≤ 50 + g) := by omega
    have z : ∀ k, X (50 + g) k = x (50 + g) k := fun k => X0 _ _ n0 (by omega)
    have f2 : ∀ j, W (110 + 2) j = y (110 + 2) j := fun j => t7 _ _ (by omega) (by omega) (by omega) (by omega) (by omega) (by omega) (by omega)
    have f3 : ∀ j, W (110 + 3) j = y (110 + 3) j := fun j => t7 _ _ (by omega) (by omega) (by omega) (by omega) (by omega) (by omega) (by omega)
    refine ⟨?_, ?_, ?_, ?_, ?_, ?_, ?_, ?_⟩
    · rw [k1 g _ hgl, w _ _ (by omega) (by omega), p1, ← g0]; show X (50 + g) 0 + _ = _; rw [z]
    · rw [k1 g _ hgl, w _ _ (by omega) (by omega), f2, ← g2]; exact z 2
    · rw [k1 g _ hgl, w _ _ (by omega) (by omega), f2, ← g3]; exact z 3
    · rw [k1 g _ hgl, w _ _ (by omega) (by omega), f2, ← g4]; exact z 4
    · rw [k1 g _ hgl, w _ _ (by omega) (by omega), f3, ← g5]; exact z 5
    · rw [k1 g _ hgl, w _ _ (by omega) (by omega), p4, ← g6]; show X (50 + g) 6 + _ = _; rw [z]
    · rw [k1 g _ hgl, w _ _ (by omega) (by omega), p5, ← g7]; show X (50 + g) 7 + _ = _; rw [z]
    · rw [k1 g _ hgl, w _ _ (by omega) (by omega), f2, ← g1]; show X (50 + g) 1 = 0 ↔ _; rw [z]
  · obtain ⟨a, b, c, d⟩ := rS h hh
    have z : ∀ k, uTake X ng nl ns (60 + h) k = x (60 + h) k := fun k => (k7 _ _ (by omega) (by omega) (by omega) (by omega) (by omega)).trans (X0 _ _ (by omega) (by omega))
    have f7 : ∀ j, W (110 + 7) j = y (110 + 7) j := fun j => t7 _ _ (by omega) (by omega) (by omega) (by omega) (by omega) (by omega) (by omega)
    have f8 : ∀ j, W (110 + 8) j = y (110 + 8) j := fun j => t7 _ _ (by omega) (by omega) (by omega) (by omega) (by omega) (by omega) (by omega)
    rw [z, z, z, w _ _ (by omega) (by omega), w _ _ (by omega) (by omega), w _ _ (by omega) (by omega), w _ _ (by omega) (by omega), f7, f7, f7, f8]
    exact ⟨a, b, c, d⟩
  · rw [k2 l j hl9, w _ _ (by omega) (by omega)]
    have z : ∀ k, X (80 + l) k = x (80 + l) k := fun k => X0 _ _ (by omega) (by omega)
    obtain ⟨p3, p4⟩ := t4 l hl9
    by_cases c3 : j = 3
    · subst c3
      rw [if_pos rfl, p3, z, rL l hl9 3 (by omega)]
    · rw [if_neg c3]
      by_cases c4 : j = 4
      · subst c4
        rw [if_pos rfl, p4, z, rL l hl9 4 (by omega)]
      · rw [if_neg c4, z, rL l hl9 j hj]
        exact (t7 _ _ (by omega) (by omega) (by omega) (by omega) (by omega) (by omega) (by omega)).symm
  · rw [k3 _ (cel_lt hZ hh hk), w _ _ (by omega) (by omega)]
    exact t1 h k hh hk
  · rw [k4, w _ _ (by omega) (by omega), t5, X0 0 6 (by omega) (by omega), hx 0 6 (by omega)]
  · rw [k7 _ _ (by omega) (by omega) (by omega) (by omega) (by omega), w _ _ (by omega) (by omega), X0 _ _ (by omega) (by omega), r8]
    exact (t7 _ _ (by omega) (by omega) (by omega) (by omega) (by omega) (by omega) (by omega)).symm
  · show uTake X ng nl ns (20 + s) k = up2 (cpy2 W 126 124 0 (6 * ns) 6) 101 13 (nI (ns + 1)) 124 (6 * s + k)
    rw [up2_at, if_neg (by omega), cpy2_at]
    by_cases c : s = ns
    · subst c
      rw [k6 k hk, if_pos (by omega), show 0 + (6 * s + k - 6 * s) = k by omega]
      exact t2 k hk
    · rw [if_neg (by omega), k7 _ _ (by omega) (by omega) (by omega) (by omega) (by omega), X0 _ _ (by omega) (by omega), rT s (by omega) k hk]
      exact (t7 _ _ (by omega) (by omega) (by omega) (by omega) (by omega) (by omega) (by omega)).symm
  · rw [k3 c hc.1, hO c hc, hx _ _ (by omega)]
    exact rO c hc
end TK
