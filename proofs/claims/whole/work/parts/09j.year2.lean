/-! the year's end, the whole of it -/
section Y2
variable {ow gx gy gw gd : Nat → Nat} {ng nh nl ns B S : Nat} {x y : Nat → Nat → Int32}
def DRe (ng B S : Nat) (a0 b0 : Nat → Nat → Int32) (n : Nat) (a b : Nat → Nat → Int32) : Prop :=
  a 0 6 = b S 10 ∧ (∀ g, g < ng → a (50 + g) 0 = b (B + 1) g ∧ a (50 + g) 7 = b (B + 5) g) ∧ (∀ g, g < n → b (B + 4) g = 0) ∧
  (∀ r k, ¬ (r = 0 ∧ k = 6) → (50 ≤ r → r < 50 + ng → k ≠ 0 ∧ k ≠ 7) → a r k = a0 r k) ∧ (∀ r k, ¬ (r = S ∧ k = 10) → r ≠ B + 1 → r ≠ B + 5 → r ≠ B + 4 → b r k = b0 r k)
theorem debt_sim {a0 b0 a b : Nat → Nat → Int32} {n : Nat} (hSB : S < B) (hlt : n < ng) (h : DRe ng B S a0 b0 n a b) : DRe ng B S a0 b0 (n + 1) (uDebt a n) (rD B S n b) := by
  obtain ⟨h1, h2, h3, h4, h5⟩ := h
  obtain ⟨c0, c7⟩ := h2 n hlt
  obtain ⟨p, hp⟩ : ∃ p, p = imin (a (50 + n) 7) (a 0 6) := ⟨_, rfl⟩
  have hp2 : imin (b S 10) (b (B + 5) n) = p := by rw [hp, imin_comm, c7, h1]
  have ea : ∀ r k, uDebt a n r k = if r = 50 + n ∧ k = 7 then a (50 + n) 7 - p else if r = 50 + n ∧ k = 0 then a (50 + n) 0 + p else if r = 0 ∧ k = 6 then a 0 6 - p else a r k := fun r k => by
    unfold uDebt
    rw [← hp]
    have u0 : ∀ z, up2 a 0 6 z (50 + n) 0 = a (50 + n) 0 := fun z => by rw [up2_at, if_neg (by omega)]
    have u7 : ∀ z q, up2 (up2 a 0 6 z) (50 + n) 0 q (50 + n) 7 = a (50 + n) 7 := fun z q => by rw [up2_at, if_neg (by omega), up2_at, if_neg (by omega)]
    rw [u7, u0, up2_at, up2_at, up2_at]
  have eb : ∀ r k, rD B S n b r k = if r = B + 4 ∧ k = n then 0 else if r = B + 5 ∧ k = n then b (B + 5) n - p else if r = B + 1 ∧ k = n then b (B + 1) n + p else if r = S ∧ k = 10 then b S 10 - p else b r k := fun r k => by
    unfold rD rPay
    dsimp only
    rw [hp2]
    have u1 : ∀ z, up2 b S 10 z (B + 1) n = b (B + 1) n := fun z => by rw [up2_at, if_neg (by omega)]
    have u5 : ∀ z q, up2 (up2 b S 10 z) (B + 1) n q (B + 5) n = b (B + 5) n := fun z q => by rw [up2_at, if_neg (by omega), up2_at, if_neg (by omega)]
    rw [u5, u1, up2_at, up2_at, up2_at, up2_at]
  refine ⟨?_, fun g hg => ⟨?_, ?_⟩, fun g hg => ?_, fun r k u v => ?_, fun r k u v w z => ?_⟩
  · rw [ea, if_neg (by omega), if_neg (by omega), if_pos ⟨rfl, rfl⟩, eb, if_neg (by omega), if_neg (by omega), if_neg (by omega), if_pos ⟨rfl, rfl⟩, h1]
  · rw [eb, if_neg (by omega), if_neg (by omega), ea, if_neg (by omega)]
    by_cases d : g = n
    · subst d
      rw [if_pos ⟨rfl, rfl⟩, if_pos ⟨rfl, rfl⟩, c0]
    · rw [if_neg (by omega), if_neg (by omega), if_neg (fun q => d q.2), if_neg (by omega)]
      exact (h2 g hg).1
  · rw [ea, eb, if_neg (show ¬ (B + 5 = B + 4 ∧ g = n) by omega)]
    by_cases d : g = n
    · subst d
      rw [if_pos ⟨rfl, rfl⟩, if_pos ⟨rfl, rfl⟩, c7]
    · rw [if_neg (by omega), if_neg (by omega), if_neg (by omega), if_neg (fun q => d q.2), if_neg (by omega), if_neg (by omega)]
      exact (h2 g hg).2
  · rw [eb]
    by_cases d : g = n
    · rw [if_pos ⟨rfl, d⟩]
    · rw [if_neg (fun q => d q.2), if_neg (by omega), if_neg (by omega), if_neg (by omega)]
      exact h3 g (by omega)
  · rw [ea, if_neg (by omega), if_neg (by omega), if_neg u]
    exact h4 r k u v
  · rw [eb, if_neg (fun q => z q.1), if_neg (fun q => w q.1), if_neg (fun q => v q.1), if_neg u]
    exact h5 r k u v w z
theorem c6_at {v : Nat → Nat → Int32} : ∀ {n r k : Nat}, itr (fun g u => up2 u (50 + g) 6 0) n v r k = if 50 ≤ r ∧ r < 50 + n ∧ k = 6 then 0 else v r k
  | 0, r, k => by rw [if_neg (by omega)]; rfl
  | n + 1, r, k => by
    rw [itr_s, up2_at, c6_at (n := n)]
    by_cases c : r = 50 + n ∧ k = 6
    · rw [if_pos c, if_pos (by omega)]
    · rw [if_neg c]
      by_cases d : 50 ≤ r ∧ r < 50 + n ∧ k = 6
      · rw [if_pos d, if_pos (by omega)]
      · rw [if_neg d, if_neg (by omega)]
theorem l3_at {v : Nat → Nat → Int32} : ∀ {n r k : Nat}, itr (fun k u => up2 u (80 + k) 3 (2 * u (80 + k) 1)) n v r k = if 80 ≤ r ∧ r < 80 + n ∧ k = 3 then 2 * v r 1 else v r k
  | 0, r, k => by rw [if_neg (by omega)]; rfl
  | n + 1, r, k => by
    rw [itr_s, up2_at, l3_at (n := n), l3_at (n := n), if_neg (show ¬ (80 ≤ 80 + n ∧ 80 + n < 80 + n ∧ 1 = 3) by omega)]
    by_cases c : r = 80 + n ∧ k = 3
    · rw [if_pos c, if_pos (by omega), c.1]
    · rw [if_neg c]
      by_cases d : 80 ≤ r ∧ r < 80 + n ∧ k = 3
      · rw [if_pos d, if_pos (by omega)]
      · rw [if_neg d, if_neg (by omega)]
theorem m3_at {v : Nat → Nat → Int32} : ∀ {n r j : Nat}, itr (fun k u => up2 u (B + 12) (5 * k + 3) (2 * u (B + 12) (5 * k + 1))) n v r j = if r = B + 12 ∧ j % 5 = 3 ∧ j / 5 < n then 2 * v (B + 12) (j - 2) else v r j
  | 0, r, k => by rw [if_neg (by omega)]; rfl
  | n + 1, r, k => by
    rw [itr_s, up2_at, m3_at (n := n), m3_at (n := n), if_neg (show ¬ (B + 12 = B + 12 ∧ (5 * n + 1) % 5 = 3 ∧ (5 * n + 1) / 5 < n) by omega)]
    by_cases c : r = B + 12 ∧ k = 5 * n + 3
    · rw [if_pos c, if_pos (by omega), show k - 2 = 5 * n + 1 by omega]
    · rw [if_neg c]
      by_cases d : r = B + 12 ∧ k % 5 = 3 ∧ k / 5 < n
      · rw [if_pos d, if_pos (by omega)]
      · rw [if_neg d, if_neg (by omega)]
theorem year_sim (hZ : GSz ow gx gy gw gd ng nh) (hg : ng ≤ 6) (hn : nh ≤ 12) (hl : nl ≤ 6) (hR : RVl ow gx gy gw gd ng nh nl ns 101 110 x y) (hw : WRw gw gd nh x) (hO : ∀ h, h < nh → x (60 + h) 0 = nI (ow h)) :
    pYear x nh ng = (rYs y 110 gw gd ng nh).2 ∧ RVl ow gx gy gw gd ng nh nl 0 101 110 (uEnd x nh ng nl) (rYear y 110 101 gw gd ng nh nl) := by
  obtain ⟨rG, rS, rL, rP, r6, r8, rT, rO⟩ := hR
  have hV : ∀ g, g < ng → gVals x nh (nI g) = rVals y 110 gw gd nh (nI g) := fun g h => vals_eq (by omega) (fun h hh => by have := (hZ h hh).1; omega) hO rS hw
  have K : YR ng nh 110 x y ng (itr (fun g u => uPre u nh g) ng x) (itr (rY 110 gw gd nh) ng (y, 0)) := itr_sim (fun i a t => YR ng nh 110 x y i a t) ⟨fun g h => ⟨(rG g h).1, (rG g h).2.2.2.2.1⟩, by show x 0 6 = x 0 6 + 0; grind, rfl, fun _ _ _ _ => rfl, fun _ _ _ _ => rfl, rfl⟩ (fun i a t hi q => pre_sim hg hn rG hV hi q)
  obtain ⟨k1, k2, k3, k4, k5, -⟩ := K
  refine ⟨?_, ?_⟩
  · unfold pYear rYs
    rw [k3]
  have eE : uEnd x nh ng nl = up2 (up2 (itr (fun k u => up2 u (80 + k) 3 (2 * u (80 + k) 1)) nl (itr (fun g u => up2 u (50 + g) 6 0) ng (itr (fun g u => uDebt u g) ng (itr (fun g u => uPre u nh g) ng x)))) 0 7 0) 0 8 (up2 (itr (fun k u => up2 u (80 + k) 3 (2 * u (80 + k) 1)) nl (itr (fun g u => up2 u (50 + g) 6 0) ng (itr (fun g u => uDebt u g) ng (itr (fun g u => uPre u nh g) ng x)))) 0 7 0 0 8 + 1) := rfl
  have eR : rYear y 110 101 gw gd ng nh nl = up2 (up2 (itr (fun k u => up2 u (110 + 12) (5 * k + 3) (2 * u (110 + 12) (5 * k + 1))) nl (itr (rD 110 101) ng (up2 (itr (rY 110 gw gd nh) ng (y, 0)).1 101 10 ((itr (rY 110 gw gd nh) ng (y, 0)).1 101 10 + (itr (rY 110 gw gd nh) ng (y, 0)).2)))) 101 13 0) 101 15 (up2 (itr (fun k u => up2 u (110 + 12) (5 * k + 3) (2 * u (110 + 12) (5 * k + 1))) nl (itr (rD 110 101) ng (up2 (itr (rY 110 gw gd nh) ng (y, 0)).1 101 10 ((itr (rY 110 gw gd nh) ng (y, 0)).1 101 10 + (itr (rY 110 gw gd nh) ng (y, 0)).2)))) 101 13 0 101 15 + 1) := rfl
  rw [eE, eR]
  generalize itr (fun g u => uPre u nh g) ng x = a1 at k1 k2 k4
  generalize itr (rY 110 gw gd nh) ng (y, 0) = t at k1 k2 k5
  obtain ⟨b1, hb1⟩ : ∃ z, z = up2 t.1 101 10 (t.1 101 10 + t.2) := ⟨_, rfl⟩
  rw [← hb1]
  have b1a : ∀ r k, b1 r k = if r = 101 ∧ k = 10 then t.1 101 10 + t.2 else t.1 r k := fun r k => by rw [hb1, up2_at]
  have D : DRe ng 110 101 a1 b1 ng (itr (fun g u => uDebt u g) ng a1) (itr (rD 110 101) ng b1) := itr_sim (fun i a b => DRe ng 110 101 a1 b1 i a b) ⟨by rw [b1a, if_pos ⟨rfl, rfl⟩, k2, k5 _ _ (by omega) (by omega), r6], fun g h => ⟨by rw [b1a, if_neg (by omega)]; exact (k1 g h).1, by rw [b1a, if_neg (by omega), k5 _ _ (by omega) (by omega), k4 _ _ (by omega) (by omega)]; exact (rG g h).2.2.2.2.2.2.1⟩, fun g h => absurd h (by omega), fun _ _ _ _ => rfl, fun _ _ _ _ _ _ => rfl⟩ (fun i a b hi q => debt_sim (by omega) hi q)
  obtain ⟨d1, d2, d3, d4, d5⟩ := D
  generalize itr (fun g u => uDebt u g) ng a1 = a2 at d1 d2 d4
  generalize itr (rD 110 101) ng b1 = b2 at d1 d2 d3 d5
  have A : ∀ r k, itr (fun k u => up2 u (80 + k) 3 (2 * u (80 + k) 1)) nl (itr (fun g u => up2 u (50 + g) 6 0) ng a2) r k = if 80 ≤ r ∧ r < 80 + nl ∧ k = 3 then 2 * a2 r 1 else if 50 ≤ r ∧ r < 50 + ng ∧ k = 6 then 0 else a2 r k := fun r k => by
    rw [l3_at, c6_at, c6_at]
    by_cases c : 80 ≤ r ∧ r < 80 + nl ∧ k = 3
    · rw [if_pos c, if_pos c, if_neg (by omega)]
    · rw [if_neg c, if_neg c]
  generalize itr (fun k u => up2 u (80 + k) 3 (2 * u (80 + k) 1)) nl (itr (fun g u => up2 u (50 + g) 6 0) ng a2) = a3 at A
  have Bq : ∀ r j, itr (fun k u => up2 u (110 + 12) (5 * k + 3) (2 * u (110 + 12) (5 * k + 1))) nl b2 r j = _ := fun r j => m3_at (B := 110) (v := b2) (n := nl) (r := r) (j := j)
  generalize itr (fun k u => up2 u (110 + 12) (5 * k + 3) (2 * u (110 + 12) (5 * k + 1))) nl b2 = b3 at Bq
  have F : ∀ r k, ¬ (r = 0 ∧ (k = 7 ∨ k = 8)) → up2 (up2 a3 0 7 0) 0 8 (up2 a3 0 7 0 0 8 + 1) r k = a3 r k := fun r k h => by rw [up2_at, if_neg (by omega), up2_at, if_neg (by omega)]
  have H : ∀ r k, ¬ (r = 101 ∧ (k = 13 ∨ k = 15)) → up2 (up2 b3 101 13 0) 101 15 (up2 b3 101 13 0 101 15 + 1) r k = b3 r k := fun r k h => by rw [up2_at, if_neg (by omega), up2_at, if_neg (by omega)]
  have xa : ∀ r k, r ≠ 0 → (r < 50 ∨ 50 + ng ≤ r) → a2 r k = x r k := fun r k h1 h2 => (d4 _ _ (by omega) (by omega)).trans (k4 _ _ (by omega) (by omega))
  have yb : ∀ r k, r ≠ 101 → r ≠ 110 + 1 → r ≠ 110 + 3 → r ≠ 110 + 4 → r ≠ 110 + 5 → b2 r k = y r k := fun r k h1 h2 h3 h4 h5 => (d5 _ _ (by omega) h2 h5 h4).trans ((b1a _ _).trans (by rw [if_neg (by omega)]; exact k5 _ _ h2 h3))
  refine ⟨fun g hgl => ?_, fun h hh => ?_, fun l hl9 j hj => ?_, fun h k hh hk => ?_, ?_, ?_, fun s hs => absurd hs (by omega), fun c hc => ?_⟩
  · obtain ⟨g0, g2, g3, g4, g5, g6, g7, g1⟩ := rG g hgl
    obtain ⟨e0, e7⟩ := d2 g hgl
    have z : ∀ k, k ≠ 6 → up2 (up2 a3 0 7 0) 0 8 (up2 a3 0 7 0 0 8 + 1) (50 + g) k = a2 (50 + g) k := fun k h => by rw [F _ _ (by omega), A, if_neg (by omega), if_neg (by omega)]
    have w : ∀ j k, j ≠ 12 → up2 (up2 b3 101 13 0) 101 15 (up2 b3 101 13 0 101 15 + 1) (110 + j) k = b2 (110 + j) k := fun j k h => by rw [H _ _ (by omega), Bq, if_neg (by omega)]
    have o : ∀ k, k ≠ 0 → k ≠ 5 → k ≠ 7 → a2 (50 + g) k = x (50 + g) k := fun k h1 h2 h3 => (d4 _ _ (by omega) (by omega)).trans (k4 _ _ (by omega) (by omega))
    refine ⟨?_, ?_, ?_, ?_, ?_, ?_, ?_, ?_⟩
    · rw [z _ (by omega), w _ _ (by omega)]; exact e0
    · rw [z _ (by omega), w _ _ (by omega), o _ (by omega) (by omega) (by omega), yb _ _ (by omega) (by omega) (by omega) (by omega) (by omega)]; exact g2
    · rw [z _ (by omega), w _ _ (by omega), o _ (by omega) (by omega) (by omega), yb _ _ (by omega) (by omega) (by omega) (by omega) (by omega)]; exact g3
    · rw [z _ (by omega), w _ _ (by omega), o _ (by omega) (by omega) (by omega), yb _ _ (by omega) (by omega) (by omega) (by omega) (by omega)]; exact g4
    · rw [z _ (by omega), w _ _ (by omega), d4 _ _ (by omega) (by omega), d5 _ _ (by omega) (by omega) (by omega) (by omega), b1a, if_neg (by omega)]; exact (k1 g hgl).2
    · rw [F _ _ (by omega), A, if_neg (by omega), if_pos (by omega), w _ _ (by omega)]; exact (d3 g hgl).symm
    · rw [z _ (by omega), w _ _ (by omega)]; exact e7
    · rw [z _ (by omega), w _ _ (by omega), o _ (by omega) (by omega) (by omega), yb _ _ (by omega) (by omega) (by omega) (by omega) (by omega)]; exact g1
  · obtain ⟨a, b, c, d⟩ := rS h hh
    have z : ∀ k, up2 (up2 a3 0 7 0) 0 8 (up2 a3 0 7 0 0 8 + 1) (60 + h) k = x (60 + h) k := fun k => by rw [F _ _ (by omega), A, if_neg (by omega), if_neg (by omega), xa _ _ (by omega) (by omega)]
    have w : ∀ j k, j ≠ 12 → j ≠ 1 → j ≠ 3 → j ≠ 4 → j ≠ 5 → up2 (up2 b3 101 13 0) 101 15 (up2 b3 101 13 0 101 15 + 1) (110 + j) k = y (110 + j) k := fun j k h1 h2 h3 h4 h5 => by rw [H _ _ (by omega), Bq, if_neg (by omega), yb _ _ (by omega) (by omega) (by omega) (by omega) (by omega)]
    rw [z, z, z, w _ _ (by omega) (by omega) (by omega) (by omega) (by omega), w _ _ (by omega) (by omega) (by omega) (by omega) (by omega), w _ _ (by omega) (by omega) (by omega) (by omega) (by omega), w _ _ (by omega) (by omega) (by omega) (by omega) (by omega)]
    exact ⟨a, b, c, d⟩
  · rw [F _ _ (by omega), H _ _ (by omega), A, Bq]
    by_cases c : j = 3
    · subst c
      rw [if_pos (by omega), if_pos (by omega), xa _ _ (by omega) (by omega), yb _ _ (by omega) (by omega) (by omega) (by omega) (by omega), rL l hl9 1 (by omega), show 5 * l + 3 - 2 = 5 * l + 1 by omega]
    · rw [if_neg (by omega), if_neg (by omega), if_neg (by omega), xa _ _ (by omega) (by omega), yb _ _ (by omega) (by omega) (by omega) (by omega) (by omega)]
      exact rL l hl9 j hj
  · rw [F _ _ (by omega), H _ _ (by omega), A, if_neg (by omega), if_neg (by omega), Bq, if_neg (by omega), xa _ _ (by omega) (by omega), yb _ _ (by omega) (by omega) (by omega) (by omega) (by omega)]
    exact rP h k hh hk
  · rw [F _ _ (by omega), H _ _ (by omega), A, if_neg (by omega), if_neg (by omega), Bq, if_neg (by omega)]
    exact d1
  · rw [up2_at, if_pos ⟨rfl, rfl⟩, up2_at, if_neg (by omega), A, if_neg (by omega), if_neg (by omega), up2_at, if_pos ⟨rfl, rfl⟩, up2_at, if_neg (by omega), Bq, if_neg (by omega), d4 _ _ (by omega) (by omega), k4 _ _ (by omega) (by omega), d5 _ _ (by omega) (by omega) (by omega) (by omega), b1a, if_neg (by omega), k5 _ _ (by omega) (by omega), r8]
  · rw [F _ _ (by omega), A, if_neg (by omega), if_neg (by omega), xa _ _ (by omega) (by omega)]
    exact rO c hc
end Y2
