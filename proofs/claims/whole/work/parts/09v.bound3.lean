/-! the bounds stay over the year's end -/
section BV
variable {ow gx gy gw gd : Nat → Nat} {ng nh nl ns : Nat} {n : Int} {x : Nat → Nat → Int32}
theorem itr_ind {α : Type} {f : Nat → α → α} {a : α} (P : Nat → α → Prop) (h0 : P 0 a) : ∀ {n : Nat}, (∀ i u, i < n → P i u → P (i + 1) (f i u)) → P n (itr f n a)
  | 0, _ => h0
  | n + 1, h => h n _ (by omega) (itr_ind P h0 (n := n) (fun i u hi q => h i u (by omega) q))
theorem uPre_o {g r k : Nat} (h0 : r ≠ 0) (h1 : r ≠ 50 + g) : uPre x nh g r k = x r k := by
  have e : uPre x nh g = fChg (up2 (up2 x (50 + g) 0 (x (50 + g) 0 - pPre x nh g)) 0 6 (up2 x (50 + g) 0 (x (50 + g) 0 - pPre x nh g) 0 6 + pPre x nh g)) (50 + g) := rfl
  rw [e]
  unfold fChg
  split
  · rw [up2_at, if_neg (by omega), up2_at, if_neg (by omega)]
  · rw [up2_at, if_neg (by omega), up2_at, if_neg (by omega), up2_at, if_neg (by omega)]
theorem debt_b {g : Nat} (hlt : g < ng) (h6 : ng ≤ 6) (h0 : 0 ≤ n) (hn2 : n ≤ 600) {z : Int} (z1 : z ≤ 1000000000) (hp0 : 0 ≤ (x 0 6).toInt) (hp1 : (x 0 6).toInt ≤ z) (hG : ∀ g, g < ng → BG n (x (50 + g))) : (0 ≤ (uDebt x g 0 6).toInt ∧ (uDebt x g 0 6).toInt ≤ z) ∧ (∀ i, i < ng → BG n (uDebt x g (50 + i))) ∧ (∀ r k, r ≠ 0 → r ≠ 50 + g → uDebt x g r k = x r k) := by
  obtain ⟨p, hp⟩ : ∃ p, p = imin (x (50 + g) 7) (x 0 6) := ⟨_, rfl⟩
  have hpi : p.toInt = min (x (50 + g) 7).toInt (x 0 6).toInt := by rw [hp, ti_imin]
  obtain ⟨a0, a7, a07, a6, b6, a3, b3, a4, b4, a5, b5⟩ := hG g hlt
  have ea : ∀ r k, uDebt x g r k = if r = 50 + g ∧ k = 7 then x (50 + g) 7 - p else if r = 50 + g ∧ k = 0 then x (50 + g) 0 + p else if r = 0 ∧ k = 6 then x 0 6 - p else x r k := fun r k => by
    unfold uDebt
    rw [← hp]
    have u0 : ∀ z, up2 x 0 6 z (50 + g) 0 = x (50 + g) 0 := fun z => by rw [up2_at, if_neg (by omega)]
    have u7 : ∀ z q, up2 (up2 x 0 6 z) (50 + g) 0 q (50 + g) 7 = x (50 + g) 7 := fun z q => by rw [up2_at, if_neg (by omega), up2_at, if_neg (by omega)]
    rw [u7, u0, up2_at, up2_at, up2_at]
  refine ⟨?_, fun i hi => ?_, fun r k h1 h2 => by rw [ea, if_neg (by omega), if_neg (by omega), if_neg (by omega)]⟩
  · rw [ea, if_neg (by omega), if_neg (by omega), if_pos ⟨rfl, rfl⟩, ti_sub (by omega) (by omega)]
    omega
  · by_cases d : i = g
    · subst d
      have f : ∀ k, k ≠ 0 → k ≠ 7 → uDebt x i (50 + i) k = x (50 + i) k := fun k h1 h2 => by rw [ea, if_neg (by omega), if_neg (by omega), if_neg (by omega)]
      have f0 : (uDebt x i (50 + i) 0).toInt = (x (50 + i) 0).toInt + p.toInt := by rw [ea, if_neg (by omega), if_pos ⟨rfl, rfl⟩, ti_add (m := (x (50 + i) 0).toInt + p.toInt) (by omega) (by omega) rfl]
      have f7 : (uDebt x i (50 + i) 7).toInt = (x (50 + i) 7).toInt - p.toInt := by rw [ea, if_pos ⟨rfl, rfl⟩, ti_sub (by omega) (by omega)]
      unfold BG
      rw [f 6 (by omega) (by omega), f 3 (by omega) (by omega), f 4 (by omega) (by omega), f 5 (by omega) (by omega), f0, f7]
      exact ⟨by omega, by omega, by omega, a6, b6, a3, b3, a4, b4, a5, b5⟩
    · rw [show uDebt x g (50 + i) = x (50 + i) from funext (fun k => by rw [ea, if_neg (by omega), if_neg (by omega), if_neg (by omega)])]
      exact hG i hi
theorem BN.year (h : BN ng nl n x) (hZ : GSz ow gx gy gw gd ng nh) (hg : ng ≤ 6) (hn : nh ≤ 12) (hl : nl ≤ 6) (h0 : 0 ≤ n) (hn2 : n ≤ 600) (hV : VB gw gd nh x) : BN ng nl (n + 1) (uEnd x nh ng nl) := by
  obtain ⟨⟨p0, p1⟩, hG, hL⟩ := h
  have K1 := itr_ind (f := fun g u => uPre u nh g) (a := x) (fun i u => (0 ≤ (u 0 6).toInt ∧ (u 0 6).toInt ≤ 1000000 * n + 100000 * i) ∧ (∀ g, g < ng → BG n (u (50 + g))) ∧ (∀ r k, r ≠ 0 → (r < 50 ∨ 50 + ng ≤ r) → u r k = x r k)) ⟨⟨p0, by omega⟩, hG, fun _ _ _ _ => rfl⟩ (n := ng) (fun i u hi q => by
    obtain ⟨⟨q0, q1⟩, q2, q3⟩ := q
    have eV : gVals u nh (nI i) = gVals x nh (nI i) := gVals_congr (fun h hh k => q3 _ _ (by omega) (by omega))
    obtain ⟨v0, v1⟩ := vals_b (g := nI i) hZ hn hV
    obtain ⟨⟨r0, r1⟩, r2⟩ := pre_b (z := 1000000 * n + 100000 * i) hi hg h0 hn2 (by rw [eV]; exact v0) (by rw [eV]; exact v1) (by omega) (by omega) q0 q1 q2
    exact ⟨⟨r0, by omega⟩, r2, fun r k a b => (uPre_o a (by omega)).trans (q3 r k a b)⟩)
  have eE : uEnd x nh ng nl = up2 (up2 (itr (fun k u => up2 u (80 + k) 3 (2 * u (80 + k) 1)) nl (itr (fun g u => up2 u (50 + g) 6 0) ng (itr (fun g u => uDebt u g) ng (itr (fun g u => uPre u nh g) ng x)))) 0 7 0) 0 8 (up2 (itr (fun k u => up2 u (80 + k) 3 (2 * u (80 + k) 1)) nl (itr (fun g u => up2 u (50 + g) 6 0) ng (itr (fun g u => uDebt u g) ng (itr (fun g u => uPre u nh g) ng x)))) 0 7 0 0 8 + 1) := rfl
  rw [eE]
  generalize itr (fun g u => uPre u nh g) ng x = a1 at K1
  obtain ⟨⟨k0, k1⟩, k2, k3⟩ := K1
  have K2 := itr_ind (f := fun g u => uDebt u g) (a := a1) (fun i u => (0 ≤ (u 0 6).toInt ∧ (u 0 6).toInt ≤ 1000000 * n + 100000 * ng) ∧ (∀ g, g < ng → BG n (u (50 + g))) ∧ (∀ r k, r ≠ 0 → (r < 50 ∨ 50 + ng ≤ r) → u r k = x r k)) ⟨⟨k0, k1⟩, k2, k3⟩ (n := ng) (fun i u hi q => by
    obtain ⟨⟨q0, q1⟩, q2, q3⟩ := q
    obtain ⟨r0, r1, r2⟩ := debt_b (z := 1000000 * n + 100000 * ng) hi hg h0 hn2 (by omega) q0 q1 q2
    exact ⟨r0, r1, fun r k a b => (r2 r k a (by omega)).trans (q3 r k a b)⟩)
  generalize itr (fun g u => uDebt u g) ng a1 = a2 at K2
  obtain ⟨⟨m0, m1⟩, m2, m3⟩ := K2
  have A : ∀ r k, itr (fun k u => up2 u (80 + k) 3 (2 * u (80 + k) 1)) nl (itr (fun g u => up2 u (50 + g) 6 0) ng a2) r k = if 80 ≤ r ∧ r < 80 + nl ∧ k = 3 then 2 * a2 r 1 else if 50 ≤ r ∧ r < 50 + ng ∧ k = 6 then 0 else a2 r k := fun r k => by
    rw [l3_at, c6_at, c6_at]
    by_cases c : 80 ≤ r ∧ r < 80 + nl ∧ k = 3
    · rw [if_pos c, if_pos c, if_neg (by omega)]
    · rw [if_neg c, if_neg c]
  generalize itr (fun k u => up2 u (80 + k) 3 (2 * u (80 + k) 1)) nl (itr (fun g u => up2 u (50 + g) 6 0) ng a2) = a3 at A
  have F : ∀ r k, ¬ (r = 0 ∧ (k = 7 ∨ k = 8)) → up2 (up2 a3 0 7 0) 0 8 (up2 a3 0 7 0 0 8 + 1) r k = a3 r k := fun r k h => by rw [up2_at, if_neg (by omega), up2_at, if_neg (by omega)]
  refine ⟨?_, fun g hgl => ?_, fun l hl9 => ?_⟩
  · rw [F _ _ (by omega), A, if_neg (by omega), if_neg (by omega)]
    omega
  · obtain ⟨b0, b7, b07, b6, c6, b3, c3, b4, c4, b5, c5⟩ := m2 g hgl
    have f : ∀ k, k ≠ 6 → up2 (up2 a3 0 7 0) 0 8 (up2 a3 0 7 0 0 8 + 1) (50 + g) k = a2 (50 + g) k := fun k hk => by rw [F _ _ (by omega), A, if_neg (by omega), if_neg (by omega)]
    have f6 : up2 (up2 a3 0 7 0) 0 8 (up2 a3 0 7 0 0 8 + 1) (50 + g) 6 = 0 := by rw [F _ _ (by omega), A, if_neg (by omega), if_pos (by omega)]
    unfold BG
    rw [f 0 (by omega), f 7 (by omega), f 3 (by omega), f 4 (by omega), f 5 (by omega), f6]
    have z : (0 : Int32).toInt = 0 := rfl
    exact ⟨b0, b7, by omega, by omega, by omega, b3, c3, b4, c4, b5, c5⟩
  · obtain ⟨b1, c1, b2, c2, b3⟩ := hL l hl9
    have f : ∀ k, k ≠ 3 → up2 (up2 a3 0 7 0) 0 8 (up2 a3 0 7 0 0 8 + 1) (80 + l) k = x (80 + l) k := fun k hk => by rw [F _ _ (by omega), A, if_neg (by omega), if_neg (by omega), m3 _ _ (by omega) (by omega)]
    have f3 : up2 (up2 a3 0 7 0) 0 8 (up2 a3 0 7 0 0 8 + 1) (80 + l) 3 = 2 * x (80 + l) 1 := by rw [F _ _ (by omega), A, if_pos (by omega), m3 _ _ (by omega) (by omega)]
    have k2 : (2 : Int32).toInt = 2 := by decide
    unfold BL
    rw [f 1 (by omega), f 2 (by omega), f3, ti_mul (by rw [k2]; omega) (by rw [k2]; omega), k2]
    exact ⟨b1, c1, b2, c2, by omega⟩
end BV
