/-! the bounds stay: the small changes, the year -/
section BU
variable {ow gx gy gw gd : Nat → Nat} {ng nh nl ns : Nat} {n : Int} {x x' y : Nat → Nat → Int32}
/-- the houses' values and sizes -/
def VB (gw gd : Nat → Nat) (nh : Nat) (x : Nat → Nat → Int32) : Prop := ∀ h, h < nh → (∃ m : Nat, 1 ≤ m ∧ m ≤ 1000 ∧ x (60 + h) 6 = nI m) ∧ x (60 + h) 3 = nI (gw h) ∧ x (60 + h) 4 = nI (gd h)
theorem nI_ti {m : Nat} (h : m < 2 ^ 31) : (nI m).toInt = (m : Int) := by rw [← iI_n]; exact iI_toInt (by omega) (by omega)
theorem vals_b {g : Int32} (hZ : GSz ow gx gy gw gd ng nh) (hn : nh ≤ 12) (hV : VB gw gd nh x) : 0 ≤ (gVals x nh g).toInt ∧ (gVals x nh g).toInt ≤ 432000 := by
  have := sum_b (f := fun h => if x (60 + h) 0 = g then hVal x h else 0) (c := 36000) (by omega) (by omega) (m := nh) (by omega) (fun h hh => by
    obtain ⟨⟨m, m1, m2, e6⟩, e3, e4⟩ := hV h hh
    have hm := hZ.m hh
    show 0 ≤ (if x (60 + h) 0 = g then hVal x h else 0 : Int32).toInt ∧ _
    have hmul : gw h * gd h * m ≤ 36 * 1000 := Nat.mul_le_mul hm m2
    have eV : (hVal x h).toInt = ((gw h * gd h * m : Nat) : Int) := by
      unfold hVal
      rw [e3, e4, e6, pk_mul, pk_mul]
      exact nI_ti (by omega)
    by_cases c : x (60 + h) 0 = g
    · simp only [if_pos c]; rw [eV]; omega
    · simp only [if_neg c]; rw [show (0 : Int32).toInt = 0 from rfl]; omega)
  unfold gVals
  omega
theorem BN.fund {c : Int32} (h : BN ng nl n x) (hn : 0 ≤ n) (hn2 : n ≤ 600) (c1 : 1 ≤ c.toInt) (c2 : c.toInt ≤ 1000000) : BN ng nl (n + 1) (up2 x 0 6 (x 0 6 + c)) := by
  obtain ⟨⟨p0, p1⟩, hG, hL⟩ := h
  have e : ∀ r, r ≠ 0 → up2 x 0 6 (x 0 6 + c) r = x r := fun r a => up2_other a
  refine ⟨?_, fun g hg => ?_, fun l hl => ?_⟩
  · rw [up2_s, ti_add (m := (x 0 6).toInt + c.toInt) (by omega) (by omega) rfl]; omega
  · rw [e _ (by omega)]; exact (hG g hg).mono (by omega)
  · rw [e _ (by omega)]; exact hL l hl
theorem BN.congr (h : BN ng nl n x) (e0 : x' 0 6 = x 0 6) (eg : ∀ g k, g < ng → x' (50 + g) k = x (50 + g) k) (el : ∀ l k, l < nl → x' (80 + l) k = x (80 + l) k) : BN ng nl n x' := by
  obtain ⟨p, hG, hL⟩ := h
  refine ⟨by rw [e0]; exact p, fun g hg => ?_, fun l hl => ?_⟩
  · rw [show x' (50 + g) = x (50 + g) from funext (fun k => eg g k hg)]; exact hG g hg
  · rw [show x' (80 + l) = x (80 + l) from funext (fun k => el l k hl)]; exact hL l hl
/-- one grower's numbers change -/
theorem BN.grower {i : Nat} (h : BN ng nl n x) (hl : ng ≤ 6) (e0 : x' 0 6 = x 0 6) (eg : ∀ g k, g < ng → g ≠ i → x' (50 + g) k = x (50 + g) k) (ei : i < ng → BG n (x' (50 + i))) (el : ∀ l k, l < nl → x' (80 + l) k = x (80 + l) k) : BN ng nl n x' := by
  obtain ⟨p, hG, hL⟩ := h
  refine ⟨by rw [e0]; exact p, fun g hg => ?_, fun l hl => ?_⟩
  · by_cases c : g = i
    · rw [c]; exact ei (c ▸ hg)
    · rw [show x' (50 + g) = x (50 + g) from funext (fun k => eg g k hg c)]; exact hG g hg
  · rw [show x' (80 + l) = x (80 + l) from funext (fun k => el l k hl)]; exact hL l hl
theorem BN.insure {g : Nat} {d li ra : Int32} (h : BN ng nl n x) (h6 : ng ≤ 6) (hg9 : g < ng) (l1 : 0 ≤ li.toInt) (l2 : li.toInt ≤ 100000) (r1 : 0 ≤ ra.toInt) (r2 : ra.toInt ≤ 100) : BN ng nl n (uInsure x g d li ra) := by
  have e0 : ∀ r k, uInsure x g d li ra r k = if r = 50 + g ∧ k = 4 then ra else if r = 50 + g ∧ k = 3 then li else if r = 50 + g ∧ k = 2 then d else if r = 50 + g ∧ k = 1 then 1 else x r k := fun r k => rfl
  have hgl : g < 30 := by omega
  refine h.grower (i := g) h6 (by rw [e0, if_neg (by omega), if_neg (by omega), if_neg (by omega), if_neg (by omega)]) (fun i k hi hne => by rw [e0, if_neg (by omega), if_neg (by omega), if_neg (by omega), if_neg (by omega)]) (fun hg => ?_) (fun l k hl => by rw [e0, if_neg (by omega), if_neg (by omega), if_neg (by omega), if_neg (by omega)])
  obtain ⟨a0, a7, a07, a6, b6, a3, b3, a4, b4, a5, b5⟩ := h.2.1 g hg
  have f : ∀ k, k ≠ 1 → k ≠ 2 → k ≠ 3 → k ≠ 4 → uInsure x g d li ra (50 + g) k = x (50 + g) k := fun k h1 h2 h3 h4 => by rw [e0, if_neg (by omega), if_neg (by omega), if_neg (by omega), if_neg (by omega)]
  have f3 : uInsure x g d li ra (50 + g) 3 = li := by rw [e0, if_neg (by omega), if_pos ⟨rfl, rfl⟩]
  have f4 : uInsure x g d li ra (50 + g) 4 = ra := by rw [e0, if_pos ⟨rfl, rfl⟩]
  unfold BG
  rw [f 0 (by omega) (by omega) (by omega) (by omega), f 7 (by omega) (by omega) (by omega) (by omega), f 6 (by omega) (by omega) (by omega) (by omega), f 5 (by omega) (by omega) (by omega) (by omega), f3, f4]
  exact ⟨a0, a7, a07, a6, b6, l1, l2, r1, r2, a5, b5⟩
/-- a premium taken -/
theorem pre_b {g : Nat} (hlt : g < ng) (h6 : ng ≤ 6) (h0 : 0 ≤ n) (hn2 : n ≤ 600) (hV0 : 0 ≤ (gVals x nh (nI g)).toInt) (hV1 : (gVals x nh (nI g)).toInt ≤ 432000) {z : Int} (z0 : 0 ≤ z) (z1 : z ≤ 1000000000) (hp0 : 0 ≤ (x 0 6).toInt) (hp1 : (x 0 6).toInt ≤ z) (hG : ∀ g, g < ng → BG n (x (50 + g))) : (0 ≤ (uPre x nh g 0 6).toInt ∧ (uPre x nh g 0 6).toInt ≤ z + 100000) ∧ (∀ i, i < ng → BG n (uPre x nh g (50 + i))) := by
  obtain ⟨p, hp⟩ : ∃ p, p = pPre x nh g := ⟨_, rfl⟩
  obtain ⟨q0, q1, q2⟩ := prem_b (d := gVals x nh (nI g)) (hG g hlt) hV0 hV1
  have hp' : fPrem x (50 + g) (gVals x nh (nI g)) = p := hp.symm
  rw [hp'] at q0 q1 q2
  have ePre : uPre x nh g = fChg (up2 (up2 x (50 + g) 0 (x (50 + g) 0 - p)) 0 6 (x 0 6 + p)) (50 + g) := by
    have e6 : up2 x (50 + g) 0 (x (50 + g) 0 - p) 0 6 = x 0 6 := by rw [up2_at, if_neg (by omega)]
    rw [← e6, hp]; rfl
  have m : ∀ r k, up2 (up2 x (50 + g) 0 (x (50 + g) 0 - p)) 0 6 (x 0 6 + p) r k = if r = 0 ∧ k = 6 then x 0 6 + p else if r = 50 + g ∧ k = 0 then x (50 + g) 0 - p else x r k := fun r k => by rw [up2_at, up2_at]
  generalize up2 (up2 x (50 + g) 0 (x (50 + g) 0 - p)) 0 6 (x 0 6 + p) = M at ePre m
  have c : ∀ r k, ¬ (r = 50 + g ∧ k = 5) → fChg M (50 + g) r k = M r k := fun r k a => by
    unfold fChg
    split
    · rfl
    · rw [up2_at, if_neg a]
  have c5 : 0 ≤ (fChg M (50 + g) (50 + g) 5).toInt ∧ (fChg M (50 + g) (50 + g) 5).toInt ≤ 200 := by
    obtain ⟨_, _, _, _, _, _, _, _, _, a5, b5⟩ := hG g hlt
    have e5 : M (50 + g) 5 = x (50 + g) 5 := by rw [m, if_neg (by omega), if_neg (by omega)]
    have k20 : (20 : Int32).toInt = 20 := by decide
    have k10 : (10 : Int32).toInt = 10 := by decide
    have k200 : (200 : Int32).toInt = 200 := by decide
    have k50 : (50 : Int32).toInt = 50 := by decide
    unfold fChg
    split
    · rw [e5]; exact ⟨a5, b5⟩
    · rw [up2_s, e5]
      split
      · rw [ti_imin, ti_add (m := (x (50 + g) 5).toInt + 20) (by omega) (by omega) (by omega), k200]; omega
      · rw [ti_imax, ti_sub (by omega) (by omega), k10, k50]; omega
  rw [ePre]
  refine ⟨?_, fun i hi => ?_⟩
  · rw [c _ _ (by omega), m, if_pos ⟨rfl, rfl⟩, ti_add (m := (x 0 6).toInt + p.toInt) (by omega) (by omega) rfl]
    omega
  · by_cases d : i = g
    · subst d
      obtain ⟨a0, a7, a07, a6, b6, a3, b3, a4, b4, a5, b5⟩ := hG i hlt
      have f : ∀ k, k ≠ 0 → k ≠ 5 → fChg M (50 + i) (50 + i) k = x (50 + i) k := fun k h1 h2 => by rw [c _ _ (by omega), m, if_neg (by omega), if_neg (by omega)]
      have f0 : (fChg M (50 + i) (50 + i) 0).toInt = (x (50 + i) 0).toInt - p.toInt := by rw [c _ _ (by omega), m, if_neg (by omega), if_pos ⟨rfl, rfl⟩, ti_sub (by omega) (by omega)]
      unfold BG
      rw [f 7 (by omega) (by omega), f 6 (by omega) (by omega), f 3 (by omega) (by omega), f 4 (by omega) (by omega), f0]
      exact ⟨by omega, a7, by omega, a6, b6, a3, b3, a4, b4, c5.1, c5.2⟩
    · rw [show fChg M (50 + g) (50 + i) = x (50 + i) from funext (fun k => by rw [c _ _ (by omega), m, if_neg (by omega), if_neg (by omega)])]
      exact hG i hi
end BU
