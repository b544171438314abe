/-! the year's end: class and reference -/
section YE
variable {ow gx gy gw gd : Nat → Nat} {ng nh nl ns B S : Nat} {x y : Nat → Nat → Int32}
/-- the houses' sizes, as the class and the reference have them -/
def WRw (gw gd : Nat → Nat) (nh : Nat) (x : Nat → Nat → Int32) : Prop := ∀ h, h < nh → x (60 + h) 3 = nI (gw h) ∧ x (60 + h) 4 = nI (gd h)
theorem vals_eq {g : Nat} (hg : g < 6) (hh : ∀ h, h < nh → ow h < 6) (hO : ∀ h, h < nh → x (60 + h) 0 = nI (ow h)) (hS : SCo ow nh B x y) (hw : WRw gw gd nh x) : gVals x nh (nI g) = rVals y B gw gd nh (nI g) := by
  unfold gVals rVals hVal
  exact sumI_congr (fun h h9 => by
    obtain ⟨_, b, _, d⟩ := hS h h9
    obtain ⟨e, f⟩ := hw h h9
    rw [hO h h9, d, e, f, b, pk_mul]
    by_cases c : nI (ow h) = nI g
    · rw [if_pos c, if_pos (Or.inr c)]
    · rw [if_neg c, if_neg (fun q => q.elim (nI_ne_m1 (by omega)) c)])
theorem gVals_congr {u v : Nat → Nat → Int32} {g : Int32} (h : ∀ h, h < nh → ∀ k, u (60 + h) k = v (60 + h) k) : gVals u nh g = gVals v nh g := by
  unfold gVals hVal
  exact sumI_congr (fun i hi => by rw [h i hi, h i hi, h i hi, h i hi])
theorem rVals_congr {u v : Nat → Nat → Int32} {g : Int32} (h : ∀ k, u (B + 7) k = v (B + 7) k) : rVals u B gw gd nh g = rVals v B gw gd nh g := by
  unfold rVals
  exact sumI_congr (fun i hi => by rw [h, h])
def YR (ng nh B : Nat) (x y : Nat → Nat → Int32) (n : Nat) (a : Nat → Nat → Int32) (t : (Nat → Nat → Int32) × Int32) : Prop :=
  (∀ g, g < ng → a (50 + g) 0 = t.1 (B + 1) g ∧ a (50 + g) 5 = t.1 (B + 3) g) ∧ a 0 6 = x 0 6 + t.2 ∧ t.2 = sumI (fun g => pPre (itr (fun g u => uPre u nh g) g x) nh g) n ∧ (∀ r k, ¬ (r = 0 ∧ k = 6) → (50 ≤ r → r < 50 + ng → k ≠ 0 ∧ k ≠ 5) → a r k = x r k) ∧ (∀ r k, r ≠ B + 1 → r ≠ B + 3 → t.1 r k = y r k) ∧ a = itr (fun g u => uPre u nh g) n x
theorem pre_sim {n : Nat} {a : Nat → Nat → Int32} {t : (Nat → Nat → Int32) × Int32} (hg : ng ≤ 6) (hn : nh ≤ 12) (hR : GRw ng B x y) (hV : ∀ g, g < ng → gVals x nh (nI g) = rVals y B gw gd nh (nI g)) (hlt : n < ng) (h : YR ng nh B x y n a t) : YR ng nh B x y (n + 1) (uPre a nh n) (rY B gw gd nh n t) := by
  obtain ⟨h1, h2, h3, h4, h5, h6⟩ := h
  obtain ⟨g0, g2, g3, g4, g5, g6, g7, g1⟩ := hR n hlt
  have b1 : a (50 + n) 1 = x (50 + n) 1 := h4 _ _ (by omega) (by omega)
  have b4 : a (50 + n) 4 = x (50 + n) 4 := h4 _ _ (by omega) (by omega)
  have b6 : a (50 + n) 6 = x (50 + n) 6 := h4 _ _ (by omega) (by omega)
  have bV : gVals a nh (nI n) = rVals y B gw gd nh (nI n) := (gVals_congr (fun h hh k => h4 _ _ (by omega) (by omega))).trans (hV n hlt)
  have tV : rVals t.1 B gw gd nh (nI n) = rVals y B gw gd nh (nI n) := rVals_congr (fun k => h5 _ _ (by omega) (by omega))
  have t2 : ∀ k, t.1 (B + 2) k = y (B + 2) k := fun k => h5 _ _ (by omega) (by omega)
  have t4 : ∀ k, t.1 (B + 4) k = y (B + 4) k := fun k => h5 _ _ (by omega) (by omega)
  obtain ⟨c0, c5⟩ := h1 n hlt
  obtain ⟨p, hp⟩ : ∃ p, p = pPre a nh n := ⟨_, rfl⟩
  have hsum : sumI (fun g => pPre (itr (fun g u => uPre u nh g) g x) nh g) (n + 1) = t.2 + p := by rw [sumI_s, ← h3, hp, h6]
  have ePre : uPre a nh n = fChg (up2 (up2 a (50 + n) 0 (a (50 + n) 0 - p)) 0 6 (up2 a (50 + n) 0 (a (50 + n) 0 - p) 0 6 + p)) (50 + n) := by rw [hp]; rfl
  have e6 : up2 a (50 + n) 0 (a (50 + n) 0 - p) 0 6 = a 0 6 := by rw [up2_at, if_neg (by omega)]
  rw [e6] at ePre
  have m : ∀ r k, up2 (up2 a (50 + n) 0 (a (50 + n) 0 - p)) 0 6 (a 0 6 + p) r k = if r = 0 ∧ k = 6 then a 0 6 + p else if r = 50 + n ∧ k = 0 then a (50 + n) 0 - p else a r k := fun r k => by rw [up2_at, up2_at]
  generalize up2 (up2 a (50 + n) 0 (a (50 + n) 0 - p)) 0 6 (a 0 6 + p) = M at ePre m
  have m1 : M (50 + n) 1 = x (50 + n) 1 := by rw [m, if_neg (by omega), if_neg (by omega), b1]
  have m5 : M (50 + n) 5 = t.1 (B + 3) n := by rw [m, if_neg (by omega), if_neg (by omega), c5]
  have m6 : M (50 + n) 6 = y (B + 4) n := by rw [m, if_neg (by omega), if_neg (by omega), b6, g6]
  have eA : itr (fun g u => uPre u nh g) (n + 1) x = uPre a nh n := by rw [itr_s, ← h6]
  by_cases c : y (B + 2) (3 * n + 1) = 0
  · have p0 : p = 0 := by
      rw [hp]; unfold pPre fPrem
      rw [if_pos (b1.trans (g1.mpr c))]
    have er : rY B gw gd nh n t = t := by unfold rY; rw [if_pos ((t2 _).trans c)]
    have eu : uPre a nh n = M := by rw [ePre]; unfold fChg; rw [if_pos (m1.trans (g1.mpr c))]
    have mm : ∀ r k, M r k = a r k := fun r k => by
      rw [m, p0]
      by_cases d : r = 0 ∧ k = 6
      · rw [if_pos d, d.1, d.2]; grind
      · rw [if_neg d]
        by_cases f : r = 50 + n ∧ k = 0
        · rw [if_pos f, f.1, f.2]; grind
        · rw [if_neg f]
    rw [er, eu]
    refine ⟨fun g hgl => by rw [mm, mm]; exact h1 g hgl, by rw [mm]; exact h2, by rw [hsum, p0]; grind, fun r k u v => by rw [mm]; exact h4 r k u v, h5, by rw [eA, eu]⟩
  · have pP : p = imin (t.1 (B + 1) n) (rVals t.1 B gw gd nh (nI n) * t.1 (B + 2) (3 * n + 2) / 1000 * t.1 (B + 3) n / 100) := by
      rw [hp]; unfold pPre fPrem
      rw [if_neg (fun q => c (g1.mp (b1.symm.trans q))), bV, b4, g4, c5, c0, imin_comm, tV, t2]
    have er : rY B gw gd nh n t = (up2 (up2 t.1 (B + 1) n (t.1 (B + 1) n - p)) (B + 3) n (if 0 < y (B + 4) n then imin 200 (t.1 (B + 3) n + 20) else imax 50 (t.1 (B + 3) n - 10)), t.2 + p) := by
      unfold rY
      rw [if_neg (fun q => c ((t2 _).symm.trans q))]
      dsimp only
      rw [← pP]
      have u4 : ∀ z, up2 t.1 (B + 1) n z (B + 4) n = y (B + 4) n := fun z => by rw [up2_at, if_neg (by omega), t4]
      have u3 : ∀ z, up2 t.1 (B + 1) n z (B + 3) n = t.1 (B + 3) n := fun z => by rw [up2_at, if_neg (by omega)]
      rw [u4, u3]
    have eu : uPre a nh n = up2 M (50 + n) 5 (if 0 < y (B + 4) n then imin 200 (t.1 (B + 3) n + 20) else imax 50 (t.1 (B + 3) n - 10)) := by
      rw [ePre]; unfold fChg
      rw [if_neg (fun q => c (g1.mp (m1.symm.trans q))), m6, m5]
    rw [er]
    refine ⟨fun g hgl => ?_, ?_, hsum.symm, fun r k u v => ?_, fun r k u v => ?_, eA.symm⟩
    · obtain ⟨nw, hnw⟩ : ∃ z, z = (if 0 < y (B + 4) n then imin 200 (t.1 (B + 3) n + 20) else imax 50 (t.1 (B + 3) n - 10)) := ⟨_, rfl⟩
      rw [← hnw] at eu ⊢
      have z0 : uPre a nh n (50 + g) 0 = if g = n then a (50 + n) 0 - p else a (50 + g) 0 := by
        rw [eu, up2_at, if_neg (by omega), m, if_neg (by omega)]
        by_cases d : g = n
        · rw [if_pos ⟨by omega, rfl⟩, if_pos d]
        · rw [if_neg (by omega), if_neg d]
      have z5 : uPre a nh n (50 + g) 5 = if g = n then nw else a (50 + g) 5 := by
        rw [eu, up2_at]
        by_cases d : g = n
        · rw [if_pos ⟨by omega, rfl⟩, if_pos d]
        · rw [if_neg (by omega), if_neg d, m, if_neg (by omega), if_neg (by omega)]
      have w1 : up2 (up2 t.1 (B + 1) n (t.1 (B + 1) n - p)) (B + 3) n nw (B + 1) g = if g = n then t.1 (B + 1) n - p else t.1 (B + 1) g := by
        rw [up2_at, if_neg (by omega), up2_at]
        by_cases d : g = n
        · rw [if_pos ⟨rfl, d⟩, if_pos d]
        · rw [if_neg (fun q => d q.2), if_neg d]
      have w3 : up2 (up2 t.1 (B + 1) n (t.1 (B + 1) n - p)) (B + 3) n nw (B + 3) g = if g = n then nw else t.1 (B + 3) g := by
        rw [up2_at]
        by_cases d : g = n
        · rw [if_pos ⟨rfl, d⟩, if_pos d]
        · rw [if_neg (fun q => d q.2), if_neg d, up2_at, if_neg (by omega)]
      show uPre a nh n (50 + g) 0 = up2 (up2 t.1 (B + 1) n (t.1 (B + 1) n - p)) (B + 3) n nw (B + 1) g ∧ uPre a nh n (50 + g) 5 = up2 (up2 t.1 (B + 1) n (t.1 (B + 1) n - p)) (B + 3) n nw (B + 3) g
      rw [z0, z5, w1, w3, c0]
      by_cases d : g = n
      · rw [if_pos d, if_pos d, if_pos d, if_pos d]
        exact ⟨rfl, rfl⟩
      · rw [if_neg d, if_neg d, if_neg d, if_neg d]
        exact h1 g hgl
    · show uPre a nh n 0 6 = x 0 6 + (t.2 + p)
      rw [eu, up2_at, if_neg (by omega), m, if_pos ⟨rfl, rfl⟩, h2]
      grind
    · rw [eu, up2_at, if_neg (by omega), m, if_neg u, if_neg (by omega)]
      exact h4 r k u v
    · show up2 (up2 t.1 (B + 1) n _) (B + 3) n _ r k = _
      rw [up2_at, if_neg (by omega), up2_at, if_neg (by omega)]
      exact h5 r k u v
end YE
