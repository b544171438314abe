/-! places: the grid and the houses -/
section PL9
variable {ow gx gy gw gd : Nat → Nat} {ng nh nl ns : Nat} {x y : Nat → Nat → Int32}
def inH (gx gy gw gd : Nat → Nat) (h X Y : Nat) : Prop := gx h ≤ X ∧ X < gx h + gw h ∧ gy h ≤ Y ∧ Y < gy h + gd h
theorem fIn_off {X a w : Nat} (hX : X < 100) (ha : a < 100) (hw : w < 100) : fIn (nI X - nI a) 0 (nI w - 1) = if a ≤ X ∧ X < a + w then 1 else 0 := by
  unfold fIn
  have e1 : nI X - nI a = iI ((X : Int) - (a : Int)) := by rw [← iI_n, ← iI_n, iI_sub]
  have e2 : nI w - 1 = iI ((w : Int) - 1) := by rw [← iI_n, show (1 : Int32) = iI 1 from rfl, iI_sub]
  have i1 : (0 : Int32) ≤ iI ((X : Int) - (a : Int)) ↔ 0 ≤ (X : Int) - (a : Int) := iI_le (a := 0) (by omega) (by omega) (by omega) (by omega)
  have i2 : iI ((X : Int) - (a : Int)) ≤ iI ((w : Int) - 1) ↔ (X : Int) - (a : Int) ≤ (w : Int) - 1 := iI_le (by omega) (by omega) (by omega) (by omega)
  rw [e1, e2]
  by_cases c : a ≤ X ∧ X < a + w
  · rw [if_pos ⟨i1.mpr (by omega), i2.mpr (by omega)⟩, if_pos c]
  · rw [if_neg (fun q => c (by have q1 := i1.mp q.1; have q2 := i2.mp q.2; omega)), if_neg c]
theorem rAtF_y {h X Y : Nat} {f : Int32} (hZ : GSz ow gx gy gw gd ng nh) (hh : h < nh) (hX : X < 40) (hY : Y < 40) (c : inH gx gy gw gd h X Y) : rAtF gx gy gw gd (nI X) (nI Y) h f = nI h := by
  obtain ⟨_, a, b, c9, d, e, f9⟩ := hZ h hh
  unfold rAtF
  have c1 : gx h ≤ X ∧ X < gx h + gw h := ⟨c.1, c.2.1⟩
  have c2 : gy h ≤ Y ∧ Y < gy h + gd h := ⟨c.2.2.1, c.2.2.2⟩
  rw [fIn_off (by omega) (by omega) (by omega), fIn_off (by omega) (by omega) (by omega), if_pos c1, if_neg (by decide), if_pos c2, if_neg (by decide)]
theorem rAtF_n {h X Y : Nat} {f : Int32} (hZ : GSz ow gx gy gw gd ng nh) (hh : h < nh) (hX : X < 40) (hY : Y < 40) (c : ¬ inH gx gy gw gd h X Y) : rAtF gx gy gw gd (nI X) (nI Y) h f = f := by
  obtain ⟨_, a, b, c9, d, e, f9⟩ := hZ h hh
  unfold rAtF
  rw [fIn_off (by omega) (by omega) (by omega), fIn_off (by omega) (by omega) (by omega)]
  by_cases c1 : gx h ≤ X ∧ X < gx h + gw h
  · rw [if_pos c1, if_neg (by decide)]
    by_cases c2 : gy h ≤ Y ∧ Y < gy h + gd h
    · exact absurd ⟨c1.1, c1.2, c2.1, c2.2⟩ c
    · rw [if_neg c2, if_pos rfl]
  · rw [if_neg c1, if_pos rfl]
theorem rAt_none {X Y : Nat} (hZ : GSz ow gx gy gw gd ng nh) (hX : X < 40) (hY : Y < 40) (hno : ∀ h, h < nh → ¬ inH gx gy gw gd h X Y) : rAt gx gy gw gd nh (nI X) (nI Y) = -1 := by
  unfold rAt
  have : ∀ n, n ≤ nh → itr (rAtF gx gy gw gd (nI X) (nI Y)) n (-1) = -1 := fun n => by
    induction n with
    | zero => intro _; rfl
    | succ n ih =>
      intro hn
      rw [itr_s, rAtF_n hZ (by omega) hX hY (hno n (by omega))]
      exact ih (by omega)
  exact this nh (Nat.le_refl _)
theorem rAt_some {h X Y : Nat} (hZ : GSz ow gx gy gw gd ng nh) (hX : X < 40) (hY : Y < 40) (hh : h < nh) (hin : inH gx gy gw gd h X Y) (hun : ∀ h', h' < nh → inH gx gy gw gd h' X Y → h' = h) : rAt gx gy gw gd nh (nI X) (nI Y) = nI h := by
  unfold rAt
  have : ∀ n, n ≤ nh → h < n → itr (rAtF gx gy gw gd (nI X) (nI Y)) n (-1) = nI h := fun n => by
    induction n with
    | zero => intro _ q; exact absurd q (by omega)
    | succ n ih =>
      intro hn hl
      rw [itr_s]
      by_cases c : inH gx gy gw gd n X Y
      · rw [rAtF_y hZ (by omega) hX hY c, hun n (by omega) c]
      · rw [rAtF_n hZ (by omega) hX hY c]
        exact ih (by omega) (by
          rcases Nat.lt_or_ge h n with q | q
          · exact q
          · exact absurd hin (by rw [show h = n by omega]; exact c))
  exact this nh (Nat.le_refl _) hh
/-- in a house: one of its panes -/
theorem inH_cel {h X Y : Nat} (hin : inH gx gy gw gd h X Y) : (X - gx h) + (Y - gy h) * gw h < gw h * gd h ∧ cel gx gy gw h ((X - gx h) + (Y - gy h) * gw h) = Y * 20 + X := by
  obtain ⟨a, b, c, d⟩ := hin
  have hj : X - gx h < gw h := by omega
  obtain ⟨e1, e2⟩ := fp_dm (a := Y - gy h) hj
  refine ⟨?_, ?_⟩
  · calc (X - gx h) + (Y - gy h) * gw h < gw h + (Y - gy h) * gw h := by omega
      _ = (Y - gy h + 1) * gw h := by rw [Nat.succ_mul]; omega
      _ ≤ gd h * gw h := Nat.mul_le_mul_right _ (by omega)
      _ = gw h * gd h := Nat.mul_comm _ _
  · unfold cel
    rw [Nat.add_comm (X - gx h), e1, e2]
    omega
theorem cel_inH {h k X Y : Nat} (hZ : GSz ow gx gy gw gd ng nh) (hh : h < nh) (hk : k < gw h * gd h) (hX : X < 20) (he : cel gx gy gw h k = Y * 20 + X) : inH gx gy gw gd h X Y := by
  obtain ⟨_, a, b, c, d, e, f⟩ := hZ h hh
  have h1 : k % gw h < gw h := Nat.mod_lt _ (by omega)
  have h2 : k / gw h < gd h := (Nat.div_lt_iff_lt_mul (by omega)).mpr (by rw [Nat.mul_comm]; exact hk)
  unfold cel at he
  generalize k % gw h = m9 at h1 he
  generalize k / gw h = q9 at h2 he
  exact ⟨by omega, by omega, by omega, by omega⟩
theorem inH_one {h h' X Y : Nat} (hD : GDj gx gy gw gd nh) (hh : h < nh) (hh' : h' < nh) (a : inH gx gy gw gd h X Y) (b : inH gx gy gw gd h' X Y) : h' = h := by
  obtain ⟨a1, a2⟩ := inH_cel a
  obtain ⟨b1, b2⟩ := inH_cel b
  exact (hD h' _ h _ hh' b1 hh a1 (b2.trans a2.symm)).1
theorem pane_out {X Y : Nat} (hZ : GSz ow gx gy gw gd ng nh) (hX : X < 20) (hY : Y < 20) (hno : ∀ h, h < nh → ¬ inH gx gy gw gd h X Y) : Out gx gy gw gd nh (Y * 20 + X) := ⟨by omega, fun h k hh hk e => hno h hh (cel_inH hZ hh hk hX e)⟩
/-! a new house -/
theorem fOver_nn {r X Y W D : Nat} {v : Nat → Nat → Int32} {a b c d : Nat} (h1 : v r 1 = nI a) (h2 : v r 2 = nI b) (h3 : v r 3 = nI c) (h4 : v r 4 = nI d) (ha : a ≤ 40) (hb : b ≤ 40) (hc : c ≤ 40) (hd : d ≤ 40) (hX : X ≤ 40) (hY : Y ≤ 40) (hW : W ≤ 40) (hDd : D ≤ 40) : fOver v r (nI X) (nI Y) (nI W) (nI D) = if a < X + W ∧ X < a + c ∧ b < Y + D ∧ Y < b + d then 1 else 0 := by
  unfold fOver
  rw [h1, h2, h3, h4, nI_add, nI_add, nI_add, nI_add]
  have lt : ∀ p q : Nat, p ≤ 100 → q ≤ 100 → (nI p < nI q ↔ p < q) := fun p q h1 h2 => by
    rw [← iI_n, ← iI_n, iI_lt (by omega) (by omega) (by omega) (by omega)]
    omega
  have l1 := lt a (X + W) (by omega) (by omega)
  have l2 := lt X (a + c) (by omega) (by omega)
  have l3 := lt b (Y + D) (by omega) (by omega)
  have l4 := lt Y (b + d) (by omega) (by omega)
  by_cases q : a < X + W ∧ X < a + c ∧ b < Y + D ∧ Y < b + d
  · rw [if_pos q, if_pos ⟨l1.mpr q.1, l2.mpr q.2.1, l3.mpr q.2.2.1, l4.mpr q.2.2.2⟩]
  · rw [if_neg q, if_neg (fun z => q ⟨l1.mp z.1, l2.mp z.2.1, l3.mp z.2.2.1, l4.mp z.2.2.2⟩)]
/-- the new house overlaps none -/
def Nov (gx gy gw gd : Nat → Nat) (nh X Y W D : Nat) : Prop := ∀ h, h < nh → ¬ (gx h < X + W ∧ X < gx h + gw h ∧ gy h < Y + D ∧ Y < gy h + gd h)
theorem ov_eq {X Y W D h : Nat} (hZ : GSz ow gx gy gw gd ng nh) (hX9 : HXw ow gx gy gw gd nh x y) (hX : X ≤ 20) (hY : Y ≤ 20) (hW : W ≤ 6) (hD : D ≤ 6) (hh : h < nh) : ¬ fOver x (60 + h) (nI X) (nI Y) (nI W) (nI D) = 0 ↔ (gx h < X + W ∧ X < gx h + gw h ∧ gy h < Y + D ∧ Y < gy h + gd h) := by
  obtain ⟨_, a, b, c, d, e, f⟩ := hZ h hh
  obtain ⟨⟨_, p1, p2, p3, p4⟩, _⟩ := hX9 h hh
  rw [fOver_nn p1 p2 p3 p4 (by omega) (by omega) (by omega) (by omega) (by omega) (by omega) (by omega) (by omega)]
  by_cases q : gx h < X + W ∧ X < gx h + gw h ∧ gy h < Y + D ∧ Y < gy h + gd h
  · rw [if_pos q]; exact ⟨fun _ => q, fun _ => by decide⟩
  · rw [if_neg q]; exact ⟨fun z => absurd rfl z, fun z => absurd z q⟩
theorem built_y {X Y W D : Nat} (hZ : GSz ow gx gy gw gd ng nh) (hX9 : HXw ow gx gy gw gd nh x y) (hX : X ≤ 20) (hY : Y ≤ 20) (hW : W ≤ 6) (hD : D ≤ 6) (c : Nov gx gy gw gd nh X Y W D) : fBuilt x (nI X) (nI Y) (nI W) (nI D) nh = 0 := by
  unfold fBuilt
  exact if_neg (fun ⟨h, hh, z⟩ => c h hh ((ov_eq hZ hX9 hX hY hW hD hh).mp z))
theorem built_n {X Y W D h : Nat} (hZ : GSz ow gx gy gw gd ng nh) (hX9 : HXw ow gx gy gw gd nh x y) (hX : X ≤ 20) (hY : Y ≤ 20) (hW : W ≤ 6) (hD : D ≤ 6) (hh : h < nh) (c : gx h < X + W ∧ X < gx h + gw h ∧ gy h < Y + D ∧ Y < gy h + gd h) : fBuilt x (nI X) (nI Y) (nI W) (nI D) nh = 1 := by
  unfold fBuilt
  exact if_pos ⟨h, hh, (ov_eq hZ hX9 hX hY hW hD hh).mpr c⟩
def fF (gx gy gw gd : Nat → Nat) (nh X Y W : Nat) : Nat → Int32 → Int32 := fun k f => if f = 0 then 0 else if rAt gx gy gw gd nh (nI X + nI (k % W)) (nI Y + nI (k / W)) = -1 then 1 else 0
theorem free_0 {X Y W : Nat} : ∀ {n : Nat}, itr (fF gx gy gw gd nh X Y W) n 0 = 0
  | 0 => rfl
  | n + 1 => by rw [itr_s, free_0 (n := n)]; exact if_pos rfl
theorem free_y {X Y W : Nat} : ∀ {n : Nat}, (∀ k, k < n → rAt gx gy gw gd nh (nI X + nI (k % W)) (nI Y + nI (k / W)) = -1) → itr (fF gx gy gw gd nh X Y W) n 1 = 1
  | 0, _ => rfl
  | n + 1, h => by
    rw [itr_s, free_y (n := n) (fun k hk => h k (by omega))]
    unfold fF
    rw [if_neg (by decide), if_pos (h n (by omega))]
theorem free_n {X Y W k : Nat} : ∀ {n : Nat}, k < n → ¬ rAt gx gy gw gd nh (nI X + nI (k % W)) (nI Y + nI (k / W)) = -1 → itr (fF gx gy gw gd nh X Y W) n 1 = 0
  | n + 1, hk, h => by
    rw [itr_s]
    by_cases e : k = n
    · subst e
      unfold fF
      split
      · rfl
      · first | rfl | rw [if_neg h]
    · rw [free_n (n := n) (by omega) h]
      exact if_pos rfl
theorem rfree_y {X Y W D : Nat} (hZ : GSz ow gx gy gw gd ng nh) (h12 : nh < 12) (hW0 : 1 ≤ W) (hX : X + W ≤ 20) (hY : Y + D ≤ 20) (c : Nov gx gy gw gd nh X Y W D) : rFree gx gy gw gd nh X Y W D = 1 := by
  unfold rFree
  rw [if_pos h12]
  refine free_y (fun k hk => ?_)
  have h1 : k % W < W := Nat.mod_lt _ (by omega)
  have h2 : k / W < D := (Nat.div_lt_iff_lt_mul (by omega)).mpr (by rw [Nat.mul_comm]; exact hk)
  generalize k % W = m9 at h1
  generalize k / W = q9 at h2
  rw [nI_add, nI_add]
  exact rAt_none hZ (by omega) (by omega) (fun h hh q => c h hh ⟨by have := q.1; omega, by have := q.2.1; omega, by have := q.2.2.1; omega, by have := q.2.2.2; omega⟩)
theorem rfree_n {X Y W D h : Nat} (hZ : GSz ow gx gy gw gd ng nh) (hDj : GDj gx gy gw gd nh) (h12 : nh < 12) (hW0 : 1 ≤ W) (hD0 : 1 ≤ D) (hX : X + W ≤ 20) (hY : Y + D ≤ 20) (hh : h < nh) (c : gx h < X + W ∧ X < gx h + gw h ∧ gy h < Y + D ∧ Y < gy h + gd h) : rFree gx gy gw gd nh X Y W D = 0 := by
  obtain ⟨_, a, b, c9, d, e, f⟩ := hZ h hh
  unfold rFree
  rw [if_pos h12]
  -- a cell in both
  have hj : max (gx h) X - X < W := by omega
  have hi : max (gy h) Y - Y < D := by omega
  obtain ⟨e1, e2⟩ := fp_dm (a := max (gy h) Y - Y) hj
  refine free_n (k := (max (gy h) Y - Y) * W + (max (gx h) X - X)) ?_ ?_
  · calc (max (gy h) Y - Y) * W + (max (gx h) X - X) < (max (gy h) Y - Y) * W + W := by omega
      _ = (max (gy h) Y - Y + 1) * W := by rw [Nat.succ_mul]
      _ ≤ D * W := Nat.mul_le_mul_right _ (by omega)
      _ = W * D := Nat.mul_comm _ _
  · rw [e1, e2, nI_add, nI_add]
    have hin : inH gx gy gw gd h (X + (max (gx h) X - X)) (Y + (max (gy h) Y - Y)) := ⟨by omega, by omega, by omega, by omega⟩
    rw [rAt_some hZ (by omega) (by omega) hh hin (fun h' hh' q => inH_one hDj hh hh' hin q)]
    exact nI_ne_m1 (by omega)
end PL9
