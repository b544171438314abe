/-! loops and sums: the same in one loop as in two; one place changed -/
theorem itr_congr {α : Type} {f g : Nat → α → α} {a : α} : ∀ {n : Nat}, (∀ i u, i < n → f i u = g i u) → itr f n a = itr g n a
  | 0, _ => rfl
  | n + 1, h => by
    rw [itr_s, itr_s, itr_congr (n := n) (fun i u hi => h i u (by omega)), h n _ (by omega)]
theorem itr_sim {α β : Type} {f : Nat → α → α} {g : Nat → β → β} {a : α} {b : β} (P : Nat → α → β → Prop) (h0 : P 0 a b) : ∀ {n : Nat}, (∀ i x y, i < n → P i x y → P (i + 1) (f i x) (g i y)) → P n (itr f n a) (itr g n b)
  | 0, _ => h0
  | n + 1, h => h n _ _ (by omega) (itr_sim P h0 (n := n) (fun i x y hi q => h i x y (by omega) q))
theorem itr_add {α : Type} {f : Nat → α → α} {a : α} {n : Nat} : ∀ {m : Nat}, itr f (n + m) a = itr (fun i => f (n + i)) m (itr f n a)
  | 0 => rfl
  | m + 1 => by
    rw [show n + (m + 1) = (n + m) + 1 by omega, itr_s, itr_s, itr_add (m := m)]
theorem itr_nest {α : Type} {F : Nat → Nat → α → α} {a : α} {w : Nat} : ∀ {d : Nat}, itr (fun i u => itr (fun j u => F i j u) w u) d a = itr (fun k u => F (k / w) (k % w) u) (d * w) a
  | 0 => by rw [Nat.zero_mul]; rfl
  | d + 1 => by
    rw [itr_s, itr_nest (d := d), Nat.succ_mul, itr_add]
    exact itr_congr (fun j u hj => by
      obtain ⟨h1, h2⟩ := fp_dm (a := d) hj
      rw [h1, h2])
theorem sumI_add {f : Nat → Int32} {n : Nat} : ∀ {m : Nat}, sumI f (n + m) = sumI f n + sumI (fun i => f (n + i)) m
  | 0 => by rw [sumI_0, Nat.add_zero, Int32.add_zero]
  | m + 1 => by rw [show n + (m + 1) = (n + m) + 1 by omega, sumI_s, sumI_s, sumI_add (m := m), Int32.add_assoc]
theorem sumI_nest {F : Nat → Nat → Int32} {w : Nat} : ∀ {d : Nat}, sumI (fun i => sumI (fun j => F i j) w) d = sumI (fun k => F (k / w) (k % w)) (d * w)
  | 0 => by rw [Nat.zero_mul]; rfl
  | d + 1 => by
    rw [sumI_s, sumI_nest (d := d), Nat.succ_mul, sumI_add]
    congr 1
    exact sumI_congr (fun j hj => by
      obtain ⟨h1, h2⟩ := fp_dm (a := d) hj
      rw [h1, h2])
theorem sumI_upd {f g : Nat → Int32} {k : Nat} : ∀ {n : Nat}, k < n → (∀ i, i < n → i ≠ k → f i = g i) → sumI f n = sumI g n + (f k - g k)
  | n + 1, hk, h => by
    rw [sumI_s, sumI_s]
    by_cases e : k = n
    · subst e
      rw [sumI_congr (f := f) (g := g) (n := k) (fun i hi => h i (by omega) (by omega))]
      grind
    · rw [sumI_upd (n := n) (by omega) (fun i hi => h i (by omega)), h n (by omega) (by omega)]
      grind
theorem sumI_plus {f g : Nat → Int32} : ∀ {n : Nat}, sumI (fun i => f i + g i) n = sumI f n + sumI g n
  | 0 => rfl
  | n + 1 => by
    rw [sumI_s, sumI_s, sumI_s, sumI_plus (n := n)]
    grind
theorem imin_comm (a b : Int32) : imin a b = imin b a := by
  unfold imin
  by_cases h : b < a
  · rw [if_pos h, if_neg (fun q => Int32.lt_irrefl (Int32.lt_trans q h))]
  · rw [if_neg h]
    by_cases g : a < b
    · rw [if_pos g]
    · rw [if_neg g]
      exact Int32.le_antisymm (Int32.not_lt.mp h) (Int32.not_lt.mp g)
/-- the cell of a house's pane -/
def cel (gx gy gw : Nat → Nat) (h k : Nat) : Nat := (gy h + k / gw h) * 20 + (gx h + k % gw h)
/-- no two panes lie on one cell -/
def GDj (gx gy gw gd : Nat → Nat) (nh : Nat) : Prop := ∀ h k h' k', h < nh → k < gw h * gd h → h' < nh → k' < gw h' * gd h' → cel gx gy gw h k = cel gx gy gw h' k' → h = h' ∧ k = k'
/-- the sizes -/
def GSz (ow gx gy gw gd : Nat → Nat) (ng nh : Nat) : Prop := ∀ h, h < nh → ow h < ng ∧ gx h + gw h ≤ 20 ∧ gy h + gd h ≤ 20 ∧ 1 ≤ gw h ∧ gw h ≤ 6 ∧ 1 ≤ gd h ∧ gd h ≤ 6
theorem GSz.m {ow gx gy gw gd : Nat → Nat} {ng nh h : Nat} (z : GSz ow gx gy gw gd ng nh) (hh : h < nh) : gw h * gd h ≤ 36 := by
  obtain ⟨_, _, _, _, h5, _, h7⟩ := z h hh
  exact Nat.mul_le_mul h5 h7
/-- the panes of the class's grid are those of the reference's rows -/
def PanR (gx gy gw gd : Nat → Nat) (nh : Nat) (p q : Nat → Int32) : Prop := ∀ h k, h < nh → k < gw h * gd h → p (cel gx gy gw h k) = q (36 * h + k) ∧ (q (36 * h + k) = 0 ∨ q (36 * h + k) = 1 ∨ q (36 * h + k) = 2)
section CNT
variable {ow gx gy gw gd : Nat → Nat} {ng nh h k n : Nat} {p q : Nat → Int32} {y y' : Nat → Nat → Int32} {B : Nat} {st g : Int32}
theorem fCnt_one {X Y W D : Nat} : fCnt p X Y W D st = sumI (fun k => if p ((Y + k / W) * 20 + (X + k % W)) = st then 1 else 0) (W * D) := by
  unfold fCnt
  rw [sumI_nest (F := fun i j => if p ((Y + i) * 20 + (X + j)) = st then 1 else 0), Nat.mul_comm]
theorem cnt_eq (hP : PanR gx gy gw gd nh p (y (B + 9))) (hh : h < nh) : fCnt p (gx h) (gy h) (gw h) (gd h) st = rCnt y B (gw h * gd h) h st := by
  rw [fCnt_one]
  unfold rCnt
  exact sumI_congr (fun k hk => by rw [show (gy h + k / gw h) * 20 + (gx h + k % gw h) = cel gx gy gw h k from rfl, (hP h k hh hk).1])
theorem rLost_cnt : ∀ {n : Nat}, (∀ k, k < n → y (B + 9) (36 * h + k) = 0 ∨ y (B + 9) (36 * h + k) = 1 ∨ y (B + 9) (36 * h + k) = 2) → rLost y B n h = rCnt y B n h 1 * (y (B + 7) (7 * h + 6) / 2) + rCnt y B n h 2 * y (B + 7) (7 * h + 6)
  | 0, _ => by
    show (0 : Int32) = 0 * _ + 0 * _
    grind
  | n + 1, hz => by
    have ih := rLost_cnt (n := n) (fun k hk => hz k (by omega))
    unfold rLost rCnt at ih ⊢
    rw [sumI_s, sumI_s, sumI_s, ih]
    unfold rVal
    rcases hz n (by omega) with q | q | q <;> rw [q]
    · rw [if_pos rfl, if_neg (by decide), if_neg (by decide)]; grind
    · rw [if_neg (by decide), if_pos rfl, if_pos rfl, if_neg (by decide)]; grind
    · rw [if_neg (by decide), if_neg (by decide), if_pos rfl]; grind
theorem rLost_upd (hk : k < n) (h7 : ∀ j, y' (B + 7) j = y (B + 7) j) (h9 : ∀ j, j ≠ 36 * h + k → y' (B + 9) j = y (B + 9) j) : rLost y' B n h = rLost y B n h + (rVal y B h (y' (B + 9) (36 * h + k)) - rVal y B h (y (B + 9) (36 * h + k))) := by
  have e : ∀ st, rVal y' B h st = rVal y B h st := fun st => by unfold rVal; rw [h7]
  unfold rLost
  rw [sumI_upd (g := fun k => rVal y B h (y (B + 9) (36 * h + k))) hk (fun i hi hn => by rw [e, h9 _ (by omega)]), e]
theorem rLost_other {h' : Nat} (hn : n ≤ 36) (hk : k < 36) (hne : h' ≠ h) (h7 : ∀ j, y' (B + 7) j = y (B + 7) j) (h9 : ∀ j, j ≠ 36 * h + k → y' (B + 9) j = y (B + 9) j) : rLost y' B n h' = rLost y B n h' := by
  have e : ∀ st, rVal y' B h' st = rVal y B h' st := fun st => by unfold rVal; rw [h7]
  unfold rLost
  exact sumI_congr (fun i hi => by rw [e, h9 _ (by omega)])
theorem rBy_upd (hz : ∀ h, h < nh → gw h * gd h ≤ 36) (hh : h < nh) (hk : k < gw h * gd h) (h7 : ∀ j, y' (B + 7) j = y (B + 7) j) (h9 : ∀ j, j ≠ 36 * h + k → y' (B + 9) j = y (B + 9) j) : rBy y' B gw gd nh g = rBy y B gw gd nh g + (if g = -1 ∨ y (B + 7) (7 * h) = g then rVal y B h (y' (B + 9) (36 * h + k)) - rVal y B h (y (B + 9) (36 * h + k)) else 0) := by
  have hk36 : k < 36 := Nat.lt_of_lt_of_le hk (hz h hh)
  unfold rBy
  rw [sumI_upd (g := fun h => if g = -1 ∨ y (B + 7) (7 * h) = g then rLost y B (gw h * gd h) h else 0) hh (fun i hi hn => by rw [h7, rLost_other (hz i hi) hk36 hn h7 h9])]
  rw [h7]
  by_cases c : g = -1 ∨ y (B + 7) (7 * h) = g
  · rw [if_pos c, if_pos c, if_pos c, rLost_upd hk h7 h9]; grind
  · rw [if_neg c, if_neg c, if_neg c]; grind
end CNT
