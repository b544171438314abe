/-! the relation of class and reference; a storm taken over -/
section RV
variable {ow gx gy gw gd : Nat → Nat} {ng nh nl ns S B : Nat}
def GRw (ng B : Nat) (x y : Nat → Nat → Int32) : Prop := ∀ g, g < ng → x (50 + g) 0 = y (B + 1) g ∧ x (50 + g) 2 = y (B + 2) (3 * g) ∧ x (50 + g) 3 = y (B + 2) (3 * g + 1) ∧ x (50 + g) 4 = y (B + 2) (3 * g + 2) ∧ x (50 + g) 5 = y (B + 3) g ∧ x (50 + g) 6 = y (B + 4) g ∧ x (50 + g) 7 = y (B + 5) g ∧ (x (50 + g) 1 = 0 ↔ y (B + 2) (3 * g + 1) = 0)
def LRw (nl B : Nat) (x y : Nat → Nat → Int32) : Prop := ∀ k, k < nl → ∀ j, j < 5 → x (80 + k) j = y (B + 12) (5 * k + j)
def TRw (ns B : Nat) (x y : Nat → Nat → Int32) : Prop := ∀ s, s < ns → ∀ k, k < 6 → x (20 + s) k = y (B + 14) (6 * s + k)
/-- cells without a house -/
def Out (gx gy gw gd : Nat → Nat) (nh c : Nat) : Prop := c < 400 ∧ ∀ h k, h < nh → k < gw h * gd h → cel gx gy gw h k ≠ c
def RVl (ow gx gy gw gd : Nat → Nat) (ng nh nl ns S B : Nat) (x y : Nat → Nat → Int32) : Prop :=
  GRw ng B x y ∧ SCo ow nh B x y ∧ LRw nl B x y ∧ PanR gx gy gw gd nh (x 4) (y (B + 9)) ∧ x 0 6 = y S 10 ∧ x 0 8 = y S 15 ∧ TRw ns B x y ∧ (∀ c, Out gx gy gw gd nh c → x 4 c = -1)
theorem tL_at {v : Nat → Nat → Int32} : ∀ {n r k : Nat}, itr tL n v r k = if 80 ≤ r ∧ r < 80 + n ∧ k = 3 then v r 3 - v 11 (r - 80) else if 80 ≤ r ∧ r < 80 + n ∧ k = 4 then v r 4 + v 11 (r - 80) else v r k
  | 0, r, k => by rw [if_neg (by omega), if_neg (by omega)]; rfl
  | n + 1, r, k => by
    have h1 : ∀ r k, itr tL n v r k = _ := fun r k => tL_at (n := n) (r := r) (k := k)
    rw [itr_s]
    generalize itr tL n v = t at h1
    unfold tL
    have e3 : t (80 + n) 3 = v (80 + n) 3 := by rw [h1, if_neg (by omega), if_neg (by omega)]
    have e4 : t (80 + n) 4 = v (80 + n) 4 := by rw [h1, if_neg (by omega), if_neg (by omega)]
    have e11 : t 11 n = v 11 n := by rw [h1, if_neg (by omega), if_neg (by omega)]
    have u4 : ∀ z, up2 t (80 + n) 3 z (80 + n) 4 = v (80 + n) 4 := fun z => by rw [up2_at, if_neg (by omega), e4]
    have u11 : ∀ z, up2 t (80 + n) 3 z 11 n = v 11 n := fun z => by rw [up2_at, if_neg (by omega), e11]
    rw [e3, e11, u4, u11, up2_at, up2_at, h1]
    by_cases c1 : r = 80 + n ∧ k = 4
    · obtain ⟨rfl, rfl⟩ := c1
      rw [if_pos ⟨rfl, rfl⟩, if_neg (by omega), if_pos (by omega), show 80 + n - 80 = n by omega]
    · rw [if_neg c1]
      by_cases c2 : r = 80 + n ∧ k = 3
      · obtain ⟨rfl, rfl⟩ := c2
        rw [if_pos ⟨rfl, rfl⟩, if_pos (by omega), show 80 + n - 80 = n by omega]
      · rw [if_neg c2]
        by_cases c3 : 80 ≤ r ∧ r < 80 + n ∧ k = 3
        · rw [if_pos c3, if_pos (by omega)]
        · rw [if_neg c3]
          by_cases c4 : 80 ≤ r ∧ r < 80 + n ∧ k = 4
          · rw [if_pos c4, if_neg (show ¬ (80 ≤ r ∧ r < 80 + (n + 1) ∧ k = 3) by omega), if_pos (show 80 ≤ r ∧ r < 80 + (n + 1) ∧ k = 4 by omega)]
          · rw [if_neg c4, if_neg (show ¬ (80 ≤ r ∧ r < 80 + (n + 1) ∧ k = 3) by omega), if_neg (show ¬ (80 ≤ r ∧ r < 80 + (n + 1) ∧ k = 4) by omega)]
/-- what the growers have behind the storm -/
def tGv (v : Nat → Nat → Int32) (g k : Nat) : Int32 := if k = 6 then v (50 + g) 6 + v 9 g else if k = 0 then v (50 + g) 0 + v 10 g else if k = 7 then v (50 + g) 7 + (v 9 g - v 10 g) else v (50 + g) k
theorem tG_at {v : Nat → Nat → Int32} : ∀ {n : Nat}, (∀ g k, g < n → itr tG n v (50 + g) k = tGv v g k) ∧ itr tG n v 0 6 = v 0 6 - sumI (fun g => v 10 g) n ∧ (∀ r k, (50 ≤ r → 50 + n ≤ r) → ¬ (r = 0 ∧ k = 6) → itr tG n v r k = v r k)
  | 0 => ⟨fun g k h => absurd h (by omega), by rw [sumI_0]; show v 0 6 = _; grind, fun _ _ _ _ => rfl⟩
  | n + 1 => by
    obtain ⟨h1, h2, h3⟩ := tG_at (v := v) (n := n)
    rw [itr_s]
    generalize itr tG n v = t at h1 h2 h3
    have q : ∀ k, t (50 + n) k = v (50 + n) k := fun k => h3 _ _ (by omega) (by omega)
    have q9 : t 9 n = v 9 n := h3 _ _ (by omega) (by omega)
    have q10 : t 10 n = v 10 n := h3 _ _ (by omega) (by omega)
    have e : ∀ r k, tG n t r k = if r = 0 ∧ k = 6 then t 0 6 - v 10 n else if r = 50 + n then tGv v n k else t r k := fun r k => by
      unfold tG tGv
      simp only [up2_at]
      by_cases c0 : r = 0 ∧ k = 6
      · obtain ⟨rfl, rfl⟩ := c0
        have n10 : ¬ (10 = 50 + n) := by omega
        have n0 : ¬ (0 = 50 + n) := by omega
        simp [q10, n10, n0]
      · rw [if_neg c0, if_neg c0]
        by_cases c1 : r = 50 + n
        · subst c1
          rw [if_pos rfl]
          have n0 : ¬ (50 + n = 0) := by omega
          have n9 : ¬ (9 = 50 + n) := by omega
          have n10 : ¬ (10 = 50 + n) := by omega
          by_cases c7 : k = 7
          · subst c7
            simp [q, q9, q10, n9, n10]
          · by_cases c00 : k = 0
            · subst c00
              simp [q, q9, q10, n9, n10]
            · by_cases c6 : k = 6
              · subst c6
                simp [q, q9, q10]
              · simp [c7, c00, c6, q]
        · have n7 : ¬ (r = 50 + n ∧ k = 7) := fun z => c1 z.1
          have n00 : ¬ (r = 50 + n ∧ k = 0) := fun z => c1 z.1
          have n6 : ¬ (r = 50 + n ∧ k = 6) := fun z => c1 z.1
          rw [if_neg n7, if_neg n00, if_neg n6, if_neg c1]
    refine ⟨fun g k hg => ?_, ?_, fun r k a b => ?_⟩
    · rw [e, if_neg (by omega)]
      by_cases c : 50 + g = 50 + n
      · rw [if_pos c, show n = g by omega]
      · rw [if_neg c]
        exact h1 g k (by omega)
    · rw [e, if_pos ⟨rfl, rfl⟩, h2, sumI_s]
      grind
    · rw [e, if_neg b, if_neg (by omega)]
      exact h3 r k (by omega) b
theorem blow_out {x : Nat → Nat → Int32} {sx sy dx dy rad : Int} {F : Int32} {st c : Nat} (hZ : GSz ow gx gy gw gd ng nh) (hc : Out gx gy gw gd nh c) : uBlow x ow gx gy gw gd nh sx sy dx dy rad F st 7 c = x 4 c := by
  have h0 : uBegin x 7 c = x 4 c := by rw [begin_at, if_neg (by omega), if_neg (by omega), cpy2_h hc.1]
  have hit : ∀ (u : Nat → Nat → Int32) (h c' : Nat) (hail : Int32), c' ≠ c → uHit u ow h c' hail 7 c = u 7 c := fun u h c' hail hn => by
    unfold uHit
    split
    · simp [uCrack, uAdd, up2_at, Ne.symm hn]
    · split
      · simp [uBreak, uAdd, up2_at, Ne.symm hn]
      · rfl
  have inv : ∀ {n : Nat} {f : Nat → (Nat → Nat → Int32) → (Nat → Nat → Int32)} {a : Nat → Nat → Int32}, (∀ i u, i < n → f i u 7 c = u 7 c) → itr f n a 7 c = a 7 c := fun {n} => by
    induction n with
    | zero => intro f a _; rfl
    | succ n ih => intro f a h; rw [itr_s, h n _ (by omega)]; exact ih (fun i u hi => h i u (by omega))
  refine (inv (fun k u _ => ?_)).trans h0
  refine inv (fun h u hh => ?_)
  refine inv (fun i u hi => ?_)
  refine inv (fun j u hj => ?_)
  unfold uHail
  split
  · refine hit _ _ _ _ (fun e => hc.2 h (i * gw h + j) hh ?_ ?_)
    · calc i * gw h + j < i * gw h + gw h := by omega
        _ = (i + 1) * gw h := by rw [Nat.succ_mul]
        _ ≤ gd h * gw h := Nat.mul_le_mul_right _ hi
        _ = gw h * gd h := Nat.mul_comm _ _
    · obtain ⟨e1, e2⟩ := fp_dm (a := i) hj
      unfold cel
      rw [e1, e2]
      exact e
  · rfl
theorem try_out {x : Nat → Nat → Int32} {sx sy dx dy rad : Int} {F : Int32} {st c : Nat} (hZ : GSz ow gx gy gw gd ng nh) (hc : Out gx gy gw gd nh c) : uTry x ow gx gy gw gd ng nh nl sx sy dx dy rad F st 7 c = x 4 c := by
  have pay : ∀ {n : Nat} {t : (Nat → Nat → Int32) × Int32 × Int32}, (itr pF n t).1 7 c = t.1 7 c := fun {n} => by
    induction n with
    | zero => intro t; rfl
    | succ n ih => intro t; rw [itr_s, pF]; dsimp only; rw [up2_at, if_neg (by omega)]; exact ih
  unfold uTry uPays
  rw [up2_at, if_neg (by omega), pay]
  dsimp only
  rw [layers_at, if_neg (by omega), if_neg (by omega), claims_at, if_neg (by omega), if_neg (by omega)]
  exact blow_out hZ hc
end RV
