/-! A STORM BLOWS: class and reference step by step -/
section BL
variable {ow gx gy gw gd : Nat → Nat} {ng nh B : Nat}
/-- the class's trial x and the reference's state y, as the storm goes over the land -/
def TB (ow gx gy gw gd : Nat → Nat) (ng nh B : Nat) (x y : Nat → Nat → Int32) : Prop :=
  PanR gx gy gw gd nh (x 7) (y (B + 9)) ∧ x 12 0 = y (B + 16) 0 ∧ x 12 1 = y (B + 16) 1 ∧ (∀ g, g < ng → x 8 g = rBy y B gw gd nh (nI g) - y (B + 17) g) ∧ x 12 2 = sumI (fun g => x 8 g) ng
/-- the houses are the same -/
def SCo (ow : Nat → Nat) (nh B : Nat) (x y : Nat → Nat → Int32) : Prop := ∀ h, h < nh → x (60 + h) 5 = y (B + 7) (7 * h + 5) ∧ x (60 + h) 6 = y (B + 7) (7 * h + 6) ∧ x (60 + h) 7 = y (B + 8) h ∧ y (B + 7) (7 * h) = nI (ow h)
def Fx (x0 x : Nat → Nat → Int32) : Prop := ∀ r k, r ≠ 7 → r ≠ 8 → (r = 12 → 3 ≤ k) → x r k = x0 r k
def Fy (B : Nat) (y0 y : Nat → Nat → Int32) : Prop := ∀ r k, r ≠ B + 9 → (r = B + 16 → 2 ≤ k) → y r k = y0 r k
theorem Fx.rf {x : Nat → Nat → Int32} : Fx x x := fun _ _ _ _ _ => rfl
theorem Fy.rf {y : Nat → Nat → Int32} : Fy B y y := fun _ _ _ _ => rfl
theorem Fx.tr {x y z : Nat → Nat → Int32} (h : Fx x y) (g : Fx y z) : Fx x z := fun r k a b c => (g r k a b c).trans (h r k a b c)
theorem Fy.tr {x y z : Nat → Nat → Int32} (h : Fy B x y) (g : Fy B y z) : Fy B x z := fun r k a b => (g r k a b).trans (h r k a b)
theorem SCo.mv {x x' y y' : Nat → Nat → Int32} (h : SCo ow nh B x y) (f : Fx x x') (g : Fy B y y') (hn : nh ≤ 12) : SCo ow nh B x' y' := fun i hi => by
  obtain ⟨a, b, c, d⟩ := h i hi
  rw [f _ _ (by omega) (by omega) (by omega), f _ _ (by omega) (by omega) (by omega), f _ _ (by omega) (by omega) (by omega), g _ _ (by omega) (by omega), g _ _ (by omega) (by omega), g _ _ (by omega) (by omega), g _ _ (by omega) (by omega)]
  exact ⟨a, b, c, d⟩
theorem nI_inj {a b : Nat} (ha : a < 2 ^ 31) (hb : b < 2 ^ 31) (h : nI a = nI b) : a = b := by
  have h1 := (nI_leI ha hb).mp (by rw [h]; exact Int32.le_refl _)
  have h2 := (nI_leI hb ha).mp (by rw [h]; exact Int32.le_refl _)
  omega
theorem nI_ne_m1 {a : Nat} (ha : a < 2 ^ 31) : nI a ≠ -1 := fun h => by
  have h1 := nI_pos ha
  rw [h] at h1
  exact h1 (by decide)
theorem bump {x y x' y' : Nat → Nat → Int32} {h k : Nat} {s1 δ : Int32} (hD : GDj gx gy gw gd nh) (hZ : GSz ow gx gy gw gd ng nh) (hg : ng ≤ 6) (hh : h < nh) (hk : k < gw h * gd h) (hS : SCo ow nh B x y) (T : TB ow gx gy gw gd ng nh B x y)
    (hx7 : ∀ j, x' 7 j = if j = cel gx gy gw h k then s1 else x 7 j) (hx8 : ∀ g, x' 8 g = if g = ow h then x 8 g + δ else x 8 g) (e0 : x' 12 0 = y' (B + 16) 0) (e1 : x' 12 1 = y' (B + 16) 1) (e2 : x' 12 2 = x 12 2 + δ)
    (hy9 : ∀ j, y' (B + 9) j = if j = 36 * h + k then s1 else y (B + 9) j) (hy7 : ∀ j, y' (B + 7) j = y (B + 7) j) (hy17 : ∀ j, y' (B + 17) j = y (B + 17) j) (hs1 : s1 = 0 ∨ s1 = 1 ∨ s1 = 2) (hd : rVal y B h s1 - rVal y B h (y (B + 9) (36 * h + k)) = δ) : TB ow gx gy gw gd ng nh B x' y' := by
  obtain ⟨t1, t2, t3, t4, t5⟩ := T
  have hok := (hZ h hh).1
  refine ⟨fun h' k' a b => ?_, e0, e1, fun g hgl => ?_, ?_⟩
  · have hk1 := hZ.m hh
    have hk2 := hZ.m a
    rw [hx7, hy9]
    by_cases c : cel gx gy gw h' k' = cel gx gy gw h k
    · obtain ⟨c1, c2⟩ := hD h' k' h k a b hh hk c
      subst c1 c2
      rw [if_pos rfl, if_pos rfl]
      exact ⟨rfl, hs1⟩
    · rw [if_neg c, if_neg (fun q => c (by
        have q1 : h' = h := by omega
        subst q1
        rw [show k' = k by omega]))]
      exact t1 h' k' a b
  · rw [hx8, hy17, rBy_upd (fun i hi => hZ.m hi) hh hk hy7 (fun j hj => by rw [hy9, if_neg hj]), hy9, if_pos rfl, hd, t4 g hgl, (hS h hh).2.2.2]
    by_cases c : g = ow h
    · rw [if_pos c, if_pos (Or.inr (by rw [c]))]; grind
    · rw [if_neg c, if_neg (fun q => q.elim (nI_ne_m1 (by omega)) (fun q => c (nI_inj (by omega) (by omega) q).symm))]; grind
  · rw [e2, t5, sumI_upd (f := fun g => x' 8 g) (g := fun g => x 8 g) hok (fun i _ hn => by rw [hx8, if_neg hn]), hx8, if_pos rfl]
    grind
theorem hit_sim {x y : Nat → Nat → Int32} {h k : Nat} {hail : Int32} (hD : GDj gx gy gw gd nh) (hZ : GSz ow gx gy gw gd ng nh) (hg : ng ≤ 6) (hn : nh ≤ 12) (hh : h < nh) (hk : k < gw h * gd h) (hS : SCo ow nh B x y) (T : TB ow gx gy gw gd ng nh B x y) :
    TB ow gx gy gw gd ng nh B (uHit x ow h (cel gx gy gw h k) hail) (rHit y B h k hail) ∧ Fx x (uHit x ow h (cel gx gy gw h k) hail) ∧ Fy B y (rHit y B h k hail) := by
  obtain ⟨s5, s6, s7, s0⟩ := hS h hh
  obtain ⟨p1, p2⟩ := T.1 h k hh hk
  have h67 : ¬ 60 + h = 7 := by omega
  unfold uHit rHit
  rw [p1, s5]
  by_cases c1 : y (B + 9) (36 * h + k) = 0 ∧ y (B + 7) (7 * h + 5) < hail
  · rw [if_pos c1, if_pos c1]
    refine ⟨bump (s1 := 1) (δ := y (B + 7) (7 * h + 6) / 2) hD hZ hg hh hk hS T (fun j => ?_) (fun g => ?_) ?_ ?_ ?_ (fun j => ?_) (fun j => ?_) (fun j => ?_) (Or.inr (Or.inl rfl)) ?_, fun r k' h1 h2 h3 => ?_, fun r k' h1 h2 => ?_⟩
    · simp [uCrack, uAdd, up2]
    · simp only [uCrack, uAdd, up2]; simp [h67]; rw [s6]; split
      · rename_i e; rw [e]
      · rfl
    · simp [uCrack, uAdd, up2, T.2.1]
    · simp [uCrack, uAdd, up2, T.2.2.1]
    · simp [uCrack, uAdd, up2, s6, h67]
    · simp [up2]
    · simp [up2]
    · simp [up2]
    · unfold rVal; rw [c1.1]; simp
    · simp only [uCrack, uAdd, up2]
      rw [if_neg (by omega), if_neg (by omega), if_neg (by omega), if_neg (by omega)]
    · simp only [up2]
      rw [if_neg (by omega), if_neg (by omega)]
  · rw [if_neg c1, if_neg c1]
    by_cases c2 : y (B + 9) (36 * h + k) = 1 ∧ y (B + 7) (7 * h + 5) < 2 * hail
    · rw [if_pos c2, if_pos c2]
      refine ⟨bump (s1 := 2) (δ := y (B + 7) (7 * h + 6) - y (B + 7) (7 * h + 6) / 2) hD hZ hg hh hk hS T (fun j => ?_) (fun g => ?_) ?_ ?_ ?_ (fun j => ?_) (fun j => ?_) (fun j => ?_) (Or.inr (Or.inr rfl)) ?_, fun r k' h1 h2 h3 => ?_, fun r k' h1 h2 => ?_⟩
      · simp [uBreak, uAdd, up2]
      · simp only [uBreak, uAdd, up2]; simp [h67]; rw [s6]; split
        · rename_i e; rw [e]
        · rfl
      · simp [uBreak, uAdd, up2, T.2.1]
      · simp [uBreak, uAdd, up2, T.2.2.1]
      · simp [uBreak, uAdd, up2, s6, h67]
      · simp [up2]
      · simp [up2]
      · simp [up2]
      · unfold rVal; rw [c2.1]; simp
      · simp only [uBreak, uAdd, up2]
        rw [if_neg (by omega), if_neg (by omega), if_neg (by omega), if_neg (by omega)]
      · simp only [up2]
        rw [if_neg (by omega), if_neg (by omega)]
    · rw [if_neg c2, if_neg c2]
      exact ⟨T, Fx.rf, Fy.rf⟩
end BL
