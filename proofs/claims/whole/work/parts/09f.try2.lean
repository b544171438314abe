/-! a storm tried, the whole of it -/
section T2
variable {B S : Nat} {gw gd gx gy ow : Nat → Nat} {nh ng nl : Nat} {sx sy dx dy rad : Int} {F : Int32} {st : Nat}
/-- what class X and reference W have behind a storm that is tried, over the ints x and y before it -/
def TRY (gx gy gw gd : Nat → Nat) (ng nh nl B S : Nat) (x y X W : Nat → Nat → Int32) : Prop :=
  PanR gx gy gw gd nh (X 7) (W (B + 9)) ∧ (∀ k, k < 6 → X 12 k = W (B + 16) k) ∧
  (∀ g, g < ng → W (B + 1) g = y (B + 1) g + X 10 g ∧ W (B + 4) g = y (B + 4) g + X 9 g ∧ W (B + 5) g = y (B + 5) g + (X 9 g - X 10 g)) ∧
  (∀ k, k < nl → W (B + 12) (5 * k + 3) = y (B + 12) (5 * k + 3) - X 11 k ∧ W (B + 12) (5 * k + 4) = y (B + 12) (5 * k + 4) + X 11 k) ∧
  W S 10 = x 0 6 + X 12 4 - sumI (fun g => X 10 g) ng ∧
  (∀ r k, r < 7 ∨ 13 ≤ r → X r k = x r k) ∧
  (∀ r k, r ≠ B + 9 → r ≠ B + 16 → r ≠ B + 17 → r ≠ B + 18 → (r = B + 1 ∨ r = B + 4 ∨ r = B + 5 → ng ≤ k) → (r = B + 12 → k % 5 < 3) → ¬ (r = S ∧ k = 10) → W r k = y r k)
theorem try_sim {x y : Nat → Nat → Int32} (hD : GDj gx gy gw gd nh) (hZ : GSz ow gx gy gw gd ng nh) (hg : ng ≤ 6) (hn : nh ≤ 12) (hSB : S < B) (hP : PanR gx gy gw gd nh (x 4) (y (B + 9))) (hS : SCo ow nh B x y)
    (hG : ∀ g, g < ng → x (50 + g) 2 = y (B + 2) (3 * g) ∧ x (50 + g) 3 = y (B + 2) (3 * g + 1) ∧ x (50 + g) 6 = y (B + 4) g ∧ (x (50 + g) 1 = 0 ↔ y (B + 2) (3 * g + 1) = 0)) (hL : ∀ k, k < nl → ∀ j, j < 5 → x (80 + k) j = y (B + 12) (5 * k + j)) (hp : x 0 6 = y S 10) :
    TRY gx gy gw gd ng nh nl B S x y (uTry x ow gx gy gw gd ng nh nl sx sy dx dy rad F st) (rStorm y B S gx gy gw gd ng nh nl sx sy dx dy rad F st) := by
  obtain ⟨-, f1, f2, f3, f4⟩ := blow_begin (ow := ow) hZ hg hn hP hS
  have J := blow_sim (rad := rad) (F := F) (sx := sx) (sy := sy) (dx := dx) (dy := dy) (st := st) hD hZ hg hn hP hS
  unfold uTry rStorm
  dsimp only
  generalize uBlow x ow gx gy gw gd nh sx sy dx dy rad F st = X1 at J
  generalize rBlow y B gx gy gw gd ng nh sx sy dx dy rad F st = Y1 at J
  obtain ⟨⟨t1, t2, t3, t4, t5⟩, -, fx, fy⟩ := J
  have a1 : ∀ r k, r ≠ 7 → r ≠ 8 → r ≠ 12 → X1 r k = x r k := fun r k a b c => (fx r k a b (fun q => absurd q c)).trans (f1 r k a b c)
  have a2 : ∀ r k, r ≠ B + 9 → r ≠ B + 16 → r ≠ B + 17 → Y1 r k = y r k := fun r k a b c => (fy r k a (fun q => absurd q b)).trans (f2 r k b c)
  have a3 : ∀ k, 3 ≤ k → k < 6 → X1 12 k = 0 := fun k a b => (fx 12 k (by omega) (by omega) (fun _ => a)).trans (f4 k b)
  have a4 : ∀ k, 2 ≤ k → k < 6 → Y1 (B + 16) k = 0 := fun k a b => (fy _ k (by omega) (fun _ => a)).trans (f3 k b)
  have hcl : ∀ g, g < ng → fClaim X1 (50 + g) (X1 8 g) = mC Y1 B gw gd nh g := fun g hgl => by
    obtain ⟨g2, g3, g6, g1⟩ := hG g hgl
    unfold fClaim mC mD
    rw [t4 g hgl, a1 _ _ (by omega) (by omega) (by omega), a1 _ _ (by omega) (by omega) (by omega), a1 _ _ (by omega) (by omega) (by omega), a1 _ _ (by omega) (by omega) (by omega), a2 (B + 2) _ (by omega) (by omega) (by omega), a2 (B + 2) _ (by omega) (by omega) (by omega), a2 (B + 4) _ (by omega) (by omega) (by omega), g2, g3, g6]
    by_cases c : y (B + 2) (3 * g + 1) = 0
    · rw [if_pos c, if_pos (g1.mpr c)]
    · rw [if_neg c, if_neg (fun q => c (g1.mp q))]
  -- claims
  obtain ⟨r1, r2⟩ := rG_at (y := Y1) (B := B) (gw := gw) (gd := gd) (nh := nh) (n := ng)
  have c1 : ∀ r k, uClaims X1 ng r k = _ := fun r k => claims_at (v := X1) (n := ng) (r := r) (k := k)
  rw [sumI_congr (f := fun g => fClaim X1 (50 + g) (X1 8 g)) (g := mC Y1 B gw gd nh) hcl] at c1
  generalize uClaims X1 ng = X2 at c1
  have e3 : rEnd3 Y1 B gw gd ng nh = up2 (itr (rG B gw gd nh) ng (Y1, 0)).1 (B + 16) 3 (itr (rG B gw gd nh) ng (Y1, 0)).2 := rfl
  have e4 : (rSum Y1 B gw gd ng nh).2 = sumI (mC Y1 B gw gd nh) ng := r2
  rw [e3, e4, r2]
  have y2 : ∀ r k, up2 (itr (rG B gw gd nh) ng (Y1, 0)).1 (B + 16) 3 (sumI (mC Y1 B gw gd nh) ng) r k = _ := fun r k => (up2_at).trans (by rw [r1])
  generalize up2 (itr (rG B gw gd nh) ng (Y1, 0)).1 (B + 16) 3 (sumI (mC Y1 B gw gd nh) ng) = Y2 at y2
  obtain ⟨sm, hsm⟩ : ∃ z, z = sumI (mC Y1 B gw gd nh) ng := ⟨_, rfl⟩
  rw [← hsm] at c1 y2 ⊢
  have x123 : X2 12 3 = sm := by rw [c1, if_pos ⟨rfl, rfl⟩]
  -- layers
  have l1 : ∀ r k, uLayers X2 nl r k = _ := fun r k => layers_at (v := X2) (n := nl) (r := r) (k := k)
  have hpy : ∀ k, k < nl → fPay X2 (80 + k) (X2 12 3) = mP Y2 B sm k := fun k hk => by
    have q : ∀ j, j < 5 → X2 (80 + k) j = Y2 (B + 12) (5 * k + j) := fun j hj => by
      rw [c1, if_neg (by omega), if_neg (by omega), a1 _ _ (by omega) (by omega) (by omega), y2, if_neg (by omega), if_neg (by omega), if_neg (by omega), if_neg (by omega), a2 _ _ (by omega) (by omega) (by omega), hL k hk j hj]
    unfold fPay mP
    rw [x123, q 0 (by omega), q 1 (by omega), q 2 (by omega), q 3 (by omega), imin_comm (imax 0 _), imin_comm _ (Y2 (B + 12) (5 * k + 3))]
    rfl
  rw [sumI_congr (f := fun k => fPay X2 (80 + k) (X2 12 3)) (g := mP Y2 B sm) hpy] at l1
  have m1 : ∀ r k, itr (rL B S sm) nl Y2 r k = _ := fun r k => rL_at hSB (n := nl) (r := r) (k := k)
  obtain ⟨sp, hsp⟩ : ∃ z, z = sumI (mP Y2 B sm) nl := ⟨_, rfl⟩
  rw [← hsp] at l1 m1
  generalize uLayers X2 nl = X3 at l1
  generalize itr (rL B S sm) nl Y2 = Y3 at m1
  have x06 : X3 0 6 = x 0 6 := by rw [l1, if_neg (by omega), if_neg (by omega), c1, if_neg (by omega), if_neg (by omega), a1 _ _ (by omega) (by omega) (by omega)]
  have x124 : X3 12 4 = sp := by rw [l1, if_pos ⟨rfl, rfl⟩]
  have y10 : Y3 S 10 = y S 10 + sp := by rw [m1, if_pos ⟨rfl, rfl⟩, y2, if_neg (by omega), if_neg (by omega), if_neg (by omega), if_neg (by omega), a2 _ _ (by omega) (by omega) (by omega)]
  have y165 : Y3 (B + 16) 5 = 0 := by rw [m1, if_neg (by omega), if_neg (by omega), if_neg (by omega), if_neg (by omega), y2, if_neg (by omega), if_neg (by omega), if_neg (by omega), if_neg (by omega), a4 _ (by omega) (by omega)]
  have hC : ∀ g, g < ng → Y3 (B + 18) g = X3 9 g := fun g hgl => by
    rw [m1, if_neg (by omega), if_neg (by omega), if_neg (by omega), if_neg (by omega), y2, if_neg (by omega), if_neg (by omega), if_pos ⟨rfl, hgl⟩, l1, if_neg (by omega), if_neg (by omega), c1, if_neg (by omega), if_pos ⟨rfl, hgl⟩, hcl g hgl]
  -- payments
  have K : PR X3 Y3 B S ng (itr pF ng (X3, X3 0 6 + X3 12 4, 0)) (itr (rP B S) ng Y3) := itr_sim (fun i t w => PR X3 Y3 B S i t w) ⟨by show X3 0 6 + X3 12 4 = _; rw [x06, x124, y10, hp], y165.symm, by show X3 0 6 + X3 12 4 = _; rw [sumI_0]; grind, fun _ _ _ => rfl, fun g h => absurd h (by omega), fun _ _ _ _ _ _ => rfl⟩ (fun i t w hi q => pay_sim hSB (hC i hi) q)
  obtain ⟨k1, k2, k3, k4, k5, k6⟩ := K
  unfold uPays
  generalize itr pF ng (X3, X3 0 6 + X3 12 4, 0) = tf at k1 k2 k3 k4 k5
  generalize itr (rP B S) ng Y3 = wf at k1 k2 k5 k6
  have z1 : ∀ r k, ¬ (r = 12 ∧ k = 5) → (r = 10 → ng ≤ k) → up2 tf.1 12 5 tf.2.2 r k = X3 r k := fun r k a b => by rw [up2_at, if_neg a, k4 r k b]
  have z10 : ∀ g, up2 tf.1 12 5 tf.2.2 10 g = tf.1 10 g := fun g => by rw [up2_at, if_neg (by omega)]
  have z9 : ∀ g, g < ng → up2 tf.1 12 5 tf.2.2 9 g = mC Y1 B gw gd nh g := fun g h => by
    rw [z1 _ _ (by omega) (by omega), l1, if_neg (by omega), if_neg (by omega), c1, if_neg (by omega), if_pos ⟨rfl, h⟩, hcl g h]
  have z11 : ∀ k, k < nl → up2 tf.1 12 5 tf.2.2 11 k = mP Y2 B sm k := fun k h => by
    rw [z1 _ _ (by omega) (by omega), l1, if_neg (by omega), if_pos ⟨rfl, h⟩, hpy k h]
  have w9 : ∀ j, wf (B + 9) j = Y1 (B + 9) j := fun j => by
    rw [k6 _ _ (by omega) (by omega) (by omega) (by omega), m1, if_neg (by omega), if_neg (by omega), if_neg (by omega), if_neg (by omega), y2, if_neg (by omega), if_neg (by omega), if_neg (by omega), if_neg (by omega)]
  have x7 : ∀ j, up2 tf.1 12 5 tf.2.2 7 j = X1 7 j := fun j => by
    rw [z1 _ _ (by omega) (by omega), l1, if_neg (by omega), if_neg (by omega), c1, if_neg (by omega), if_neg (by omega)]
  refine ⟨fun h k hh hk => by rw [x7, w9]; exact t1 h k hh hk, fun k hk => ?_, fun g hgl => ⟨?_, ?_, ?_⟩, fun k hk => ⟨?_, ?_⟩, ?_, fun r k hr => ?_, fun r k b1 b2 b3 b4 b5 b6 b7 => ?_⟩
  · rcases (show k = 0 ∨ k = 1 ∨ k = 2 ∨ k = 3 ∨ k = 4 ∨ k = 5 by omega) with rfl | rfl | rfl | rfl | rfl | rfl
    · rw [z1 _ _ (by omega) (by omega), l1, if_neg (by omega), if_neg (by omega), c1, if_neg (by omega), if_neg (by omega), t2, k6 _ _ (by omega) (by omega) (by omega) (by omega), m1, if_neg (by omega), if_neg (by omega), if_neg (by omega), if_neg (by omega), y2, if_neg (by omega), if_neg (by omega), if_neg (by omega), if_neg (by omega)]
    · rw [z1 _ _ (by omega) (by omega), l1, if_neg (by omega), if_neg (by omega), c1, if_neg (by omega), if_neg (by omega), t3, k6 _ _ (by omega) (by omega) (by omega) (by omega), m1, if_neg (by omega), if_neg (by omega), if_neg (by omega), if_neg (by omega), y2, if_neg (by omega), if_neg (by omega), if_neg (by omega), if_neg (by omega)]
    · rw [z1 _ _ (by omega) (by omega), l1, if_neg (by omega), if_neg (by omega), c1, if_neg (by omega), if_neg (by omega), t5, k6 _ _ (by omega) (by omega) (by omega) (by omega), m1, if_neg (by omega), if_neg (by omega), if_neg (by omega), if_neg (by omega), y2, if_neg (by omega), if_pos ⟨rfl, rfl⟩, a4 2 (by omega) (by omega), sumI_congr (f := fun g => X1 8 g) (g := mD Y1 B gw gd nh) (fun i hi => t4 i hi)]
      grind
    · rw [z1 _ _ (by omega) (by omega), l1, if_neg (by omega), if_neg (by omega), x123, k6 _ _ (by omega) (by omega) (by omega) (by omega), m1, if_neg (by omega), if_neg (by omega), if_neg (by omega), if_neg (by omega), y2, if_pos ⟨rfl, rfl⟩]
    · rw [z1 _ _ (by omega) (by omega), x124, k6 _ _ (by omega) (by omega) (by omega) (by omega), m1, if_neg (by omega), if_pos ⟨rfl, rfl⟩, y2, if_neg (by omega), if_neg (by omega), if_neg (by omega), if_neg (by omega), a4 4 (by omega) (by omega)]
      grind
    · rw [up2_at, if_pos ⟨rfl, rfl⟩, k2]
  · rw [(k5 g hgl).1, z10, m1, if_neg (by omega), if_neg (by omega), if_neg (by omega), if_neg (by omega), y2, if_neg (by omega), if_neg (by omega), if_neg (by omega), if_neg (by omega), a2 _ _ (by omega) (by omega) (by omega)]
  · rw [z9 g hgl, k6 _ _ (by omega) (by omega) (by omega) (by omega), m1, if_neg (by omega), if_neg (by omega), if_neg (by omega), if_neg (by omega), y2, if_neg (by omega), if_neg (by omega), if_neg (by omega), if_pos ⟨rfl, hgl⟩, a2 _ _ (by omega) (by omega) (by omega)]
  · rw [(k5 g hgl).2, z10, z1 9 g (by omega) (by omega), m1, if_neg (by omega), if_neg (by omega), if_neg (by omega), if_neg (by omega), y2, if_neg (by omega), if_neg (by omega), if_neg (by omega), if_neg (by omega), a2 _ _ (by omega) (by omega) (by omega)]
  · rw [z11 k hk, k6 _ _ (by omega) (by omega) (by omega) (by omega), m1, if_neg (by omega), if_neg (by omega), if_pos (by omega), y2, if_neg (by omega), if_neg (by omega), if_neg (by omega), if_neg (by omega), a2 _ _ (by omega) (by omega) (by omega), show (5 * k + 3) / 5 = k by omega]
  · rw [z11 k hk, k6 _ _ (by omega) (by omega) (by omega) (by omega), m1, if_neg (by omega), if_neg (by omega), if_neg (by omega), if_pos (by omega), y2, if_neg (by omega), if_neg (by omega), if_neg (by omega), if_neg (by omega), a2 _ _ (by omega) (by omega) (by omega), show (5 * k + 4) / 5 = k by omega]
  · rw [← k1, k3, x06, z1 12 4 (by omega) (by omega), sumI_congr (f := fun g => up2 tf.1 12 5 tf.2.2 10 g) (g := fun g => tf.1 10 g) (fun i _ => z10 i)]
  · rw [z1 _ _ (by omega) (by omega), l1, if_neg (by omega), if_neg (by omega), c1, if_neg (by omega), if_neg (by omega), a1 _ _ (by omega) (by omega) (by omega)]
  · rw [k6 _ _ b7 (by omega) (by omega) (by omega), m1, if_neg b7, if_neg (by omega), if_neg (by omega), if_neg (by omega), y2, if_neg (by omega), if_neg (by omega), if_neg (by omega), if_neg (by omega), a2 _ _ b1 b2 b3]
end T2
