/-! the bounds stay over a storm, the whole of it -/
section BX
variable {ow gx gy gw gd : Nat → Nat} {ng nh nl ns S B : Nat} {n : Int} {x x' y : Nat → Nat → Int32} {sx sy dx dy rad : Int} {F : Int32} {st : Nat}
theorem BN.storm (h : BN ng nl n x) (hH : TH ow gx gy gw gd ng nh nl S B x' y) (hD : GDj gx gy gw gd nh) (hZ : GSz ow gx gy gw gd ng nh) (hg : ng ≤ 6) (hn : nh ≤ 12) (hl : nl ≤ 6) (hs : ns < 30) (h0 : 0 ≤ n) (hn2 : n ≤ 600) (hx : ∀ r k, r < 100 → x' r k = x r k) :
    BN ng nl (n + 1) (uTake (uTry x' ow gx gy gw gd ng nh nl sx sy dx dy rad F st) ng nl ns) := by
  have fr := hH.fr (sx := sx) (sy := sy) (dx := dx) (dy := dy) (rad := rad) (F := F) (st := st) hD hZ hg hn
  unfold uTry
  generalize uBlow x' ow gx gy gw gd nh sx sy dx dy rad F st = X1 at fr
  have c1 : ∀ r k, uClaims X1 ng r k = _ := fun r k => claims_at (v := X1) (n := ng) (r := r) (k := k)
  generalize uClaims X1 ng = X2 at c1
  have l1 : ∀ r k, uLayers X2 nl r k = _ := fun r k => layers_at (v := X2) (n := nl) (r := r) (k := k)
  generalize uLayers X2 nl = X3 at l1
  have x1 : ∀ r k, r ≠ 7 → r ≠ 8 → r ≠ 12 → r < 100 → X1 r k = x r k := fun r k a b c d => (fr r k a b c).trans (hx r k d)
  have x2 : ∀ r k, r ≠ 7 → r ≠ 8 → r ≠ 9 → r ≠ 12 → r < 100 → X2 r k = x r k := fun r k a b e c d => by rw [c1, if_neg (by omega), if_neg (by omega)]; exact x1 r k a b c d
  have x3 : ∀ r k, r ≠ 7 → r ≠ 8 → r ≠ 9 → r ≠ 11 → r ≠ 12 → r < 100 → X3 r k = x r k := fun r k a b e f c d => by rw [l1, if_neg (by omega), if_neg (by omega)]; exact x2 r k a b e c d
  have hBG : ∀ g, g < ng → BG n (X1 (50 + g)) := fun g hgl => by
    rw [show X1 (50 + g) = x (50 + g) from funext (fun k => x1 _ _ (by omega) (by omega) (by omega) (by omega))]; exact h.2.1 g hgl
  have hBL : ∀ l, l < nl → BL (X2 (80 + l)) := fun l hl9 => by
    rw [show X2 (80 + l) = x (80 + l) from funext (fun k => x2 _ _ (by omega) (by omega) (by omega) (by omega) (by omega))]; exact h.2.2 l hl9
  have e9 : ∀ g, g < ng → X3 9 g = fClaim X1 (50 + g) (X1 8 g) := fun g hgl => by rw [l1, if_neg (by omega), if_neg (by omega), c1, if_neg (by omega), if_pos ⟨rfl, hgl⟩]
  have e11 : ∀ l, l < nl → X3 11 l = fPay X2 (80 + l) (X2 12 3) := fun l hl9 => by rw [l1, if_neg (by omega), if_pos ⟨rfl, hl9⟩]
  have e124 : X3 12 4 = sumI (fun k => fPay X2 (80 + k) (X2 12 3)) nl := by rw [l1, if_pos ⟨rfl, rfl⟩]
  have sb := sum_b (f := fun k => fPay X2 (80 + k) (X2 12 3)) (c := 100000) (by omega) (by omega) (m := nl) (by omega) (fun i hi => ⟨(layer_b (hBL i hi)).1, (layer_b (hBL i hi)).2.1⟩)
  rw [← e124] at sb
  obtain ⟨⟨p0, p1⟩, -, -⟩ := id h
  have e06 : X3 0 6 = x 0 6 := x3 _ _ (by omega) (by omega) (by omega) (by omega) (by omega) (by omega)
  have eS : (X3 0 6 + X3 12 4).toInt = (x 0 6).toInt + (X3 12 4).toInt := by rw [e06]; exact ti_add (by omega) (by omega) rfl
  obtain ⟨b0, b1, b2, b3, b4⟩ := pays_b (v := X3) hg (by omega) (fun g hgl => by rw [e9 g hgl]; exact (claim_b (hBG g hgl)).1)
  unfold uPays
  generalize itr pF ng (X3, X3 0 6 + X3 12 4, 0) = tf at b0 b1 b2 b3 b4
  have z : ∀ r k, r ≠ 10 → ¬ (r = 12 ∧ k = 5) → up2 tf.1 12 5 tf.2.2 r k = X3 r k := fun r k a b => by rw [up2_at, if_neg b, b3 r k a]
  have z10 : ∀ g, up2 tf.1 12 5 tf.2.2 10 g = tf.1 10 g := fun g => by rw [up2_at, if_neg (by omega)]
  refine h.take hg hl hs h0 hn2 (fun g k hgl => ?_) (fun l k hl9 => ?_) (fun g hgl => ?_) (fun l hl9 => ?_) ?_
  · rw [z _ _ (by omega) (by omega)]; exact x3 _ _ (by omega) (by omega) (by omega) (by omega) (by omega) (by omega)
  · rw [z _ _ (by omega) (by omega)]; exact x3 _ _ (by omega) (by omega) (by omega) (by omega) (by omega) (by omega)
  · obtain ⟨c0, c2, c3⟩ := claim_b (d := X1 8 g) (hBG g hgl)
    obtain ⟨d0, d1⟩ := b4 g hgl
    rw [x1 (50 + g) 6 (by omega) (by omega) (by omega) (by omega)] at c3
    rw [z 9 g (by omega) (by omega), z10, e9 g hgl]
    rw [e9 g hgl] at d1
    exact ⟨c0, c2, c3, d0, d1⟩
  · obtain ⟨c0, c2, c3⟩ := layer_b (c := X2 12 3) (hBL l hl9)
    rw [x2 (80 + l) 3 (by omega) (by omega) (by omega) (by omega) (by omega)] at c3
    rw [z 11 l (by omega) (by omega), e11 l hl9]
    exact ⟨c0, c3⟩
  · rw [z 0 6 (by omega) (by omega), z 12 4 (by omega) (by omega), sumI_congr (f := fun g => up2 tf.1 12 5 tf.2.2 10 g) (g := fun g => tf.1 10 g) (fun i _ => z10 i), ← b2]
    omega
end BX
