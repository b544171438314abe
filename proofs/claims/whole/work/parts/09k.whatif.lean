/-! what would be: class and reference on its copy -/
section WI
variable {ow gx gy gw gd : Nat → Nat} {ng nh nl ns S B : Nat} {x x' y y' : Nat → Nat → Int32} {sx sy dx dy rad : Int} {F : Int32} {st : Nat}
def TH (ow gx gy gw gd : Nat → Nat) (ng nh nl S B : Nat) (x y : Nat → Nat → Int32) : Prop :=
  PanR gx gy gw gd nh (x 4) (y (B + 9)) ∧ SCo ow nh B x y ∧
  (∀ g, g < ng → x (50 + g) 2 = y (B + 2) (3 * g) ∧ x (50 + g) 3 = y (B + 2) (3 * g + 1) ∧ x (50 + g) 6 = y (B + 4) g ∧ (x (50 + g) 1 = 0 ↔ y (B + 2) (3 * g + 1) = 0)) ∧
  (∀ k, k < nl → ∀ j, j < 5 → x (80 + k) j = y (B + 12) (5 * k + j)) ∧ x 0 6 = y S 10
theorem RVl.th (h : RVl ow gx gy gw gd ng nh nl ns S B x y) : TH ow gx gy gw gd ng nh nl S B x y := by
  obtain ⟨rG, rS, rL, rP, r6, r8, rT, rO⟩ := h
  exact ⟨rP, rS, fun g hg => by obtain ⟨g0, g2, g3, g4, g5, g6, g7, g1⟩ := rG g hg; exact ⟨g2, g3, g6, g1⟩, rL, r6⟩
theorem TH.cls (h : TH ow gx gy gw gd ng nh nl S B x y) (hg : ng ≤ 6) (hn : nh ≤ 12) (hl : nl ≤ 6) (e : ∀ r k, (r < 7 ∨ 13 ≤ r) → r < 100 → x' r k = x r k) : TH ow gx gy gw gd ng nh nl S B x' y := by
  obtain ⟨h1, h2, h3, h4, h5⟩ := h
  refine ⟨fun a b c d => by rw [e _ _ (by omega) (by omega)]; exact h1 a b c d, fun h hh => ?_, fun g hgl => ?_, fun k hk j hj => by rw [e _ _ (by omega) (by omega)]; exact h4 k hk j hj, by rw [e _ _ (by omega) (by omega)]; exact h5⟩
  · rw [e _ _ (by omega) (by omega), e _ _ (by omega) (by omega), e _ _ (by omega) (by omega)]; exact h2 h hh
  · rw [e _ _ (by omega) (by omega), e _ _ (by omega) (by omega), e _ _ (by omega) (by omega), e _ _ (by omega) (by omega)]; exact h3 g hgl
theorem TH.ref (h : TH ow gx gy gw gd ng nh nl S B x y) (e : ∀ r k, (r = S ∨ (B ≤ r ∧ r < B + 13)) → y' r k = y r k) : TH ow gx gy gw gd ng nh nl S B x y' := by
  obtain ⟨h1, h2, h3, h4, h5⟩ := h
  refine ⟨fun a b c d => by rw [e _ _ (by omega)]; exact h1 a b c d, fun h hh => ?_, fun g hgl => ?_, fun k hk j hj => by rw [e _ _ (by omega)]; exact h4 k hk j hj, by rw [e _ _ (by omega)]; exact h5⟩
  · rw [e _ _ (by omega), e _ _ (by omega), e _ _ (by omega), e _ _ (by omega)]; exact h2 h hh
  · rw [e _ _ (by omega), e _ _ (by omega), e _ _ (by omega)]; exact h3 g hgl
theorem TH.bec (h : TH ow gx gy gw gd ng nh nl 101 110 x y) (hZ : GSz ow gx gy gw gd ng nh) (hg : ng ≤ 6) (hn : nh ≤ 12) (hl : nl ≤ 6) : TH ow gx gy gw gd ng nh nl 102 140 x (uBec y) := by
  obtain ⟨h1, h2, h3, h4, h5⟩ := h
  refine ⟨fun a b c d => ?_, fun h hh => ?_, fun g hgl => ?_, fun k hk j hj => ?_, ?_⟩
  · have := hZ.m c
    rw [uBec_r (f := 9) (n := 432) (by omega) (by omega)]; exact h1 a b c d
  · rw [uBec_r (f := 7) (n := 84) (by omega) (by omega), uBec_r (f := 7) (n := 84) (by omega) (by omega), uBec_r (f := 7) (n := 84) (by omega) (by omega), uBec_r (f := 8) (n := 12) (by omega) (by omega)]; exact h2 h hh
  · rw [uBec_r (f := 2) (n := 18) (by omega) (by omega), uBec_r (f := 2) (n := 18) (by omega) (by omega), uBec_r (f := 4) (n := 6) (by omega) (by omega)]; exact h3 g hgl
  · rw [uBec_r (f := 12) (n := 30) (by omega) (by omega)]; exact h4 k hk j hj
  · rw [uBec_i (by omega)]; exact h5
theorem TH.try (h : TH ow gx gy gw gd ng nh nl S B x y) (hD : GDj gx gy gw gd nh) (hZ : GSz ow gx gy gw gd ng nh) (hg : ng ≤ 6) (hn : nh ≤ 12) (hSB : S < B) : TRY gx gy gw gd ng nh nl B S x y (uTry x ow gx gy gw gd ng nh nl sx sy dx dy rad F st) (rStorm y B S gx gy gw gd ng nh nl sx sy dx dy rad F st) :=
  try_sim hD hZ hg hn hSB h.1 h.2.1 h.2.2.1 h.2.2.2.1 h.2.2.2.2
theorem TRY.cx (h : TRY gx gy gw gd ng nh nl B S x y x' y') (r k : Nat) (hr : r < 7 ∨ 13 ≤ r) : x' r k = x r k := h.2.2.2.2.2.1 r k hr
/-- behind a try on the copy the state is as it was -/
theorem TRY.ry {u : Nat → Nat → Int32} (h : TRY gx gy gw gd ng nh nl 140 102 x u x' y') (e : ∀ r k, r = 101 ∨ (110 ≤ r ∧ r < 123) → u r k = y r k) : ∀ r k, r = 101 ∨ (110 ≤ r ∧ r < 123) → y' r k = y r k := fun r k hr =>
  (h.2.2.2.2.2.2 r k (by omega) (by omega) (by omega) (by omega) (by omega) (by omega) (by omega)).trans (e r k hr)
theorem bec_o {r k : Nat} (hr : r = 101 ∨ (110 ≤ r ∧ r < 123)) : uBec y r k = y r k := by rw [uBec_o (by unfold out2; omega)]
theorem try_122 : uTry x ow gx gy gw gd ng nh nl sx sy dx dy rad F st 12 2 = uBlow x ow gx gy gw gd nh sx sy dx dy rad F st 12 2 := by
  have pay : ∀ {n : Nat} {t : (Nat → Nat → Int32) × Int32 × Int32}, (itr pF n t).1 12 2 = t.1 12 2 := fun {n} => by
    induction n with
    | zero => intro t; rfl
    | succ n ih => intro t; rw [itr_s, pF]; dsimp only; rw [up2_at, if_neg (by omega)]; exact ih
  unfold uTry uPays
  rw [up2_at, if_neg (by omega), pay]
  dsimp only
  rw [layers_at, if_neg (by omega), if_neg (by omega), claims_at, if_neg (by omega), if_neg (by omega)]
theorem sPut_c {v : Nat → Nat → Int32} {a b c d e f g : Int32} {r k : Nat} (h : r < 100) : sPut v a b c d e f g r k = v r k := by rw [sPut_o (by omega)]
theorem would_eq (hR : TH ow gx gy gw gd ng nh nl 101 110 x y) (hD : GDj gx gy gw gd nh) (hZ : GSz ow gx gy gw gd ng nh) (hg : ng ≤ 6) (hn : nh ≤ 12) (hl : nl ≤ 6) (hx : ∀ r k, r < 100 → x' r k = x r k) :
    TRY gx gy gw gd ng nh nl 140 102 x' (uBec y) (uTry x' ow gx gy gw gd ng nh nl sx sy dx dy rad F st) (rStorm (uBec y) 140 102 gx gy gw gd ng nh nl sx sy dx dy rad F st) :=
  ((hR.cls hg hn hl (fun r k _ h => hx r k h)).bec hZ hg hn hl).try hD hZ hg hn (by omega)
theorem worst_eq (hR : TH ow gx gy gw gd ng nh nl 101 110 x y) (hD : GDj gx gy gw gd nh) (hZ : GSz ow gx gy gw gd ng nh) (hg : ng ≤ 6) (hn : nh ≤ 12) (hl : nl ≤ 6) : ∀ {n : Nat},
    TH ow gx gy gw gd ng nh nl 101 110 (itr (cWo ow gx gy gw gd ng nh nl rad F) n (x, 0, -1)).1 (itr (rWo gx gy gw gd ng nh nl rad F) n (y, 0, -1)).1 ∧ (itr (cWo ow gx gy gw gd ng nh nl rad F) n (x, 0, -1)).2 = (itr (rWo gx gy gw gd ng nh nl rad F) n (y, 0, -1)).2 := fun {n} => by
  refine itr_sim (fun _ (t s : (Nat → Nat → Int32) × Int32 × Int32) => TH ow gx gy gw gd ng nh nl 101 110 t.1 s.1 ∧ t.2 = s.2) ?_ (fun i t s hi q => ?_)
  · exact ⟨hR, rfl⟩
  obtain ⟨q1, q2⟩ := q
  have T := would_eq (x' := up2 t.1 180 1 (nI i)) (sx := 0) (sy := (i : Int)) (dx := 2) (dy := 0) (rad := rad) (F := F) (st := 12) q1 hD hZ hg hn hl (fun r k h => by rw [up2_at, if_neg (by omega)])
  unfold cWo rWo rWest
  dsimp only
  have e3 := T.2.1 3 (by omega)
  generalize uTry (up2 t.1 180 1 (nI i)) ow gx gy gw gd ng nh nl 0 (i : Int) 2 0 rad F 12 = X at T e3
  generalize rStorm (uBec s.1) 140 102 gx gy gw gd ng nh nl 0 (i : Int) 2 0 rad F 12 = W at T e3
  have hT : TH ow gx gy gw gd ng nh nl 101 110 X W := (q1.cls hg hn hl (fun r k a b => (T.cx r k a).trans (by rw [up2_at, if_neg (by omega)]))).ref (fun r k a => T.ry (fun r k h => bec_o h) r k (by omega))
  have e3 : X 12 3 = W 156 3 := e3
  rw [e3, q2]
  by_cases c : W 156 3 ≤ s.2.1
  · rw [if_pos c, if_neg (Int32.not_lt.mpr c)]
    exact ⟨hT, rfl⟩
  · rw [if_neg c, if_pos (Int32.not_le.mp c)]
    exact ⟨hT, rfl⟩
theorem TH.net {h : Nat} {z : Int32} (H : TH ow gx gy gw gd ng nh nl 102 140 x y) (hg : ng ≤ 6) (hn : nh ≤ 12) (hl : nl ≤ 6) (hh : h < nh) : TH ow gx gy gw gd ng nh nl 102 140 (up2 x (60 + h) 7 z) (up2 y 148 h z) := by
  obtain ⟨h1, h2, h3, h4, h5⟩ := H
  have ex : ∀ r k, ¬ (r = 60 + h ∧ k = 7) → up2 x (60 + h) 7 z r k = x r k := fun r k a => by rw [up2_at, if_neg a]
  have ey : ∀ r k, r ≠ 148 → up2 y 148 h z r k = y r k := fun r k a => by rw [up2_at, if_neg (fun q => a q.1)]
  refine ⟨fun a b c d => by rw [ex _ _ (by omega), ey _ _ (by omega)]; exact h1 a b c d, fun i hi => ?_, fun g hgl => ?_, fun k hk j hj => by rw [ex _ _ (by omega), ey _ _ (by omega)]; exact h4 k hk j hj, by rw [ex _ _ (by omega), ey _ _ (by omega)]; exact h5⟩
  · obtain ⟨a, b, c, d⟩ := h2 i hi
    rw [ex _ _ (by omega), ex _ _ (by omega), ey (140 + 7) _ (by omega), ey (140 + 7) _ (by omega), ey (140 + 7) _ (by omega)]
    refine ⟨a, b, ?_, d⟩
    rw [up2_at, up2_at]
    by_cases e : i = h
    · rw [if_pos (by omega), if_pos (by omega)]
    · rw [if_neg (by omega), if_neg (by omega)]; exact c
  · rw [ex _ _ (by omega), ex _ _ (by omega), ex _ _ (by omega), ex _ _ (by omega), ey _ _ (by omega), ey _ _ (by omega), ey _ _ (by omega)]; exact h3 g hgl
theorem TH.fr (H : TH ow gx gy gw gd ng nh nl S B x y) (hD : GDj gx gy gw gd nh) (hZ : GSz ow gx gy gw gd ng nh) (hg : ng ≤ 6) (hn : nh ≤ 12) : ∀ r k, r ≠ 7 → r ≠ 8 → r ≠ 12 → uBlow x ow gx gy gw gd nh sx sy dx dy rad F st r k = x r k := fun r k a b c =>
  ((blow_sim (rad := rad) (F := F) (sx := sx) (sy := sy) (dx := dx) (dy := dy) (st := st) hD hZ hg hn H.1 H.2.1).2.2.1 r k a b (fun q => absurd q c)).trans ((blow_begin (ow := ow) hZ hg hn H.1 H.2.1).2.1 r k a b c)
theorem advise_eq {yy : Nat} (hR : TH ow gx gy gw gd ng nh nl 101 110 x y) (hD : GDj gx gy gw gd nh) (hZ : GSz ow gx gy gw gd ng nh) (hg : ng ≤ 6) (hn : nh ≤ 12) (hl : nl ≤ 6) : ∀ {n : Nat}, n ≤ nh →
    TH ow gx gy gw gd ng nh nl 101 110 (itr (cAd ow gx gy gw gd nh yy rad F) n (uBlow x ow gx gy gw gd nh 0 (yy : Int) 2 0 rad F 12, uBlow x ow gx gy gw gd nh 0 (yy : Int) 2 0 rad F 12 12 2, -1)).1 (itr (rAd gx gy gw gd ng nh nl yy rad F) n (rDam y gx gy gw gd ng nh nl yy rad F, rDam y gx gy gw gd ng nh nl yy rad F 156 2, -1)).1 ∧
    (itr (cAd ow gx gy gw gd nh yy rad F) n (uBlow x ow gx gy gw gd nh 0 (yy : Int) 2 0 rad F 12, uBlow x ow gx gy gw gd nh 0 (yy : Int) 2 0 rad F 12 12 2, -1)).2 = (itr (rAd gx gy gw gd ng nh nl yy rad F) n (rDam y gx gy gw gd ng nh nl yy rad F, rDam y gx gy gw gd ng nh nl yy rad F 156 2, -1)).2 := fun {n} hnn => by
  refine itr_sim (fun _ (t s : (Nat → Nat → Int32) × Int32 × Int32) => TH ow gx gy gw gd ng nh nl 101 110 t.1 s.1 ∧ t.2 = s.2) ?_ (fun i t s hi q => ?_)
  · have T := would_eq (x' := x) (sx := 0) (sy := (yy : Int)) (dx := 2) (dy := 0) (rad := rad) (F := F) (st := 12) hR hD hZ hg hn hl (fun r k h => rfl)
    have e2 : uBlow x ow gx gy gw gd nh 0 (yy : Int) 2 0 rad F 12 12 2 = rDam y gx gy gw gd ng nh nl yy rad F 156 2 := try_122.symm.trans (T.2.1 2 (by omega))
    refine ⟨(hR.cls hg hn hl (fun r k a b => hR.fr hD hZ hg hn r k (by omega) (by omega) (by omega))).ref (fun r k a => T.ry (fun r k h => bec_o h) r k (by omega)), by rw [e2]⟩
  · obtain ⟨q1, q2⟩ := q
    have hih : i < nh := by omega
    have hnet : t.1 (60 + i) 7 = s.1 118 i := (q1.2.1 i hih).2.2.1
    unfold cAd rAd
    rw [hnet]
    by_cases c : s.1 118 i = 0
    · rw [if_pos c, if_pos c]
      dsimp only
      have Hn := (q1.bec hZ hg hn hl).net (h := i) (z := 1) hg hn hl hih
      have T := Hn.try (sx := 0) (sy := (yy : Int)) (dx := 2) (dy := 0) (rad := rad) (F := F) (st := 12) hD hZ hg hn (by omega)
      have e2 : dNet t.1 ow gx gy gw gd nh i 0 (yy : Int) 2 0 rad F 12 = rDamN s.1 gx gy gw gd ng nh nl i yy rad F 156 2 := try_122.symm.trans (T.2.1 2 (by omega))
      have hT : TH ow gx gy gw gd ng nh nl 101 110 (uNet t.1 ow gx gy gw gd nh i 0 (yy : Int) 2 0 rad F 12) (rDamN s.1 gx gy gw gd ng nh nl i yy rad F) := by
        refine (q1.cls hg hn hl (fun r k a b => ?_)).ref (fun r k a => T.ry (fun r k h => by rw [up2_at, if_neg (by omega)]; exact bec_o h) r k (by omega))
        unfold uNet
        rw [up2_at]
        by_cases d : r = 60 + i ∧ k = 7
        · rw [if_pos d, d.1, d.2, hnet, c]
        · rw [if_neg d, Hn.fr hD hZ hg hn r k (by omega) (by omega) (by omega), up2_at, if_neg d]
      rw [e2, q2]
      by_cases d : s.2.1 ≤ rDamN s.1 gx gy gw gd ng nh nl i yy rad F 156 2
      · rw [if_pos d, if_neg (Int32.not_lt.mpr d)]
        exact ⟨hT, rfl⟩
      · rw [if_neg d, if_pos (Int32.not_le.mp d)]
        exact ⟨hT, rfl⟩
    · rw [if_neg c, if_neg c]
      exact ⟨q1, q2⟩
end WI
