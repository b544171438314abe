/-! one call: what a storm would do -/
section S5
variable {td : Nat} {n : Int} {L : List Nat} {ad : Nat → Nat} {v u : Nat → Nat → Int32} {o : Nat → Nat → Option Nat} {ng nh nl ns ns' : Nat} {ow gx gy gw gd : Nat → Nat} {x y : Nat → Nat → Int32} {rad : Int} {F : Int32}
theorem PJ.nst (h : PJ L ad v o 101 110 ng nh nl ns ow gx gy gw gd) (h30 : ns' ≤ 30) (e : ∀ r k, (r = 101 ∧ (k = 0 ∨ k = 6 ∨ k = 11)) ∨ r = 117 → u r k = v r k) (e13 : u 101 13 = nI ns') : PJ L ad u o 101 110 ng nh nl ns' ow gx gy gw gd := by
  obtain ⟨h1, ⟨b1, b2, b3, b4⟩, ⟨a1, a2, a3, a4⟩, hh⟩ := h
  refine ⟨h1, ⟨b1, b2, b3, h30⟩, ⟨(e _ _ (by omega)).trans a1, (e _ _ (by omega)).trans a2, (e _ _ (by omega)).trans a3, e13⟩, fun i hi => ?_⟩
  obtain ⟨q1, q2, q3, q4, q5, q6⟩ := hh i hi
  exact ⟨q1, (e _ _ (by omega)).trans q2, (e _ _ (by omega)).trans q3, (e _ _ (by omega)).trans q4, (e _ _ (by omega)).trans q5, (e _ _ (by omega)).trans q6⟩
theorem PI.nst (h : PI td L ad v o ng nh nl ns ow gx gy gw gd) (h30 : ns' ≤ 30) (e : ∀ r k, dep r k → r ≠ 0 → u r k = v r k) (e7 : u 0 7 = nI ns') : PI td L ad u o ng nh nl ns' ow gx gy gw gd := by
  have h12 := h.h12
  obtain ⟨h1, h2, h3, h4, h5, h6, h7, h8, h9, h10, h11, hs, hs30, hh⟩ := h
  refine ⟨h1, h2, h3, h4, h5, h6.cong (e 1 2 (by unfold dep; omega) (by omega)), h7.cong (e 2 2 (by unfold dep; omega) (by omega)), h8.cong (e 3 2 (by unfold dep; omega) (by omega)), h9, h10, h11, e7, h30, fun i hi => ?_⟩
  obtain ⟨q1, q2, q3, q4, q5, q6⟩ := hh i hi
  exact ⟨q1, (e (60 + i) 0 (by unfold dep; omega) (by omega)).trans q2, (e (60 + i) 1 (by unfold dep; omega) (by omega)).trans q3, (e (60 + i) 2 (by unfold dep; omega) (by omega)).trans q4, (e (60 + i) 3 (by unfold dep; omega) (by omega)).trans q5, (e (60 + i) 4 (by unfold dep; omega) (by omega)).trans q6⟩
/-- what a try on the copy leaves alone -/
theorem TRY.fy {X W : Nat → Nat → Int32} (T : TRY gx gy gw gd ng nh nl 140 102 x u X W) (e : ∀ r k, r < 102 ∨ (103 ≤ r ∧ r < 140) → u r k = y r k) : ∀ r k, r < 102 ∨ (103 ≤ r ∧ r < 140) → W r k = y r k := fun r k hr => (T.2.2.2.2.2.2 r k (by omega) (by omega) (by omega) (by omega) (by omega) (by omega) (by omega)).trans (e r k hr)
theorem bec_f {r k : Nat} (hr : r < 102 ∨ (103 ≤ r ∧ r < 140)) : uBec y r k = y r k := by rw [uBec_o (by unfold out2; omega)]
def WFr (x y : Nat → Nat → Int32) (X Y : Nat → Nat → Int32) : Prop := (∀ r k, (r < 7 ∨ 13 ≤ r) → r ≠ 180 → X r k = x r k) ∧ (∀ r k, r < 102 ∨ (103 ≤ r ∧ r < 140) → Y r k = y r k)
theorem worst_fr (hR : TH ow gx gy gw gd ng nh nl 101 110 x y) (hD : GDj gx gy gw gd nh) (hZ : GSz ow gx gy gw gd ng nh) (hg : ng ≤ 6) (hn : nh ≤ 12) (hl : nl ≤ 6) {n : Nat} : WFr x y (itr (cWo ow gx gy gw gd ng nh nl rad F) n (x, 0, -1)).1 (itr (rWo gx gy gw gd ng nh nl rad F) n (y, 0, -1)).1 := by
  refine (itr_sim (n := n) (fun _ (t s : (Nat → Nat → Int32) × Int32 × Int32) => TH ow gx gy gw gd ng nh nl 101 110 t.1 s.1 ∧ WFr x y t.1 s.1) ⟨hR, fun _ _ _ _ => rfl, fun _ _ _ => rfl⟩ (fun i t s hi q => ?_)).2
  obtain ⟨q1, q2, q3⟩ := q
  have T := would_eq (x' := up2 t.1 180 1 (nI i)) (sx := 0) (sy := (i : Int)) (dx := 2) (dy := 0) (rad := rad) (F := F) (st := 12) q1 hD hZ hg hn hl (fun r k h => by rw [up2_at, if_neg (by omega)])
  have e1 : (cWo ow gx gy gw gd ng nh nl rad F i t).1 = uTry (up2 t.1 180 1 (nI i)) ow gx gy gw gd ng nh nl 0 (i : Int) 2 0 rad F 12 := by
    unfold cWo
    dsimp only
    split <;> rfl
  have e2 : (rWo gx gy gw gd ng nh nl rad F i s).1 = rStorm (uBec s.1) 140 102 gx gy gw gd ng nh nl 0 (i : Int) 2 0 rad F 12 := by
    unfold rWo rWest
    dsimp only
    split <;> rfl
  rw [e1, e2]
  generalize uTry (up2 t.1 180 1 (nI i)) ow gx gy gw gd ng nh nl 0 (i : Int) 2 0 rad F 12 = X at T
  generalize rStorm (uBec s.1) 140 102 gx gy gw gd ng nh nl 0 (i : Int) 2 0 rad F 12 = W at T
  refine ⟨(q1.cls hg hn hl (fun r k a b => (T.cx r k a).trans (by rw [up2_at, if_neg (by omega)]))).ref (fun r k a => T.ry (fun r k h => bec_o h) r k (by omega)), fun r k a b => ?_, T.fy (fun r k h => (bec_f h).trans (q3 r k h))⟩
  rw [T.cx r k a, up2_at, if_neg (by omega)]
  exact q2 r k a b
theorem advise_fr {yy : Nat} (hR : TH ow gx gy gw gd ng nh nl 101 110 x y) (hD : GDj gx gy gw gd nh) (hZ : GSz ow gx gy gw gd ng nh) (hg : ng ≤ 6) (hn : nh ≤ 12) (hl : nl ≤ 6) {n : Nat} (hnn : n ≤ nh) : WFr x y (itr (cAd ow gx gy gw gd nh yy rad F) n (uBlow x ow gx gy gw gd nh 0 (yy : Int) 2 0 rad F 12, uBlow x ow gx gy gw gd nh 0 (yy : Int) 2 0 rad F 12 12 2, -1)).1 (itr (rAd gx gy gw gd ng nh nl yy rad F) n (rDam y gx gy gw gd ng nh nl yy rad F, rDam y gx gy gw gd ng nh nl yy rad F 156 2, -1)).1 := by
  refine (itr_sim (n := n) (fun _ (t s : (Nat → Nat → Int32) × Int32 × Int32) => TH ow gx gy gw gd ng nh nl 101 110 t.1 s.1 ∧ WFr x y t.1 s.1) ?_ (fun i t s hi q => ?_)).2
  · have T := would_eq (x' := x) (sx := 0) (sy := (yy : Int)) (dx := 2) (dy := 0) (rad := rad) (F := F) (st := 12) hR hD hZ hg hn hl (fun r k h => rfl)
    exact ⟨(hR.cls hg hn hl (fun r k a b => hR.fr hD hZ hg hn r k (by omega) (by omega) (by omega))).ref (fun r k a => T.ry (fun r k h => bec_o h) r k (by omega)), fun r k a b => hR.fr hD hZ hg hn r k (by omega) (by omega) (by omega), T.fy (fun r k h => bec_f h)⟩
  · obtain ⟨q1, q2, q3⟩ := q
    have hih : i < nh := by omega
    have hnet : t.1 (60 + i) 7 = s.1 118 i := (q1.2.1 i hih).2.2.1
    by_cases c : s.1 118 i = 0
    · have e1 : (cAd ow gx gy gw gd nh yy rad F i t).1 = uNet t.1 ow gx gy gw gd nh i 0 (yy : Int) 2 0 rad F 12 := by
        unfold cAd
        rw [hnet, if_pos c]
        split <;> rfl
      have e2 : (rAd gx gy gw gd ng nh nl yy rad F i s).1 = rDamN s.1 gx gy gw gd ng nh nl i yy rad F := by
        unfold rAd
        rw [if_pos c]
        dsimp only
        split <;> rfl
      rw [e1, e2]
      have Hn := (q1.bec hZ hg hn hl).net (h := i) (z := 1) hg hn hl hih
      have T := Hn.try (sx := 0) (sy := (yy : Int)) (dx := 2) (dy := 0) (rad := rad) (F := F) (st := 12) hD hZ hg hn (by omega)
      have fx : ∀ r k, (r < 7 ∨ 13 ≤ r) → uNet t.1 ow gx gy gw gd nh i 0 (yy : Int) 2 0 rad F 12 r k = t.1 r k := fun r k a => by
        unfold uNet
        rw [up2_at]
        by_cases d : r = 60 + i ∧ k = 7
        · rw [if_pos d, d.1, d.2, hnet, c]
        · rw [if_neg d, Hn.fr hD hZ hg hn r k (by omega) (by omega) (by omega), up2_at, if_neg d]
      exact ⟨(q1.cls hg hn hl (fun r k a _ => fx r k a)).ref (fun r k a => T.ry (fun r k h => by rw [up2_at, if_neg (by omega)]; exact bec_o h) r k (by omega)), fun r k a b => (fx r k a).trans (q2 r k a b), T.fy (fun r k h => by rw [up2_at, if_neg (by omega)]; exact (bec_f h).trans (q3 r k h))⟩
    · have e1 : cAd ow gx gy gw gd nh yy rad F i t = t := by
        unfold cAd
        rw [hnet, if_neg c]
      have e2 : rAd gx gy gw gd ng nh nl yy rad F i s = s := by
        unfold rAd
        rw [if_neg c]
      rw [e1, e2]
      exact ⟨q1, q2, q3⟩
theorem in_intq {a b' c' : Int32} {b c : Int} (e1 : b' = iI b) (e2 : c' = iI c) (hb : -2147483648 ≤ b) (hb2 : b < 2147483648) (hc : -2147483648 ≤ c) (hc2 : c < 2147483648) (h : fIn a b' c' = 1) : ∃ i : Int, a = iI i ∧ b ≤ i ∧ i ≤ c := by
  subst e1 e2
  exact in_int hb hb2 hc hc2 h
theorem fSto_all {a b c d e f g : Int32} (h : fSto a b c d e f g = 1) : fIn a (-20) 39 = 1 ∧ fIn b (-20) 39 = 1 ∧ fIn c (-3) 3 = 1 ∧ fIn d (-3) 3 = 1 ∧ fIn e 0 5 = 1 ∧ fIn f 1 20 = 1 ∧ fIn g 1 30 = 1 := by
  unfold fSto at h
  split at h
  · rename_i q; exact q
  · exact absurd h (by decide)
/-- a storm's seven ints, in the form that the contracts take -/
theorem sto_forms {a b c d e f g : Int32} (h : fSto a b c d e f g = 1) : ∃ (sx sy dx dy rad : Int) (st : Nat), a = iI sx ∧ b = iI sy ∧ c = iI dx ∧ d = iI dy ∧ e = iI rad ∧ g = nI st ∧ -20 ≤ sx ∧ sx ≤ 39 ∧ -20 ≤ sy ∧ sy ≤ 39 ∧ -3 ≤ dx ∧ dx ≤ 3 ∧ -3 ≤ dy ∧ dy ≤ 3 ∧ 0 ≤ rad ∧ rad ≤ 5 ∧ st ≤ 30 := by
  obtain ⟨h1, h2, h3, h4, h5, h6, h7⟩ := fSto_all h
  obtain ⟨sx, e1, a1, a2⟩ := in_intq (b := -20) (c := 39) (by decide) (by decide) (by omega) (by omega) (by omega) (by omega) h1
  obtain ⟨sy, e2, b1, b2⟩ := in_intq (b := -20) (c := 39) (by decide) (by decide) (by omega) (by omega) (by omega) (by omega) h2
  obtain ⟨dx, e3, c1, c2⟩ := in_intq (b := -3) (c := 3) (by decide) (by decide) (by omega) (by omega) (by omega) (by omega) h3
  obtain ⟨dy, e4, d1, d2⟩ := in_intq (b := -3) (c := 3) (by decide) (by decide) (by omega) (by omega) (by omega) (by omega) h4
  obtain ⟨rad, e5, r1, r2⟩ := in_intq (b := 0) (c := 5) (by decide) (by decide) (by omega) (by omega) (by omega) (by omega) h5
  obtain ⟨st, e7, s1, s2⟩ := in_lo (c := 30) (by omega) (by decide) h7
  exact ⟨sx, sy, dx, dy, rad, st, e1, e2, e3, e4, e5, e7, a1, a2, b1, b2, c1, c2, d1, d2, r1, r2, s2⟩
theorem fSto_n {a b c d e f g : Int32} (h : ¬ fSto a b c d e f g = 1) : fSto a b c d e f g = 0 := fSto_01.resolve_right h
/-- class and reference have tried something; the state is as it was -/
theorem INV.tried {uX uM x' : Nat → Nat → Int32} (hN : INV td n L ad v o ng nh nl ns ow gx gy gw gd) (ex : ∀ r k, r ≠ 180 → x' r k = v r k) (hF : WFr x' (tz uX) uX uM) (far : ∀ r k, 100 ≤ r → r ≠ 180 → uX r k = x' r k) : INVe td (n + 1) L ad uM o := by
  have b : ∀ r k, (r < 102 ∨ (103 ≤ r ∧ r < 140)) → r ≠ 100 → uM r k = uX r k := fun r k a c => (hF.2 r k a).trans (up2_r c)
  refine ((hN.same (u := uM) (fun r k a c => ?_) (fun r k a c d => ?_)).more (by omega)).e
  · exact (b r k (by omega) (by omega)).trans ((hF.1 r k a (by omega)).trans (ex r k (by omega)))
  · exact (b r k (by omega) (by omega)).trans ((far r k (by omega) (by omega)).trans (ex r k (by omega)))
end S5

set_option maxHeartbeats 4000000 in
theorem st_wouldBe (l : Launch) (hst9 : l.stackTraces = false) {G : GG} {n : Int} {L : List Nat} {ad : Nat → Nat} {v : Nat → Nat → Int32} {o : Nat → Nat → Option Nat} {w : Nat → Int64} {ng nh nl ns : Nat} {ow gx gy gw gd : Nat → Nat} (hN : INV G.2.2.2 n L ad v o ng nh nl ns ow gx gy gw gd) (h0 : 0 ≤ n) (hn2 : n ≤ 600) (p0 p1 p2 p3 p4 p5 p6 p7 : Int32) : StA l G n L ad v o w yL_wouldBe cL_wouldBe 11 [(0, 22, 25, 13), (0, 22, 29, 21)] [.ref (ad 0), .int p0, .int p1, .int p2, .int p3, .int p4, .int p5, .int p6, .int p7, .ref (ad 170)] yX7_wouldBe cX7_wouldBe 9 .int [.ref (ad 100), .int p0, .int p1, .int p2, .int p3, .int p4, .int p5, .int p6, .int p7] Int32.toInt64 := by
  have hI := hN.p; have hJ := hN.j; have hO1 := hN.o1; have hg6 := hI.g6; have h12 := hI.h12; have hl6 := hI.l6; have hs30 := hI.s30; have hZ := hI.z; have m0 := hN.m0; have m170 := hN.m170
  have m180 : 180 ∉ L := hN.hi 180 (by omega)
  by_cases c : fSto p0 p1 p2 p3 p4 p5 p6 = 1
  · by_cases d : fIn p7 0 5 = 1
    · obtain ⟨what, rfl, hw⟩ := in_nat' (n := 6) (by omega) (by decide) d
      obtain ⟨sx, sy, dx, dy, rad, st, rfl, rfl, rfl, rfl, rfl, rfl, a1, a2, b1, b2, c1, c2, d1, d2, r1, r2, s2⟩ := sto_forms c
      have hC := c_X5_wouldBe l (w := w) hI m180 a1 a2 b1 b2 c1 c2 d1 d2 r1 r2 s2 c hw
      obtain ⟨x', hx'⟩ : ∃ z, z = sPut v (iI sx) (iI sy) (iI dx) (iI dy) (iI rad) p5 (nI st) := ⟨_, rfl⟩
      rw [← hx'] at hC
      have ex : ∀ r k, r ≠ 180 → x' r k = v r k := fun r k h => by rw [hx', sPut_o h]
      obtain ⟨uX, hX⟩ : ∃ z, z = uTry x' ow gx gy gw gd ng nh nl sx sy dx dy rad p5 st := ⟨_, rfl⟩
      rw [← hX] at hC
      have far0 : ∀ r k, 100 ≤ r → r ≠ 180 → uX r k = x' r k := fun r k a _ => by rw [hX]; exact kp_uTry.far a
      have far : ∀ r k, 100 ≤ r → r ≠ 180 → uX r k = v r k := fun r k a b => (far0 r k a b).trans (ex r k b)
      have hTH : TH ow gx gy gw gd ng nh nl 101 110 x' (tz uX) := (hN.r.th.cls hg6 h12 hl6 (fun r k _ h => ex r k (by omega))).ref (fun r k a => (up2_r (by omega)).trans (far r k (by omega) (by omega)))
      have hJ1 : PJ L ad uX o 101 110 ng nh nl ns ow gx gy gw gd := hJ.nst hs30 (fun r k a => far r k (by omega) (by omega)) ((far 101 13 (by omega) (by omega)).trans hJ.eS)
      have hn1 : ∀ i, i < 12 → uX 118 i = 0 ∨ uX 118 i = 1 := fun i hi => by rw [far 118 i (by omega) (by omega)]; exact hN.n01 i hi
      have T := would_eq (x' := x') (sx := sx) (sy := sy) (dx := dx) (dy := dy) (rad := rad) (F := p5) (st := st) hTH hN.dj hZ hg6 h12 hl6 (fun r k _ => rfl)
      rw [← hX] at T
      have hM := fun w => c_X7_wouldBe l (G := G) (w := w) hJ1 hO1 hN.o2 hN.q2 hn1 a1 a2 b1 b2 c1 c2 d1 d2 r1 r2 s2 c hw
      obtain ⟨uM, hW⟩ : ∃ z, z = rStorm (uBec (tz uX)) 140 102 gx gy gw gd ng nh nl sx sy dx dy rad p5 st := ⟨_, rfl⟩
      rw [← hW] at hM T
      have hF : WFr x' (tz uX) uX uM := ⟨fun r k a _ => T.cx r k a, T.fy (fun r k h => bec_f h)⟩
      exact StA.yes (rmK_ok rfl) (rmK_ok rfl) (h_wouldBe l m0 (CtI.w hC) (hk_same m170)) hM ((hF.2 100 0 (by omega)).trans up2_s) (congrArg Int32.toInt64 (T.2.1 what hw)) (hN.tried ex hF far0)
    · exact StA.no (rmK_ok rfl) (rmK_ok rfl) hN (by decide) (h_wouldBe_xIO l m0 (x_X5_wouldBe_2 l hst9 hI m180 c (fIn_n d))) (c_X7_wouldBe_2 l hJ hO1 c (fIn_n d))
  · exact StA.no (rmK_ok rfl) (rmK_ok rfl) hN (by decide) (h_wouldBe_xIA l m0 (x_X5_wouldBe_1 l hst9 hI m180 (fSto_n c))) (c_X7_wouldBe_1 l hJ hO1 (fSto_n c))

set_option maxHeartbeats 4000000 in
theorem st_worst (l : Launch) (hst9 : l.stackTraces = false) {G : GG} {n : Int} {L : List Nat} {ad : Nat → Nat} {v : Nat → Nat → Int32} {o : Nat → Nat → Option Nat} {w : Nat → Int64} {ng nh nl ns : Nat} {ow gx gy gw gd : Nat → Nat} (hN : INV G.2.2.2 n L ad v o ng nh nl ns ow gx gy gw gd) (h0 : 0 ≤ n) (hn2 : n ≤ 600) (p0 p1 : Int32) : StA l G n L ad v o w yL_worst cL_worst 5 [(0, 10, 13, 13)] [.ref (ad 0), .int p0, .int p1, .ref (ad 170)] yX7_worst cX7_worst 6 .int [.ref (ad 100), .int p0, .int p1] Int32.toInt64 := by
  have hI := hN.p; have hJ := hN.j; have hO1 := hN.o1; have hg6 := hI.g6; have h12 := hI.h12; have hl6 := hI.l6; have hs30 := hI.s30; have hZ := hI.z; have m0 := hN.m0; have m170 := hN.m170
  have m180 : 180 ∉ L := hN.hi 180 (by omega)
  by_cases c : fIn p0 0 5 = 1
  · by_cases d : fIn p1 1 20 = 1
    · obtain ⟨rad, rfl, r1, r2⟩ := in_intq (b := 0) (c := 5) (by decide) (by decide) (by omega) (by omega) (by omega) (by omega) c
      have hC := c_X5_worst l (w := w) hI m180 r1 r2 c d
      obtain ⟨x', hx'⟩ : ∃ z, z = sPut v 0 0 2 0 (iI rad) p1 12 := ⟨_, rfl⟩
      rw [← hx'] at hC
      have ex : ∀ r k, r ≠ 180 → x' r k = v r k := fun r k h => by rw [hx', sPut_o h]
      have kY := kY_cWos (ow := ow) (gx := gx) (gy := gy) (gw := gw) (gd := gd) (ng := ng) (nh := nh) (nl := nl) (rad := rad) (F := p1) (t := (x', 0, -1)) (n := 20)
      obtain ⟨uX, hX⟩ : ∃ z, z = (itr (cWo ow gx gy gw gd ng nh nl rad p1) 20 (x', 0, -1)).1 := ⟨_, rfl⟩
      rw [← hX] at hC kY
      have far0 : ∀ r k, 100 ≤ r → r ≠ 180 → uX r k = x' r k := fun r k a b => kY r k (Or.inr a) (fun q => b q.1)
      have far : ∀ r k, 100 ≤ r → r ≠ 180 → uX r k = v r k := fun r k a b => (far0 r k a b).trans (ex r k b)
      have hTH : TH ow gx gy gw gd ng nh nl 101 110 x' (tz uX) := (hN.r.th.cls hg6 h12 hl6 (fun r k _ h => ex r k (by omega))).ref (fun r k a => (up2_r (by omega)).trans (far r k (by omega) (by omega)))
      have hJ1 : PJ L ad uX o 101 110 ng nh nl ns ow gx gy gw gd := hJ.nst hs30 (fun r k a => far r k (by omega) (by omega)) ((far 101 13 (by omega) (by omega)).trans hJ.eS)
      have hn1 : ∀ i, i < 12 → uX 118 i = 0 ∨ uX 118 i = 1 := fun i hi => by rw [far 118 i (by omega) (by omega)]; exact hN.n01 i hi
      have E := (worst_eq (rad := rad) (F := p1) hTH hN.dj hZ hg6 h12 hl6 (n := 20)).2
      have hF := worst_fr (rad := rad) (F := p1) hTH hN.dj hZ hg6 h12 hl6 (n := 20)
      rw [← hX] at hF
      have hM := fun w => c_X7_worst l (G := G) (w := w) hJ1 hO1 hN.o2 hN.q2 hn1 r1 r2 c d
      obtain ⟨uM, hW⟩ : ∃ z, z = (itr (rWo gx gy gw gd ng nh nl rad p1) 20 (tz uX, 0, -1)).1 := ⟨_, rfl⟩
      rw [← hW] at hM hF
      exact StA.yes (rmK_ok rfl) (rmK_ok rfl) (h_worst l m0 (CtI.w hC) (hk_same m170)) hM ((hF.2 100 0 (by omega)).trans up2_s) (congrArg (fun z : Int32 × Int32 => z.2.toInt64) E) (hN.tried ex hF far0)
    · exact StA.no (rmK_ok rfl) (rmK_ok rfl) hN (by decide) (h_worst_xIA l m0 (x_X5_worst_1b l hst9 hI m180 c (fIn_n d))) (c_X7_worst_1b l hJ hO1 c (fIn_n d))
  · exact StA.no (rmK_ok rfl) (rmK_ok rfl) hN (by decide) (h_worst_xIA l m0 (x_X5_worst_1a l hst9 hI m180 (fIn_n c))) (c_X7_worst_1a l hJ hO1 (fIn_n c))

set_option maxHeartbeats 4000000 in
theorem st_advise (l : Launch) (hst9 : l.stackTraces = false) {G : GG} {n : Int} {L : List Nat} {ad : Nat → Nat} {v : Nat → Nat → Int32} {o : Nat → Nat → Option Nat} {w : Nat → Int64} {ng nh nl ns : Nat} {ow gx gy gw gd : Nat → Nat} (hN : INV G.2.2.2 n L ad v o ng nh nl ns ow gx gy gw gd) (h0 : 0 ≤ n) (hn2 : n ≤ 600) (p0 p1 p2 : Int32) : StA l G n L ad v o w yL_advise cL_advise 6 [(0, 12, 15, 13)] [.ref (ad 0), .int p0, .int p1, .int p2, .ref (ad 170)] yX7_advise cX7_advise 8 .int [.ref (ad 100), .int p0, .int p1, .int p2] Int32.toInt64 := by
  have hI := hN.p; have hJ := hN.j; have hO1 := hN.o1; have hg6 := hI.g6; have h12 := hI.h12; have hl6 := hI.l6; have hs30 := hI.s30; have hZ := hI.z; have m0 := hN.m0; have m170 := hN.m170
  have m180 : 180 ∉ L := hN.hi 180 (by omega)
  by_cases e : fIn p0 0 19 = 1
  · by_cases c : fIn p1 0 5 = 1
    · by_cases d : fIn p2 1 20 = 1
      · obtain ⟨y, rfl, hy⟩ := in_nat' (n := 20) (by omega) (by decide) e
        obtain ⟨rad, rfl, r1, r2⟩ := in_intq (b := 0) (c := 5) (by decide) (by decide) (by omega) (by omega) (by omega) (by omega) c
        have hC := c_X5_advise l (w := w) hI m180 hy e r1 r2 c d
        obtain ⟨x', hx'⟩ : ∃ z, z = sPut v 0 (nI y) 2 0 (iI rad) p2 12 := ⟨_, rfl⟩
        rw [← hx'] at hC
        have ex : ∀ r k, r ≠ 180 → x' r k = v r k := fun r k h => by rw [hx', sPut_o h]
        have kD := (kp_cAds (ow := ow) (gx := gx) (gy := gy) (gw := gw) (gd := gd) (nh := nh) (y := y) (rad := rad) (F := p2) (t := (uBlow x' ow gx gy gw gd nh 0 (y : Int) 2 0 rad p2 12, uBlow x' ow gx gy gw gd nh 0 (y : Int) 2 0 rad p2 12 12 2, -1)) (n := nh) h12).tr kp_uBlow
        obtain ⟨uX, hX⟩ : ∃ z, z = (itr (cAd ow gx gy gw gd nh y rad p2) nh (uBlow x' ow gx gy gw gd nh 0 (y : Int) 2 0 rad p2 12, uBlow x' ow gx gy gw gd nh 0 (y : Int) 2 0 rad p2 12 12 2, -1)).1 := ⟨_, rfl⟩
        rw [← hX] at hC kD
        have far0 : ∀ r k, 100 ≤ r → r ≠ 180 → uX r k = x' r k := fun r k a _ => kD.far a
        have far : ∀ r k, 100 ≤ r → r ≠ 180 → uX r k = v r k := fun r k a b => (far0 r k a b).trans (ex r k b)
        have hTH : TH ow gx gy gw gd ng nh nl 101 110 x' (tz uX) := (hN.r.th.cls hg6 h12 hl6 (fun r k _ h => ex r k (by omega))).ref (fun r k a => (up2_r (by omega)).trans (far r k (by omega) (by omega)))
        have hJ1 : PJ L ad uX o 101 110 ng nh nl ns ow gx gy gw gd := hJ.nst hs30 (fun r k a => far r k (by omega) (by omega)) ((far 101 13 (by omega) (by omega)).trans hJ.eS)
        have hn1 : ∀ i, i < 12 → uX 118 i = 0 ∨ uX 118 i = 1 := fun i hi => by rw [far 118 i (by omega) (by omega)]; exact hN.n01 i hi
        have E := (advise_eq (rad := rad) (F := p2) (yy := y) hTH hN.dj hZ hg6 h12 hl6 (n := nh) (Nat.le_refl _)).2
        have hF := advise_fr (rad := rad) (F := p2) (yy := y) hTH hN.dj hZ hg6 h12 hl6 (n := nh) (Nat.le_refl _)
        rw [← hX] at hF
        have hM := fun w => c_X7_advise l (G := G) (w := w) hJ1 hO1 hN.o2 hN.q2 hn1 hy e r1 r2 c d
        obtain ⟨uM, hW⟩ : ∃ z, z = (itr (rAd gx gy gw gd ng nh nl y rad p2) nh (rDam (tz uX) gx gy gw gd ng nh nl y rad p2, rDam (tz uX) gx gy gw gd ng nh nl y rad p2 156 2, -1)).1 := ⟨_, rfl⟩
        rw [← hW] at hM hF
        exact StA.yes (rmK_ok rfl) (rmK_ok rfl) (h_advise l m0 (CtI.w hC) (hk_same m170)) hM ((hF.2 100 0 (by omega)).trans up2_s) (congrArg (fun z : Int32 × Int32 => z.2.toInt64) E) (hN.tried ex hF far0)
      · exact StA.no (rmK_ok rfl) (rmK_ok rfl) hN (by decide) (h_advise_xIA l m0 (x_X5_advise_1c l hst9 hI m180 e c (fIn_n d))) (c_X7_advise_1c l hJ hO1 e c (fIn_n d))
    · exact StA.no (rmK_ok rfl) (rmK_ok rfl) hN (by decide) (h_advise_xIA l m0 (x_X5_advise_1b l hst9 hI m180 e (fIn_n c))) (c_X7_advise_1b l hJ hO1 e (fIn_n c))
  · exact StA.no (rmK_ok rfl) (rmK_ok rfl) hN (by decide) (h_advise_xIA l m0 (x_X5_advise_1a l hst9 hI (fIn_n e))) (c_X7_advise_1a l hJ hO1 (fIn_n e))
