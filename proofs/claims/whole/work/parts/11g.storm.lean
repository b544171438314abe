/-! one call: a storm, the year's end, loss and digest -/
section S6
variable {td : Nat} {n : Int} {L : List Nat} {ad : Nat → Nat} {v u : Nat → Nat → Int32} {o : Nat → Nat → Option Nat} {ng nh nl ns ns' : Nat} {ow gx gy gw gd : Nat → Nat} {x y : Nat → Nat → Int32}
theorem year_t {r k : Nat} (hr : r = 100) : rYear y 110 101 gw gd ng nh nl r k = y r k := by
  unfold rYear
  rw [up2_at, if_neg (by omega), up2_at, if_neg (by omega), m3_at (B := 110), if_neg (by omega)]
  rw [itr_keep (fun u : Nat → Nat → Int32 => u r k) (fun g u hg => by
    show rD 110 101 g u r k = u r k
    unfold rD rPay
    simp only [up2_at]
    rw [if_neg (by omega), if_neg (by omega), if_neg (by omega), if_neg (by omega)])]
  rw [up2_at, if_neg (by omega)]
  unfold rYs
  exact itr_keep (fun t : (Nat → Nat → Int32) × Int32 => t.1 r k) (fun g t _ => by
    show (rY 110 gw gd nh g t).1 r k = t.1 r k
    unfold rY
    split
    · rfl
    · simp only [up2_at]
      rw [if_neg (by omega), if_neg (by omega)])
/-- the year's end leaves what the shapes rest on, but the storms' number -/
theorem year_kr : ∀ r k, depR 101 110 r k → ¬ (r = 101 ∧ k = 13) → rYear y 110 101 gw gd ng nh nl r k = y r k := fun r k d h => by
  have K : keepR 101 110 (itr (fun k u => up2 u (110 + 12) (5 * k + 3) (2 * u (110 + 12) (5 * k + 1))) nl (itr (rD 110 101) ng (up2 (rYs y 110 gw gd ng nh).1 101 10 ((rYs y 110 gw gd ng nh).1 101 10 + (rYs y 110 gw gd ng nh).2)))) y := (kr_itr (fun _ _ _ => kr_b SB1 (by omega))).tr ((kr_itr (fun _ _ _ => kr_rD SB1)).tr ((kr_b SB1 (by omega)).tr (kr_rYs (t := (y, 0)) SB1)))
  unfold rYear
  try dsimp only
  rw [up2_at, if_neg (by unfold depR at d; omega), up2_at, if_neg h]
  exact K r k d
theorem year_13 : rYear y 110 101 gw gd ng nh nl 101 13 = 0 := by
  unfold rYear
  try dsimp only
  rw [up2_at, if_neg (by omega), up2_at, if_pos ⟨rfl, rfl⟩]
theorem end_kp (hg : ng ≤ 6) (hl : nl ≤ 6) : ∀ r k, depC r k → r ≠ 0 → uEnd x nh ng nl r k = x r k := fun r k d h => by
  unfold uEnd uYear
  try dsimp only
  rw [up2_r h, up2_r h]
  exact ((kp_uYear0 hg hl).tr ((kp_uDebts hg).tr (kp_itr (fun _ _ _ => kp_uPre (by omega))))) r k d
theorem end_7 : uEnd x nh ng nl 0 7 = 0 := by
  unfold uEnd uYear
  try dsimp only
  rw [up2_at, if_neg (by omega), up2_at, if_pos ⟨rfl, rfl⟩]
end S6

set_option maxHeartbeats 4000000 in
theorem st_storm (l : Launch) (hst9 : l.stackTraces = false) {G : GG} {n : Int} {L : List Nat} {ad : Nat → Nat} {v : Nat → Nat → Int32} {o : Nat → Nat → Option Nat} {w : Nat → Int64} {ng nh nl ns : Nat} {ow gx gy gw gd : Nat → Nat} (hN : INV G.2.2.2 n L ad v o ng nh nl ns ow gx gy gw gd) (h0 : 0 ≤ n) (hn2 : n ≤ 600) (p0 p1 p2 p3 p4 p5 p6 : Int32) : StA l G n L ad v o w yL_storm cL_storm 10 [(0, 20, 23, 13), (0, 20, 27, 15)] [.ref (ad 0), .int p0, .int p1, .int p2, .int p3, .int p4, .int p5, .int p6, .ref (ad 170)] yX7_storm cX7_storm 8 .int [.ref (ad 100), .int p0, .int p1, .int p2, .int p3, .int p4, .int p5, .int p6] Int32.toInt64 := by
  have hI := hN.p; have hJ := hN.j; have hO1 := hN.o1; have hg6 := hI.g6; have h12 := hI.h12; have hl6 := hI.l6; have hs30 := hI.s30; have hZ := hI.z; have m0 := hN.m0; have m170 := hN.m170
  have m180 : 180 ∉ L := hN.hi 180 (by omega)
  by_cases c : fSto p0 p1 p2 p3 p4 p5 p6 = 1
  · rcases Nat.lt_or_ge ns 30 with hs | hs
    · obtain ⟨sx, sy, dx, dy, rad, st, rfl, rfl, rfl, rfl, rfl, rfl, a1, a2, b1, b2, c1, c2, d1, d2, r1, r2, s2⟩ := sto_forms c
      have hC := c_X5_storm l (w := w) hI m180 a1 a2 b1 b2 c1 c2 d1 d2 r1 r2 s2 c hs
      obtain ⟨x', hx'⟩ : ∃ z, z = sPut v (iI sx) (iI sy) (iI dx) (iI dy) (iI rad) p5 (nI st) := ⟨_, rfl⟩
      rw [← hx'] at hC
      have ex : ∀ r k, r ≠ 180 → x' r k = v r k := fun r k h => by rw [hx', sPut_o h]
      have kX := kp_uTry (v := x') (ow := ow) (gx := gx) (gy := gy) (gw := gw) (gd := gd) (ng := ng) (nh := nh) (nl := nl) (sx := sx) (sy := sy) (dx := dx) (dy := dy) (rad := rad) (F := p5) (st := st)
      have hO : ∀ c, Out gx gy gw gd nh c → uTry x' ow gx gy gw gd ng nh nl sx sy dx dy rad p5 st 7 c = x' 4 c := fun c hc => try_out hZ hc
      have hB := fun (y : Nat → Nat → Int32) (hT : TH ow gx gy gw gd ng nh nl 101 110 x' y) => hN.bn.storm (sx := sx) (sy := sy) (dx := dx) (dy := dy) (rad := rad) (F := p5) (st := st) hT hN.dj hZ hg6 h12 hl6 hs h0 hn2 (fun r k h => ex r k (by omega))
      have hT0 := fun (y : Nat → Nat → Int32) (hT : TH ow gx gy gw gd ng nh nl 101 110 x' y) => hT.try (sx := sx) (sy := sy) (dx := dx) (dy := dy) (rad := rad) (F := p5) (st := st) hN.dj hZ hg6 h12 (by omega)
      obtain ⟨X, hX⟩ : ∃ z, z = uTry x' ow gx gy gw gd ng nh nl sx sy dx dy rad p5 st := ⟨_, rfl⟩
      rw [← hX] at hC kX
      simp only [← hX] at hO hB hT0
      obtain ⟨k1, k2, k3, k4, k5, k6, k7⟩ := take_at (X := X) (ng := ng) (nl := nl) hg6 hl6 hs
      obtain ⟨uX, hU⟩ : ∃ z, z = uTake X ng nl ns := ⟨_, rfl⟩
      rw [← hU] at hC k5 k7
      simp only [← hU] at hB
      have far : ∀ r k, 100 ≤ r → r ≠ 180 → uX r k = v r k := fun r k a b => (k7 r k (by omega) (by omega) (by omega) (by omega) (by omega)).trans ((kX.far a).trans (ex r k b))
      have hR1 : RVl ow gx gy gw gd ng nh nl ns 101 110 v (tz uX) := hN.r.congr hg6 h12 hl6 hs30 (fun _ _ _ _ => rfl) (fun r k a _ => (up2_r (by omega)).trans (far r k (by omega) (by omega)))
      have hz1 : ZB ng nh (tz uX) := hN.zb.congr (fun r k _ => (up2_r (by omega)).trans (far r k (by omega) (by omega)))
      have hTH : TH ow gx gy gw gd ng nh nl 101 110 x' (tz uX) := hR1.th.cls hg6 h12 hl6 (fun r k _ h => ex r k (by omega))
      have T := hT0 _ hTH
      have hB1 := hB _ hTH
      have hR2 := take_sim hZ hg6 h12 hl6 hs hR1 ex T hO
      rw [← hU] at hR2
      have hz2 := hz1.storm (ns := ns) hZ T
      have kR : keepR 101 110 (rStorm (tz uX) 110 101 gx gy gw gd ng nh nl sx sy dx dy rad p5 st) uX := (kr_rStorm SB1).tr kr_t
      have e100 : rStorm (tz uX) 110 101 gx gy gw gd ng nh nl sx sy dx dy rad p5 st 100 0 = 0 := (T.2.2.2.2.2.2 100 0 (by omega) (by omega) (by omega) (by omega) (by omega) (by omega) (by omega)).trans up2_s
      have hJ1 : PJ L ad uX o 101 110 ng nh nl ns ow gx gy gw gd := hJ.nst hs30 (fun r k a => far r k (by omega) (by omega)) ((far 101 13 (by omega) (by omega)).trans hJ.eS)
      have hM := fun w => c_X7_storm l (G := G) (w := w) hJ1 hO1 a1 a2 b1 b2 c1 c2 d1 d2 r1 r2 s2 c hs
      obtain ⟨W, hW⟩ : ∃ z, z = rStorm (tz uX) 110 101 gx gy gw gd ng nh nl sx sy dx dy rad p5 st := ⟨_, rfl⟩
      rw [← hW] at hM T hR2 hz2 kR e100
      have w1 : ∀ r k, r ≠ 124 → ¬ (r = 101 ∧ k = 13) → up2 (cpy2 W 126 124 0 (6 * ns) 6) 101 13 (nI (ns + 1)) r k = W r k := fun r k a b => by rw [up2_at, if_neg b, cpy2_at, if_neg (by omega)]
      have c9 : ∀ r k, r < 100 → up2 (cpy2 W 126 124 0 (6 * ns) 6) 101 13 (nI (ns + 1)) r k = uX r k := fun r k hr => (w1 r k (by omega) (by omega)).trans (kR.cls SB1 hr)
      have hrow : ∀ r k, dep r k → r ≠ 0 → uX r k = v r k := fun r k d a => by
        rw [k7 r k (by unfold dep at d; omega) (by unfold dep at d; omega) (by unfold dep at d; omega) (by unfold dep at d; omega) (by omega), kX r k (Or.inl d)]
        exact ex r k (by unfold dep at d; omega)
      have hh : ∀ i k, i < nh → uX (60 + i) k = v (60 + i) k := fun i k hi => by
        rw [k7 (60 + i) k (by omega) (by omega) (by omega) (by omega) (by omega), T.cx (60 + i) k (by omega)]
        exact ex _ k (by omega)
      refine StA.yes (rmK_ok rfl) (rmK_ok rfl) (h_storm l m0 (CtI.w hC) (hk_same m170)) hM ((w1 100 0 (by omega) (by omega)).trans e100) (congrArg Int32.toInt64 ((k7 12 3 (by omega) (by omega) (by omega) (by omega) (by omega)).trans (T.2.1 3 (by omega)))) ⟨ng, nh, nl, ns + 1, ow, gx, gy, gw, gd, hI.nst hs (fun r k d a => (c9 r k (by unfold dep at d; omega)).trans (hrow r k d a)) ((c9 0 7 (by omega)).trans k5), hJ1.nst hs (fun r k a => (w1 r k (by omega) (by omega)).trans (kR r k (by unfold depR; omega))) up2_s, ⟨hO1, hN.o2, hN.q2⟩, hN.x, hR2.congr hg6 h12 hl6 hs (fun r k _ hr => c9 r k hr) (fun _ _ _ _ => rfl), hz2, hB1.congr (c9 _ _ (by omega)) (fun g k hg => c9 _ _ (by omega)) (fun i k hi => c9 _ _ (by omega)), hN.dj, fun i hi => ?_⟩
      rw [c9 _ _ (by omega), c9 _ _ (by omega), hh i 7 hi, hh i 6 hi]
      exact hN.hv i hi
    · have e : ns = 30 := by omega
      exact StA.no (rmK_ok rfl) (rmK_ok rfl) hN (by decide) (h_storm_xIS l m0 (x_X5_storm_2 l hst9 hI m180 c e)) (c_X7_storm_2 l hJ hO1 c e)
  · exact StA.no (rmK_ok rfl) (rmK_ok rfl) hN (by decide) (h_storm_xIA l m0 (x_X5_storm_1 l hst9 hI m180 (fSto_n c))) (c_X7_storm_1 l hJ hO1 (fSto_n c))

set_option maxHeartbeats 4000000 in
theorem st_endYear (l : Launch) {G : GG} {n : Int} {L : List Nat} {ad : Nat → Nat} {v : Nat → Nat → Int32} {o : Nat → Nat → Option Nat} {ng nh nl ns : Nat} {ow gx gy gw gd : Nat → Nat} (hN : INV G.2.2.2 n L ad v o ng nh nl ns ow gx gy gw gd) (h0 : 0 ≤ n) (hn2 : n ≤ 600) : ∃ (rm rmM : Room) (uX uM : Nat → Nat → Int32) (z : Int32), rmK rm ∧ rmK rmM ∧ (∀ w, CtI l G L ad v o w yX5_endYear cX5_endYear 3 .int rm [.ref (ad 0)] (fun r u => r = z ∧ u = uX)) ∧ (∀ w, CtI l G L ad uX o w yX7_endYear cX7_endYear 1 .int rmM [.ref (ad 100)] (fun r u => r = z ∧ u = uM)) ∧ INVe G.2.2.2 (n + 1) L ad uM o := by
  have hI := hN.p; have hJ := hN.j; have hO1 := hN.o1; have hg6 := hI.g6; have h12 := hI.h12; have hl6 := hI.l6; have hs30 := hI.s30; have hZ := hI.z; have m0 := hN.m0; have m170 := hN.m170
  have hC := fun w => c_X5_endYear l (w := w) hI
  have kE := end_kp (x := v) (nh := nh) hg6 hl6
  have e7 := end_7 (x := v) (nh := nh) (ng := ng) (nl := nl)
  have hB := hN.bn.year hZ hg6 h12 hl6 h0 hn2 hN.vb
  have hy := fun y hR => year_sim (ns := ns) (y := y) hZ hg6 h12 hl6 hR (fun h hh => ⟨hI.eW hh, hI.eD hh⟩) (fun h hh => hI.eO hh)
  obtain ⟨uX, hX⟩ : ∃ z, z = uEnd v nh ng nl := ⟨_, rfl⟩
  rw [← hX] at hB e7
  simp only [← hX] at hC hy kE
  have far : ∀ r k, 100 ≤ r → uX r k = v r k := fun r k a => kE r k (Or.inr a) (by omega)
  have hR1 : RVl ow gx gy gw gd ng nh nl ns 101 110 v (tz uX) := hN.r.congr hg6 h12 hl6 hs30 (fun _ _ _ _ => rfl) (fun r k a _ => (up2_r (by omega)).trans (far r k (by omega)))
  have hz1 : ZB ng nh (tz uX) := hN.zb.congr (fun r k _ => (up2_r (by omega)).trans (far r k (by omega)))
  obtain ⟨eP, hR2⟩ := hy (tz uX) hR1
  have hJ1 : PJ L ad uX o 101 110 ng nh nl ns ow gx gy gw gd := hJ.nst hs30 (fun r k a => far r k (by omega)) ((far 101 13 (by omega)).trans hJ.eS)
  have hM := fun w => c_X7_endYear l (G := G) (w := w) hJ1 hO1
  have hz2 : ZB ng nh (rYear (tz uX) 110 101 gw gd ng nh nl) := hz1.year
  have y1 := year_kr (y := tz uX) (gw := gw) (gd := gd) (ng := ng) (nh := nh) (nl := nl)
  have y2 := year_13 (y := tz uX) (gw := gw) (gd := gd) (ng := ng) (nh := nh) (nl := nl)
  have y3 : ∀ k, rYear (tz uX) 110 101 gw gd ng nh nl 118 k = v 118 k := fun k => (year_out (by omega)).trans ((up2_r (by omega)).trans (far 118 k (by omega)))
  simp only [← eP] at hM
  obtain ⟨uM, hW⟩ : ∃ z, z = rYear (tz uX) 110 101 gw gd ng nh nl := ⟨_, rfl⟩
  rw [← hW] at hR2 hz2 y2
  simp only [← hW] at hM y1 y3
  have c9 : ∀ r k, r < 100 → uM r k = uX r k := fun r k hr => (y1 r k (by unfold depR; omega) (by omega)).trans (up2_r (by omega))
  refine ⟨_, _, uX, uM, _, rmK_ok rfl, rmK_ok rfl, hC, hM, ng, nh, nl, 0, ow, gx, gy, gw, gd, hI.nst (by omega) (fun r k d a => (c9 r k (by unfold dep at d; omega)).trans (kE r k (Or.inl d) a)) ((c9 0 7 (by omega)).trans e7), hJ1.nst (by omega) (fun r k a => (y1 r k (by unfold depR; omega) (by omega)).trans (up2_r (by omega))) y2, ⟨hO1, hN.o2, hN.q2⟩, hN.x, hR2.congr hg6 h12 hl6 (by omega) (fun r k _ hr => c9 r k hr) (fun _ _ _ _ => rfl), hz2, hB.congr (c9 _ _ (by omega)) (fun g k hg => c9 _ _ (by omega)) (fun i k hi => c9 _ _ (by omega)), hN.dj, fun i hi => ?_⟩
  obtain ⟨s5, s6, s7, s0⟩ := hR2.2.1 i hi
  obtain ⟨t5, t6, t7, t0⟩ := hN.r.2.1 i hi
  have f6 : uM (110 + 7) (7 * i + 6) = v (110 + 7) (7 * i + 6) := (y1 _ _ (by unfold depR; omega) (by omega)).trans ((up2_r (by omega)).trans (far _ _ (by omega)))
  rw [c9 _ _ (by omega), c9 _ _ (by omega), s6, s7, f6, ← t6, show uM (110 + 8) i = v (110 + 8) i from y3 i, ← t7]
  exact hN.hv i hi

set_option maxHeartbeats 4000000 in
theorem st_loss (l : Launch) {G : GG} {n : Int} {L : List Nat} {ad : Nat → Nat} {v : Nat → Nat → Int32} {o : Nat → Nat → Option Nat} {ng nh nl ns : Nat} {ow gx gy gw gd : Nat → Nat} (hN : INV G.2.2.2 n L ad v o ng nh nl ns ow gx gy gw gd) (h0 : 0 ≤ n) (hn2 : n ≤ 600) : ∃ (rm rmM : Room) (z : UInt64), rmK rm ∧ rmK rmM ∧ (∀ w, CtD l G L ad v o w yX5_loss cX5_loss 3 rm [.ref (ad 0)] (fun r u => r = z ∧ u = v)) ∧ (∀ w, CtD l G L ad v o w yX7_loss cX7_loss 1 rmM [.ref (ad 100)] (fun r u => r = z ∧ u = tz v)) ∧ INVe G.2.2.2 (n + 1) L ad (tz v) o := by
  have hI := hN.p; have hJ := hN.j; have hO1 := hN.o1; have hg6 := hI.g6; have h12 := hI.h12; have hl6 := hI.l6; have hs30 := hI.s30; have hZ := hI.z; have m0 := hN.m0; have m170 := hN.m170
  obtain ⟨e1, e2⟩ := loss_eq hZ h12 (hN.rtz (k := 0) (z := 0)) hN.vb
  have hM := fun w => c_X7_loss l (G := G) (w := w) hJ hO1 e2
  simp only [← e1] at hM
  exact ⟨_, _, _, rmK_ok rfl, rmK_ok rfl, fun w => c_X5_loss l (w := w) hI, hM, hN.te⟩

set_option maxHeartbeats 4000000 in
theorem st_digest (l : Launch) {G : GG} {n : Int} {L : List Nat} {ad : Nat → Nat} {v : Nat → Nat → Int32} {o : Nat → Nat → Option Nat} {ng nh nl ns : Nat} {ow gx gy gw gd : Nat → Nat} (hN : INV G.2.2.2 n L ad v o ng nh nl ns ow gx gy gw gd) (h0 : 0 ≤ n) (hn2 : n ≤ 600) : ∃ (rm rmM : Room) (z : Int64), rmK rm ∧ rmK rmM ∧ (∀ w, CtL l G L ad v o w yX5_digest cX5_digest 5 rm [.ref (ad 0)] (fun r u => r = z ∧ u = v)) ∧ (∀ w, CtL l G L ad v o w yX7_digest cX7_digest 5 rmM [.ref (ad 100)] (fun r u => r = z ∧ u = tz v)) ∧ INVe G.2.2.2 (n + 1) L ad (tz v) o := by
  have hI := hN.p; have hJ := hN.j; have hO1 := hN.o1; have hg6 := hI.g6; have h12 := hI.h12; have hl6 := hI.l6; have hs30 := hI.s30; have hZ := hI.z; have m0 := hN.m0; have m170 := hN.m170
  have e1 := dig_eq hZ hg6 h12 hI.eS (hN.rtz (k := 0) (z := 0)) (hN.xtz (k := 0) (z := 0))
  have hM := fun w => c_X7_digest l (G := G) (w := w) hJ hO1 (hN.hi 183 (by omega)) (hN.hi 184 (by omega))
  simp only [← e1] at hM
  exact ⟨_, _, _, rmK_ok rfl, rmK_ok rfl, fun w => c_X5_digest l (w := w) hI, hM, hN.te⟩
