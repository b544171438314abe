/-! one call: small changes -/
section S2
variable {td : Nat} {n : Int} {L : List Nat} {ad : Nat → Nat} {v uX uM : Nat → Nat → Int32} {o : Nat → Nat → Option Nat} {ng nh nl ns : Nat} {ow gx gy gw gd : Nat → Nat}
theorem SB1 : SB 101 110 := Or.inl ⟨rfl, rfl⟩
/-- the relation, the class's change behind us, the reference's before us -/
theorem INV.rd (hN : INV td n L ad v o ng nh nl ns ow gx gy gw gd) (kD : keepD uX v) {k : Nat} {z : Int32} : RVl ow gx gy gw gd ng nh nl ns 101 110 v (up2 uX 100 k z) := hN.r.congr hN.p.g6 hN.p.h12 hN.p.l6 hN.p.s30 (fun _ _ _ _ => rfl) (fun r _ _ _ => (up2_r (by omega)).trans (kD.far (by omega)))
theorem INV.zd (hN : INV td n L ad v o ng nh nl ns ow gx gy gw gd) (kD : keepD uX v) {k : Nat} {z : Int32} : ZB ng nh (up2 uX 100 k z) := hN.zb.congr (fun r _ _ => (up2_r (by omega)).trans (kD.far (by omega)))
/-- what holds again when class and reference have changed -/
theorem INV.go (hN : INV td n L ad v o ng nh nl ns ow gx gy gw gd) (kD : keepD uX v) (kR : keepR 101 110 uM uX) (hR : RVl ow gx gy gw gd ng nh nl ns 101 110 uX uM) (hz : ZB ng nh uM) (hB : BN ng nl (n + 1) uX) (hv : ∀ i, i < nh → (uX (60 + i) 7 = 0 ∨ uX (60 + i) 7 = 1) ∧ uX (60 + i) 6 = v (60 + i) 6) : INVe td (n + 1) L ad uM o := by
  have hg6 := hN.p.g6; have h12 := hN.p.h12; have hl6 := hN.p.l6; have hs30 := hN.p.s30
  have c : ∀ r k, r < 100 → uM r k = uX r k := fun r k hr => kR.cls SB1 hr
  refine ⟨ng, nh, nl, ns, ow, gx, gy, gw, gd, hN.p.cong (fun r k d => ?_), (hN.j.kpD kD).kp kR, ⟨hN.o1, hN.o2, hN.q2⟩, hN.x, hR.congr hg6 h12 hl6 hs30 (fun r k _ hr => c r k hr) (fun _ _ _ _ => rfl), hz, hB.congr (c _ _ (by omega)) (fun g k hg => c _ _ (by omega)) (fun i k hi => c _ _ (by omega)), hN.dj, fun i hi => ?_⟩
  · rw [c r k (by unfold dep at d; omega)]; exact kD r k (Or.inl d)
  · rw [c _ _ (by omega), c _ _ (by omega), (hv i hi).2]; exact ⟨(hv i hi).1, (hN.hv i hi).2⟩
theorem fIn_t {a : Int32} {b c : Int} (hb : -2147483648 ≤ b) (hb2 : b < 2147483648) (hc : -2147483648 ≤ c) (hc2 : c < 2147483648) (h : fIn a (iI b) (iI c) = 1) : b ≤ a.toInt ∧ a.toInt ≤ c := by
  obtain ⟨i, rfl, h1, h2⟩ := in_int hb hb2 hc hc2 h
  rw [iI_toInt (by omega) (by omega)]
  exact ⟨h1, h2⟩
end S2

set_option maxHeartbeats 2000000 in
theorem st_fund (l : Launch) (hst9 : l.stackTraces = false) {G : GG} {n : Int} {L : List Nat} {ad : Nat → Nat} {v : Nat → Nat → Int32} {o : Nat → Nat → Option Nat} {w : Nat → Int64} {ng nh nl ns : Nat} {ow gx gy gw gd : Nat → Nat} (hN : INV G.2.2.2 n L ad v o ng nh nl ns ow gx gy gw gd) (h0 : 0 ≤ n) (hn2 : n ≤ 600) (p0 : Int32) : StA l G n L ad v o w yL_fund cL_fund 4 [(0, 9, 12, 13), (0, 9, 15, 15)] [.ref (ad 0), .int p0, .ref (ad 170)] yX7_fund cX7_fund 2 .int [.ref (ad 100), .int p0] Int32.toInt64 := by
  have hI := hN.p; have hJ := hN.j; have hO1 := hN.o1; have hg6 := hI.g6; have h12 := hI.h12; have hl6 := hI.l6; have hs30 := hI.s30; have hZ := hI.z; have m0 := hN.m0; have m170 := hN.m170
  have e6 := hN.r.2.2.2.2.1
  by_cases c : fIn p0 1 1000000 = 1
  · obtain ⟨c1, c2⟩ := fIn_t (b := 1) (c := 1000000) (by omega) (by omega) (by omega) (by omega) c
    obtain ⟨b0, b1⟩ := hN.bn.1
    have hf := fund_eq b0 (by omega) c1 c2
    by_cases d : v 0 6 ≤ 100000000 - p0
    · have kD : keepD (up2 v 0 6 (v 0 6 + p0)) v := kp_up (by unfold depC dep; omega)
      obtain ⟨uX, hX⟩ : ∃ u, u = up2 v 0 6 (v 0 6 + p0) := ⟨_, rfl⟩
      rw [← hX] at kD
      have e : uX 101 10 = v 0 6 := (kD.far (by omega)).trans e6.symm
      have hR := (hN.rd kD (k := 0) (z := 0)).fund (z := v 0 6 + p0)
      rw [← hX] at hR
      have hB := hN.bn.fund h0 hn2 c1 c2
      rw [← hX] at hB
      have hv : ∀ i, i < nh → (uX (60 + i) 7 = 0 ∨ uX (60 + i) 7 = 1) ∧ uX (60 + i) 6 = v (60 + i) 6 := fun i hi => by rw [hX, up2_r (by omega), up2_r (by omega)]; exact ⟨(hN.hv i hi).1, rfl⟩
      have hz : ZB ng nh (up2 (tz uX) 101 10 (v 0 6 + p0)) := (hN.zd kD).fund
      have kR : keepR 101 110 (up2 (tz uX) 101 10 (v 0 6 + p0)) uX := (kr_b SB1 (by omega)).tr kr_t
      have hM := fun w => c_X7_fund l (G := G) (w := w) (hJ.kpD kD) hO1 c (by rw [e]; exact hf.mp d)
      rw [e] at hM
      have hC := c_X5_fund l (w := w) hI c d
      rw [← hX] at hC
      exact StA.yes (rmK_ok rfl) (rmK_ok rfl) (h_fund l m0 (CtI.w hC) (hk_same m170)) hM ((up2_r (by omega)).trans up2_s) rfl (hN.go kD kR hR hz hB hv)
    · have kD : keepD v v := keepD.rf
      exact StA.no (rmK_ok rfl) (rmK_ok rfl) hN (by decide) (h_fund_xIS l m0 (x_X5_fund_2 l hst9 hI c d)) (c_X7_fund_2 l hJ hO1 c (fun q => d (hf.mpr (by rw [e6]; exact q))))
  · exact StA.no (rmK_ok rfl) (rmK_ok rfl) hN (by decide) (h_fund_xIA l m0 (x_X5_fund_1 l hst9 hI (fIn_n c))) (c_X7_fund_1 l hJ hO1 (fIn_n c))

set_option maxHeartbeats 2000000 in
theorem st_setNet (l : Launch) (hst9 : l.stackTraces = false) {G : GG} {n : Int} {L : List Nat} {ad : Nat → Nat} {v : Nat → Nat → Int32} {o : Nat → Nat → Option Nat} {w : Nat → Int64} {ng nh nl ns : Nat} {ow gx gy gw gd : Nat → Nat} (hN : INV G.2.2.2 n L ad v o ng nh nl ns ow gx gy gw gd) (h0 : 0 ≤ n) (hn2 : n ≤ 600) (p0 p1 : Int32) (hb01 : p1 = 0 ∨ p1 = 1) : StA l G n L ad v o w yL_setNet cL_setNet 5 [(0, 17, 20, 21)] [.ref (ad 0), .int p0, .int p1, .ref (ad 170)] yX7_setNet cX7_setNet 4 .boolean [.ref (ad 100), .int p0, .int p1] (fun r => if r = 0 then 0 else 1) := by
  have hI := hN.p; have hJ := hN.j; have hO1 := hN.o1; have hg6 := hI.g6; have h12 := hI.h12; have hl6 := hI.l6; have hs30 := hI.s30; have hZ := hI.z; have m0 := hN.m0; have m170 := hN.m170
  by_cases c : fIn p0 0 (nI nh - 1) = 1
  · obtain ⟨h, rfl, hh⟩ := in_nat (by omega) c
    have hz7 := (hN.hv h hh).1
    have kD : keepD (up2 v (60 + h) 7 p1) v := kp_up (by unfold depC dep; omega)
    have hR := (hN.rd kD (k := 0) (z := 0)).net (h := h) (z := p1) hg6 h12 hs30 hh
    have hB : BN ng nl (n + 1) (up2 v (60 + h) 7 p1) := (hN.bn.mono (by omega)).congr (up2_r (by omega)) (fun g k hg => up2_r (by omega)) (fun i k hi => up2_r (by omega))
    have hv : ∀ i, i < nh → (up2 v (60 + h) 7 p1 (60 + i) 7 = 0 ∨ up2 v (60 + h) 7 p1 (60 + i) 7 = 1) ∧ up2 v (60 + h) 7 p1 (60 + i) 6 = v (60 + i) 6 := fun i hi => by
      refine ⟨?_, up2_k (by omega)⟩
      rw [up2_at]
      split
      · exact hb01
      · exact (hN.hv i hi).1
    have kR : keepR 101 110 (up2 (tz (up2 v (60 + h) 7 p1)) 118 h p1) (up2 v (60 + h) 7 p1) := (kr_b SB1 (by omega)).tr kr_t
    have hz : ZB ng nh (up2 (tz (up2 v (60 + h) 7 p1)) 118 h p1) := (hN.zd kD).net hh
    have e118 : up2 v (60 + h) 7 p1 118 h = v (60 + h) 7 := (kD.far (by omega)).trans (hN.r.2.1 h hh).2.2.1.symm
    exact StA.yes (rmK_ok rfl) (rmK_ok rfl) (h_setNet l m0 (CtI.w (c_X5_setNet l hI hh hb01 hz7)) (hk_same m170)) (fun w => c_X7_setNet l (hJ.kpD kD) hO1 hh hb01 (by rw [e118]; exact hz7)) ((up2_r (by omega)).trans up2_s) (congrArg (fun r : Int32 => if r = 0 then (0 : Int64) else 1) e118.symm) (hN.go kD kR hR hz hB hv)
  · exact StA.no (rmK_ok rfl) (rmK_ok rfl) hN (by decide) (h_setNet_xIO l m0 (x_X5_setNet_1 l hst9 hI (fIn_n c))) (c_X7_setNet_1 l hJ hO1 (fIn_n c))

set_option maxHeartbeats 2000000 in
theorem st_insure (l : Launch) (hst9 : l.stackTraces = false) {G : GG} {n : Int} {L : List Nat} {ad : Nat → Nat} {v : Nat → Nat → Int32} {o : Nat → Nat → Option Nat} {w : Nat → Int64} {ng nh nl ns : Nat} {ow gx gy gw gd : Nat → Nat} (hN : INV G.2.2.2 n L ad v o ng nh nl ns ow gx gy gw gd) (h0 : 0 ≤ n) (hn2 : n ≤ 600) (p0 p1 p2 p3 : Int32) : StA l G n L ad v o w yL_insure cL_insure 7 [(0, 14, 17, 21), (0, 14, 21, 13)] [.ref (ad 0), .int p0, .int p1, .int p2, .int p3, .ref (ad 170)] yX7_insure cX7_insure 6 .int [.ref (ad 100), .int p0, .int p1, .int p2, .int p3] Int32.toInt64 := by
  have hI := hN.p; have hJ := hN.j; have hO1 := hN.o1; have hg6 := hI.g6; have h12 := hI.h12; have hl6 := hI.l6; have hs30 := hI.s30; have hZ := hI.z; have m0 := hN.m0; have m170 := hN.m170
  by_cases c : fIn p0 0 (nI ng - 1) = 1
  · obtain ⟨g, rfl, hg⟩ := in_nat (by omega) c
    by_cases c1 : fIn p1 0 10000 = 1
    · by_cases c2 : fIn p2 1 100000 = 1
      · by_cases c3 : fIn p3 1 100 = 1
        · obtain ⟨l1, l2⟩ := fIn_t (b := 1) (c := 100000) (by omega) (by omega) (by omega) (by omega) c2
          obtain ⟨r1, r2⟩ := fIn_t (b := 1) (c := 100) (by omega) (by omega) (by omega) (by omega) c3
          have f1 : ∀ r k, ¬ (r = 50 + g) → uInsure v g p1 p2 p3 r k = v r k := fun r k q => by unfold uInsure; rw [up2_r q, up2_r q, up2_r q, up2_r q]
          have kD : keepD (uInsure v g p1 p2 p3) v := fun r k d => f1 r k (by unfold depC dep at d; omega)
          have hli : p2 ≠ 0 := fun q => by subst q; exact absurd l1 (by decide)
          have hR := (hN.rd kD (k := 0) (z := 0)).insure (d := p1) (ra := p3) hg6 h12 hs30 hg hli
          have hB : BN ng nl (n + 1) (uInsure v g p1 p2 p3) := (hN.bn.insure hg6 hg (by omega) l2 (by omega) r2).mono (by omega)
          have hv : ∀ i, i < nh → (uInsure v g p1 p2 p3 (60 + i) 7 = 0 ∨ uInsure v g p1 p2 p3 (60 + i) 7 = 1) ∧ uInsure v g p1 p2 p3 (60 + i) 6 = v (60 + i) 6 := fun i hi => by rw [f1 _ _ (by omega), f1 _ _ (by omega)]; exact ⟨(hN.hv i hi).1, rfl⟩
          have e : uInsure v g p1 p2 p3 112 (3 * g + 1) = v (50 + g) 3 := (f1 _ _ (by omega)).trans (hN.r.1 g hg).2.2.1.symm
          have kR : keepR 101 110 (rInsure (uInsure v g p1 p2 p3) g p1 p2 p3) (uInsure v g p1 p2 p3) := (kr_b SB1 (by omega)).tr ((kr_b SB1 (by omega)).tr ((kr_b SB1 (by omega)).tr kr_t))
          have hz : ZB ng nh (rInsure (uInsure v g p1 p2 p3) g p1 p2 p3) := (hN.zd kD).insure hg
          exact StA.yes (rmK_ok rfl) (rmK_ok rfl) (h_insure l m0 (CtI.w (c_X5_insure l hI hg c1 c2 c3)) (hk_same m170)) (fun w => c_X7_insure l (hJ.kpD kD) hO1 hg c1 c2 c3) ((up2_r (by omega)).trans ((up2_r (by omega)).trans ((up2_r (by omega)).trans up2_s))) (congrArg Int32.toInt64 e.symm) (hN.go kD kR hR hz hB hv)
        · exact StA.no (rmK_ok rfl) (rmK_ok rfl) hN (by decide) (h_insure_xIA l m0 (x_X5_insure_2c l hst9 hI hg c1 c2 (fIn_n c3))) (c_X7_insure_2c l hJ hO1 hg c1 c2 (fIn_n c3))
      · exact StA.no (rmK_ok rfl) (rmK_ok rfl) hN (by decide) (h_insure_xIA l m0 (x_X5_insure_2b l hst9 hI hg c1 (fIn_n c2))) (c_X7_insure_2b l hJ hO1 hg c1 (fIn_n c2))
    · exact StA.no (rmK_ok rfl) (rmK_ok rfl) hN (by decide) (h_insure_xIA l m0 (x_X5_insure_2a l hst9 hI hg (fIn_n c1))) (c_X7_insure_2a l hJ hO1 hg (fIn_n c1))
  · exact StA.no (rmK_ok rfl) (rmK_ok rfl) hN (by decide) (h_insure_xIO l m0 (x_X5_insure_1 l hst9 hI (fIn_n c))) (c_X7_insure_1 l hJ hO1 (fIn_n c))

set_option maxHeartbeats 2000000 in
theorem st_mend (l : Launch) (hst9 : l.stackTraces = false) {G : GG} {n : Int} {L : List Nat} {ad : Nat → Nat} {v : Nat → Nat → Int32} {o : Nat → Nat → Option Nat} {w : Nat → Int64} {ng nh nl ns : Nat} {ow gx gy gw gd : Nat → Nat} (hN : INV G.2.2.2 n L ad v o ng nh nl ns ow gx gy gw gd) (h0 : 0 ≤ n) (hn2 : n ≤ 600) (p0 : Int32) : StA l G n L ad v o w yL_mend cL_mend 4 [(0, 9, 12, 21), (0, 9, 15, 15)] [.ref (ad 0), .int p0, .ref (ad 170)] yX7_mend cX7_mend 5 .int [.ref (ad 100), .int p0] Int32.toInt64 := by
  have hI := hN.p; have hJ := hN.j; have hO1 := hN.o1; have hg6 := hI.g6; have h12 := hI.h12; have hl6 := hI.l6; have hs30 := hI.s30; have hZ := hI.z; have m0 := hN.m0; have m170 := hN.m170
  by_cases c : fIn p0 0 (nI nh - 1) = 1
  · obtain ⟨h, rfl, hh⟩ := in_nat (by omega) c
    have hog := (hZ h hh).1
    have e0 : v (50 + ow h) 0 = v 111 (ow h) := (hN.r.1 (ow h) hog).1
    by_cases d : hLost v gx gy gw gd h ≤ v (50 + ow h) 0
    · have f1 : ∀ r k, r ≠ 4 → r ≠ 50 + ow h → uMend v ow gx gy gw gd h r k = v r k := fun r k q1 q2 => by unfold uMend; rw [mkW_one, put_out (fun q => absurd q q1), up2_r q2]
      have kD : keepD (uMend v ow gx gy gw gd h) v := fun r k d => f1 r k (by unfold depC dep at d; omega) (by unfold depC dep at d; omega)
      have hB : BN ng nl (n + 1) (uMend v ow gx gy gw gd h) := (hN.bn.mend hZ hg6 hl6 hh (lost_b hZ hN.r hN.vb hh).1 d).mono (by omega)
      have hR0 := hN.rd kD (k := 0) (z := 0)
      have eL : hLost v gx gy gw gd h = rLost (tz (uMend v ow gx gy gw gd h)) 110 (gw h * gd h) h := hLost_eq hR0.2.2.2.1 hR0.2.1 hh
      have hR := hR0.mend (h := h) (c := v (50 + ow h) 0 - hLost v gx gy gw gd h) hN.dj hZ hg6 h12 hl6 hs30 hh
      have e1 : uMend v ow gx gy gw gd h 111 (ow h) = v (50 + ow h) 0 := (f1 _ _ (by omega) (by omega)).trans e0.symm
      have eM : rMend (uMend v ow gx gy gw gd h) ow gw gd h = itr (fun k u => up2 u 119 (36 * h + k) 0) (gw h * gd h) (up2 (tz (uMend v ow gx gy gw gd h)) 111 (ow h) (v (50 + ow h) 0 - hLost v gx gy gw gd h)) := by unfold rMend; rw [← eL, show tz (uMend v ow gx gy gw gd h) 111 (ow h) = v (50 + ow h) 0 from (up2_r (by omega)).trans e1]
      have hz : ZB ng nh (rMend (uMend v ow gx gy gw gd h) ow gw gd h) := by rw [eM]; exact (hN.zd kD).mend hZ hh
      have kR : keepR 101 110 (rMend (uMend v ow gx gy gw gd h) ow gw gd h) (uMend v ow gx gy gw gd h) := (kr_itr (fun _ _ _ => kr_b SB1 (by omega))).tr ((kr_b SB1 (by omega)).tr kr_t)
      have hv : ∀ i, i < nh → (uMend v ow gx gy gw gd h (60 + i) 7 = 0 ∨ uMend v ow gx gy gw gd h (60 + i) 7 = 1) ∧ uMend v ow gx gy gw gd h (60 + i) 6 = v (60 + i) 6 := fun i hi => by rw [f1 _ _ (by omega) (by omega), f1 _ _ (by omega) (by omega)]; exact ⟨(hN.hv i hi).1, rfl⟩
      have h9 : rMend (uMend v ow gx gy gw gd h) ow gw gd h 100 0 = 0 := by rw [eM, put_out (fun q => absurd q (by omega)), up2_r (by omega)]; exact up2_s
      exact StA.yes (rmK_ok rfl) (rmK_ok rfl) (h_mend l m0 (CtI.w (c_X5_mend l hI hh d)) (hk_same m170)) (fun w => c_X7_mend l (hJ.kpD kD) hO1 hh (by rw [← eL, e1]; exact d)) h9 (congrArg Int32.toInt64 eL) (hN.go kD kR (by rw [eM]; exact hR) hz hB hv)
    · exact StA.no (rmK_ok rfl) (rmK_ok rfl) hN (by decide) (h_mend_xIS l m0 (x_X5_mend_2 l hst9 hI hh d)) (c_X7_mend_2 l hJ hO1 hh (by rw [← hLost_eq hN.rtz.2.2.2.1 hN.rtz.2.1 hh, ← e0]; exact d))
  · exact StA.no (rmK_ok rfl) (rmK_ok rfl) hN (by decide) (h_mend_xIO l m0 (x_X5_mend_1 l hst9 hI (fIn_n c))) (c_X7_mend_1 l hJ hO1 (fIn_n c))
