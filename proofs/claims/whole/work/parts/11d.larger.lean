/-! one call: what makes the world larger -/
section S3
variable {td : Nat} {n : Int} {L : List Nat} {ad : Nat → Nat} {v uM : Nat → Nat → Int32} {o : Nat → Nat → Option Nat} {ng nh nl ns ng' nh' nl' : Nat} {ow gx gy gw gd ow' gx' gy' gw' gd' : Nat → Nat} {P : PW} {N T : Nat → Prop}
theorem INV.rx (hN : INV td n L ad v o ng nh nl ns ow gx gy gw gd) (hE : Ext L ad v o P N T) (hT : ∀ r, 100 ≤ r → ¬ T r) : RVl ow gx gy gw gd ng nh nl ns 101 110 v P.2.2.1 := hN.r.congr hN.p.g6 hN.p.h12 hN.p.l6 hN.p.s30 (fun _ _ _ _ => rfl) (fun r k _ _ => by rw [hE.2.2.2 r (hT r (by omega))])
theorem INV.zx (hN : INV td n L ad v o ng nh nl ns ow gx gy gw gd) (hE : Ext L ad v o P N T) (hT : ∀ r, 100 ≤ r → ¬ T r) : ZB ng nh P.2.2.1 := hN.zb.congr (fun r k _ => by rw [hE.2.2.2 r (hT r (by omega))])
theorem INV.o1x (hN : INV td n L ad v o ng nh nl ns ow gx gy gw gd) (hE : Ext L ad v o P N T) : P.2.2.2 100 1 = some (P.2.1 101) := by rw [hE.2.2.1 100 (by omega), (hE.1 101 hN.j.q.mS).2]; exact hN.o1
theorem INV.grow (hN : INV td n L ad v o ng nh nl ns ow gx gy gw gd) (hE : Ext L ad v o P N T) (hI : PI td P.1 P.2.1 P.2.2.1 P.2.2.2 ng' nh' nl' ns ow' gx' gy' gw' gd') (c : ∀ r k, r < 100 → uM r k = P.2.2.1 r k) (hJ : PJ P.1 P.2.1 uM P.2.2.2 101 110 ng' nh' nl' ns ow' gx' gy' gw' gd') (hx : LX P.1 ng' nh' nl') (hR : RVl ow' gx' gy' gw' gd' ng' nh' nl' ns 101 110 P.2.2.1 uM) (hz : ZB ng' nh' uM) (hB : BN ng' nl' (n + 1) P.2.2.1) (hD : GDj gx' gy' gw' gd' nh') (hv : ∀ i, i < nh' → (P.2.2.1 (60 + i) 7 = 0 ∨ P.2.2.1 (60 + i) 7 = 1) ∧ ∃ m : Nat, 1 ≤ m ∧ m ≤ 1000 ∧ P.2.2.1 (60 + i) 6 = nI m) : INVe td (n + 1) P.1 P.2.1 uM P.2.2.2 := by
  have hg6 := hI.g6; have h12 := hI.h12; have hl6 := hI.l6; have hs30 := hI.s30
  have hq := hN.q2
  refine ⟨ng', nh', nl', ns, ow', gx', gy', gw', gd', hI.cong (fun r k d => c r k (by unfold dep at d; omega)), hJ, ⟨hN.o1x hE, ?_, hq.1, (hE.1 _ hq.2.1).1, (hE.1 _ hq.2.2.1).1, fun k hk => ⟨(hE.1 _ (hq.2.2.2 k hk).1).1, ?_⟩⟩, hx, hR.congr hg6 h12 hl6 hs30 (fun r k _ hr => c r k hr) (fun _ _ _ _ => rfl), hz, hB.congr (c _ _ (by omega)) (fun g k hg => c _ _ (by omega)) (fun i k hi => c _ _ (by omega)), hD, fun i hi => ?_⟩
  · rw [hE.2.2.1 100 (by omega), (hE.1 102 hq.2.2.1).2]; exact hN.o2
  · rw [hE.2.2.1 102 (by omega), (hE.1 _ (hq.2.2.2 k hk).1).2]; exact (hq.2.2.2 k hk).2
  · rw [c _ _ (by omega), c _ _ (by omega)]; exact hv i hi
theorem PJ.set {u : Nat → Nat → Int32} (h : PJ L ad v o 101 110 ng nh nl ns ow gx gy gw gd) (hg : ng ≤ ng') (hg6 : ng' ≤ 6) (hl6 : nl' ≤ 6) (e0 : u 101 0 = nI ng') (e6 : u 101 6 = v 101 6) (e11 : u 101 11 = nI nl') (e13 : u 101 13 = v 101 13) (e7 : ∀ k, u 117 k = v 117 k) : PJ L ad u o 101 110 ng' nh nl' ns ow gx gy gw gd := by
  obtain ⟨h1, ⟨b1, b2, b3, b4⟩, ⟨a1, a2, a3, a4⟩, hh⟩ := h
  refine ⟨h1, ⟨hg6, b2, hl6, b4⟩, ⟨e0, e6.trans a2, e11, e13.trans a4⟩, fun i hi => ?_⟩
  obtain ⟨⟨q1, q1r⟩, q2, q3, q4, q5, q6⟩ := hh i hi
  exact ⟨⟨by omega, q1r⟩, (e7 _).trans q2, (e7 _).trans q3, (e7 _).trans q4, (e7 _).trans q5, (e7 _).trans q6⟩
end S3
section CM
variable {l : Launch} {G : GG} {n : Int} {L : List Nat} {ad : Nat → Nat} {v : Nat → Nat → Int32} {o : Nat → Nat → Option Nat} {w : Nat → Int64} {yH : MethodName} {bH : ByteArray} {mH : Nat} {hh : List (Nat × Nat × Nat × Nat)} {AH : List Value} {yM : MethodName} {bM : ByteArray} {mM : Nat} {rt : FieldType} {f : Int32 → Int64}
/-- both answer, the world larger -/
theorem StA.more {rm rmM : Room} {post : Int32 → PW → Prop} {g : Int32 → Int64} {As : List Value} (hrm : rmK rm) (hrmM : rmK rmM) (m100 : 100 ∈ L)
    (hH : CtH l G L ad v o w yH bH mH hh rm AH (fun k P => k = 0 ∧ ∃ r1, post r1 P.1 ∧ P.2 = vp_updL w 0 (g r1)))
    (hE : ∀ r1 P, post r1 P → (∀ r, r ∈ L → r ∈ P.1 ∧ P.2.1 r = ad r) ∧ ∃ (uM : Nat → Nat → Int32) (rM : Int32), (∀ w, CtI l G P.1 P.2.1 P.2.2.1 P.2.2.2 w yM bM mM rt rmM (.ref (P.2.1 100) :: As) (fun r u => r = rM ∧ u = uM)) ∧ uM 100 0 = 0 ∧ g r1 = f rM ∧ INVe G.2.2.2 (n + 1) P.1 P.2.1 uM P.2.2.2) : StA l G n L ad v o w yH bH mH hh AH yM bM mM rt (.ref (ad 100) :: As) f :=
  ⟨rm, _, hrm, hH, fun k P h => by
    obtain ⟨P1, P2⟩ := P
    obtain ⟨rfl, r1, hp, hP2⟩ := h
    dsimp only at hp hP2
    subst hP2
    obtain ⟨e1, uM, rM, hM, hz, hr, hI⟩ := hE r1 P1 hp
    have hM := hM (vp_updL w 0 (g r1))
    rw [(e1 100 m100).2] at hM
    exact ⟨e1, rmM, _, hrmM, hM, fun b u hu => by
      obtain ⟨rfl, rfl⟩ := hu
      exact ⟨hz, fun _ => (show vp_updL w 0 (g r1) 0 = f b from (if_pos rfl).trans hr), hI⟩⟩⟩
end CM

set_option maxHeartbeats 2000000 in
theorem st_addGrower (l : Launch) (hst9 : l.stackTraces = false) {G : GG} {n : Int} {L : List Nat} {ad : Nat → Nat} {v : Nat → Nat → Int32} {o : Nat → Nat → Option Nat} {w : Nat → Int64} {ng nh nl ns : Nat} {ow gx gy gw gd : Nat → Nat} (hN : INV G.2.2.2 n L ad v o ng nh nl ns ow gx gy gw gd) (h0 : 0 ≤ n) (hn2 : n ≤ 600) (p0 : Int32) : StA l G n L ad v o w yL_addGrower cL_addGrower 4 [(0, 9, 12, 13), (0, 9, 15, 15)] [.ref (ad 0), .int p0, .ref (ad 170)] yX7_addGrower cX7_addGrower 2 .int [.ref (ad 100), .int p0] Int32.toInt64 := by
  have hI := hN.p; have hJ := hN.j; have hO1 := hN.o1; have hg6 := hI.g6; have h12 := hI.h12; have hl6 := hI.l6; have hs30 := hI.s30; have hZ := hI.z; have m0 := hN.m0; have m170 := hN.m170
  by_cases c : fIn p0 0 1000000 = 1
  · rcases Nat.lt_or_ge ng 6 with hg | hg
    · obtain ⟨c1, c2⟩ := fIn_t (b := 0) (c := 1000000) (by omega) (by omega) (by omega) (by omega) c
      have hE9 : 50 + ng ∉ L := hN.x.1 ng (Nat.le_refl _) hg
      have key : ∀ (r1 : Int32) (P : PW), (r1 = nI ng ∧ PI G.2.2.2 P.1 P.2.1 P.2.2.1 P.2.2.2 (ng + 1) nh nl ns ow gx gy gw gd ∧ Ext L ad v o P (fun r => r = 50 + ng ∨ (r = 13 ∧ 13 ∉ L)) (fun r => r = 1 ∨ r = 13 ∨ r = 50 + ng) ∧ P.2.2.1 (50 + ng) = iG (fun _ => z32) (50 + ng) p0 (50 + ng)) →
          (∀ r, r ∈ L → r ∈ P.1 ∧ P.2.1 r = ad r) ∧ ∃ (uM : Nat → Nat → Int32) (rM : Int32), (∀ w, CtI l G P.1 P.2.1 P.2.2.1 P.2.2.2 w yX7_addGrower cX7_addGrower 2 .int ({ frames := 1, cells := 0, slots := 0, locals := 22 }) [.ref (P.2.1 100), .int p0] (fun r u => r = rM ∧ u = uM)) ∧ uM 100 0 = 0 ∧ r1.toInt64 = rM.toInt64 ∧ INVe G.2.2.2 (n + 1) P.1 P.2.1 uM P.2.2.2 := fun r1 P hp => by
        obtain ⟨rfl, hI1, hE, e9⟩ := hp
        have hT : ∀ r, 100 ≤ r → ¬ (r = 1 ∨ r = 13 ∨ r = 50 + ng) := fun r hr => by omega
        have hJ1 := hJ.ext hE hT
        have eo : ∀ r k, r ≠ 1 → r ≠ 13 → r ≠ 50 + ng → P.2.2.1 r k = v r k := fun r k a b d => by rw [hE.2.2.2 r (by omega)]
        refine ⟨hE.1, rAdd P.2.2.1 ng p0, nI ng, fun w => c_X7_addGrower l hJ1 (hN.o1x hE) c hg, rfl, rfl, hN.grow hE hI1 (fun r k hr => ?_) (hJ1.set (by omega) (by omega) hl6 up2_s ?_ ?_ ?_ ?_) ?_ ((hN.rx hE hT).addG (hN.zx hE hT) hg h12 hl6 hs30 eo e9) (hN.zx hE hT).addG (hN.bn.addG hg hl6 h0 c1 c2 eo e9) hN.dj (fun i hi => ?_)⟩
        · exact (up2_r (by omega)).trans ((up2_r (by omega)).trans ((up2_r (by omega)).trans (up2_r (by omega))))
        · exact (up2_k (by omega)).trans ((up2_r (by omega)).trans ((up2_r (by omega)).trans (up2_r (by omega))))
        · exact ((up2_k (by omega)).trans ((up2_r (by omega)).trans ((up2_r (by omega)).trans (up2_r (by omega))))).trans hJ1.eL
        · exact (up2_k (by omega)).trans ((up2_r (by omega)).trans ((up2_r (by omega)).trans (up2_r (by omega))))
        · exact fun k => (up2_r (by omega)).trans ((up2_r (by omega)).trans ((up2_r (by omega)).trans (up2_r (by omega))))
        · obtain ⟨x1, x2, x3, x4, x5, x6, x7, x8, x9⟩ := hN.x
          have hq : ∀ r, r ∈ P.1 → r ≠ 50 + ng → r ≠ 13 → r ∈ L := fun r q a b => (hE.2.1 r q).resolve_right (by omega)
          exact ⟨fun i a b q => x1 i (by omega) b (hq _ q (by omega) (by omega)), fun i a b q => x2 i a b (hq _ q (by omega) (by omega)), fun i a b q => x3 i a b (hq _ q (by omega) (by omega)), fun a => absurd a (by omega), fun a q => x5 a (hq _ q (by omega) (by omega)), fun a q => x6 a (hq _ q (by omega) (by omega)), fun a q => x7 a (hq _ q (by omega) (by omega)), (hE.1 _ x8).1, fun r a q => x9 r a (hq _ q (by omega) (by omega))⟩
        · rw [eo _ _ (by omega) (by omega) (by omega), eo _ _ (by omega) (by omega) (by omega)]; exact hN.hv i hi
      have h17 : ∀ (r1 : Int32) (P : PW), (r1 = nI ng ∧ PI G.2.2.2 P.1 P.2.1 P.2.2.1 P.2.2.2 (ng + 1) nh nl ns ow gx gy gw gd ∧ Ext L ad v o P (fun r => r = 50 + ng ∨ (r = 13 ∧ 13 ∉ L)) (fun r => r = 1 ∨ r = 13 ∨ r = 50 + ng) ∧ P.2.2.1 (50 + ng) = iG (fun _ => z32) (50 + ng) p0 (50 + ng)) → 170 ∈ P.1 ∧ P.2.1 170 = ad 170 := fun r1 P hp => hp.2.2.1.1 170 m170
      by_cases e : ng = 0
      · exact StA.more (rmK_ok rfl) (rmK_ok rfl) hN.m100 (h_addGrower l m0 (c_X5_addGrower_0 l hI e (hN.x.2.2.2.1 e) hg hE9 c) h17) key
      · exact StA.more (rmK_ok rfl) (rmK_ok rfl) hN.m100 (h_addGrower l m0 (c_X5_addGrower_m l hI (by omega) (by omega) hg hE9 c) h17) key
    · have e : ng = 6 := by omega
      exact StA.no (rmK_ok rfl) (rmK_ok rfl) hN (by decide) (h_addGrower_xIS l m0 (x_X5_addGrower_2 l hst9 hI c e)) (c_X7_addGrower_2 l hJ hO1 c e)
  · exact StA.no (rmK_ok rfl) (rmK_ok rfl) hN (by decide) (h_addGrower_xIA l m0 (x_X5_addGrower_1 l hst9 hI (fIn_n c))) (c_X7_addGrower_1 l hJ hO1 (fIn_n c))

set_option maxHeartbeats 2000000 in
theorem st_addLayer (l : Launch) (hst9 : l.stackTraces = false) {G : GG} {n : Int} {L : List Nat} {ad : Nat → Nat} {v : Nat → Nat → Int32} {o : Nat → Nat → Option Nat} {w : Nat → Int64} {ng nh nl ns : Nat} {ow gx gy gw gd : Nat → Nat} (hN : INV G.2.2.2 n L ad v o ng nh nl ns ow gx gy gw gd) (h0 : 0 ≤ n) (hn2 : n ≤ 600) (p0 p1 p2 : Int32) : StA l G n L ad v o w yL_addLayer cL_addLayer 6 [(0, 12, 15, 13), (0, 12, 19, 15)] [.ref (ad 0), .int p0, .int p1, .int p2, .ref (ad 170)] yX7_addLayer cX7_addLayer 5 .int [.ref (ad 100), .int p0, .int p1, .int p2] Int32.toInt64 := by
  have hI := hN.p; have hJ := hN.j; have hO1 := hN.o1; have hg6 := hI.g6; have h12 := hI.h12; have hl6 := hI.l6; have hs30 := hI.s30; have hZ := hI.z; have m0 := hN.m0; have m170 := hN.m170
  by_cases c1 : fIn p0 0 100000 = 1
  · by_cases c2 : fIn p1 1 100000 = 1
    · by_cases c3 : fIn p2 1 100 = 1
      · rcases Nat.lt_or_ge nl 6 with hg | hg
        · obtain ⟨b0, b1⟩ := fIn_t (b := 1) (c := 100000) (by omega) (by omega) (by omega) (by omega) c2
          obtain ⟨s0, s1⟩ := fIn_t (b := 1) (c := 100) (by omega) (by omega) (by omega) (by omega) c3
          have hE9 : 80 + nl ∉ L := hN.x.2.2.1 nl (Nat.le_refl _) hg
          have key : ∀ (r1 : Int32) (P : PW), (r1 = nI nl ∧ PI G.2.2.2 P.1 P.2.1 P.2.2.1 P.2.2.2 ng nh (nl + 1) ns ow gx gy gw gd ∧ Ext L ad v o P (fun r => r = 80 + nl ∨ (r = 15 ∧ 15 ∉ L)) (fun r => r = 3 ∨ r = 15 ∨ r = 80 + nl) ∧ P.2.2.1 (80 + nl) = iL (fun _ => z32) (80 + nl) p0 p1 p2 (80 + nl)) →
              (∀ r, r ∈ L → r ∈ P.1 ∧ P.2.1 r = ad r) ∧ ∃ (uM : Nat → Nat → Int32) (rM : Int32), (∀ w, CtI l G P.1 P.2.1 P.2.2.1 P.2.2.2 w yX7_addLayer cX7_addLayer 5 .int ({ frames := 1, cells := 1, slots := 5, locals := 30 }) [.ref (P.2.1 100), .int p0, .int p1, .int p2] (fun r u => r = rM ∧ u = uM)) ∧ uM 100 0 = 0 ∧ r1.toInt64 = rM.toInt64 ∧ INVe G.2.2.2 (n + 1) P.1 P.2.1 uM P.2.2.2 := fun r1 P hp => by
            obtain ⟨rfl, hI1, hE, e9⟩ := hp
            have hT : ∀ r, 100 ≤ r → ¬ (r = 3 ∨ r = 15 ∨ r = 80 + nl) := fun r hr => by omega
            have hJ1 := hJ.ext hE hT
            have eo : ∀ r k, r ≠ 3 → r ≠ 15 → r ≠ 80 + nl → P.2.2.1 r k = v r k := fun r k a b d => by rw [hE.2.2.2 r (by omega)]
            have hq : ∀ r, r ∈ P.1 → r ≠ 80 + nl → r ≠ 15 → r ∈ L := fun r q a b => (hE.2.1 r q).resolve_right (by omega)
            have f0 : ∀ r k, rAddL P.2.2.1 nl (own5 p0 p1 p2 (2 * p1) 0) r k = if r = 101 ∧ k = 11 then nI (nl + 1) else if r = 122 ∧ 5 * nl ≤ k ∧ k < 5 * nl + 5 then (own5 p0 p1 p2 (2 * p1) 0) (k - 5 * nl) else if r = 100 ∧ k = 0 then 0 else P.2.2.1 r k := fun r k => rfl
            have f1 : ∀ r k, r ≠ 122 → r ≠ 100 → ¬ (r = 101 ∧ k = 11) → rAddL P.2.2.1 nl (own5 p0 p1 p2 (2 * p1) 0) r k = P.2.2.1 r k := fun r k a b d => by rw [f0, if_neg d, if_neg (by omega), if_neg (by omega)]
            refine ⟨hE.1, rAddL P.2.2.1 nl (own5 p0 p1 p2 (2 * p1) 0), nI nl, fun w => c_X7_addLayer l hJ1 (hN.o1x hE) (fun q => hN.hi 182 (by omega) (hq _ q (by omega) (by omega))) c1 c2 c3 hg, by rw [f0, if_neg (by omega), if_neg (by omega), if_pos ⟨rfl, rfl⟩], rfl, hN.grow hE hI1 (fun r k hr => f1 r k (by omega) (by omega) (by omega)) (hJ1.set (Nat.le_refl _) hg6 (by omega) ((f1 _ _ (by omega) (by omega) (by omega)).trans hJ1.eG) (f1 _ _ (by omega) (by omega) (by omega)) (by rw [f0, if_pos ⟨rfl, rfl⟩]) (f1 _ _ (by omega) (by omega) (by omega)) (fun k => f1 _ _ (by omega) (by omega) (by omega))) ?_ ((hN.rx hE hT).addL hg6 h12 hg hs30 eo e9) (hN.zx hE hT).addL ((hN.bn.addL hg6 hg (by omega) b1 (by omega) s1 eo e9).mono (by omega)) hN.dj (fun i hi => ?_)⟩
            · obtain ⟨x1, x2, x3, x4, x5, x6, x7, x8, x9⟩ := hN.x
              exact ⟨fun i a b q => x1 i a b (hq _ q (by omega) (by omega)), fun i a b q => x2 i a b (hq _ q (by omega) (by omega)), fun i a b q => x3 i (by omega) b (hq _ q (by omega) (by omega)), fun a q => x4 a (hq _ q (by omega) (by omega)), fun a q => x5 a (hq _ q (by omega) (by omega)), fun a => absurd a (by omega), fun a q => x7 a (hq _ q (by omega) (by omega)), (hE.1 _ x8).1, fun r a q => x9 r a (hq _ q (by omega) (by omega))⟩
            · rw [eo _ _ (by omega) (by omega) (by omega), eo _ _ (by omega) (by omega) (by omega)]; exact hN.hv i hi
          have h17 : ∀ (r1 : Int32) (P : PW), (r1 = nI nl ∧ PI G.2.2.2 P.1 P.2.1 P.2.2.1 P.2.2.2 ng nh (nl + 1) ns ow gx gy gw gd ∧ Ext L ad v o P (fun r => r = 80 + nl ∨ (r = 15 ∧ 15 ∉ L)) (fun r => r = 3 ∨ r = 15 ∨ r = 80 + nl) ∧ P.2.2.1 (80 + nl) = iL (fun _ => z32) (80 + nl) p0 p1 p2 (80 + nl)) → 170 ∈ P.1 ∧ P.2.1 170 = ad 170 := fun r1 P hp => hp.2.2.1.1 170 m170
          by_cases e : nl = 0
          · exact StA.more (rmK_ok rfl) (rmK_ok rfl) hN.m100 (h_addLayer l m0 (c_X5_addLayer_0 l hI e (hN.x.2.2.2.2.2.1 e) hg hE9 c1 c2 c3) h17) key
          · exact StA.more (rmK_ok rfl) (rmK_ok rfl) hN.m100 (h_addLayer l m0 (c_X5_addLayer_m l hI (by omega) (by omega) hg hE9 c1 c2 c3) h17) key
        · have e : nl = 6 := by omega
          exact StA.no (rmK_ok rfl) (rmK_ok rfl) hN (by decide) (h_addLayer_xIS l m0 (x_X5_addLayer_2 l hst9 hI c1 c2 c3 e)) (c_X7_addLayer_2 l hJ hO1 c1 c2 c3 e)
      · exact StA.no (rmK_ok rfl) (rmK_ok rfl) hN (by decide) (h_addLayer_xIA l m0 (x_X5_addLayer_1c l hst9 hI c1 c2 (fIn_n c3))) (c_X7_addLayer_1c l hJ hO1 c1 c2 (fIn_n c3))
    · exact StA.no (rmK_ok rfl) (rmK_ok rfl) hN (by decide) (h_addLayer_xIA l m0 (x_X5_addLayer_1b l hst9 hI c1 (fIn_n c2))) (c_X7_addLayer_1b l hJ hO1 c1 (fIn_n c2))
  · exact StA.no (rmK_ok rfl) (rmK_ok rfl) hN (by decide) (h_addLayer_xIA l m0 (x_X5_addLayer_1a l hst9 hI (fIn_n c1))) (c_X7_addLayer_1a l hJ hO1 (fIn_n c1))
