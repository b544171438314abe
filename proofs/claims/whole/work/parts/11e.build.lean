/-! one call: a house is built -/
section S4
variable {td : Nat} {n : Int} {L : List Nat} {ad : Nat → Nat} {v u : Nat → Nat → Int32} {o : Nat → Nat → Option Nat} {ng nh nl ns : Nat} {ow gx gy gw gd : Nat → Nat}
theorem PJ.house {g X Y W D : Nat} (h : PJ L ad v o 101 110 ng nh nl ns ow gx gy gw gd) (hn : nh < 12) (hg : g < ng) (w1 : 1 ≤ W) (w2 : W ≤ 6) (d1 : 1 ≤ D) (d2 : D ≤ 6) (x2 : X + W ≤ 20) (y2 : Y + D ≤ 20) (e0 : u 101 0 = v 101 0) (e6 : u 101 6 = nI (nh + 1)) (e11 : u 101 11 = v 101 11) (e13 : u 101 13 = v 101 13) (e7 : ∀ k, k < 7 * nh → u 117 k = v 117 k)
    (f0 : u 117 (7 * nh) = nI g) (f1 : u 117 (7 * nh + 1) = nI X) (f2 : u 117 (7 * nh + 2) = nI Y) (f3 : u 117 (7 * nh + 3) = nI W) (f4 : u 117 (7 * nh + 4) = nI D) : PJ L ad u o 101 110 ng (nh + 1) nl ns (up1 ow nh g) (up1 gx nh X) (up1 gy nh Y) (up1 gw nh W) (up1 gd nh D) := by
  obtain ⟨h1, ⟨b1, b2, b3, b4⟩, ⟨a1, a2, a3, a4⟩, hh⟩ := h
  refine ⟨h1, ⟨b1, hn, b3, b4⟩, ⟨e0.trans a1, e6, e11.trans a3, e13.trans a4⟩, fun i hi => ?_⟩
  by_cases e : i = nh
  · subst e
    rw [up1_s, up1_s, up1_s, up1_s, up1_s]
    exact ⟨⟨hg, x2, y2, w1, w2, d1, d2⟩, f0, f1, f2, f3, f4⟩
  · rw [up1_n e, up1_n e, up1_n e, up1_n e, up1_n e]
    obtain ⟨q1, q2, q3, q4, q5, q6⟩ := hh i (by omega)
    exact ⟨q1, (e7 _ (by omega)).trans q2, (e7 _ (by omega)).trans q3, (e7 _ (by omega)).trans q4, (e7 _ (by omega)).trans q5, (e7 _ (by omega)).trans q6⟩
theorem in_lo {a b : Int32} {c : Nat} (hc : c < 10000) (hb : b = iI c) (h : fIn a 1 b = 1) : ∃ m : Nat, a = nI m ∧ 1 ≤ m ∧ m ≤ c := by
  rw [hb] at h
  obtain ⟨i, rfl, h1, h2⟩ := in_int (b := 1) (c := c) (by omega) (by omega) (by omega) (by omega) h
  refine ⟨i.toNat, ?_, by omega, by omega⟩
  rw [← iI_n, show ((i.toNat : Nat) : Int) = i by omega]
theorem off_20 {W : Nat} (h : W ≤ 20) : (20 : Int32) - nI W = nI (21 - W) - 1 := by
  show nI 20 - nI W = nI (21 - W) - nI 1
  rw [nI_sub h, nI_sub (by omega)]
  congr 1
  omega
theorem not_ov {X Y W D : Nat} (h : ¬ ∃ i, i < nh ∧ (gx i < X + W ∧ X < gx i + gw i ∧ gy i < Y + D ∧ Y < gy i + gd i)) : Nov gx gy gw gd nh X Y W D := fun i hi q => h ⟨i, hi, q⟩
theorem rfree_12 {X Y W D : Nat} : rFree gx gy gw gd 12 X Y W D = 0 := free_0
end S4

set_option maxHeartbeats 4000000 in
theorem st_build (l : Launch) (hst9 : l.stackTraces = false) {G : GG} {n : Int} {L : List Nat} {ad : Nat → Nat} {v : Nat → Nat → Int32} {o : Nat → Nat → Option Nat} {w : Nat → Int64} {ng nh nl ns : Nat} {ow gx gy gw gd : Nat → Nat} (hN : INV G.2.2.2 n L ad v o ng nh nl ns ow gx gy gw gd) (h0 : 0 ≤ n) (hn2 : n ≤ 600) (p0 p1 p2 p3 p4 p5 p6 : Int32) : StA l G n L ad v o w yL_build cL_build 10 [(0, 20, 23, 21), (0, 20, 27, 13), (0, 20, 31, 15)] [.ref (ad 0), .int p0, .int p1, .int p2, .int p3, .int p4, .int p5, .int p6, .ref (ad 170)] yX7_build cX7_build 10 .int [.ref (ad 100), .int p0, .int p1, .int p2, .int p3, .int p4, .int p5, .int p6] Int32.toInt64 := by
  have hI := hN.p; have hJ := hN.j; have hO1 := hN.o1; have hg6 := hI.g6; have h12 := hI.h12; have hl6 := hI.l6; have hs30 := hI.s30; have hZ := hI.z; have m0 := hN.m0; have m170 := hN.m170
  by_cases c : fIn p0 0 (nI ng - 1) = 1
  · obtain ⟨g, rfl, hg⟩ := in_nat (by omega) c
    by_cases h1 : fIn p3 1 6 = 1
    · by_cases h2 : fIn p4 1 6 = 1
      · by_cases h3 : fIn p1 0 (20 - p3) = 1
        · by_cases h4 : fIn p2 0 (20 - p4) = 1
          · by_cases h5 : fIn p5 1 9 = 1
            · by_cases h6 : fIn p6 1 1000 = 1
              · obtain ⟨W, rfl, w1, w2⟩ := in_lo (c := 6) (by omega) rfl h1
                obtain ⟨D, rfl, d1, d2⟩ := in_lo (c := 6) (by omega) rfl h2
                obtain ⟨X, rfl, hX⟩ := in_nat' (n := 21 - W) (by omega) (off_20 (by omega)) h3
                obtain ⟨Y, rfl, hY⟩ := in_nat' (n := 21 - D) (by omega) (off_20 (by omega)) h4
                obtain ⟨V, rfl, v1, v2⟩ := in_lo (c := 1000) (by omega) rfl h6
                have x2 : X + W ≤ 20 := by omega
                have y2 : Y + D ≤ 20 := by omega
                by_cases e : ∃ i, i < nh ∧ (gx i < X + W ∧ X < gx i + gw i ∧ gy i < Y + D ∧ Y < gy i + gd i)
                · obtain ⟨i, hi, hov⟩ := e
                  have k7 : fBuilt v (nI X) (nI Y) (nI W) (nI D) nh = 1 := built_n hZ (hN.xtz (k := 0) (z := 0)) (by omega) (by omega) w2 d2 hi hov
                  have k9 : rFree gx gy gw gd nh X Y W D = 0 := by
                    by_cases e12 : nh = 12
                    · rw [e12]; exact rfree_12
                    · exact rfree_n hZ hN.dj (by omega) w1 d1 x2 y2 hi hov
                  exact StA.no (rmK_ok rfl) (rmK_ok rfl) hN (by decide) (h_build_xIS l m0 (x_X5_build_3a l hst9 hI hg h1 h2 h3 h4 h5 h6 k7)) (c_X7_build_3 l hJ hO1 hg h1 h2 h3 h4 h5 h6 w1 w2 d1 d2 (by omega) (by omega) k9)
                · have hNo := not_ov e
                  have k7 : fBuilt v (nI X) (nI Y) (nI W) (nI D) nh = 0 := built_y hZ (hN.xtz (k := 0) (z := 0)) (by omega) (by omega) w2 d2 hNo
                  rcases Nat.lt_or_ge nh 12 with h8 | h8
                  · have k9 : rFree gx gy gw gd nh X Y W D = 1 := rfree_y hZ h8 w1 x2 y2 hNo
                    have hE9 : 60 + nh ∉ L := hN.x.2.1 nh (Nat.le_refl _) h8
                    have key : ∀ (r1 : Int32) (P : PW), (r1 = nI nh ∧ PI G.2.2.2 P.1 P.2.1 P.2.2.1 P.2.2.2 ng (nh + 1) nl ns (up1 ow nh g) (up1 gx nh X) (up1 gy nh Y) (up1 gw nh W) (up1 gd nh D) ∧ Ext L ad v o P (fun r => r = 60 + nh ∨ ((r = 14 ∧ nh < 10 ∨ r = 16 ∧ 10 ≤ nh) ∧ r ∉ L)) (fun r => r = 2 ∨ r = 14 ∨ r = 16 ∨ r = 60 + nh ∨ r = 4) ∧ P.2.2.1 (60 + nh) = iH (fun _ => z32) (60 + nh) (nI g) (nI X) (nI Y) (nI W) (nI D) p5 (nI V) (60 + nh) ∧ P.2.2.1 4 = mkW v (up1 gx nh X) (up1 gy nh Y) (up1 gw nh W) (up1 gd nh D) nh 4) →
                        (∀ r, r ∈ L → r ∈ P.1 ∧ P.2.1 r = ad r) ∧ ∃ (uM : Nat → Nat → Int32) (rM : Int32), (∀ w, CtI l G P.1 P.2.1 P.2.2.1 P.2.2.2 w yX7_build cX7_build 10 .int ({ frames := 2, cells := 1, slots := 7, locals := 47 }) [.ref (P.2.1 100), .int (nI g), .int (nI X), .int (nI Y), .int (nI W), .int (nI D), .int p5, .int (nI V)] (fun r u => r = rM ∧ u = uM)) ∧ uM 100 0 = 0 ∧ r1.toInt64 = rM.toInt64 ∧ INVe G.2.2.2 (n + 1) P.1 P.2.1 uM P.2.2.2 := fun r1 P hp => by
                      obtain ⟨rfl, hI1, hE, e9, e4⟩ := hp
                      have hT : ∀ r, 100 ≤ r → ¬ (r = 2 ∨ r = 14 ∨ r = 16 ∨ r = 60 + nh ∨ r = 4) := fun r hr => by omega
                      have hJ1 := hJ.ext hE hT
                      have eo : ∀ r k, r ≠ 2 → r ≠ 14 → r ≠ 16 → r ≠ 60 + nh → r ≠ 4 → P.2.2.1 r k = v r k := fun r k a b c d e => by rw [hE.2.2.2 r (by omega)]
                      have hq : ∀ r, r ∈ P.1 → r ≠ 60 + nh → ¬ (r = 14 ∧ nh < 10) → ¬ (r = 16 ∧ 10 ≤ nh) → r ∈ L := fun r q a b c => (hE.2.1 r q).resolve_right (by omega)
                      have f0 : ∀ r k, rBuild P.2.2.1 nh (own7 (nI g) (nI X) (nI Y) (nI W) (nI D) p5 (nI V)) r k = if r = 101 ∧ k = 6 then nI (nh + 1) else if r = 117 ∧ 7 * nh ≤ k ∧ k < 7 * nh + 7 then (own7 (nI g) (nI X) (nI Y) (nI W) (nI D) p5 (nI V)) (k - 7 * nh) else if r = 100 ∧ k = 0 then 0 else P.2.2.1 r k := fun r k => rfl
                      have f1 : ∀ r k, ¬ (r = 117 ∧ 7 * nh ≤ k) → r ≠ 100 → ¬ (r = 101 ∧ k = 6) → rBuild P.2.2.1 nh (own7 (nI g) (nI X) (nI Y) (nI W) (nI D) p5 (nI V)) r k = P.2.2.1 r k := fun r k a b d => by rw [f0, if_neg d, if_neg (by omega), if_neg (by omega)]
                      have f2 : ∀ j, j < 7 → rBuild P.2.2.1 nh (own7 (nI g) (nI X) (nI Y) (nI W) (nI D) p5 (nI V)) 117 (7 * nh + j) = (own7 (nI g) (nI X) (nI Y) (nI W) (nI D) p5 (nI V)) j := fun j hj => by rw [f0, if_neg (by omega), if_pos (by omega), show 7 * nh + j - 7 * nh = j by omega]
                      have f3 : rBuild P.2.2.1 nh (own7 (nI g) (nI X) (nI Y) (nI W) (nI D) p5 (nI V)) 100 0 = 0 := by rw [f0, if_neg (by omega), if_neg (by omega), if_pos ⟨rfl, rfl⟩]
                      refine ⟨hE.1, rBuild P.2.2.1 nh (own7 (nI g) (nI X) (nI Y) (nI W) (nI D) p5 (nI V)), nI nh, fun w => c_X7_build l hJ1 (hN.o1x hE) (fun q => hN.hi 181 (by omega) (hq _ q (by omega) (by omega) (by omega))) hg h1 h2 h3 h4 h5 h6 w1 w2 d1 d2 (by omega) (by omega) k9 h8, f3, rfl, hN.grow hE hI1 (fun r k hr => f1 r k (by omega) (by omega) (by omega)) (hJ1.house h8 hg w1 w2 d1 d2 x2 y2 (f1 _ _ (by omega) (by omega) (by omega)) (by rw [f0, if_pos ⟨rfl, rfl⟩]) (f1 _ _ (by omega) (by omega) (by omega)) (f1 _ _ (by omega) (by omega) (by omega)) (fun k hk => f1 _ _ (by omega) (by omega) (by omega)) (f2 0 (by omega)) (f2 1 (by omega)) (f2 2 (by omega)) (f2 3 (by omega)) (f2 4 (by omega))) ?_ ((hN.rx hE hT).build (hN.zx hE hT) hZ hNo w1 w2 d2 x2 y2 hg6 h8 hl6 hs30 eo e9 e4) (hN.zx hE hT).build ((hN.bn.mono (by omega)).congr (eo _ _ (by omega) (by omega) (by omega) (by omega) (by omega)) (fun g k hg => eo _ _ (by omega) (by omega) (by omega) (by omega) (by omega)) (fun i k hi => eo _ _ (by omega) (by omega) (by omega) (by omega) (by omega))) (hN.dj.more hZ hNo w1 x2) (fun i hi => ?_)⟩
                      · obtain ⟨x1, x2, x3, x4, x5, x6, x7, x8, x9⟩ := hN.x
                        exact ⟨fun i a b q => x1 i a b (hq _ q (by omega) (by omega) (by omega)), fun i a b q => x2 i (by omega) b (hq _ q (by omega) (by omega) (by omega)), fun i a b q => x3 i a b (hq _ q (by omega) (by omega) (by omega)), fun a q => x4 a (hq _ q (by omega) (by omega) (by omega)), fun a => absurd a (by omega), fun a q => x6 a (hq _ q (by omega) (by omega) (by omega)), fun a q => x7 (by omega) (hq _ q (by omega) (by omega) (by omega)), (hE.1 _ x8).1, fun r a q => x9 r a (hq _ q (by omega) (by omega) (by omega))⟩
                      · by_cases ei : i = nh
                        · subst ei
                          rw [e9]
                          exact ⟨Or.inl (by simp [iH, up2_at, z32]), V, v1, v2, by simp [iH, up2_at]⟩
                        · rw [eo _ _ (by omega) (by omega) (by omega) (by omega) (by omega), eo _ _ (by omega) (by omega) (by omega) (by omega) (by omega)]; exact hN.hv i (by omega)
                    have h17 : ∀ (r1 : Int32) (P : PW), (r1 = nI nh ∧ PI G.2.2.2 P.1 P.2.1 P.2.2.1 P.2.2.2 ng (nh + 1) nl ns (up1 ow nh g) (up1 gx nh X) (up1 gy nh Y) (up1 gw nh W) (up1 gd nh D) ∧ Ext L ad v o P (fun r => r = 60 + nh ∨ ((r = 14 ∧ nh < 10 ∨ r = 16 ∧ 10 ≤ nh) ∧ r ∉ L)) (fun r => r = 2 ∨ r = 14 ∨ r = 16 ∨ r = 60 + nh ∨ r = 4) ∧ P.2.2.1 (60 + nh) = iH (fun _ => z32) (60 + nh) (nI g) (nI X) (nI Y) (nI W) (nI D) p5 (nI V) (60 + nh) ∧ P.2.2.1 4 = mkW v (up1 gx nh X) (up1 gy nh Y) (up1 gw nh W) (up1 gd nh D) nh 4) → 170 ∈ P.1 ∧ P.2.1 170 = ad 170 := fun r1 P hp => hp.2.2.1.1 170 m170
                    rcases (show nh = 0 ∨ (0 < nh ∧ nh < 10) ∨ nh = 10 ∨ 10 < nh by omega) with e | ⟨e, e'⟩ | e | e
                    · exact StA.more (rmK_ok rfl) (rmK_ok rfl) hN.m100 (h_build l m0 (c_X5_build_0 l hI e (hN.x.2.2.2.2.1 e) h8 hE9 hg h1 h2 h3 h4 h5 h6 k7 w1 w2 d1 d2 x2 y2) h17) key
                    · exact StA.more (rmK_ok rfl) (rmK_ok rfl) hN.m100 (h_build l m0 (c_X5_build_m l hI e e' h8 hE9 hg h1 h2 h3 h4 h5 h6 k7 w1 w2 d1 d2 x2 y2) h17) key
                    · exact StA.more (rmK_ok rfl) (rmK_ok rfl) hN.m100 (h_build l m0 (c_X5_build_g l hI e (hN.x.2.2.2.2.2.2.1 (by omega)) h8 hE9 hg h1 h2 h3 h4 h5 h6 k7 w1 w2 d1 d2 x2 y2) h17) key
                    · exact StA.more (rmK_ok rfl) (rmK_ok rfl) hN.m100 (h_build l m0 (c_X5_build_n l hI e h8 hE9 hg h1 h2 h3 h4 h5 h6 k7 w1 w2 d1 d2 x2 y2) h17) key
                  · have e12 : nh = 12 := by omega
                    have k9 : rFree gx gy gw gd nh X Y W D = 0 := by rw [e12]; exact rfree_12
                    exact StA.no (rmK_ok rfl) (rmK_ok rfl) hN (by decide) (h_build_xIS l m0 (x_X5_build_3b l hst9 hI hg h1 h2 h3 h4 h5 h6 k7 e12)) (c_X7_build_3 l hJ hO1 hg h1 h2 h3 h4 h5 h6 w1 w2 d1 d2 (by omega) (by omega) k9)
              · exact StA.no (rmK_ok rfl) (rmK_ok rfl) hN (by decide) (h_build_xIA l m0 (x_X5_build_2f l hst9 hI hg h1 h2 h3 h4 h5 (fIn_n h6))) (c_X7_build_2f l hJ hO1 hg h1 h2 h3 h4 h5 (fIn_n h6))
            · exact StA.no (rmK_ok rfl) (rmK_ok rfl) hN (by decide) (h_build_xIA l m0 (x_X5_build_2e l hst9 hI hg h1 h2 h3 h4 (fIn_n h5))) (c_X7_build_2e l hJ hO1 hg h1 h2 h3 h4 (fIn_n h5))
          · exact StA.no (rmK_ok rfl) (rmK_ok rfl) hN (by decide) (h_build_xIA l m0 (x_X5_build_2d l hst9 hI hg h1 h2 h3 (fIn_n h4))) (c_X7_build_2d l hJ hO1 hg h1 h2 h3 (fIn_n h4))
        · exact StA.no (rmK_ok rfl) (rmK_ok rfl) hN (by decide) (h_build_xIA l m0 (x_X5_build_2c l hst9 hI hg h1 h2 (fIn_n h3))) (c_X7_build_2c l hJ hO1 hg h1 h2 (fIn_n h3))
      · exact StA.no (rmK_ok rfl) (rmK_ok rfl) hN (by decide) (h_build_xIA l m0 (x_X5_build_2b l hst9 hI hg h1 (fIn_n h2))) (c_X7_build_2b l hJ hO1 hg h1 (fIn_n h2))
    · exact StA.no (rmK_ok rfl) (rmK_ok rfl) hN (by decide) (h_build_xIA l m0 (x_X5_build_2a l hst9 hI hg (fIn_n h1))) (c_X7_build_2a l hJ hO1 hg (fIn_n h1))
  · exact StA.no (rmK_ok rfl) (rmK_ok rfl) hN (by decide) (h_build_xIO l m0 (x_X5_build_1 l hst9 hI (fIn_n c))) (c_X7_build_1 l hJ hO1 (fIn_n c))
