/-! one call: those that only tell -/
set_option maxHeartbeats 2000000 in
theorem st_count (l : Launch) (hst9 : l.stackTraces = false) {G : GG} {n : Int} {L : List Nat} {ad : Nat → Nat} {v : Nat → Nat → Int32} {o : Nat → Nat → Option Nat} {w : Nat → Int64} {ng nh nl ns : Nat} {ow gx gy gw gd : Nat → Nat} (hN : INV G.2.2.2 n L ad v o ng nh nl ns ow gx gy gw gd) (h0 : 0 ≤ n) (hn2 : n ≤ 600) (p0 : Int32) : StA l G n L ad v o w yL_count cL_count 4 [(0, 9, 12, 21)] [.ref (ad 0), .int p0, .ref (ad 170)] yX7_count cX7_count 2 .int [.ref (ad 100), .int p0] Int32.toInt64 := by
  have hI := hN.p; have hJ := hN.j; have hO1 := hN.o1; have hg6 := hI.g6; have h12 := hI.h12; have hl6 := hI.l6; have hs30 := hI.s30; have hZ := hI.z; have m0 := hN.m0; have m170 := hN.m170
  by_cases c : fIn p0 0 10 = 1
  · obtain ⟨what, rfl, hw⟩ := in_nat' (n := 11) (by omega) (by decide) c
    exact StA.yes (rmK_ok rfl) (rmK_ok rfl) (h_count l m0 (CtI.w (c_X5_count l hI hw)) (hk_same m170)) (fun w => c_X7_count l hJ hO1 (hN.hi 184 (by omega)) hw) up2_s (congrArg Int32.toInt64 (tCo_eq hI.eS hN.rtz hN.xtz)) hN.te
  · exact StA.no (rmK_ok rfl) (rmK_ok rfl) hN (by decide) (h_count_xIO l m0 (x_X5_count_1 l hst9 hI (fIn_n c))) (c_X7_count_1 l hJ hO1 (fIn_n c))

set_option maxHeartbeats 2000000 in
theorem st_layer (l : Launch) (hst9 : l.stackTraces = false) {G : GG} {n : Int} {L : List Nat} {ad : Nat → Nat} {v : Nat → Nat → Int32} {o : Nat → Nat → Option Nat} {w : Nat → Int64} {ng nh nl ns : Nat} {ow gx gy gw gd : Nat → Nat} (hN : INV G.2.2.2 n L ad v o ng nh nl ns ow gx gy gw gd) (h0 : 0 ≤ n) (hn2 : n ≤ 600) (p0 p1 : Int32) : StA l G n L ad v o w yL_layer cL_layer 5 [(0, 10, 13, 21)] [.ref (ad 0), .int p0, .int p1, .ref (ad 170)] yX7_layer cX7_layer 3 .int [.ref (ad 100), .int p0, .int p1] Int32.toInt64 := by
  have hI := hN.p; have hJ := hN.j; have hO1 := hN.o1; have hg6 := hI.g6; have h12 := hI.h12; have hl6 := hI.l6; have hs30 := hI.s30; have hZ := hI.z; have m0 := hN.m0; have m170 := hN.m170
  by_cases c : fIn p0 0 (nI nl - 1) = 1
  · obtain ⟨k, rfl, hk⟩ := in_nat (by omega) c
    by_cases d : fIn p1 0 4 = 1
    · obtain ⟨what, rfl, hw⟩ := in_nat' (n := 5) (by omega) (by decide) d
      exact StA.yes (rmK_ok rfl) (rmK_ok rfl) (h_layer l m0 (CtI.w (c_X5_layer l hI hk hw)) (hk_same m170)) (fun w => c_X7_layer l hJ hO1 hk hw) up2_s (congrArg Int32.toInt64 (tLa_eq hk hw hN.r)) hN.te
    · exact StA.no (rmK_ok rfl) (rmK_ok rfl) hN (by decide) (h_layer_xIO l m0 (x_X5_layer_1b l hst9 hI hk (fIn_n d))) (c_X7_layer_1b l hJ hO1 hk (fIn_n d))
  · exact StA.no (rmK_ok rfl) (rmK_ok rfl) hN (by decide) (h_layer_xIO l m0 (x_X5_layer_1a l hst9 hI (fIn_n c))) (c_X7_layer_1a l hJ hO1 (fIn_n c))

set_option maxHeartbeats 2000000 in
theorem st_told (l : Launch) (hst9 : l.stackTraces = false) {G : GG} {n : Int} {L : List Nat} {ad : Nat → Nat} {v : Nat → Nat → Int32} {o : Nat → Nat → Option Nat} {w : Nat → Int64} {ng nh nl ns : Nat} {ow gx gy gw gd : Nat → Nat} (hN : INV G.2.2.2 n L ad v o ng nh nl ns ow gx gy gw gd) (h0 : 0 ≤ n) (hn2 : n ≤ 600) (p0 p1 : Int32) : StA l G n L ad v o w yL_told cL_told 5 [(0, 10, 13, 21)] [.ref (ad 0), .int p0, .int p1, .ref (ad 170)] yX7_told cX7_told 3 .int [.ref (ad 100), .int p0, .int p1] Int32.toInt64 := by
  have hI := hN.p; have hJ := hN.j; have hO1 := hN.o1; have hg6 := hI.g6; have h12 := hI.h12; have hl6 := hI.l6; have hs30 := hI.s30; have hZ := hI.z; have m0 := hN.m0; have m170 := hN.m170
  by_cases c : fIn p0 0 (nI ns - 1) = 1
  · obtain ⟨k, rfl, hk⟩ := in_nat (by omega) c
    by_cases d : fIn p1 0 5 = 1
    · obtain ⟨what, rfl, hw⟩ := in_nat' (n := 6) (by omega) (by decide) d
      exact StA.yes (rmK_ok rfl) (rmK_ok rfl) (h_told l m0 (CtI.w (c_X5_told l hI hk hw)) (hk_same m170)) (fun w => c_X7_told l hJ hO1 hk hw) up2_s (congrArg Int32.toInt64 (hN.r.2.2.2.2.2.2.1 k hk what hw)) hN.te
    · exact StA.no (rmK_ok rfl) (rmK_ok rfl) hN (by decide) (h_told_xIO l m0 (x_X5_told_1b l hst9 hI hk (fIn_n d))) (c_X7_told_1b l hJ hO1 hk (fIn_n d))
  · exact StA.no (rmK_ok rfl) (rmK_ok rfl) hN (by decide) (h_told_xIO l m0 (x_X5_told_1a l hst9 hI (fIn_n c))) (c_X7_told_1a l hJ hO1 (fIn_n c))

set_option maxHeartbeats 2000000 in
theorem st_grower (l : Launch) (hst9 : l.stackTraces = false) {G : GG} {n : Int} {L : List Nat} {ad : Nat → Nat} {v : Nat → Nat → Int32} {o : Nat → Nat → Option Nat} {w : Nat → Int64} {ng nh nl ns : Nat} {ow gx gy gw gd : Nat → Nat} (hN : INV G.2.2.2 n L ad v o ng nh nl ns ow gx gy gw gd) (h0 : 0 ≤ n) (hn2 : n ≤ 600) (p0 p1 : Int32) : StA l G n L ad v o w yL_grower cL_grower 5 [(0, 10, 13, 21)] [.ref (ad 0), .int p0, .int p1, .ref (ad 170)] yX7_grower cX7_grower 3 .int [.ref (ad 100), .int p0, .int p1] Int32.toInt64 := by
  have hI := hN.p; have hJ := hN.j; have hO1 := hN.o1; have hg6 := hI.g6; have h12 := hI.h12; have hl6 := hI.l6; have hs30 := hI.s30; have hZ := hI.z; have m0 := hN.m0; have m170 := hN.m170
  by_cases c : fIn p0 0 (nI ng - 1) = 1
  · obtain ⟨g, rfl, hg⟩ := in_nat (by omega) c
    by_cases d : fIn p1 0 9 = 1
    · obtain ⟨what, rfl, hw⟩ := in_nat' (n := 10) (by omega) (by decide) d
      exact StA.yes (rmK_ok rfl) (rmK_ok rfl) (h_grower l m0 (CtI.w (c_X5_grower l hI hg hw)) (hk_same m170)) (fun w => c_X7_grower l hJ hO1 (hN.hi 183 (by omega)) hg hw) up2_s (congrArg Int32.toInt64 (tGr_eq hZ hg6 hg hN.rtz hN.xtz)) hN.te
    · exact StA.no (rmK_ok rfl) (rmK_ok rfl) hN (by decide) (h_grower_xIO l m0 (x_X5_grower_1b l hst9 hI hg (fIn_n d))) (c_X7_grower_1b l hJ hO1 hg (fIn_n d))
  · exact StA.no (rmK_ok rfl) (rmK_ok rfl) hN (by decide) (h_grower_xIO l m0 (x_X5_grower_1a l hst9 hI (fIn_n c))) (c_X7_grower_1a l hJ hO1 (fIn_n c))

set_option maxHeartbeats 2000000 in
theorem st_house (l : Launch) (hst9 : l.stackTraces = false) {G : GG} {n : Int} {L : List Nat} {ad : Nat → Nat} {v : Nat → Nat → Int32} {o : Nat → Nat → Option Nat} {w : Nat → Int64} {ng nh nl ns : Nat} {ow gx gy gw gd : Nat → Nat} (hN : INV G.2.2.2 n L ad v o ng nh nl ns ow gx gy gw gd) (h0 : 0 ≤ n) (hn2 : n ≤ 600) (p0 p1 : Int32) : StA l G n L ad v o w yL_house cL_house 5 [(0, 10, 13, 21)] [.ref (ad 0), .int p0, .int p1, .ref (ad 170)] yX7_house cX7_house 3 .int [.ref (ad 100), .int p0, .int p1] Int32.toInt64 := by
  have hI := hN.p; have hJ := hN.j; have hO1 := hN.o1; have hg6 := hI.g6; have h12 := hI.h12; have hl6 := hI.l6; have hs30 := hI.s30; have hZ := hI.z; have m0 := hN.m0; have m170 := hN.m170
  by_cases c : fIn p0 0 (nI nh - 1) = 1
  · obtain ⟨h, rfl, hh⟩ := in_nat (by omega) c
    by_cases d : fIn p1 0 10 = 1
    · obtain ⟨what, rfl, hw⟩ := in_nat' (n := 11) (by omega) (by decide) d
      exact StA.yes (rmK_ok rfl) (rmK_ok rfl) (h_house l m0 (CtI.w (c_X5_house l hI hh hw)) (hk_same m170)) (fun w => c_X7_house l hJ hO1 hh hw) up2_s (congrArg Int32.toInt64 (tHo_eq h12 hh hw hN.rtz hN.xtz)) hN.te
    · exact StA.no (rmK_ok rfl) (rmK_ok rfl) hN (by decide) (h_house_xIO l m0 (x_X5_house_1b l hst9 hI hh (fIn_n d))) (c_X7_house_1b l hJ hO1 hh (fIn_n d))
  · exact StA.no (rmK_ok rfl) (rmK_ok rfl) hN (by decide) (h_house_xIO l m0 (x_X5_house_1a l hst9 hI (fIn_n c))) (c_X7_house_1a l hJ hO1 (fIn_n c))

set_option maxHeartbeats 2000000 in
theorem st_pane (l : Launch) (hst9 : l.stackTraces = false) {G : GG} {n : Int} {L : List Nat} {ad : Nat → Nat} {v : Nat → Nat → Int32} {o : Nat → Nat → Option Nat} {w : Nat → Int64} {ng nh nl ns : Nat} {ow gx gy gw gd : Nat → Nat} (hN : INV G.2.2.2 n L ad v o ng nh nl ns ow gx gy gw gd) (h0 : 0 ≤ n) (hn2 : n ≤ 600) (p0 p1 : Int32) : StA l G n L ad v o w yL_pane cL_pane 5 [(0, 10, 13, 21)] [.ref (ad 0), .int p0, .int p1, .ref (ad 170)] yX7_pane cX7_pane 4 .int [.ref (ad 100), .int p0, .int p1] Int32.toInt64 := by
  have hI := hN.p; have hJ := hN.j; have hO1 := hN.o1; have hg6 := hI.g6; have h12 := hI.h12; have hl6 := hI.l6; have hs30 := hI.s30; have hZ := hI.z; have m0 := hN.m0; have m170 := hN.m170
  by_cases c : fIn p0 0 19 = 1
  · obtain ⟨X, rfl, hX⟩ := in_nat' (n := 20) (by omega) (by decide) c
    by_cases d : fIn p1 0 19 = 1
    · obtain ⟨Y, rfl, hY⟩ := in_nat' (n := 20) (by omega) (by decide) d
      by_cases e : ∃ h, h < nh ∧ inH gx gy gw gd h X Y
      · obtain ⟨h, hh, hin⟩ := e
        have hat := rAt_some hZ (by omega) (by omega) hh hin (fun h' hh' b => inH_one hN.dj hh hh' hin b)
        obtain ⟨ka, kb⟩ := inH_cel hin
        have hp := (hN.r.2.2.2.1 h _ hh ka).1
        rw [kb, ← Nat.add_assoc] at hp
        obtain ⟨g1, g2, g3, g4⟩ := hin
        exact StA.yes (rmK_ok rfl) (rmK_ok rfl) (h_pane l m0 (CtI.w (c_X5_pane l hI hX hY)) (hk_same m170)) (fun w => c_X7_pane l hJ hO1 hX hY hh hat g1 g2 g3 g4) up2_s (congrArg Int32.toInt64 hp) hN.te
      · have hno : ∀ h, h < nh → ¬ inH gx gy gw gd h X Y := fun h hh q => e ⟨h, hh, q⟩
        exact StA.yes (rmK_ok rfl) (rmK_ok rfl) (h_pane l m0 (CtI.w (c_X5_pane l hI hX hY)) (hk_same m170)) (fun w => c_X7_pane_n l hJ hO1 hX hY (rAt_none hZ (by omega) (by omega) hno)) up2_s (congrArg Int32.toInt64 (hN.r.2.2.2.2.2.2.2 _ (pane_out hZ hX hY hno))) hN.te
    · exact StA.no (rmK_ok rfl) (rmK_ok rfl) hN (by decide) (h_pane_xIO l m0 (x_X5_pane_1b l hst9 hI c (fIn_n d))) (c_X7_pane_1b l hJ hO1 c (fIn_n d))
  · exact StA.no (rmK_ok rfl) (rmK_ok rfl) hN (by decide) (h_pane_xIO l m0 (x_X5_pane_1a l hst9 hI (fIn_n c))) (c_X7_pane_1a l hJ hO1 (fIn_n c))
