/-! the law, case by case -/
set_option maxHeartbeats 4000000 in
set_option maxRecDepth 100000 in
theorem law_fund {p : Program} {l : Launch} {e : Env} {s : State} {m : MethodId} {below : List Frame} {meth : Method} {c : Code} {Q : State → Prop} {G : GG} {L : List Nat} {ad : Nat → Nat} {v : Nat → Nat → Int32} {o : Nat → Nat → Option Nat} {w : Nat → Int64} {H : Heap} {locs : List Loc} {ls : Array Slot} {cells slots B Ls i0 : Nat} {xs : Nat → Int32} {n : Int} {ng nh nl ns : Nat} {ow gx gy gw gd : Nat → Nat} (hst9 : l.stackTraces = false) (C0 : LAt p s m meth c B Ls xs G) (hL : Ls ≤ 4608) (hi : i0 + 8 < Ls) (hn0 : 0 ≤ n) (hn2 : n ≤ 600) (hN : INV G.2.2.2 n L ad v o ng nh nl ns ow gx gy gw gd) (hW : WD G L ad v o w s H) (hS : va_S (Ab G.2.2.1) s.heap H locs) (hl : lv_has ls 9 [(0, .ref B), (1, .ref (ad 0)), (2, .ref (ad 100)), (3, .ref (ad 170)), (4, .int (nI i0))]) (hf : cells + 200 ≤ 601024 ∧ slots + 2000 ≤ 7293034) (kk : LK p l e s m below meth c Q G B i0 (cells + 200) (slots + 2000) n (ad 0) (ad 100) (ad 170)) : W p l e room_1 s m #[Value.ref B] below meth c H locs cells slots Q (F0 m 767 ls []) := by
  obtain ⟨hx, hb, hr, hml, hown, hts, hX, hbl, hlocks, hE, h0e, hNC⟩ := C0
  have h0 : G.2.2.1 ≤ s.heap.size := Nat.le_of_eq h0e
  have hbA : ¬ Ab G.2.2.1 B := by rw [h0e]; exact Nat.not_le.mpr hbl
  obtain ⟨rm, post, ⟨f1, f2, f3, f4⟩, hH, hB⟩ := st_fund l hst9 hN hn0 hn2 (w := w) (xs (i0 + 1))
  refine lv_aload_n hx hb dL_law_767 rfl (lv_at hl 1 rfl) ?_
  refine lv_aload_n hx hb dL_law_768 rfl (lv_at hl 0 rfl) ?_
  refine lv_iload hx hb dL_law_769 (lv_at hl 4 rfl) ?_
  refine lv_iconst (v := 1) hx hb dL_law_771 (by decide) ?_
  refine lv_iadd hx hb dL_law_772 ?_
  refine q_sld hx hb hX hbl hbA hS hL hi (j := 1) rfl (by decide) dL_law_773 ?_
  refine lv_aload_n hx hb dL_law_774 rfl (lv_at hl 3 rfl) ?_
  refine q_cH (n := 3) (As := [.ref (ad 0), .int (xs (i0 + 1)), .ref (ad 170)]) (rest := []) hx hb hml hts hown hE h0 hNC hW hS hH t_647 t_646 t_45 (by decide) (by decide +kernel) t_645 ⟨by show rm.frames + 1 ≤ 13; omega, by show 8 + (4 + 11) + rm.locals ≤ 508; omega⟩ rfl hl.1 (Nat.le_of_ble_eq_true rfl) dL_law_775 ⟨by show cells + rm.cells ≤ 601024; omega, by show slots + rm.slots ≤ 7293034; omega⟩ (fun k P H locs hp hW hS => ?_)
  obtain ⟨⟨L1, ad1, v1, o1⟩, w1⟩ := P
  obtain ⟨e1, rmM, postM, ⟨g1, g2, g3, g4⟩, hM, hU⟩ := hB _ _ hp
  dsimp only at e1 hM hU hW
  have e0 := (e1 0 hN.m0).2; have e100 := (e1 100 hN.m100).2; have e170 := (e1 170 hN.m170).2; have q100 := (e1 100 hN.m100).1; have q170 := (e1 170 hN.m170).1
  rw [← e0, ← e100, ← e170] at hl kk
  rw [← e100] at hM
  refine lv_istore (lv' := [(5, .int k), (0, .ref B), (1, .ref (ad1 0)), (2, .ref (ad1 100)), (3, .ref (ad1 170)), (4, .int (nI i0))]) hx hb dL_law_778 hl (by decide) rfl (fun ls hl => ?_)
  refine lv_aload_n hx hb dL_law_780 rfl (lv_at hl 3 rfl) ?_
  refine lv_aload_n hx hb dL_law_781 rfl (lv_at hl 1 rfl) ?_
  refine lv_iload hx hb dL_law_782 (lv_at hl 5 rfl) ?_
  refine lv_iconst (v := 1) hx hb dL_law_784 (by decide) ?_
  refine lv_iadd hx hb dL_law_785 ?_
  refine q_sld hx hb hX hbl hbA hS hL hi (j := 1) rfl (by decide) dL_law_786 ?_
  refine q_cVi (As := [.int (xs (i0 + 1))]) (rest := []) (r := 100) hx hb hml hts hown hE h0 hW hS hM mw_X7_fund q100 rfl k_8 t_1045 ⟨by show rmM.frames + 1 ≤ 13; omega, by show 8 + (2 + 11) + rmM.locals ≤ 508; omega⟩ rfl hl.1 (Nat.le_of_ble_eq_true rfl) dL_law_787 ⟨by show cells + rm.cells + rmM.cells ≤ 601024; omega, by show slots + rm.slots + rmM.slots ≤ 7293034; omega⟩ (fun b9 u H locs hp2 hW hS => ?_)
  obtain ⟨u1, u2, u3⟩ := hU _ _ hp2
  refine lv_istore (lv' := [(6, .int b9), (5, .int k), (0, .ref B), (1, .ref (ad1 0)), (2, .ref (ad1 100)), (3, .ref (ad1 170)), (4, .int (nI i0))]) hx hb dL_law_790 hl (by decide) rfl (fun ls hl => ?_)
  refine lv_aload_n hx hb dL_law_792 rfl (lv_at hl 4 rfl) ?_
  refine q_cViE (As := []) (rest := []) (r := 100) hx hb hml hts hown hE h0 hW hS (c_X7_thrown l q100) mw_X7_thrown q100 rfl k_8 t_953 ⟨Nat.le_of_ble_eq_true rfl, Nat.le_of_ble_eq_true rfl⟩ rfl hl.1 (Nat.le_of_ble_eq_true rfl) dL_law_793 ⟨by show cells + rm.cells + rmM.cells ≤ 601024; omega, by show slots + rm.slots + rmM.slots ≤ 7293034; omega⟩ ⟨rfl, rfl⟩ (fun H locs hW hS => ?_)
  refine lv_iload hx hb dL_law_796 (lv_at hl 1 rfl) ?_
  refine lv_icmp_eq (tgt := 803) hx hb dL_law_798 (by decide) (fun _ => ?_) (fun c1 => absurd u1 c1)
  refine lv_iload hx hb dL_law_803 (lv_at hl 1 rfl) ?_
  refine lv_if_ne (tgt := 820) hx hb dL_law_805 (by decide) (fun c2 => ?_) (fun c2 => ?_)
  · skip
    refine lv_goto (tgt := 1589) hx hb dL_law_820 (by decide) ?_
    refine W.widen (k := cells + 200) (n := slots + 2000) (by omega) (by omega) ?_
    exact kk L1 ad1 u o1 w1 H locs ls rfl rfl rfl u3 hW hS (lv_sub hl [2, 3, 4, 5, 6] rfl)
  · skip
    refine lv_aload_n hx hb dL_law_808 rfl (lv_at hl 5 rfl) ?_
    refine lv_iconst (v := 0) hx hb dL_law_809 (by decide) ?_
    refine q_lald hx hb hW q170 dL_law_810 ?_
    refine lv_iload hx hb dL_law_811 (lv_at hl 0 rfl) ?_
    refine lv_i2l (v := b9.toInt64) hx hb dL_law_813 rfl ?_
    refine W.lcmp hx hb dL_law_814 ?_
    refine lv_if_eq (tgt := 820) hx hb dL_law_815 (by decide) (fun _ => ?_) (fun c3 => absurd (lcmp_eq (u2 c2)) c3)
    refine lv_goto (tgt := 1589) hx hb dL_law_820 (by decide) ?_
    refine W.widen (k := cells + 200) (n := slots + 2000) (by omega) (by omega) ?_
    exact kk L1 ad1 u o1 w1 H locs ls rfl rfl rfl u3 hW hS (lv_sub hl [2, 3, 4, 5, 6] rfl)

set_option maxHeartbeats 4000000 in
set_option maxRecDepth 100000 in
theorem law_addLayer {p : Program} {l : Launch} {e : Env} {s : State} {m : MethodId} {below : List Frame} {meth : Method} {c : Code} {Q : State → Prop} {G : GG} {L : List Nat} {ad : Nat → Nat} {v : Nat → Nat → Int32} {o : Nat → Nat → Option Nat} {w : Nat → Int64} {H : Heap} {locs : List Loc} {ls : Array Slot} {cells slots B Ls i0 : Nat} {xs : Nat → Int32} {n : Int} {ng nh nl ns : Nat} {ow gx gy gw gd : Nat → Nat} (hst9 : l.stackTraces = false) (C0 : LAt p s m meth c B Ls xs G) (hL : Ls ≤ 4608) (hi : i0 + 8 < Ls) (hn0 : 0 ≤ n) (hn2 : n ≤ 600) (hN : INV G.2.2.2 n L ad v o ng nh nl ns ow gx gy gw gd) (hW : WD G L ad v o w s H) (hS : va_S (Ab G.2.2.1) s.heap H locs) (hl : lv_has ls 9 [(0, .ref B), (1, .ref (ad 0)), (2, .ref (ad 100)), (3, .ref (ad 170)), (4, .int (nI i0))]) (hf : cells + 200 ≤ 601024 ∧ slots + 2000 ≤ 7293034) (kk : LK p l e s m below meth c Q G B i0 (cells + 200) (slots + 2000) n (ad 0) (ad 100) (ad 170)) : W p l e room_1 s m #[Value.ref B] below meth c H locs cells slots Q (F0 m 823 ls []) := by
  obtain ⟨hx, hb, hr, hml, hown, hts, hX, hbl, hlocks, hE, h0e, hNC⟩ := C0
  have h0 : G.2.2.1 ≤ s.heap.size := Nat.le_of_eq h0e
  have hbA : ¬ Ab G.2.2.1 B := by rw [h0e]; exact Nat.not_le.mpr hbl
  obtain ⟨rm, post, ⟨f1, f2, f3, f4⟩, hH, hB⟩ := st_addLayer l hst9 hN hn0 hn2 (w := w) (xs (i0 + 1)) (xs (i0 + 2)) (xs (i0 + 3))
  refine lv_aload_n hx hb dL_law_823 rfl (lv_at hl 1 rfl) ?_
  refine lv_aload_n hx hb dL_law_824 rfl (lv_at hl 0 rfl) ?_
  refine lv_iload hx hb dL_law_825 (lv_at hl 4 rfl) ?_
  refine lv_iconst (v := 1) hx hb dL_law_827 (by decide) ?_
  refine lv_iadd hx hb dL_law_828 ?_
  refine q_sld hx hb hX hbl hbA hS hL hi (j := 1) rfl (by decide) dL_law_829 ?_
  refine lv_aload_n hx hb dL_law_830 rfl (lv_at hl 0 rfl) ?_
  refine lv_iload hx hb dL_law_831 (lv_at hl 4 rfl) ?_
  refine lv_iconst (v := 2) hx hb dL_law_833 (by decide) ?_
  refine lv_iadd hx hb dL_law_834 ?_
  refine q_sld hx hb hX hbl hbA hS hL hi (j := 2) rfl (by decide) dL_law_835 ?_
  refine lv_aload_n hx hb dL_law_836 rfl (lv_at hl 0 rfl) ?_
  refine lv_iload hx hb dL_law_837 (lv_at hl 4 rfl) ?_
  refine lv_iconst (v := 3) hx hb dL_law_839 (by decide) ?_
  refine lv_iadd hx hb dL_law_840 ?_
  refine q_sld hx hb hX hbl hbA hS hL hi (j := 3) rfl (by decide) dL_law_841 ?_
  refine lv_aload_n hx hb dL_law_842 rfl (lv_at hl 3 rfl) ?_
  refine q_cH (n := 5) (As := [.ref (ad 0), .int (xs (i0 + 1)), .int (xs (i0 + 2)), .int (xs (i0 + 3)), .ref (ad 170)]) (rest := []) hx hb hml hts hown hE h0 hNC hW hS hH t_657 t_656 t_45 (by decide) (by decide +kernel) t_655 ⟨by show rm.frames + 1 ≤ 13; omega, by show 8 + (6 + 11) + rm.locals ≤ 508; omega⟩ rfl hl.1 (Nat.le_of_ble_eq_true rfl) dL_law_843 ⟨by show cells + rm.cells ≤ 601024; omega, by show slots + rm.slots ≤ 7293034; omega⟩ (fun k P H locs hp hW hS => ?_)
  obtain ⟨⟨L1, ad1, v1, o1⟩, w1⟩ := P
  obtain ⟨e1, rmM, postM, ⟨g1, g2, g3, g4⟩, hM, hU⟩ := hB _ _ hp
  dsimp only at e1 hM hU hW
  have e0 := (e1 0 hN.m0).2; have e100 := (e1 100 hN.m100).2; have e170 := (e1 170 hN.m170).2; have q100 := (e1 100 hN.m100).1; have q170 := (e1 170 hN.m170).1
  rw [← e0, ← e100, ← e170] at hl kk
  rw [← e100] at hM
  refine lv_istore (lv' := [(5, .int k), (0, .ref B), (1, .ref (ad1 0)), (2, .ref (ad1 100)), (3, .ref (ad1 170)), (4, .int (nI i0))]) hx hb dL_law_846 hl (by decide) rfl (fun ls hl => ?_)
  refine lv_aload_n hx hb dL_law_848 rfl (lv_at hl 3 rfl) ?_
  refine lv_aload_n hx hb dL_law_849 rfl (lv_at hl 1 rfl) ?_
  refine lv_iload hx hb dL_law_850 (lv_at hl 5 rfl) ?_
  refine lv_iconst (v := 1) hx hb dL_law_852 (by decide) ?_
  refine lv_iadd hx hb dL_law_853 ?_
  refine q_sld hx hb hX hbl hbA hS hL hi (j := 1) rfl (by decide) dL_law_854 ?_
  refine lv_aload_n hx hb dL_law_855 rfl (lv_at hl 1 rfl) ?_
  refine lv_iload hx hb dL_law_856 (lv_at hl 5 rfl) ?_
  refine lv_iconst (v := 2) hx hb dL_law_858 (by decide) ?_
  refine lv_iadd hx hb dL_law_859 ?_
  refine q_sld hx hb hX hbl hbA hS hL hi (j := 2) rfl (by decide) dL_law_860 ?_
  refine lv_aload_n hx hb dL_law_861 rfl (lv_at hl 1 rfl) ?_
  refine lv_iload hx hb dL_law_862 (lv_at hl 5 rfl) ?_
  refine lv_iconst (v := 3) hx hb dL_law_864 (by decide) ?_
  refine lv_iadd hx hb dL_law_865 ?_
  refine q_sld hx hb hX hbl hbA hS hL hi (j := 3) rfl (by decide) dL_law_866 ?_
  refine q_cVi (As := [.int (xs (i0 + 1)), .int (xs (i0 + 2)), .int (xs (i0 + 3))]) (rest := []) (r := 100) hx hb hml hts hown hE h0 hW hS hM mw_X7_addLayer q100 rfl k_8 t_1050 ⟨by show rmM.frames + 1 ≤ 13; omega, by show 8 + (5 + 11) + rmM.locals ≤ 508; omega⟩ rfl hl.1 (Nat.le_of_ble_eq_true rfl) dL_law_867 ⟨by show cells + rm.cells + rmM.cells ≤ 601024; omega, by show slots + rm.slots + rmM.slots ≤ 7293034; omega⟩ (fun b9 u H locs hp2 hW hS => ?_)
  obtain ⟨u1, u2, u3⟩ := hU _ _ hp2
  refine lv_istore (lv' := [(6, .int b9), (5, .int k), (0, .ref B), (1, .ref (ad1 0)), (2, .ref (ad1 100)), (3, .ref (ad1 170)), (4, .int (nI i0))]) hx hb dL_law_870 hl (by decide) rfl (fun ls hl => ?_)
  refine lv_aload_n hx hb dL_law_872 rfl (lv_at hl 4 rfl) ?_
  refine q_cViE (As := []) (rest := []) (r := 100) hx hb hml hts hown hE h0 hW hS (c_X7_thrown l q100) mw_X7_thrown q100 rfl k_8 t_953 ⟨Nat.le_of_ble_eq_true rfl, Nat.le_of_ble_eq_true rfl⟩ rfl hl.1 (Nat.le_of_ble_eq_true rfl) dL_law_873 ⟨by show cells + rm.cells + rmM.cells ≤ 601024; omega, by show slots + rm.slots + rmM.slots ≤ 7293034; omega⟩ ⟨rfl, rfl⟩ (fun H locs hW hS => ?_)
  refine lv_iload hx hb dL_law_876 (lv_at hl 1 rfl) ?_
  refine lv_icmp_eq (tgt := 883) hx hb dL_law_878 (by decide) (fun _ => ?_) (fun c1 => absurd u1 c1)
  refine lv_iload hx hb dL_law_883 (lv_at hl 1 rfl) ?_
  refine lv_if_ne (tgt := 900) hx hb dL_law_885 (by decide) (fun c2 => ?_) (fun c2 => ?_)
  · skip
    refine lv_goto (tgt := 1589) hx hb dL_law_900 (by decide) ?_
    refine W.widen (k := cells + 200) (n := slots + 2000) (by omega) (by omega) ?_
    exact kk L1 ad1 u o1 w1 H locs ls rfl rfl rfl u3 hW hS (lv_sub hl [2, 3, 4, 5, 6] rfl)
  · skip
    refine lv_aload_n hx hb dL_law_888 rfl (lv_at hl 5 rfl) ?_
    refine lv_iconst (v := 0) hx hb dL_law_889 (by decide) ?_
    refine q_lald hx hb hW q170 dL_law_890 ?_
    refine lv_iload hx hb dL_law_891 (lv_at hl 0 rfl) ?_
    refine lv_i2l (v := b9.toInt64) hx hb dL_law_893 rfl ?_
    refine W.lcmp hx hb dL_law_894 ?_
    refine lv_if_eq (tgt := 900) hx hb dL_law_895 (by decide) (fun _ => ?_) (fun c3 => absurd (lcmp_eq (u2 c2)) c3)
    refine lv_goto (tgt := 1589) hx hb dL_law_900 (by decide) ?_
    refine W.widen (k := cells + 200) (n := slots + 2000) (by omega) (by omega) ?_
    exact kk L1 ad1 u o1 w1 H locs ls rfl rfl rfl u3 hW hS (lv_sub hl [2, 3, 4, 5, 6] rfl)

set_option maxHeartbeats 4000000 in
set_option maxRecDepth 100000 in
theorem law_layer {p : Program} {l : Launch} {e : Env} {s : State} {m : MethodId} {below : List Frame} {meth : Method} {c : Code} {Q : State → Prop} {G : GG} {L : List Nat} {ad : Nat → Nat} {v : Nat → Nat → Int32} {o : Nat → Nat → Option Nat} {w : Nat → Int64} {H : Heap} {locs : List Loc} {ls : Array Slot} {cells slots B Ls i0 : Nat} {xs : Nat → Int32} {n : Int} {ng nh nl ns : Nat} {ow gx gy gw gd : Nat → Nat} (hst9 : l.stackTraces = false) (C0 : LAt p s m meth c B Ls xs G) (hL : Ls ≤ 4608) (hi : i0 + 8 < Ls) (hn0 : 0 ≤ n) (hn2 : n ≤ 600) (hN : INV G.2.2.2 n L ad v o ng nh nl ns ow gx gy gw gd) (hW : WD G L ad v o w s H) (hS : va_S (Ab G.2.2.1) s.heap H locs) (hl : lv_has ls 9 [(0, .ref B), (1, .ref (ad 0)), (2, .ref (ad 100)), (3, .ref (ad 170)), (4, .int (nI i0))]) (hf : cells + 200 ≤ 601024 ∧ slots + 2000 ≤ 7293034) (kk : LK p l e s m below meth c Q G B i0 (cells + 200) (slots + 2000) n (ad 0) (ad 100) (ad 170)) : W p l e room_1 s m #[Value.ref B] below meth c H locs cells slots Q (F0 m 903 ls []) := by
  obtain ⟨hx, hb, hr, hml, hown, hts, hX, hbl, hlocks, hE, h0e, hNC⟩ := C0
  have h0 : G.2.2.1 ≤ s.heap.size := Nat.le_of_eq h0e
  have hbA : ¬ Ab G.2.2.1 B := by rw [h0e]; exact Nat.not_le.mpr hbl
  obtain ⟨rm, post, ⟨f1, f2, f3, f4⟩, hH, hB⟩ := st_layer l hst9 hN hn0 hn2 (w := w) (xs (i0 + 1)) (xs (i0 + 2))
  refine lv_aload_n hx hb dL_law_903 rfl (lv_at hl 1 rfl) ?_
  refine lv_aload_n hx hb dL_law_904 rfl (lv_at hl 0 rfl) ?_
  refine lv_iload hx hb dL_law_905 (lv_at hl 4 rfl) ?_
  refine lv_iconst (v := 1) hx hb dL_law_907 (by decide) ?_
  refine lv_iadd hx hb dL_law_908 ?_
  refine q_sld hx hb hX hbl hbA hS hL hi (j := 1) rfl (by decide) dL_law_909 ?_
  refine lv_aload_n hx hb dL_law_910 rfl (lv_at hl 0 rfl) ?_
  refine lv_iload hx hb dL_law_911 (lv_at hl 4 rfl) ?_
  refine lv_iconst (v := 2) hx hb dL_law_913 (by decide) ?_
  refine lv_iadd hx hb dL_law_914 ?_
  refine q_sld hx hb hX hbl hbA hS hL hi (j := 2) rfl (by decide) dL_law_915 ?_
  refine lv_aload_n hx hb dL_law_916 rfl (lv_at hl 3 rfl) ?_
  refine q_cH (n := 4) (As := [.ref (ad 0), .int (xs (i0 + 1)), .int (xs (i0 + 2)), .ref (ad 170)]) (rest := []) hx hb hml hts hown hE h0 hNC hW hS hH t_692 t_691 t_45 (by decide) (by decide +kernel) t_690 ⟨by show rm.frames + 1 ≤ 13; omega, by show 8 + (5 + 11) + rm.locals ≤ 508; omega⟩ rfl hl.1 (Nat.le_of_ble_eq_true rfl) dL_law_917 ⟨by show cells + rm.cells ≤ 601024; omega, by show slots + rm.slots ≤ 7293034; omega⟩ (fun k P H locs hp hW hS => ?_)
  obtain ⟨⟨L1, ad1, v1, o1⟩, w1⟩ := P
  obtain ⟨e1, rmM, postM, ⟨g1, g2, g3, g4⟩, hM, hU⟩ := hB _ _ hp
  dsimp only at e1 hM hU hW
  have e0 := (e1 0 hN.m0).2; have e100 := (e1 100 hN.m100).2; have e170 := (e1 170 hN.m170).2; have q100 := (e1 100 hN.m100).1; have q170 := (e1 170 hN.m170).1
  rw [← e0, ← e100, ← e170] at hl kk
  rw [← e100] at hM
  refine lv_istore (lv' := [(5, .int k), (0, .ref B), (1, .ref (ad1 0)), (2, .ref (ad1 100)), (3, .ref (ad1 170)), (4, .int (nI i0))]) hx hb dL_law_920 hl (by decide) rfl (fun ls hl => ?_)
  refine lv_aload_n hx hb dL_law_922 rfl (lv_at hl 3 rfl) ?_
  refine lv_aload_n hx hb dL_law_923 rfl (lv_at hl 1 rfl) ?_
  refine lv_iload hx hb dL_law_924 (lv_at hl 5 rfl) ?_
  refine lv_iconst (v := 1) hx hb dL_law_926 (by decide) ?_
  refine lv_iadd hx hb dL_law_927 ?_
  refine q_sld hx hb hX hbl hbA hS hL hi (j := 1) rfl (by decide) dL_law_928 ?_
  refine lv_aload_n hx hb dL_law_929 rfl (lv_at hl 1 rfl) ?_
  refine lv_iload hx hb dL_law_930 (lv_at hl 5 rfl) ?_
  refine lv_iconst (v := 2) hx hb dL_law_932 (by decide) ?_
  refine lv_iadd hx hb dL_law_933 ?_
  refine q_sld hx hb hX hbl hbA hS hL hi (j := 2) rfl (by decide) dL_law_934 ?_
  refine q_cVi (As := [.int (xs (i0 + 1)), .int (xs (i0 + 2))]) (rest := []) (r := 100) hx hb hml hts hown hE h0 hW hS hM mw_X7_layer q100 rfl k_8 t_1054 ⟨by show rmM.frames + 1 ≤ 13; omega, by show 8 + (3 + 11) + rmM.locals ≤ 508; omega⟩ rfl hl.1 (Nat.le_of_ble_eq_true rfl) dL_law_935 ⟨by show cells + rm.cells + rmM.cells ≤ 601024; omega, by show slots + rm.slots + rmM.slots ≤ 7293034; omega⟩ (fun b9 u H locs hp2 hW hS => ?_)
  obtain ⟨u1, u2, u3⟩ := hU _ _ hp2
  refine lv_istore (lv' := [(6, .int b9), (5, .int k), (0, .ref B), (1, .ref (ad1 0)), (2, .ref (ad1 100)), (3, .ref (ad1 170)), (4, .int (nI i0))]) hx hb dL_law_938 hl (by decide) rfl (fun ls hl => ?_)
  refine lv_aload_n hx hb dL_law_940 rfl (lv_at hl 4 rfl) ?_
  refine q_cViE (As := []) (rest := []) (r := 100) hx hb hml hts hown hE h0 hW hS (c_X7_thrown l q100) mw_X7_thrown q100 rfl k_8 t_953 ⟨Nat.le_of_ble_eq_true rfl, Nat.le_of_ble_eq_true rfl⟩ rfl hl.1 (Nat.le_of_ble_eq_true rfl) dL_law_941 ⟨by show cells + rm.cells + rmM.cells ≤ 601024; omega, by show slots + rm.slots + rmM.slots ≤ 7293034; omega⟩ ⟨rfl, rfl⟩ (fun H locs hW hS => ?_)
  refine lv_iload hx hb dL_law_944 (lv_at hl 1 rfl) ?_
  refine lv_icmp_eq (tgt := 951) hx hb dL_law_946 (by decide) (fun _ => ?_) (fun c1 => absurd u1 c1)
  refine lv_iload hx hb dL_law_951 (lv_at hl 1 rfl) ?_
  refine lv_if_ne (tgt := 968) hx hb dL_law_953 (by decide) (fun c2 => ?_) (fun c2 => ?_)
  · skip
    refine lv_goto (tgt := 1589) hx hb dL_law_968 (by decide) ?_
    refine W.widen (k := cells + 200) (n := slots + 2000) (by omega) (by omega) ?_
    exact kk L1 ad1 u o1 w1 H locs ls rfl rfl rfl u3 hW hS (lv_sub hl [2, 3, 4, 5, 6] rfl)
  · skip
    refine lv_aload_n hx hb dL_law_956 rfl (lv_at hl 5 rfl) ?_
    refine lv_iconst (v := 0) hx hb dL_law_957 (by decide) ?_
    refine q_lald hx hb hW q170 dL_law_958 ?_
    refine lv_iload hx hb dL_law_959 (lv_at hl 0 rfl) ?_
    refine lv_i2l (v := b9.toInt64) hx hb dL_law_961 rfl ?_
    refine W.lcmp hx hb dL_law_962 ?_
    refine lv_if_eq (tgt := 968) hx hb dL_law_963 (by decide) (fun _ => ?_) (fun c3 => absurd (lcmp_eq (u2 c2)) c3)
    refine lv_goto (tgt := 1589) hx hb dL_law_968 (by decide) ?_
    refine W.widen (k := cells + 200) (n := slots + 2000) (by omega) (by omega) ?_
    exact kk L1 ad1 u o1 w1 H locs ls rfl rfl rfl u3 hW hS (lv_sub hl [2, 3, 4, 5, 6] rfl)

set_option maxHeartbeats 4000000 in
set_option maxRecDepth 100000 in
theorem law_told {p : Program} {l : Launch} {e : Env} {s : State} {m : MethodId} {below : List Frame} {meth : Method} {c : Code} {Q : State → Prop} {G : GG} {L : List Nat} {ad : Nat → Nat} {v : Nat → Nat → Int32} {o : Nat → Nat → Option Nat} {w : Nat → Int64} {H : Heap} {locs : List Loc} {ls : Array Slot} {cells slots B Ls i0 : Nat} {xs : Nat → Int32} {n : Int} {ng nh nl ns : Nat} {ow gx gy gw gd : Nat → Nat} (hst9 : l.stackTraces = false) (C0 : LAt p s m meth c B Ls xs G) (hL : Ls ≤ 4608) (hi : i0 + 8 < Ls) (hn0 : 0 ≤ n) (hn2 : n ≤ 600) (hN : INV G.2.2.2 n L ad v o ng nh nl ns ow gx gy gw gd) (hW : WD G L ad v o w s H) (hS : va_S (Ab G.2.2.1) s.heap H locs) (hl : lv_has ls 9 [(0, .ref B), (1, .ref (ad 0)), (2, .ref (ad 100)), (3, .ref (ad 170)), (4, .int (nI i0))]) (hf : cells + 200 ≤ 601024 ∧ slots + 2000 ≤ 7293034) (kk : LK p l e s m below meth c Q G B i0 (cells + 200) (slots + 2000) n (ad 0) (ad 100) (ad 170)) : W p l e room_1 s m #[Value.ref B] below meth c H locs cells slots Q (F0 m 1172 ls []) := by
  obtain ⟨hx, hb, hr, hml, hown, hts, hX, hbl, hlocks, hE, h0e, hNC⟩ := C0
  have h0 : G.2.2.1 ≤ s.heap.size := Nat.le_of_eq h0e
  have hbA : ¬ Ab G.2.2.1 B := by rw [h0e]; exact Nat.not_le.mpr hbl
  obtain ⟨rm, post, ⟨f1, f2, f3, f4⟩, hH, hB⟩ := st_told l hst9 hN hn0 hn2 (w := w) (xs (i0 + 1)) (xs (i0 + 2))
  refine lv_aload_n hx hb dL_law_1172 rfl (lv_at hl 1 rfl) ?_
  refine lv_aload_n hx hb dL_law_1173 rfl (lv_at hl 0 rfl) ?_
  refine lv_iload hx hb dL_law_1174 (lv_at hl 4 rfl) ?_
  refine lv_iconst (v := 1) hx hb dL_law_1176 (by decide) ?_
  refine lv_iadd hx hb dL_law_1177 ?_
  refine q_sld hx hb hX hbl hbA hS hL hi (j := 1) rfl (by decide) dL_law_1178 ?_
  refine lv_aload_n hx hb dL_law_1179 rfl (lv_at hl 0 rfl) ?_
  refine lv_iload hx hb dL_law_1180 (lv_at hl 4 rfl) ?_
  refine lv_iconst (v := 2) hx hb dL_law_1182 (by decide) ?_
  refine lv_iadd hx hb dL_law_1183 ?_
  refine q_sld hx hb hX hbl hbA hS hL hi (j := 2) rfl (by decide) dL_law_1184 ?_
  refine lv_aload_n hx hb dL_law_1185 rfl (lv_at hl 3 rfl) ?_
  refine q_cH (n := 4) (As := [.ref (ad 0), .int (xs (i0 + 1)), .int (xs (i0 + 2)), .ref (ad 170)]) (rest := []) hx hb hml hts hown hE h0 hNC hW hS hH t_816 t_815 t_45 (by decide) (by decide +kernel) t_814 ⟨by show rm.frames + 1 ≤ 13; omega, by show 8 + (5 + 11) + rm.locals ≤ 508; omega⟩ rfl hl.1 (Nat.le_of_ble_eq_true rfl) dL_law_1186 ⟨by show cells + rm.cells ≤ 601024; omega, by show slots + rm.slots ≤ 7293034; omega⟩ (fun k P H locs hp hW hS => ?_)
  obtain ⟨⟨L1, ad1, v1, o1⟩, w1⟩ := P
  obtain ⟨e1, rmM, postM, ⟨g1, g2, g3, g4⟩, hM, hU⟩ := hB _ _ hp
  dsimp only at e1 hM hU hW
  have e0 := (e1 0 hN.m0).2; have e100 := (e1 100 hN.m100).2; have e170 := (e1 170 hN.m170).2; have q100 := (e1 100 hN.m100).1; have q170 := (e1 170 hN.m170).1
  rw [← e0, ← e100, ← e170] at hl kk
  rw [← e100] at hM
  refine lv_istore (lv' := [(5, .int k), (0, .ref B), (1, .ref (ad1 0)), (2, .ref (ad1 100)), (3, .ref (ad1 170)), (4, .int (nI i0))]) hx hb dL_law_1189 hl (by decide) rfl (fun ls hl => ?_)
  refine lv_aload_n hx hb dL_law_1191 rfl (lv_at hl 3 rfl) ?_
  refine lv_aload_n hx hb dL_law_1192 rfl (lv_at hl 1 rfl) ?_
  refine lv_iload hx hb dL_law_1193 (lv_at hl 5 rfl) ?_
  refine lv_iconst (v := 1) hx hb dL_law_1195 (by decide) ?_
  refine lv_iadd hx hb dL_law_1196 ?_
  refine q_sld hx hb hX hbl hbA hS hL hi (j := 1) rfl (by decide) dL_law_1197 ?_
  refine lv_aload_n hx hb dL_law_1198 rfl (lv_at hl 1 rfl) ?_
  refine lv_iload hx hb dL_law_1199 (lv_at hl 5 rfl) ?_
  refine lv_iconst (v := 2) hx hb dL_law_1201 (by decide) ?_
  refine lv_iadd hx hb dL_law_1202 ?_
  refine q_sld hx hb hX hbl hbA hS hL hi (j := 2) rfl (by decide) dL_law_1203 ?_
  refine q_cVi (As := [.int (xs (i0 + 1)), .int (xs (i0 + 2))]) (rest := []) (r := 100) hx hb hml hts hown hE h0 hW hS hM mw_X7_told q100 rfl k_8 t_1098 ⟨by show rmM.frames + 1 ≤ 13; omega, by show 8 + (3 + 11) + rmM.locals ≤ 508; omega⟩ rfl hl.1 (Nat.le_of_ble_eq_true rfl) dL_law_1204 ⟨by show cells + rm.cells + rmM.cells ≤ 601024; omega, by show slots + rm.slots + rmM.slots ≤ 7293034; omega⟩ (fun b9 u H locs hp2 hW hS => ?_)
  obtain ⟨u1, u2, u3⟩ := hU _ _ hp2
  refine lv_istore (lv' := [(6, .int b9), (5, .int k), (0, .ref B), (1, .ref (ad1 0)), (2, .ref (ad1 100)), (3, .ref (ad1 170)), (4, .int (nI i0))]) hx hb dL_law_1207 hl (by decide) rfl (fun ls hl => ?_)
  refine lv_aload_n hx hb dL_law_1209 rfl (lv_at hl 4 rfl) ?_
  refine q_cViE (As := []) (rest := []) (r := 100) hx hb hml hts hown hE h0 hW hS (c_X7_thrown l q100) mw_X7_thrown q100 rfl k_8 t_953 ⟨Nat.le_of_ble_eq_true rfl, Nat.le_of_ble_eq_true rfl⟩ rfl hl.1 (Nat.le_of_ble_eq_true rfl) dL_law_1210 ⟨by show cells + rm.cells + rmM.cells ≤ 601024; omega, by show slots + rm.slots + rmM.slots ≤ 7293034; omega⟩ ⟨rfl, rfl⟩ (fun H locs hW hS => ?_)
  refine lv_iload hx hb dL_law_1213 (lv_at hl 1 rfl) ?_
  refine lv_icmp_eq (tgt := 1220) hx hb dL_law_1215 (by decide) (fun _ => ?_) (fun c1 => absurd u1 c1)
  refine lv_iload hx hb dL_law_1220 (lv_at hl 1 rfl) ?_
  refine lv_if_ne (tgt := 1237) hx hb dL_law_1222 (by decide) (fun c2 => ?_) (fun c2 => ?_)
  · skip
    refine lv_goto (tgt := 1589) hx hb dL_law_1237 (by decide) ?_
    refine W.widen (k := cells + 200) (n := slots + 2000) (by omega) (by omega) ?_
    exact kk L1 ad1 u o1 w1 H locs ls rfl rfl rfl u3 hW hS (lv_sub hl [2, 3, 4, 5, 6] rfl)
  · skip
    refine lv_aload_n hx hb dL_law_1225 rfl (lv_at hl 5 rfl) ?_
    refine lv_iconst (v := 0) hx hb dL_law_1226 (by decide) ?_
    refine q_lald hx hb hW q170 dL_law_1227 ?_
    refine lv_iload hx hb dL_law_1228 (lv_at hl 0 rfl) ?_
    refine lv_i2l (v := b9.toInt64) hx hb dL_law_1230 rfl ?_
    refine W.lcmp hx hb dL_law_1231 ?_
    refine lv_if_eq (tgt := 1237) hx hb dL_law_1232 (by decide) (fun _ => ?_) (fun c3 => absurd (lcmp_eq (u2 c2)) c3)
    refine lv_goto (tgt := 1589) hx hb dL_law_1237 (by decide) ?_
    refine W.widen (k := cells + 200) (n := slots + 2000) (by omega) (by omega) ?_
    exact kk L1 ad1 u o1 w1 H locs ls rfl rfl rfl u3 hW hS (lv_sub hl [2, 3, 4, 5, 6] rfl)

set_option maxHeartbeats 4000000 in
set_option maxRecDepth 100000 in
theorem law_worst {p : Program} {l : Launch} {e : Env} {s : State} {m : MethodId} {below : List Frame} {meth : Method} {c : Code} {Q : State → Prop} {G : GG} {L : List Nat} {ad : Nat → Nat} {v : Nat → Nat → Int32} {o : Nat → Nat → Option Nat} {w : Nat → Int64} {H : Heap} {locs : List Loc} {ls : Array Slot} {cells slots B Ls i0 : Nat} {xs : Nat → Int32} {n : Int} {ng nh nl ns : Nat} {ow gx gy gw gd : Nat → Nat} (hst9 : l.stackTraces = false) (C0 : LAt p s m meth c B Ls xs G) (hL : Ls ≤ 4608) (hi : i0 + 8 < Ls) (hn0 : 0 ≤ n) (hn2 : n ≤ 600) (hN : INV G.2.2.2 n L ad v o ng nh nl ns ow gx gy gw gd) (hW : WD G L ad v o w s H) (hS : va_S (Ab G.2.2.1) s.heap H locs) (hl : lv_has ls 9 [(0, .ref B), (1, .ref (ad 0)), (2, .ref (ad 100)), (3, .ref (ad 170)), (4, .int (nI i0))]) (hf : cells + 200 ≤ 601024 ∧ slots + 2000 ≤ 7293034) (kk : LK p l e s m below meth c Q G B i0 (cells + 200) (slots + 2000) n (ad 0) (ad 100) (ad 170)) : W p l e room_1 s m #[Value.ref B] below meth c H locs cells slots Q (F0 m 1386 ls []) := by
  obtain ⟨hx, hb, hr, hml, hown, hts, hX, hbl, hlocks, hE, h0e, hNC⟩ := C0
  have h0 : G.2.2.1 ≤ s.heap.size := Nat.le_of_eq h0e
  have hbA : ¬ Ab G.2.2.1 B := by rw [h0e]; exact Nat.not_le.mpr hbl
  obtain ⟨rm, post, ⟨f1, f2, f3, f4⟩, hH, hB⟩ := st_worst l hst9 hN hn0 hn2 (w := w) (xs (i0 + 1)) (xs (i0 + 2))
  refine lv_aload_n hx hb dL_law_1386 rfl (lv_at hl 1 rfl) ?_
  refine lv_aload_n hx hb dL_law_1387 rfl (lv_at hl 0 rfl) ?_
  refine lv_iload hx hb dL_law_1388 (lv_at hl 4 rfl) ?_
  refine lv_iconst (v := 1) hx hb dL_law_1390 (by decide) ?_
  refine lv_iadd hx hb dL_law_1391 ?_
  refine q_sld hx hb hX hbl hbA hS hL hi (j := 1) rfl (by decide) dL_law_1392 ?_
  refine lv_aload_n hx hb dL_law_1393 rfl (lv_at hl 0 rfl) ?_
  refine lv_iload hx hb dL_law_1394 (lv_at hl 4 rfl) ?_
  refine lv_iconst (v := 2) hx hb dL_law_1396 (by decide) ?_
  refine lv_iadd hx hb dL_law_1397 ?_
  refine q_sld hx hb hX hbl hbA hS hL hi (j := 2) rfl (by decide) dL_law_1398 ?_
  refine lv_aload_n hx hb dL_law_1399 rfl (lv_at hl 3 rfl) ?_
  refine q_cH (n := 4) (As := [.ref (ad 0), .int (xs (i0 + 1)), .int (xs (i0 + 2)), .ref (ad 170)]) (rest := []) hx hb hml hts hown hE h0 hNC hW hS hH t_831 t_830 t_45 (by decide) (by decide +kernel) t_829 ⟨by show rm.frames + 1 ≤ 13; omega, by show 8 + (5 + 11) + rm.locals ≤ 508; omega⟩ rfl hl.1 (Nat.le_of_ble_eq_true rfl) dL_law_1400 ⟨by show cells + rm.cells ≤ 601024; omega, by show slots + rm.slots ≤ 7293034; omega⟩ (fun k P H locs hp hW hS => ?_)
  obtain ⟨⟨L1, ad1, v1, o1⟩, w1⟩ := P
  obtain ⟨e1, rmM, postM, ⟨g1, g2, g3, g4⟩, hM, hU⟩ := hB _ _ hp
  dsimp only at e1 hM hU hW
  have e0 := (e1 0 hN.m0).2; have e100 := (e1 100 hN.m100).2; have e170 := (e1 170 hN.m170).2; have q100 := (e1 100 hN.m100).1; have q170 := (e1 170 hN.m170).1
  rw [← e0, ← e100, ← e170] at hl kk
  rw [← e100] at hM
  refine lv_istore (lv' := [(5, .int k), (0, .ref B), (1, .ref (ad1 0)), (2, .ref (ad1 100)), (3, .ref (ad1 170)), (4, .int (nI i0))]) hx hb dL_law_1403 hl (by decide) rfl (fun ls hl => ?_)
  refine lv_aload_n hx hb dL_law_1405 rfl (lv_at hl 3 rfl) ?_
  refine lv_aload_n hx hb dL_law_1406 rfl (lv_at hl 1 rfl) ?_
  refine lv_iload hx hb dL_law_1407 (lv_at hl 5 rfl) ?_
  refine lv_iconst (v := 1) hx hb dL_law_1409 (by decide) ?_
  refine lv_iadd hx hb dL_law_1410 ?_
  refine q_sld hx hb hX hbl hbA hS hL hi (j := 1) rfl (by decide) dL_law_1411 ?_
  refine lv_aload_n hx hb dL_law_1412 rfl (lv_at hl 1 rfl) ?_
  refine lv_iload hx hb dL_law_1413 (lv_at hl 5 rfl) ?_
  refine lv_iconst (v := 2) hx hb dL_law_1415 (by decide) ?_
  refine lv_iadd hx hb dL_law_1416 ?_
  refine q_sld hx hb hX hbl hbA hS hL hi (j := 2) rfl (by decide) dL_law_1417 ?_
  refine q_cVi (As := [.int (xs (i0 + 1)), .int (xs (i0 + 2))]) (rest := []) (r := 100) hx hb hml hts hown hE h0 hW hS hM mw_X7_worst q100 rfl k_8 t_1114 ⟨by show rmM.frames + 1 ≤ 13; omega, by show 8 + (6 + 11) + rmM.locals ≤ 508; omega⟩ rfl hl.1 (Nat.le_of_ble_eq_true rfl) dL_law_1418 ⟨by show cells + rm.cells + rmM.cells ≤ 601024; omega, by show slots + rm.slots + rmM.slots ≤ 7293034; omega⟩ (fun b9 u H locs hp2 hW hS => ?_)
  obtain ⟨u1, u2, u3⟩ := hU _ _ hp2
  refine lv_istore (lv' := [(6, .int b9), (5, .int k), (0, .ref B), (1, .ref (ad1 0)), (2, .ref (ad1 100)), (3, .ref (ad1 170)), (4, .int (nI i0))]) hx hb dL_law_1421 hl (by decide) rfl (fun ls hl => ?_)
  refine lv_aload_n hx hb dL_law_1423 rfl (lv_at hl 4 rfl) ?_
  refine q_cViE (As := []) (rest := []) (r := 100) hx hb hml hts hown hE h0 hW hS (c_X7_thrown l q100) mw_X7_thrown q100 rfl k_8 t_953 ⟨Nat.le_of_ble_eq_true rfl, Nat.le_of_ble_eq_true rfl⟩ rfl hl.1 (Nat.le_of_ble_eq_true rfl) dL_law_1424 ⟨by show cells + rm.cells + rmM.cells ≤ 601024; omega, by show slots + rm.slots + rmM.slots ≤ 7293034; omega⟩ ⟨rfl, rfl⟩ (fun H locs hW hS => ?_)
  refine lv_iload hx hb dL_law_1427 (lv_at hl 1 rfl) ?_
  refine lv_icmp_eq (tgt := 1434) hx hb dL_law_1429 (by decide) (fun _ => ?_) (fun c1 => absurd u1 c1)
  refine lv_iload hx hb dL_law_1434 (lv_at hl 1 rfl) ?_
  refine lv_if_ne (tgt := 1451) hx hb dL_law_1436 (by decide) (fun c2 => ?_) (fun c2 => ?_)
  · skip
    refine lv_goto (tgt := 1589) hx hb dL_law_1451 (by decide) ?_
    refine W.widen (k := cells + 200) (n := slots + 2000) (by omega) (by omega) ?_
    exact kk L1 ad1 u o1 w1 H locs ls rfl rfl rfl u3 hW hS (lv_sub hl [2, 3, 4, 5, 6] rfl)
  · skip
    refine lv_aload_n hx hb dL_law_1439 rfl (lv_at hl 5 rfl) ?_
    refine lv_iconst (v := 0) hx hb dL_law_1440 (by decide) ?_
    refine q_lald hx hb hW q170 dL_law_1441 ?_
    refine lv_iload hx hb dL_law_1442 (lv_at hl 0 rfl) ?_
    refine lv_i2l (v := b9.toInt64) hx hb dL_law_1444 rfl ?_
    refine W.lcmp hx hb dL_law_1445 ?_
    refine lv_if_eq (tgt := 1451) hx hb dL_law_1446 (by decide) (fun _ => ?_) (fun c3 => absurd (lcmp_eq (u2 c2)) c3)
    refine lv_goto (tgt := 1589) hx hb dL_law_1451 (by decide) ?_
    refine W.widen (k := cells + 200) (n := slots + 2000) (by omega) (by omega) ?_
    exact kk L1 ad1 u o1 w1 H locs ls rfl rfl rfl u3 hW hS (lv_sub hl [2, 3, 4, 5, 6] rfl)

set_option maxHeartbeats 4000000 in
set_option maxRecDepth 100000 in
theorem law_advise {p : Program} {l : Launch} {e : Env} {s : State} {m : MethodId} {below : List Frame} {meth : Method} {c : Code} {Q : State → Prop} {G : GG} {L : List Nat} {ad : Nat → Nat} {v : Nat → Nat → Int32} {o : Nat → Nat → Option Nat} {w : Nat → Int64} {H : Heap} {locs : List Loc} {ls : Array Slot} {cells slots B Ls i0 : Nat} {xs : Nat → Int32} {n : Int} {ng nh nl ns : Nat} {ow gx gy gw gd : Nat → Nat} (hst9 : l.stackTraces = false) (C0 : LAt p s m meth c B Ls xs G) (hL : Ls ≤ 4608) (hi : i0 + 8 < Ls) (hn0 : 0 ≤ n) (hn2 : n ≤ 600) (hN : INV G.2.2.2 n L ad v o ng nh nl ns ow gx gy gw gd) (hW : WD G L ad v o w s H) (hS : va_S (Ab G.2.2.1) s.heap H locs) (hl : lv_has ls 9 [(0, .ref B), (1, .ref (ad 0)), (2, .ref (ad 100)), (3, .ref (ad 170)), (4, .int (nI i0))]) (hf : cells + 200 ≤ 601024 ∧ slots + 2000 ≤ 7293034) (kk : LK p l e s m below meth c Q G B i0 (cells + 200) (slots + 2000) n (ad 0) (ad 100) (ad 170)) : W p l e room_1 s m #[Value.ref B] below meth c H locs cells slots Q (F0 m 1454 ls []) := by
  obtain ⟨hx, hb, hr, hml, hown, hts, hX, hbl, hlocks, hE, h0e, hNC⟩ := C0
  have h0 : G.2.2.1 ≤ s.heap.size := Nat.le_of_eq h0e
  have hbA : ¬ Ab G.2.2.1 B := by rw [h0e]; exact Nat.not_le.mpr hbl
  obtain ⟨rm, post, ⟨f1, f2, f3, f4⟩, hH, hB⟩ := st_advise l hst9 hN hn0 hn2 (w := w) (xs (i0 + 1)) (xs (i0 + 2)) (xs (i0 + 3))
  refine lv_aload_n hx hb dL_law_1454 rfl (lv_at hl 1 rfl) ?_
  refine lv_aload_n hx hb dL_law_1455 rfl (lv_at hl 0 rfl) ?_
  refine lv_iload hx hb dL_law_1456 (lv_at hl 4 rfl) ?_
  refine lv_iconst (v := 1) hx hb dL_law_1458 (by decide) ?_
  refine lv_iadd hx hb dL_law_1459 ?_
  refine q_sld hx hb hX hbl hbA hS hL hi (j := 1) rfl (by decide) dL_law_1460 ?_
  refine lv_aload_n hx hb dL_law_1461 rfl (lv_at hl 0 rfl) ?_
  refine lv_iload hx hb dL_law_1462 (lv_at hl 4 rfl) ?_
  refine lv_iconst (v := 2) hx hb dL_law_1464 (by decide) ?_
  refine lv_iadd hx hb dL_law_1465 ?_
  refine q_sld hx hb hX hbl hbA hS hL hi (j := 2) rfl (by decide) dL_law_1466 ?_
  refine lv_aload_n hx hb dL_law_1467 rfl (lv_at hl 0 rfl) ?_
  refine lv_iload hx hb dL_law_1468 (lv_at hl 4 rfl) ?_
  refine lv_iconst (v := 3) hx hb dL_law_1470 (by decide) ?_
  refine lv_iadd hx hb dL_law_1471 ?_
  refine q_sld hx hb hX hbl hbA hS hL hi (j := 3) rfl (by decide) dL_law_1472 ?_
  refine lv_aload_n hx hb dL_law_1473 rfl (lv_at hl 3 rfl) ?_
  refine q_cH (n := 5) (As := [.ref (ad 0), .int (xs (i0 + 1)), .int (xs (i0 + 2)), .int (xs (i0 + 3)), .ref (ad 170)]) (rest := []) hx hb hml hts hown hE h0 hNC hW hS hH t_841 t_840 t_45 (by decide) (by decide +kernel) t_839 ⟨by show rm.frames + 1 ≤ 13; omega, by show 8 + (6 + 11) + rm.locals ≤ 508; omega⟩ rfl hl.1 (Nat.le_of_ble_eq_true rfl) dL_law_1474 ⟨by show cells + rm.cells ≤ 601024; omega, by show slots + rm.slots ≤ 7293034; omega⟩ (fun k P H locs hp hW hS => ?_)
  obtain ⟨⟨L1, ad1, v1, o1⟩, w1⟩ := P
  obtain ⟨e1, rmM, postM, ⟨g1, g2, g3, g4⟩, hM, hU⟩ := hB _ _ hp
  dsimp only at e1 hM hU hW
  have e0 := (e1 0 hN.m0).2; have e100 := (e1 100 hN.m100).2; have e170 := (e1 170 hN.m170).2; have q100 := (e1 100 hN.m100).1; have q170 := (e1 170 hN.m170).1
  rw [← e0, ← e100, ← e170] at hl kk
  rw [← e100] at hM
  refine lv_istore (lv' := [(5, .int k), (0, .ref B), (1, .ref (ad1 0)), (2, .ref (ad1 100)), (3, .ref (ad1 170)), (4, .int (nI i0))]) hx hb dL_law_1477 hl (by decide) rfl (fun ls hl => ?_)
  refine lv_aload_n hx hb dL_law_1479 rfl (lv_at hl 3 rfl) ?_
  refine lv_aload_n hx hb dL_law_1480 rfl (lv_at hl 1 rfl) ?_
  refine lv_iload hx hb dL_law_1481 (lv_at hl 5 rfl) ?_
  refine lv_iconst (v := 1) hx hb dL_law_1483 (by decide) ?_
  refine lv_iadd hx hb dL_law_1484 ?_
  refine q_sld hx hb hX hbl hbA hS hL hi (j := 1) rfl (by decide) dL_law_1485 ?_
  refine lv_aload_n hx hb dL_law_1486 rfl (lv_at hl 1 rfl) ?_
  refine lv_iload hx hb dL_law_1487 (lv_at hl 5 rfl) ?_
  refine lv_iconst (v := 2) hx hb dL_law_1489 (by decide) ?_
  refine lv_iadd hx hb dL_law_1490 ?_
  refine q_sld hx hb hX hbl hbA hS hL hi (j := 2) rfl (by decide) dL_law_1491 ?_
  refine lv_aload_n hx hb dL_law_1492 rfl (lv_at hl 1 rfl) ?_
  refine lv_iload hx hb dL_law_1493 (lv_at hl 5 rfl) ?_
  refine lv_iconst (v := 3) hx hb dL_law_1495 (by decide) ?_
  refine lv_iadd hx hb dL_law_1496 ?_
  refine q_sld hx hb hX hbl hbA hS hL hi (j := 3) rfl (by decide) dL_law_1497 ?_
  refine q_cVi (As := [.int (xs (i0 + 1)), .int (xs (i0 + 2)), .int (xs (i0 + 3))]) (rest := []) (r := 100) hx hb hml hts hown hE h0 hW hS hM mw_X7_advise q100 rfl k_8 t_1118 ⟨by show rmM.frames + 1 ≤ 13; omega, by show 8 + (8 + 11) + rmM.locals ≤ 508; omega⟩ rfl hl.1 (Nat.le_of_ble_eq_true rfl) dL_law_1498 ⟨by show cells + rm.cells + rmM.cells ≤ 601024; omega, by show slots + rm.slots + rmM.slots ≤ 7293034; omega⟩ (fun b9 u H locs hp2 hW hS => ?_)
  obtain ⟨u1, u2, u3⟩ := hU _ _ hp2
  refine lv_istore (lv' := [(6, .int b9), (5, .int k), (0, .ref B), (1, .ref (ad1 0)), (2, .ref (ad1 100)), (3, .ref (ad1 170)), (4, .int (nI i0))]) hx hb dL_law_1501 hl (by decide) rfl (fun ls hl => ?_)
  refine lv_aload_n hx hb dL_law_1503 rfl (lv_at hl 4 rfl) ?_
  refine q_cViE (As := []) (rest := []) (r := 100) hx hb hml hts hown hE h0 hW hS (c_X7_thrown l q100) mw_X7_thrown q100 rfl k_8 t_953 ⟨Nat.le_of_ble_eq_true rfl, Nat.le_of_ble_eq_true rfl⟩ rfl hl.1 (Nat.le_of_ble_eq_true rfl) dL_law_1504 ⟨by show cells + rm.cells + rmM.cells ≤ 601024; omega, by show slots + rm.slots + rmM.slots ≤ 7293034; omega⟩ ⟨rfl, rfl⟩ (fun H locs hW hS => ?_)
  refine lv_iload hx hb dL_law_1507 (lv_at hl 1 rfl) ?_
  refine lv_icmp_eq (tgt := 1514) hx hb dL_law_1509 (by decide) (fun _ => ?_) (fun c1 => absurd u1 c1)
  refine lv_iload hx hb dL_law_1514 (lv_at hl 1 rfl) ?_
  refine lv_if_ne (tgt := 1531) hx hb dL_law_1516 (by decide) (fun c2 => ?_) (fun c2 => ?_)
  · skip
    refine lv_goto (tgt := 1589) hx hb dL_law_1531 (by decide) ?_
    refine W.widen (k := cells + 200) (n := slots + 2000) (by omega) (by omega) ?_
    exact kk L1 ad1 u o1 w1 H locs ls rfl rfl rfl u3 hW hS (lv_sub hl [2, 3, 4, 5, 6] rfl)
  · skip
    refine lv_aload_n hx hb dL_law_1519 rfl (lv_at hl 5 rfl) ?_
    refine lv_iconst (v := 0) hx hb dL_law_1520 (by decide) ?_
    refine q_lald hx hb hW q170 dL_law_1521 ?_
    refine lv_iload hx hb dL_law_1522 (lv_at hl 0 rfl) ?_
    refine lv_i2l (v := b9.toInt64) hx hb dL_law_1524 rfl ?_
    refine W.lcmp hx hb dL_law_1525 ?_
    refine lv_if_eq (tgt := 1531) hx hb dL_law_1526 (by decide) (fun _ => ?_) (fun c3 => absurd (lcmp_eq (u2 c2)) c3)
    refine lv_goto (tgt := 1589) hx hb dL_law_1531 (by decide) ?_
    refine W.widen (k := cells + 200) (n := slots + 2000) (by omega) (by omega) ?_
    exact kk L1 ad1 u o1 w1 H locs ls rfl rfl rfl u3 hW hS (lv_sub hl [2, 3, 4, 5, 6] rfl)
