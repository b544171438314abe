/-! the law, case by case -/
set_option maxHeartbeats 4000000 in
set_option maxRecDepth 100000 in
theorem law_count {p : Program} {l : Launch} {e : Env} {s : State} {m : MethodId} {below : List Frame} {meth : Method} {c : Code} {Q : State → Prop} {G : GG} {L : List Nat} {ad : Nat → Nat} {v : Nat → Nat → Int32} {o : Nat → Nat → Option Nat} {w : Nat → Int64} {H : Heap} {locs : List Loc} {ls : Array Slot} {cells slots B Ls i0 : Nat} {xs : Nat → Int32} {n : Int} {ng nh nl ns : Nat} {ow gx gy gw gd : Nat → Nat} (hst9 : l.stackTraces = false) (C0 : LAt p s m meth c B Ls xs G) (hL : Ls ≤ 4608) (hi : i0 + 8 < Ls) (hn0 : 0 ≤ n) (hn2 : n ≤ 600) (hN : INV G.2.2.2 n L ad v o ng nh nl ns ow gx gy gw gd) (hW : WD G L ad v o w s H) (hS : va_S (Ab G.2.2.1) s.heap H locs) (hl : lv_has ls 9 [(0, .ref B), (1, .ref (ad 0)), (2, .ref (ad 100)), (3, .ref (ad 170)), (4, .int (nI i0))]) (hf : cells + 200 ≤ 601024 ∧ slots + 2000 ≤ 7293034) (kk : LK p l e s m below meth c Q G B i0 (cells + 200) (slots + 2000) n (ad 0) (ad 100) (ad 170)) : W p l e room_1 s m #[Value.ref B] below meth c H locs cells slots Q (F0 m 971 ls []) := by
  obtain ⟨hx, hb, hr, hml, hown, hts, hX, hbl, hlocks, hE, h0e, hNC⟩ := C0
  have h0 : G.2.2.1 ≤ s.heap.size := Nat.le_of_eq h0e
  have hbA : ¬ Ab G.2.2.1 B := by rw [h0e]; exact Nat.not_le.mpr hbl
  obtain ⟨rm, post, ⟨f1, f2, f3, f4⟩, hH, hB⟩ := st_count l hst9 hN hn0 hn2 (w := w) (xs (i0 + 1))
  refine lv_aload_n hx hb dL_law_971 rfl (lv_at hl 1 rfl) ?_
  refine lv_aload_n hx hb dL_law_972 rfl (lv_at hl 0 rfl) ?_
  refine lv_iload hx hb dL_law_973 (lv_at hl 4 rfl) ?_
  refine lv_iconst (v := 1) hx hb dL_law_975 (by decide) ?_
  refine lv_iadd hx hb dL_law_976 ?_
  refine q_sld hx hb hX hbl hbA hS hL hi (j := 1) rfl (by decide) dL_law_977 ?_
  refine lv_aload_n hx hb dL_law_978 rfl (lv_at hl 3 rfl) ?_
  refine q_cH (n := 3) (As := [.ref (ad 0), .int (xs (i0 + 1)), .ref (ad 170)]) (rest := []) hx hb hml hts hown hE h0 hNC hW hS hH t_700 t_699 t_45 (by decide) (by decide +kernel) t_698 ⟨by show rm.frames + 1 ≤ 13; omega, by show 8 + (4 + 11) + rm.locals ≤ 508; omega⟩ rfl hl.1 (Nat.le_of_ble_eq_true rfl) dL_law_979 ⟨by show cells + rm.cells ≤ 601024; omega, by show slots + rm.slots ≤ 7293034; omega⟩ (fun k P H locs hp hW hS => ?_)
  obtain ⟨⟨L1, ad1, v1, o1⟩, w1⟩ := P
  obtain ⟨e1, rmM, postM, ⟨g1, g2, g3, g4⟩, hM, hU⟩ := hB _ _ hp
  dsimp only at e1 hM hU hW
  have e0 := (e1 0 hN.m0).2; have e100 := (e1 100 hN.m100).2; have e170 := (e1 170 hN.m170).2; have q100 := (e1 100 hN.m100).1; have q170 := (e1 170 hN.m170).1
  rw [← e0, ← e100, ← e170] at hl kk
  rw [← e100] at hM
  refine lv_istore (lv' := [(5, .int k), (0, .ref B), (1, .ref (ad1 0)), (2, .ref (ad1 100)), (3, .ref (ad1 170)), (4, .int (nI i0))]) hx hb dL_law_982 hl (by decide) rfl (fun ls hl => ?_)
  refine lv_aload_n hx hb dL_law_984 rfl (lv_at hl 3 rfl) ?_
  refine lv_aload_n hx hb dL_law_985 rfl (lv_at hl 1 rfl) ?_
  refine lv_iload hx hb dL_law_986 (lv_at hl 5 rfl) ?_
  refine lv_iconst (v := 1) hx hb dL_law_988 (by decide) ?_
  refine lv_iadd hx hb dL_law_989 ?_
  refine q_sld hx hb hX hbl hbA hS hL hi (j := 1) rfl (by decide) dL_law_990 ?_
  refine q_cVi (As := [.int (xs (i0 + 1))]) (rest := []) (r := 100) hx hb hml hts hown hE h0 hW hS hM mw_X7_count q100 rfl k_8 t_1058 ⟨by show rmM.frames + 1 ≤ 13; omega, by show 8 + (2 + 11) + rmM.locals ≤ 508; omega⟩ rfl hl.1 (Nat.le_of_ble_eq_true rfl) dL_law_991 ⟨by show cells + rm.cells + rmM.cells ≤ 601024; omega, by show slots + rm.slots + rmM.slots ≤ 7293034; omega⟩ (fun b9 u H locs hp2 hW hS => ?_)
  obtain ⟨u1, u2, u3⟩ := hU _ _ hp2
  refine lv_istore (lv' := [(6, .int b9), (5, .int k), (0, .ref B), (1, .ref (ad1 0)), (2, .ref (ad1 100)), (3, .ref (ad1 170)), (4, .int (nI i0))]) hx hb dL_law_994 hl (by decide) rfl (fun ls hl => ?_)
  refine lv_aload_n hx hb dL_law_996 rfl (lv_at hl 4 rfl) ?_
  refine q_cViE (As := []) (rest := []) (r := 100) hx hb hml hts hown hE h0 hW hS (c_X7_thrown l q100) mw_X7_thrown q100 rfl k_8 t_953 ⟨Nat.le_of_ble_eq_true rfl, Nat.le_of_ble_eq_true rfl⟩ rfl hl.1 (Nat.le_of_ble_eq_true rfl) dL_law_997 ⟨by show cells + rm.cells + rmM.cells ≤ 601024; omega, by show slots + rm.slots + rmM.slots ≤ 7293034; omega⟩ ⟨rfl, rfl⟩ (fun H locs hW hS => ?_)
  refine lv_iload hx hb dL_law_1000 (lv_at hl 1 rfl) ?_
  refine lv_icmp_eq (tgt := 1007) hx hb dL_law_1002 (by decide) (fun _ => ?_) (fun c1 => absurd u1 c1)
  refine lv_iload hx hb dL_law_1007 (lv_at hl 1 rfl) ?_
  refine lv_if_ne (tgt := 1024) hx hb dL_law_1009 (by decide) (fun c2 => ?_) (fun c2 => ?_)
  · skip
    refine lv_goto (tgt := 1589) hx hb dL_law_1024 (by decide) ?_
    refine W.widen (k := cells + 200) (n := slots + 2000) (by omega) (by omega) ?_
    exact kk L1 ad1 u o1 w1 H locs ls rfl rfl rfl u3 hW hS (lv_sub hl [2, 3, 4, 5, 6] rfl)
  · skip
    refine lv_aload_n hx hb dL_law_1012 rfl (lv_at hl 5 rfl) ?_
    refine lv_iconst (v := 0) hx hb dL_law_1013 (by decide) ?_
    refine q_lald hx hb hW q170 dL_law_1014 ?_
    refine lv_iload hx hb dL_law_1015 (lv_at hl 0 rfl) ?_
    refine lv_i2l (v := b9.toInt64) hx hb dL_law_1017 rfl ?_
    refine W.lcmp hx hb dL_law_1018 ?_
    refine lv_if_eq (tgt := 1024) hx hb dL_law_1019 (by decide) (fun _ => ?_) (fun c3 => absurd (lcmp_eq (u2 c2)) c3)
    refine lv_goto (tgt := 1589) hx hb dL_law_1024 (by decide) ?_
    refine W.widen (k := cells + 200) (n := slots + 2000) (by omega) (by omega) ?_
    exact kk L1 ad1 u o1 w1 H locs ls rfl rfl rfl u3 hW hS (lv_sub hl [2, 3, 4, 5, 6] rfl)

set_option maxHeartbeats 4000000 in
set_option maxRecDepth 100000 in
theorem law_endYear {p : Program} {l : Launch} {e : Env} {s : State} {m : MethodId} {below : List Frame} {meth : Method} {c : Code} {Q : State → Prop} {G : GG} {L : List Nat} {ad : Nat → Nat} {v : Nat → Nat → Int32} {o : Nat → Nat → Option Nat} {w : Nat → Int64} {H : Heap} {locs : List Loc} {ls : Array Slot} {cells slots B Ls i0 : Nat} {xs : Nat → Int32} {n : Int} {ng nh nl ns : Nat} {ow gx gy gw gd : Nat → Nat} (hst9 : l.stackTraces = false) (C0 : LAt p s m meth c B Ls xs G) (hL : Ls ≤ 4608) (hi : i0 + 8 < Ls) (hn0 : 0 ≤ n) (hn2 : n ≤ 600) (hN : INV G.2.2.2 n L ad v o ng nh nl ns ow gx gy gw gd) (hW : WD G L ad v o w s H) (hS : va_S (Ab G.2.2.1) s.heap H locs) (hl : lv_has ls 9 [(0, .ref B), (1, .ref (ad 0)), (2, .ref (ad 100)), (3, .ref (ad 170)), (4, .int (nI i0))]) (hf : cells + 200 ≤ 601024 ∧ slots + 2000 ≤ 7293034) (kk : LK p l e s m below meth c Q G B i0 (cells + 200) (slots + 2000) n (ad 0) (ad 100) (ad 170)) : W p l e room_1 s m #[Value.ref B] below meth c H locs cells slots Q (F0 m 1027 ls []) := by
  obtain ⟨hx, hb, hr, hml, hown, hts, hX, hbl, hlocks, hE, h0e, hNC⟩ := C0
  have h0 : G.2.2.1 ≤ s.heap.size := Nat.le_of_eq h0e
  have hbA : ¬ Ab G.2.2.1 B := by rw [h0e]; exact Nat.not_le.mpr hbl
  obtain ⟨rm, rmM, uX, uM, z, ⟨f1, f2, f3, f4⟩, ⟨g1, g2, g3, g4⟩, hC, hM, hI9⟩ := st_endYear l hN hn0 hn2
  refine lv_aload_n hx hb dL_law_1027 rfl (lv_at hl 1 rfl) ?_
  refine q_cVi (As := []) (rest := []) (r := 0) hx hb hml hts hown hE h0 hW hS (hC w) mw_X5_endYear hN.m0 rfl k_6 t_165 ⟨by show rm.frames + 1 ≤ 13; omega, by show 8 + (3 + 11) + rm.locals ≤ 508; omega⟩ rfl hl.1 (Nat.le_of_ble_eq_true rfl) dL_law_1028 ⟨by show cells + rm.cells ≤ 601024; omega, by show slots + rm.slots ≤ 7293034; omega⟩ (fun z9 u9 H locs hp hW hS => ?_)
  obtain ⟨q1, q2⟩ := hp
  rw [q2] at hW
  rw [q1]
  refine lv_aload_n hx hb dL_law_1031 rfl (lv_at hl 2 rfl) ?_
  refine q_cVi (As := []) (rest := [.int z]) (r := 100) hx hb hml hts hown hE h0 hW hS (hM w) mw_X7_endYear hN.m100 rfl k_8 t_1066 ⟨by show rmM.frames + 1 ≤ 13; omega, by show 8 + (1 + 11) + rmM.locals ≤ 508; omega⟩ rfl hl.1 (Nat.le_of_ble_eq_true rfl) dL_law_1032 ⟨by show cells + rm.cells + rmM.cells ≤ 601024; omega, by show slots + rm.slots + rmM.slots ≤ 7293034; omega⟩ (fun z9 u9 H locs hp hW hS => ?_)
  obtain ⟨q1, q2⟩ := hp
  rw [q2] at hW
  rw [q1]
  refine lv_icmp_eq (tgt := 1589) hx hb dL_law_1035 (by decide) (fun _ => ?_) (fun c1 => absurd rfl c1)
  refine W.widen (k := cells + 200) (n := slots + 2000) (by omega) (by omega) ?_
  exact kk L ad uM o w H locs ls rfl rfl rfl hI9 hW hS (lv_sub hl [0, 1, 2, 3, 4] rfl)

set_option maxHeartbeats 4000000 in
set_option maxRecDepth 100000 in
theorem law_loss {p : Program} {l : Launch} {e : Env} {s : State} {m : MethodId} {below : List Frame} {meth : Method} {c : Code} {Q : State → Prop} {G : GG} {L : List Nat} {ad : Nat → Nat} {v : Nat → Nat → Int32} {o : Nat → Nat → Option Nat} {w : Nat → Int64} {H : Heap} {locs : List Loc} {ls : Array Slot} {cells slots B Ls i0 : Nat} {xs : Nat → Int32} {n : Int} {ng nh nl ns : Nat} {ow gx gy gw gd : Nat → Nat} (hst9 : l.stackTraces = false) (C0 : LAt p s m meth c B Ls xs G) (hL : Ls ≤ 4608) (hi : i0 + 8 < Ls) (hn0 : 0 ≤ n) (hn2 : n ≤ 600) (hN : INV G.2.2.2 n L ad v o ng nh nl ns ow gx gy gw gd) (hW : WD G L ad v o w s H) (hS : va_S (Ab G.2.2.1) s.heap H locs) (hl : lv_has ls 9 [(0, .ref B), (1, .ref (ad 0)), (2, .ref (ad 100)), (3, .ref (ad 170)), (4, .int (nI i0))]) (hf : cells + 200 ≤ 601024 ∧ slots + 2000 ≤ 7293034) (kk : LK p l e s m below meth c Q G B i0 (cells + 200) (slots + 2000) n (ad 0) (ad 100) (ad 170)) : W p l e room_1 s m #[Value.ref B] below meth c H locs cells slots Q (F0 m 1534 ls []) := by
  obtain ⟨hx, hb, hr, hml, hown, hts, hX, hbl, hlocks, hE, h0e, hNC⟩ := C0
  have h0 : G.2.2.1 ≤ s.heap.size := Nat.le_of_eq h0e
  have hbA : ¬ Ab G.2.2.1 B := by rw [h0e]; exact Nat.not_le.mpr hbl
  obtain ⟨rm, rmM, z, ⟨f1, f2, f3, f4⟩, ⟨g1, g2, g3, g4⟩, hC, hM, hI9⟩ := st_loss l hN hn0 hn2
  refine lv_aload_n hx hb dL_law_1534 rfl (lv_at hl 1 rfl) ?_
  refine q_cVd (As := []) (rest := []) (r := 0) hx hb hml hts hown hE h0 hW hS (hC w) mw_X5_loss hN.m0 rfl k_6 t_236 ⟨by show rm.frames + 1 ≤ 13; omega, by show 8 + (3 + 11) + rm.locals ≤ 508; omega⟩ rfl hl.1 (Nat.le_of_ble_eq_true rfl) dL_law_1535 ⟨by show cells + rm.cells ≤ 601024; omega, by show slots + rm.slots ≤ 7293034; omega⟩ (fun z9 u9 H locs hp hW hS => ?_)
  obtain ⟨q1, q2⟩ := hp
  rw [q2] at hW
  rw [q1]
  refine lv_dstore (lv' := [(5, .double z), (0, .ref B), (1, .ref (ad 0)), (2, .ref (ad 100)), (3, .ref (ad 170)), (4, .int (nI i0))]) hx hb dL_law_1538 hl (by decide) rfl (fun ls hl => ?_)
  refine lv_aload_n hx hb dL_law_1540 rfl (lv_at hl 3 rfl) ?_
  refine q_cVd (As := []) (rest := []) (r := 100) hx hb hml hts hown hE h0 hW hS (hM w) mw_X7_loss hN.m100 rfl k_8 t_1126 ⟨by show rmM.frames + 1 ≤ 13; omega, by show 8 + (1 + 11) + rmM.locals ≤ 508; omega⟩ rfl hl.1 (Nat.le_of_ble_eq_true rfl) dL_law_1541 ⟨by show cells + rm.cells + rmM.cells ≤ 601024; omega, by show slots + rm.slots + rmM.slots ≤ 7293034; omega⟩ (fun z9 u9 H locs hp hW hS => ?_)
  obtain ⟨q1, q2⟩ := hp
  rw [q2] at hW
  rw [q1]
  refine lv_dstore (lv' := [(7, .double z), (5, .double z), (0, .ref B), (1, .ref (ad 0)), (2, .ref (ad 100)), (3, .ref (ad 170)), (4, .int (nI i0))]) hx hb dL_law_1544 hl (by decide) rfl (fun ls hl => ?_)
  refine lv_dload hx hb dL_law_1546 (lv_at hl 1 rfl) ?_
  refine lv_dload hx hb dL_law_1548 (lv_at hl 0 rfl) ?_
  refine lv_dcmp hx hb dL_law_1550 ?_
  refine lv_if_eq (tgt := 1572) hx hb dL_law_1551 (by decide) (fun c4 => ?_) (fun c4 => ?_)
  · skip
    refine lv_goto (tgt := 1589) hx hb dL_law_1572 (by decide) ?_
    refine W.widen (k := cells + 200) (n := slots + 2000) (by omega) (by omega) ?_
    exact kk L ad (tz v) o w H locs ls rfl rfl rfl hI9 hW hS (lv_sub hl [2, 3, 4, 5, 6] rfl)
  · skip
    refine lv_dload hx hb dL_law_1554 (lv_at hl 1 rfl) ?_
    refine lv_dload hx hb dL_law_1556 (lv_at hl 1 rfl) ?_
    refine lv_dcmp hx hb dL_law_1558 ?_
    refine lv_if_eq (tgt := 1570) hx hb dL_law_1559 (by decide) (fun c5 => absurd c5 c4) (fun _ => ?_)
    refine lv_dload hx hb dL_law_1562 (lv_at hl 0 rfl) ?_
    refine lv_dload hx hb dL_law_1564 (lv_at hl 0 rfl) ?_
    refine lv_dcmp hx hb dL_law_1566 ?_
    refine lv_if_ne (tgt := 1572) hx hb dL_law_1567 (by decide) (fun _ => ?_) (fun c5 => absurd c5 c4)
    refine lv_goto (tgt := 1589) hx hb dL_law_1572 (by decide) ?_
    refine W.widen (k := cells + 200) (n := slots + 2000) (by omega) (by omega) ?_
    exact kk L ad (tz v) o w H locs ls rfl rfl rfl hI9 hW hS (lv_sub hl [2, 3, 4, 5, 6] rfl)

set_option maxHeartbeats 4000000 in
set_option maxRecDepth 100000 in
theorem law_digest {p : Program} {l : Launch} {e : Env} {s : State} {m : MethodId} {below : List Frame} {meth : Method} {c : Code} {Q : State → Prop} {G : GG} {L : List Nat} {ad : Nat → Nat} {v : Nat → Nat → Int32} {o : Nat → Nat → Option Nat} {w : Nat → Int64} {H : Heap} {locs : List Loc} {ls : Array Slot} {cells slots B Ls i0 : Nat} {xs : Nat → Int32} {n : Int} {ng nh nl ns : Nat} {ow gx gy gw gd : Nat → Nat} (hst9 : l.stackTraces = false) (C0 : LAt p s m meth c B Ls xs G) (hL : Ls ≤ 4608) (hi : i0 + 8 < Ls) (hn0 : 0 ≤ n) (hn2 : n ≤ 600) (hN : INV G.2.2.2 n L ad v o ng nh nl ns ow gx gy gw gd) (hW : WD G L ad v o w s H) (hS : va_S (Ab G.2.2.1) s.heap H locs) (hl : lv_has ls 9 [(0, .ref B), (1, .ref (ad 0)), (2, .ref (ad 100)), (3, .ref (ad 170)), (4, .int (nI i0))]) (hf : cells + 200 ≤ 601024 ∧ slots + 2000 ≤ 7293034) (kk : LK p l e s m below meth c Q G B i0 (cells + 200) (slots + 2000) n (ad 0) (ad 100) (ad 170)) : W p l e room_1 s m #[Value.ref B] below meth c H locs cells slots Q (F0 m 1575 ls []) := by
  obtain ⟨hx, hb, hr, hml, hown, hts, hX, hbl, hlocks, hE, h0e, hNC⟩ := C0
  have h0 : G.2.2.1 ≤ s.heap.size := Nat.le_of_eq h0e
  have hbA : ¬ Ab G.2.2.1 B := by rw [h0e]; exact Nat.not_le.mpr hbl
  obtain ⟨rm, rmM, z, ⟨f1, f2, f3, f4⟩, ⟨g1, g2, g3, g4⟩, hC, hM, hI9⟩ := st_digest l hN hn0 hn2
  refine lv_aload_n hx hb dL_law_1575 rfl (lv_at hl 1 rfl) ?_
  refine q_cVl (As := []) (rest := []) (r := 0) hx hb hml hts hown hE h0 hW hS (hC w) mw_X5_digest hN.m0 rfl k_6 t_259 ⟨by show rm.frames + 1 ≤ 13; omega, by show 8 + (5 + 11) + rm.locals ≤ 508; omega⟩ rfl hl.1 (Nat.le_of_ble_eq_true rfl) dL_law_1576 ⟨by show cells + rm.cells ≤ 601024; omega, by show slots + rm.slots ≤ 7293034; omega⟩ (fun z9 u9 H locs hp hW hS => ?_)
  obtain ⟨q1, q2⟩ := hp
  rw [q2] at hW
  rw [q1]
  refine lv_aload_n hx hb dL_law_1579 rfl (lv_at hl 2 rfl) ?_
  refine q_cVl (As := []) (rest := [.long z]) (r := 100) hx hb hml hts hown hE h0 hW hS (hM w) mw_X7_digest hN.m100 rfl k_8 t_1130 ⟨by show rmM.frames + 1 ≤ 13; omega, by show 8 + (5 + 11) + rmM.locals ≤ 508; omega⟩ rfl hl.1 (Nat.le_of_ble_eq_true rfl) dL_law_1580 ⟨by show cells + rm.cells + rmM.cells ≤ 601024; omega, by show slots + rm.slots + rmM.slots ≤ 7293034; omega⟩ (fun z9 u9 H locs hp hW hS => ?_)
  obtain ⟨q1, q2⟩ := hp
  rw [q2] at hW
  rw [q1]
  refine W.lcmp hx hb dL_law_1583 ?_
  refine lv_if_eq (tgt := 1589) hx hb dL_law_1584 (by decide) (fun _ => ?_) (fun c3 => absurd (lcmp_eq rfl) c3)
  refine W.widen (k := cells + 200) (n := slots + 2000) (by omega) (by omega) ?_
  exact kk L ad (tz v) o w H locs ls rfl rfl rfl hI9 hW hS (lv_sub hl [0, 1, 2, 3, 4] rfl)

set_option maxHeartbeats 4000000 in
set_option maxRecDepth 100000 in
theorem law_setNet {p : Program} {l : Launch} {e : Env} {s : State} {m : MethodId} {below : List Frame} {meth : Method} {c : Code} {Q : State → Prop} {G : GG} {L : List Nat} {ad : Nat → Nat} {v : Nat → Nat → Int32} {o : Nat → Nat → Option Nat} {w : Nat → Int64} {H : Heap} {locs : List Loc} {ls : Array Slot} {cells slots B Ls i0 : Nat} {xs : Nat → Int32} {n : Int} {ng nh nl ns : Nat} {ow gx gy gw gd : Nat → Nat} (hst9 : l.stackTraces = false) (C0 : LAt p s m meth c B Ls xs G) (hL : Ls ≤ 4608) (hi : i0 + 8 < Ls) (hn0 : 0 ≤ n) (hn2 : n ≤ 600) (hN : INV G.2.2.2 n L ad v o ng nh nl ns ow gx gy gw gd) (hW : WD G L ad v o w s H) (hS : va_S (Ab G.2.2.1) s.heap H locs) (hl : lv_has ls 9 [(0, .ref B), (1, .ref (ad 0)), (2, .ref (ad 100)), (3, .ref (ad 170)), (4, .int (nI i0))]) (hf : cells + 200 ≤ 601024 ∧ slots + 2000 ≤ 7293034) (kk : LK p l e s m below meth c Q G B i0 (cells + 200) (slots + 2000) n (ad 0) (ad 100) (ad 170)) : W p l e room_1 s m #[Value.ref B] below meth c H locs cells slots Q (F0 m 324 ls []) := by
  obtain ⟨hx, hb, hr, hml, hown, hts, hX, hbl, hlocks, hE, h0e, hNC⟩ := C0
  have h0 : G.2.2.1 ≤ s.heap.size := Nat.le_of_eq h0e
  have hbA : ¬ Ab G.2.2.1 B := by rw [h0e]; exact Nat.not_le.mpr hbl
  by_cases cz : xs (i0 + 2) = 0
  · skip
    obtain ⟨rm, post, ⟨f1, f2, f3, f4⟩, hH, hB⟩ := st_setNet l hst9 hN hn0 hn2 (w := w) (xs (i0 + 1)) 0 (Or.inl rfl)
    refine lv_aload_n hx hb dL_law_324 rfl (lv_at hl 1 rfl) ?_
    refine lv_aload_n hx hb dL_law_325 rfl (lv_at hl 0 rfl) ?_
    refine lv_iload hx hb dL_law_326 (lv_at hl 4 rfl) ?_
    refine lv_iconst (v := 1) hx hb dL_law_328 (by decide) ?_
    refine lv_iadd hx hb dL_law_329 ?_
    refine q_sld hx hb hX hbl hbA hS hL hi (j := 1) rfl (by decide) dL_law_330 ?_
    refine lv_aload_n hx hb dL_law_331 rfl (lv_at hl 0 rfl) ?_
    refine lv_iload hx hb dL_law_332 (lv_at hl 4 rfl) ?_
    refine lv_iconst (v := 2) hx hb dL_law_334 (by decide) ?_
    refine lv_iadd hx hb dL_law_335 ?_
    refine q_sld hx hb hX hbl hbA hS hL hi (j := 2) rfl (by decide) dL_law_336 ?_
    refine lv_if_eq (tgt := 344) hx hb dL_law_337 (by decide) (fun _ => ?_) (fun c9 => absurd cz c9)
    refine lv_iconst (v := 0) hx hb dL_law_344 (by decide) ?_
    refine lv_aload_n hx hb dL_law_345 rfl (lv_at hl 3 rfl) ?_
    refine q_cH (n := 4) (As := [.ref (ad 0), .int (xs (i0 + 1)), .int 0, .ref (ad 170)]) (rest := []) hx hb hml hts hown hE h0 hNC hW hS hH t_590 t_589 t_45 (by decide) (by decide +kernel) t_588 ⟨by show rm.frames + 1 ≤ 13; omega, by show 8 + (5 + 11) + rm.locals ≤ 508; omega⟩ rfl hl.1 (Nat.le_of_ble_eq_true rfl) dL_law_346 ⟨by show cells + rm.cells ≤ 601024; omega, by show slots + rm.slots ≤ 7293034; omega⟩ (fun k P H locs hp hW hS => ?_)
    obtain ⟨⟨L1, ad1, v1, o1⟩, w1⟩ := P
    obtain ⟨e1, rmM, postM, ⟨g1, g2, g3, g4⟩, hM, hU⟩ := hB _ _ hp
    dsimp only at e1 hM hU hW
    have e0 := (e1 0 hN.m0).2; have e100 := (e1 100 hN.m100).2; have e170 := (e1 170 hN.m170).2; have q100 := (e1 100 hN.m100).1; have q170 := (e1 170 hN.m170).1
    rw [← e0, ← e100, ← e170] at hl kk
    rw [← e100] at hM
    refine lv_istore (lv' := [(5, .int k), (0, .ref B), (1, .ref (ad1 0)), (2, .ref (ad1 100)), (3, .ref (ad1 170)), (4, .int (nI i0))]) hx hb dL_law_349 hl (by decide) rfl (fun ls hl => ?_)
    refine lv_aload_n hx hb dL_law_351 rfl (lv_at hl 3 rfl) ?_
    refine lv_aload_n hx hb dL_law_352 rfl (lv_at hl 1 rfl) ?_
    refine lv_iload hx hb dL_law_353 (lv_at hl 5 rfl) ?_
    refine lv_iconst (v := 1) hx hb dL_law_355 (by decide) ?_
    refine lv_iadd hx hb dL_law_356 ?_
    refine q_sld hx hb hX hbl hbA hS hL hi (j := 1) rfl (by decide) dL_law_357 ?_
    refine lv_aload_n hx hb dL_law_358 rfl (lv_at hl 1 rfl) ?_
    refine lv_iload hx hb dL_law_359 (lv_at hl 5 rfl) ?_
    refine lv_iconst (v := 2) hx hb dL_law_361 (by decide) ?_
    refine lv_iadd hx hb dL_law_362 ?_
    refine q_sld hx hb hX hbl hbA hS hL hi (j := 2) rfl (by decide) dL_law_363 ?_
    refine lv_if_eq (tgt := 371) hx hb dL_law_364 (by decide) (fun _ => ?_) (fun c9 => absurd cz c9)
    refine lv_iconst (v := 0) hx hb dL_law_371 (by decide) ?_
    refine q_cVi (As := [.int (xs (i0 + 1)), .int 0]) (rest := []) (r := 100) hx hb hml hts hown hE h0 hW hS hM mw_X7_setNet q100 rfl k_8 t_982 ⟨by show rmM.frames + 1 ≤ 13; omega, by show 8 + (4 + 11) + rmM.locals ≤ 508; omega⟩ rfl hl.1 (Nat.le_of_ble_eq_true rfl) dL_law_372 ⟨by show cells + rm.cells + rmM.cells ≤ 601024; omega, by show slots + rm.slots + rmM.slots ≤ 7293034; omega⟩ (fun b9 u H locs hp2 hW hS => ?_)
    obtain ⟨u1, u2, u3⟩ := hU _ _ hp2
    refine lv_istore (lv' := [(6, .int b9), (5, .int k), (0, .ref B), (1, .ref (ad1 0)), (2, .ref (ad1 100)), (3, .ref (ad1 170)), (4, .int (nI i0))]) hx hb dL_law_375 hl (by decide) rfl (fun ls hl => ?_)
    refine lv_aload_n hx hb dL_law_377 rfl (lv_at hl 4 rfl) ?_
    refine q_cViE (As := []) (rest := []) (r := 100) hx hb hml hts hown hE h0 hW hS (c_X7_thrown l q100) mw_X7_thrown q100 rfl k_8 t_953 ⟨Nat.le_of_ble_eq_true rfl, Nat.le_of_ble_eq_true rfl⟩ rfl hl.1 (Nat.le_of_ble_eq_true rfl) dL_law_378 ⟨by show cells + rm.cells + rmM.cells ≤ 601024; omega, by show slots + rm.slots + rmM.slots ≤ 7293034; omega⟩ ⟨rfl, rfl⟩ (fun H locs hW hS => ?_)
    refine lv_iload hx hb dL_law_381 (lv_at hl 1 rfl) ?_
    refine lv_icmp_eq (tgt := 388) hx hb dL_law_383 (by decide) (fun _ => ?_) (fun c1 => absurd u1 c1)
    refine lv_iload hx hb dL_law_388 (lv_at hl 1 rfl) ?_
    refine lv_if_ne (tgt := 412) hx hb dL_law_390 (by decide) (fun c2 => ?_) (fun c2 => ?_)
    · skip
      refine lv_goto (tgt := 1589) hx hb dL_law_412 (by decide) ?_
      refine W.widen (k := cells + 200) (n := slots + 2000) (by omega) (by omega) ?_
      exact kk L1 ad1 u o1 w1 H locs ls rfl rfl rfl u3 hW hS (lv_sub hl [2, 3, 4, 5, 6] rfl)
    · skip
      refine lv_aload_n hx hb dL_law_393 rfl (lv_at hl 5 rfl) ?_
      refine lv_iconst (v := 0) hx hb dL_law_394 (by decide) ?_
      refine q_lald hx hb hW q170 dL_law_395 ?_
      refine lv_iload hx hb dL_law_396 (lv_at hl 0 rfl) ?_
      refine lv_if_eq (tgt := 405) hx hb dL_law_398 (by decide) (fun c5 => ?_) (fun c5 => ?_)
      · skip
        refine lv_lconst (v := 0) hx hb dL_law_405 rfl ?_
        refine W.lcmp hx hb dL_law_406 ?_
        refine lv_if_eq (tgt := 412) hx hb dL_law_407 (by decide) (fun _ => ?_) (fun c3 => absurd (lcmp_eq ((u2 c2).trans (if_pos c5))) c3)
        refine lv_goto (tgt := 1589) hx hb dL_law_412 (by decide) ?_
        refine W.widen (k := cells + 200) (n := slots + 2000) (by omega) (by omega) ?_
        exact kk L1 ad1 u o1 w1 H locs ls rfl rfl rfl u3 hW hS (lv_sub hl [2, 3, 4, 5, 6] rfl)
      · skip
        refine lv_lconst (v := 1) hx hb dL_law_401 rfl ?_
        refine lv_goto (tgt := 406) hx hb dL_law_402 (by decide) ?_
        refine W.lcmp hx hb dL_law_406 ?_
        refine lv_if_eq (tgt := 412) hx hb dL_law_407 (by decide) (fun _ => ?_) (fun c3 => absurd (lcmp_eq ((u2 c2).trans (if_neg c5))) c3)
        refine lv_goto (tgt := 1589) hx hb dL_law_412 (by decide) ?_
        refine W.widen (k := cells + 200) (n := slots + 2000) (by omega) (by omega) ?_
        exact kk L1 ad1 u o1 w1 H locs ls rfl rfl rfl u3 hW hS (lv_sub hl [2, 3, 4, 5, 6] rfl)
  · skip
    obtain ⟨rm, post, ⟨f1, f2, f3, f4⟩, hH, hB⟩ := st_setNet l hst9 hN hn0 hn2 (w := w) (xs (i0 + 1)) 1 (Or.inr rfl)
    refine lv_aload_n hx hb dL_law_324 rfl (lv_at hl 1 rfl) ?_
    refine lv_aload_n hx hb dL_law_325 rfl (lv_at hl 0 rfl) ?_
    refine lv_iload hx hb dL_law_326 (lv_at hl 4 rfl) ?_
    refine lv_iconst (v := 1) hx hb dL_law_328 (by decide) ?_
    refine lv_iadd hx hb dL_law_329 ?_
    refine q_sld hx hb hX hbl hbA hS hL hi (j := 1) rfl (by decide) dL_law_330 ?_
    refine lv_aload_n hx hb dL_law_331 rfl (lv_at hl 0 rfl) ?_
    refine lv_iload hx hb dL_law_332 (lv_at hl 4 rfl) ?_
    refine lv_iconst (v := 2) hx hb dL_law_334 (by decide) ?_
    refine lv_iadd hx hb dL_law_335 ?_
    refine q_sld hx hb hX hbl hbA hS hL hi (j := 2) rfl (by decide) dL_law_336 ?_
    refine lv_if_eq (tgt := 344) hx hb dL_law_337 (by decide) (fun c9 => absurd c9 cz) (fun _ => ?_)
    refine lv_iconst (v := 1) hx hb dL_law_340 (by decide) ?_
    refine lv_goto (tgt := 345) hx hb dL_law_341 (by decide) ?_
    refine lv_aload_n hx hb dL_law_345 rfl (lv_at hl 3 rfl) ?_
    refine q_cH (n := 4) (As := [.ref (ad 0), .int (xs (i0 + 1)), .int 1, .ref (ad 170)]) (rest := []) hx hb hml hts hown hE h0 hNC hW hS hH t_590 t_589 t_45 (by decide) (by decide +kernel) t_588 ⟨by show rm.frames + 1 ≤ 13; omega, by show 8 + (5 + 11) + rm.locals ≤ 508; omega⟩ rfl hl.1 (Nat.le_of_ble_eq_true rfl) dL_law_346 ⟨by show cells + rm.cells ≤ 601024; omega, by show slots + rm.slots ≤ 7293034; omega⟩ (fun k P H locs hp hW hS => ?_)
    obtain ⟨⟨L1, ad1, v1, o1⟩, w1⟩ := P
    obtain ⟨e1, rmM, postM, ⟨g1, g2, g3, g4⟩, hM, hU⟩ := hB _ _ hp
    dsimp only at e1 hM hU hW
    have e0 := (e1 0 hN.m0).2; have e100 := (e1 100 hN.m100).2; have e170 := (e1 170 hN.m170).2; have q100 := (e1 100 hN.m100).1; have q170 := (e1 170 hN.m170).1
    rw [← e0, ← e100, ← e170] at hl kk
    rw [← e100] at hM
    refine lv_istore (lv' := [(5, .int k), (0, .ref B), (1, .ref (ad1 0)), (2, .ref (ad1 100)), (3, .ref (ad1 170)), (4, .int (nI i0))]) hx hb dL_law_349 hl (by decide) rfl (fun ls hl => ?_)
    refine lv_aload_n hx hb dL_law_351 rfl (lv_at hl 3 rfl) ?_
    refine lv_aload_n hx hb dL_law_352 rfl (lv_at hl 1 rfl) ?_
    refine lv_iload hx hb dL_law_353 (lv_at hl 5 rfl) ?_
    refine lv_iconst (v := 1) hx hb dL_law_355 (by decide) ?_
    refine lv_iadd hx hb dL_law_356 ?_
    refine q_sld hx hb hX hbl hbA hS hL hi (j := 1) rfl (by decide) dL_law_357 ?_
    refine lv_aload_n hx hb dL_law_358 rfl (lv_at hl 1 rfl) ?_
    refine lv_iload hx hb dL_law_359 (lv_at hl 5 rfl) ?_
    refine lv_iconst (v := 2) hx hb dL_law_361 (by decide) ?_
    refine lv_iadd hx hb dL_law_362 ?_
    refine q_sld hx hb hX hbl hbA hS hL hi (j := 2) rfl (by decide) dL_law_363 ?_
    refine lv_if_eq (tgt := 371) hx hb dL_law_364 (by decide) (fun c9 => absurd c9 cz) (fun _ => ?_)
    refine lv_iconst (v := 1) hx hb dL_law_367 (by decide) ?_
    refine lv_goto (tgt := 372) hx hb dL_law_368 (by decide) ?_
    refine q_cVi (As := [.int (xs (i0 + 1)), .int 1]) (rest := []) (r := 100) hx hb hml hts hown hE h0 hW hS hM mw_X7_setNet q100 rfl k_8 t_982 ⟨by show rmM.frames + 1 ≤ 13; omega, by show 8 + (4 + 11) + rmM.locals ≤ 508; omega⟩ rfl hl.1 (Nat.le_of_ble_eq_true rfl) dL_law_372 ⟨by show cells + rm.cells + rmM.cells ≤ 601024; omega, by show slots + rm.slots + rmM.slots ≤ 7293034; omega⟩ (fun b9 u H locs hp2 hW hS => ?_)
    obtain ⟨u1, u2, u3⟩ := hU _ _ hp2
    refine lv_istore (lv' := [(6, .int b9), (5, .int k), (0, .ref B), (1, .ref (ad1 0)), (2, .ref (ad1 100)), (3, .ref (ad1 170)), (4, .int (nI i0))]) hx hb dL_law_375 hl (by decide) rfl (fun ls hl => ?_)
    refine lv_aload_n hx hb dL_law_377 rfl (lv_at hl 4 rfl) ?_
    refine q_cViE (As := []) (rest := []) (r := 100) hx hb hml hts hown hE h0 hW hS (c_X7_thrown l q100) mw_X7_thrown q100 rfl k_8 t_953 ⟨Nat.le_of_ble_eq_true rfl, Nat.le_of_ble_eq_true rfl⟩ rfl hl.1 (Nat.le_of_ble_eq_true rfl) dL_law_378 ⟨by show cells + rm.cells + rmM.cells ≤ 601024; omega, by show slots + rm.slots + rmM.slots ≤ 7293034; omega⟩ ⟨rfl, rfl⟩ (fun H locs hW hS => ?_)
    refine lv_iload hx hb dL_law_381 (lv_at hl 1 rfl) ?_
    refine lv_icmp_eq (tgt := 388) hx hb dL_law_383 (by decide) (fun _ => ?_) (fun c1 => absurd u1 c1)
    refine lv_iload hx hb dL_law_388 (lv_at hl 1 rfl) ?_
    refine lv_if_ne (tgt := 412) hx hb dL_law_390 (by decide) (fun c2 => ?_) (fun c2 => ?_)
    · skip
      refine lv_goto (tgt := 1589) hx hb dL_law_412 (by decide) ?_
      refine W.widen (k := cells + 200) (n := slots + 2000) (by omega) (by omega) ?_
      exact kk L1 ad1 u o1 w1 H locs ls rfl rfl rfl u3 hW hS (lv_sub hl [2, 3, 4, 5, 6] rfl)
    · skip
      refine lv_aload_n hx hb dL_law_393 rfl (lv_at hl 5 rfl) ?_
      refine lv_iconst (v := 0) hx hb dL_law_394 (by decide) ?_
      refine q_lald hx hb hW q170 dL_law_395 ?_
      refine lv_iload hx hb dL_law_396 (lv_at hl 0 rfl) ?_
      refine lv_if_eq (tgt := 405) hx hb dL_law_398 (by decide) (fun c5 => ?_) (fun c5 => ?_)
      · skip
        refine lv_lconst (v := 0) hx hb dL_law_405 rfl ?_
        refine W.lcmp hx hb dL_law_406 ?_
        refine lv_if_eq (tgt := 412) hx hb dL_law_407 (by decide) (fun _ => ?_) (fun c3 => absurd (lcmp_eq ((u2 c2).trans (if_pos c5))) c3)
        refine lv_goto (tgt := 1589) hx hb dL_law_412 (by decide) ?_
        refine W.widen (k := cells + 200) (n := slots + 2000) (by omega) (by omega) ?_
        exact kk L1 ad1 u o1 w1 H locs ls rfl rfl rfl u3 hW hS (lv_sub hl [2, 3, 4, 5, 6] rfl)
      · skip
        refine lv_lconst (v := 1) hx hb dL_law_401 rfl ?_
        refine lv_goto (tgt := 406) hx hb dL_law_402 (by decide) ?_
        refine W.lcmp hx hb dL_law_406 ?_
        refine lv_if_eq (tgt := 412) hx hb dL_law_407 (by decide) (fun _ => ?_) (fun c3 => absurd (lcmp_eq ((u2 c2).trans (if_neg c5))) c3)
        refine lv_goto (tgt := 1589) hx hb dL_law_412 (by decide) ?_
        refine W.widen (k := cells + 200) (n := slots + 2000) (by omega) (by omega) ?_
        exact kk L1 ad1 u o1 w1 H locs ls rfl rfl rfl u3 hW hS (lv_sub hl [2, 3, 4, 5, 6] rfl)
