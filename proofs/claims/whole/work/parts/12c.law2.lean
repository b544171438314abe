/-! the law, case by case -/
set_option maxHeartbeats 4000000 in
set_option maxRecDepth 100000 in
theorem law_addGrower {p : Program} {l : Launch} {e : Env} {s : State} {m : MethodId} {below : List Frame} {meth : Method} {c : Code} {Q : State → Prop} {G : GG} {L : List Nat} {ad : Nat → Nat} {v : Nat → Nat → Int32} {o : Nat → Nat → Option Nat} {w : Nat → Int64} {H : Heap} {locs : List Loc} {ls : Array Slot} {cells slots B Ls i0 : Nat} {xs : Nat → Int32} {n : Int} {ng nh nl ns : Nat} {ow gx gy gw gd : Nat → Nat} (hst9 : l.stackTraces = false) (C0 : LAt p s m meth c B Ls xs G) (hL : Ls ≤ 4608) (hi : i0 + 8 < Ls) (hn0 : 0 ≤ n) (hn2 : n ≤ 600) (hN : INV G.2.2.2 n L ad v o ng nh nl ns ow gx gy gw gd) (hW : WD G L ad v o w s H) (hS : va_S (Ab G.2.2.1) s.heap H locs) (hl : lv_has ls 9 [(0, .ref B), (1, .ref (ad 0)), (2, .ref (ad 100)), (3, .ref (ad 170)), (4, .int (nI i0))]) (hf : cells + 200 ≤ 601024 ∧ slots + 2000 ≤ 7293034) (kk : LK p l e s m below meth c Q G B i0 (cells + 200) (slots + 2000) n (ad 0) (ad 100) (ad 170)) : W p l e room_1 s m #[Value.ref B] below meth c H locs cells slots Q (F0 m 136 ls []) := by
  obtain ⟨hx, hb, hr, hml, hown, hts, hX, hbl, hlocks, hE, h0e, hNC⟩ := C0
  have h0 : G.2.2.1 ≤ s.heap.size := Nat.le_of_eq h0e
  have hbA : ¬ Ab G.2.2.1 B := by rw [h0e]; exact Nat.not_le.mpr hbl
  obtain ⟨rm, post, ⟨f1, f2, f3, f4⟩, hH, hB⟩ := st_addGrower l hst9 hN hn0 hn2 (w := w) (xs (i0 + 1))
  refine lv_aload_n hx hb dL_law_136 rfl (lv_at hl 1 rfl) ?_
  refine lv_aload_n hx hb dL_law_137 rfl (lv_at hl 0 rfl) ?_
  refine lv_iload hx hb dL_law_138 (lv_at hl 4 rfl) ?_
  refine lv_iconst (v := 1) hx hb dL_law_140 (by decide) ?_
  refine lv_iadd hx hb dL_law_141 ?_
  refine q_sld hx hb hX hbl hbA hS hL hi (j := 1) rfl (by decide) dL_law_142 ?_
  refine lv_aload_n hx hb dL_law_143 rfl (lv_at hl 3 rfl) ?_
  refine q_cH (n := 3) (As := [.ref (ad 0), .int (xs (i0 + 1)), .ref (ad 170)]) (rest := []) hx hb hml hts hown hE h0 hNC hW hS hH t_310 t_309 t_45 (by decide) (by decide +kernel) t_308 ⟨by show rm.frames + 1 ≤ 13; omega, by show 8 + (4 + 11) + rm.locals ≤ 508; omega⟩ rfl hl.1 (Nat.le_of_ble_eq_true rfl) dL_law_144 ⟨by show cells + rm.cells ≤ 601024; omega, by show slots + rm.slots ≤ 7293034; omega⟩ (fun k P H locs hp hW hS => ?_)
  obtain ⟨⟨L1, ad1, v1, o1⟩, w1⟩ := P
  obtain ⟨e1, rmM, postM, ⟨g1, g2, g3, g4⟩, hM, hU⟩ := hB _ _ hp
  dsimp only at e1 hM hU hW
  have e0 := (e1 0 hN.m0).2; have e100 := (e1 100 hN.m100).2; have e170 := (e1 170 hN.m170).2; have q100 := (e1 100 hN.m100).1; have q170 := (e1 170 hN.m170).1
  rw [← e0, ← e100, ← e170] at hl kk
  rw [← e100] at hM
  refine lv_istore (lv' := [(5, .int k), (0, .ref B), (1, .ref (ad1 0)), (2, .ref (ad1 100)), (3, .ref (ad1 170)), (4, .int (nI i0))]) hx hb dL_law_147 hl (by decide) rfl (fun ls hl => ?_)
  refine lv_aload_n hx hb dL_law_149 rfl (lv_at hl 3 rfl) ?_
  refine lv_aload_n hx hb dL_law_150 rfl (lv_at hl 1 rfl) ?_
  refine lv_iload hx hb dL_law_151 (lv_at hl 5 rfl) ?_
  refine lv_iconst (v := 1) hx hb dL_law_153 (by decide) ?_
  refine lv_iadd hx hb dL_law_154 ?_
  refine q_sld hx hb hX hbl hbA hS hL hi (j := 1) rfl (by decide) dL_law_155 ?_
  refine q_cVi (As := [.int (xs (i0 + 1))]) (rest := []) (r := 100) hx hb hml hts hown hE h0 hW hS hM mw_X7_addGrower q100 rfl k_8 t_957 ⟨by show rmM.frames + 1 ≤ 13; omega, by show 8 + (2 + 11) + rmM.locals ≤ 508; omega⟩ rfl hl.1 (Nat.le_of_ble_eq_true rfl) dL_law_156 ⟨by show cells + rm.cells + rmM.cells ≤ 601024; omega, by show slots + rm.slots + rmM.slots ≤ 7293034; omega⟩ (fun b9 u H locs hp2 hW hS => ?_)
  obtain ⟨u1, u2, u3⟩ := hU _ _ hp2
  refine lv_istore (lv' := [(6, .int b9), (5, .int k), (0, .ref B), (1, .ref (ad1 0)), (2, .ref (ad1 100)), (3, .ref (ad1 170)), (4, .int (nI i0))]) hx hb dL_law_159 hl (by decide) rfl (fun ls hl => ?_)
  refine lv_aload_n hx hb dL_law_161 rfl (lv_at hl 4 rfl) ?_
  refine q_cViE (As := []) (rest := []) (r := 100) hx hb hml hts hown hE h0 hW hS (c_X7_thrown l q100) mw_X7_thrown q100 rfl k_8 t_953 ⟨Nat.le_of_ble_eq_true rfl, Nat.le_of_ble_eq_true rfl⟩ rfl hl.1 (Nat.le_of_ble_eq_true rfl) dL_law_162 ⟨by show cells + rm.cells + rmM.cells ≤ 601024; omega, by show slots + rm.slots + rmM.slots ≤ 7293034; omega⟩ ⟨rfl, rfl⟩ (fun H locs hW hS => ?_)
  refine lv_iload hx hb dL_law_165 (lv_at hl 1 rfl) ?_
  refine lv_icmp_eq (tgt := 172) hx hb dL_law_167 (by decide) (fun _ => ?_) (fun c1 => absurd u1 c1)
  refine lv_iload hx hb dL_law_172 (lv_at hl 1 rfl) ?_
  refine lv_if_ne (tgt := 189) hx hb dL_law_174 (by decide) (fun c2 => ?_) (fun c2 => ?_)
  · skip
    refine lv_goto (tgt := 1589) hx hb dL_law_189 (by decide) ?_
    refine W.widen (k := cells + 200) (n := slots + 2000) (by omega) (by omega) ?_
    exact kk L1 ad1 u o1 w1 H locs ls rfl rfl rfl u3 hW hS (lv_sub hl [2, 3, 4, 5, 6] rfl)
  · skip
    refine lv_aload_n hx hb dL_law_177 rfl (lv_at hl 5 rfl) ?_
    refine lv_iconst (v := 0) hx hb dL_law_178 (by decide) ?_
    refine q_lald hx hb hW q170 dL_law_179 ?_
    refine lv_iload hx hb dL_law_180 (lv_at hl 0 rfl) ?_
    refine lv_i2l (v := b9.toInt64) hx hb dL_law_182 rfl ?_
    refine W.lcmp hx hb dL_law_183 ?_
    refine lv_if_eq (tgt := 189) hx hb dL_law_184 (by decide) (fun _ => ?_) (fun c3 => absurd (lcmp_eq (u2 c2)) c3)
    refine lv_goto (tgt := 1589) hx hb dL_law_189 (by decide) ?_
    refine W.widen (k := cells + 200) (n := slots + 2000) (by omega) (by omega) ?_
    exact kk L1 ad1 u o1 w1 H locs ls rfl rfl rfl u3 hW hS (lv_sub hl [2, 3, 4, 5, 6] rfl)

set_option maxHeartbeats 4000000 in
set_option maxRecDepth 100000 in
theorem law_insure {p : Program} {l : Launch} {e : Env} {s : State} {m : MethodId} {below : List Frame} {meth : Method} {c : Code} {Q : State → Prop} {G : GG} {L : List Nat} {ad : Nat → Nat} {v : Nat → Nat → Int32} {o : Nat → Nat → Option Nat} {w : Nat → Int64} {H : Heap} {locs : List Loc} {ls : Array Slot} {cells slots B Ls i0 : Nat} {xs : Nat → Int32} {n : Int} {ng nh nl ns : Nat} {ow gx gy gw gd : Nat → Nat} (hst9 : l.stackTraces = false) (C0 : LAt p s m meth c B Ls xs G) (hL : Ls ≤ 4608) (hi : i0 + 8 < Ls) (hn0 : 0 ≤ n) (hn2 : n ≤ 600) (hN : INV G.2.2.2 n L ad v o ng nh nl ns ow gx gy gw gd) (hW : WD G L ad v o w s H) (hS : va_S (Ab G.2.2.1) s.heap H locs) (hl : lv_has ls 9 [(0, .ref B), (1, .ref (ad 0)), (2, .ref (ad 100)), (3, .ref (ad 170)), (4, .int (nI i0))]) (hf : cells + 200 ≤ 601024 ∧ slots + 2000 ≤ 7293034) (kk : LK p l e s m below meth c Q G B i0 (cells + 200) (slots + 2000) n (ad 0) (ad 100) (ad 170)) : W p l e room_1 s m #[Value.ref B] below meth c H locs cells slots Q (F0 m 415 ls []) := by
  obtain ⟨hx, hb, hr, hml, hown, hts, hX, hbl, hlocks, hE, h0e, hNC⟩ := C0
  have h0 : G.2.2.1 ≤ s.heap.size := Nat.le_of_eq h0e
  have hbA : ¬ Ab G.2.2.1 B := by rw [h0e]; exact Nat.not_le.mpr hbl
  obtain ⟨rm, post, ⟨f1, f2, f3, f4⟩, hH, hB⟩ := st_insure l hst9 hN hn0 hn2 (w := w) (xs (i0 + 1)) (xs (i0 + 2)) (xs (i0 + 3)) (xs (i0 + 4))
  refine lv_aload_n hx hb dL_law_415 rfl (lv_at hl 1 rfl) ?_
  refine lv_aload_n hx hb dL_law_416 rfl (lv_at hl 0 rfl) ?_
  refine lv_iload hx hb dL_law_417 (lv_at hl 4 rfl) ?_
  refine lv_iconst (v := 1) hx hb dL_law_419 (by decide) ?_
  refine lv_iadd hx hb dL_law_420 ?_
  refine q_sld hx hb hX hbl hbA hS hL hi (j := 1) rfl (by decide) dL_law_421 ?_
  refine lv_aload_n hx hb dL_law_422 rfl (lv_at hl 0 rfl) ?_
  refine lv_iload hx hb dL_law_423 (lv_at hl 4 rfl) ?_
  refine lv_iconst (v := 2) hx hb dL_law_425 (by decide) ?_
  refine lv_iadd hx hb dL_law_426 ?_
  refine q_sld hx hb hX hbl hbA hS hL hi (j := 2) rfl (by decide) dL_law_427 ?_
  refine lv_aload_n hx hb dL_law_428 rfl (lv_at hl 0 rfl) ?_
  refine lv_iload hx hb dL_law_429 (lv_at hl 4 rfl) ?_
  refine lv_iconst (v := 3) hx hb dL_law_431 (by decide) ?_
  refine lv_iadd hx hb dL_law_432 ?_
  refine q_sld hx hb hX hbl hbA hS hL hi (j := 3) rfl (by decide) dL_law_433 ?_
  refine lv_aload_n hx hb dL_law_434 rfl (lv_at hl 0 rfl) ?_
  refine lv_iload hx hb dL_law_435 (lv_at hl 4 rfl) ?_
  refine lv_iconst (v := 4) hx hb dL_law_437 (by decide) ?_
  refine lv_iadd hx hb dL_law_438 ?_
  refine q_sld hx hb hX hbl hbA hS hL hi (j := 4) rfl (by decide) dL_law_439 ?_
  refine lv_aload_n hx hb dL_law_440 rfl (lv_at hl 3 rfl) ?_
  refine q_cH (n := 6) (As := [.ref (ad 0), .int (xs (i0 + 1)), .int (xs (i0 + 2)), .int (xs (i0 + 3)), .int (xs (i0 + 4)), .ref (ad 170)]) (rest := []) hx hb hml hts hown hE h0 hNC hW hS hH t_602 t_601 t_45 (by decide) (by decide +kernel) t_600 ⟨by show rm.frames + 1 ≤ 13; omega, by show 8 + (7 + 11) + rm.locals ≤ 508; omega⟩ rfl hl.1 (Nat.le_of_ble_eq_true rfl) dL_law_441 ⟨by show cells + rm.cells ≤ 601024; omega, by show slots + rm.slots ≤ 7293034; omega⟩ (fun k P H locs hp hW hS => ?_)
  obtain ⟨⟨L1, ad1, v1, o1⟩, w1⟩ := P
  obtain ⟨e1, rmM, postM, ⟨g1, g2, g3, g4⟩, hM, hU⟩ := hB _ _ hp
  dsimp only at e1 hM hU hW
  have e0 := (e1 0 hN.m0).2; have e100 := (e1 100 hN.m100).2; have e170 := (e1 170 hN.m170).2; have q100 := (e1 100 hN.m100).1; have q170 := (e1 170 hN.m170).1
  rw [← e0, ← e100, ← e170] at hl kk
  rw [← e100] at hM
  refine lv_istore (lv' := [(5, .int k), (0, .ref B), (1, .ref (ad1 0)), (2, .ref (ad1 100)), (3, .ref (ad1 170)), (4, .int (nI i0))]) hx hb dL_law_444 hl (by decide) rfl (fun ls hl => ?_)
  refine lv_aload_n hx hb dL_law_446 rfl (lv_at hl 3 rfl) ?_
  refine lv_aload_n hx hb dL_law_447 rfl (lv_at hl 1 rfl) ?_
  refine lv_iload hx hb dL_law_448 (lv_at hl 5 rfl) ?_
  refine lv_iconst (v := 1) hx hb dL_law_450 (by decide) ?_
  refine lv_iadd hx hb dL_law_451 ?_
  refine q_sld hx hb hX hbl hbA hS hL hi (j := 1) rfl (by decide) dL_law_452 ?_
  refine lv_aload_n hx hb dL_law_453 rfl (lv_at hl 1 rfl) ?_
  refine lv_iload hx hb dL_law_454 (lv_at hl 5 rfl) ?_
  refine lv_iconst (v := 2) hx hb dL_law_456 (by decide) ?_
  refine lv_iadd hx hb dL_law_457 ?_
  refine q_sld hx hb hX hbl hbA hS hL hi (j := 2) rfl (by decide) dL_law_458 ?_
  refine lv_aload_n hx hb dL_law_459 rfl (lv_at hl 1 rfl) ?_
  refine lv_iload hx hb dL_law_460 (lv_at hl 5 rfl) ?_
  refine lv_iconst (v := 3) hx hb dL_law_462 (by decide) ?_
  refine lv_iadd hx hb dL_law_463 ?_
  refine q_sld hx hb hX hbl hbA hS hL hi (j := 3) rfl (by decide) dL_law_464 ?_
  refine lv_aload_n hx hb dL_law_465 rfl (lv_at hl 1 rfl) ?_
  refine lv_iload hx hb dL_law_466 (lv_at hl 5 rfl) ?_
  refine lv_iconst (v := 4) hx hb dL_law_468 (by decide) ?_
  refine lv_iadd hx hb dL_law_469 ?_
  refine q_sld hx hb hX hbl hbA hS hL hi (j := 4) rfl (by decide) dL_law_470 ?_
  refine q_cVi (As := [.int (xs (i0 + 1)), .int (xs (i0 + 2)), .int (xs (i0 + 3)), .int (xs (i0 + 4))]) (rest := []) (r := 100) hx hb hml hts hown hE h0 hW hS hM mw_X7_insure q100 rfl k_8 t_990 ⟨by show rmM.frames + 1 ≤ 13; omega, by show 8 + (6 + 11) + rmM.locals ≤ 508; omega⟩ rfl hl.1 (Nat.le_of_ble_eq_true rfl) dL_law_471 ⟨by show cells + rm.cells + rmM.cells ≤ 601024; omega, by show slots + rm.slots + rmM.slots ≤ 7293034; omega⟩ (fun b9 u H locs hp2 hW hS => ?_)
  obtain ⟨u1, u2, u3⟩ := hU _ _ hp2
  refine lv_istore (lv' := [(6, .int b9), (5, .int k), (0, .ref B), (1, .ref (ad1 0)), (2, .ref (ad1 100)), (3, .ref (ad1 170)), (4, .int (nI i0))]) hx hb dL_law_474 hl (by decide) rfl (fun ls hl => ?_)
  refine lv_aload_n hx hb dL_law_476 rfl (lv_at hl 4 rfl) ?_
  refine q_cViE (As := []) (rest := []) (r := 100) hx hb hml hts hown hE h0 hW hS (c_X7_thrown l q100) mw_X7_thrown q100 rfl k_8 t_953 ⟨Nat.le_of_ble_eq_true rfl, Nat.le_of_ble_eq_true rfl⟩ rfl hl.1 (Nat.le_of_ble_eq_true rfl) dL_law_477 ⟨by show cells + rm.cells + rmM.cells ≤ 601024; omega, by show slots + rm.slots + rmM.slots ≤ 7293034; omega⟩ ⟨rfl, rfl⟩ (fun H locs hW hS => ?_)
  refine lv_iload hx hb dL_law_480 (lv_at hl 1 rfl) ?_
  refine lv_icmp_eq (tgt := 487) hx hb dL_law_482 (by decide) (fun _ => ?_) (fun c1 => absurd u1 c1)
  refine lv_iload hx hb dL_law_487 (lv_at hl 1 rfl) ?_
  refine lv_if_ne (tgt := 504) hx hb dL_law_489 (by decide) (fun c2 => ?_) (fun c2 => ?_)
  · skip
    refine lv_goto (tgt := 1589) hx hb dL_law_504 (by decide) ?_
    refine W.widen (k := cells + 200) (n := slots + 2000) (by omega) (by omega) ?_
    exact kk L1 ad1 u o1 w1 H locs ls rfl rfl rfl u3 hW hS (lv_sub hl [2, 3, 4, 5, 6] rfl)
  · skip
    refine lv_aload_n hx hb dL_law_492 rfl (lv_at hl 5 rfl) ?_
    refine lv_iconst (v := 0) hx hb dL_law_493 (by decide) ?_
    refine q_lald hx hb hW q170 dL_law_494 ?_
    refine lv_iload hx hb dL_law_495 (lv_at hl 0 rfl) ?_
    refine lv_i2l (v := b9.toInt64) hx hb dL_law_497 rfl ?_
    refine W.lcmp hx hb dL_law_498 ?_
    refine lv_if_eq (tgt := 504) hx hb dL_law_499 (by decide) (fun _ => ?_) (fun c3 => absurd (lcmp_eq (u2 c2)) c3)
    refine lv_goto (tgt := 1589) hx hb dL_law_504 (by decide) ?_
    refine W.widen (k := cells + 200) (n := slots + 2000) (by omega) (by omega) ?_
    exact kk L1 ad1 u o1 w1 H locs ls rfl rfl rfl u3 hW hS (lv_sub hl [2, 3, 4, 5, 6] rfl)

set_option maxHeartbeats 4000000 in
set_option maxRecDepth 100000 in
theorem law_mend {p : Program} {l : Launch} {e : Env} {s : State} {m : MethodId} {below : List Frame} {meth : Method} {c : Code} {Q : State → Prop} {G : GG} {L : List Nat} {ad : Nat → Nat} {v : Nat → Nat → Int32} {o : Nat → Nat → Option Nat} {w : Nat → Int64} {H : Heap} {locs : List Loc} {ls : Array Slot} {cells slots B Ls i0 : Nat} {xs : Nat → Int32} {n : Int} {ng nh nl ns : Nat} {ow gx gy gw gd : Nat → Nat} (hst9 : l.stackTraces = false) (C0 : LAt p s m meth c B Ls xs G) (hL : Ls ≤ 4608) (hi : i0 + 8 < Ls) (hn0 : 0 ≤ n) (hn2 : n ≤ 600) (hN : INV G.2.2.2 n L ad v o ng nh nl ns ow gx gy gw gd) (hW : WD G L ad v o w s H) (hS : va_S (Ab G.2.2.1) s.heap H locs) (hl : lv_has ls 9 [(0, .ref B), (1, .ref (ad 0)), (2, .ref (ad 100)), (3, .ref (ad 170)), (4, .int (nI i0))]) (hf : cells + 200 ≤ 601024 ∧ slots + 2000 ≤ 7293034) (kk : LK p l e s m below meth c Q G B i0 (cells + 200) (slots + 2000) n (ad 0) (ad 100) (ad 170)) : W p l e room_1 s m #[Value.ref B] below meth c H locs cells slots Q (F0 m 507 ls []) := by
  obtain ⟨hx, hb, hr, hml, hown, hts, hX, hbl, hlocks, hE, h0e, hNC⟩ := C0
  have h0 : G.2.2.1 ≤ s.heap.size := Nat.le_of_eq h0e
  have hbA : ¬ Ab G.2.2.1 B := by rw [h0e]; exact Nat.not_le.mpr hbl
  obtain ⟨rm, post, ⟨f1, f2, f3, f4⟩, hH, hB⟩ := st_mend l hst9 hN hn0 hn2 (w := w) (xs (i0 + 1))
  refine lv_aload_n hx hb dL_law_507 rfl (lv_at hl 1 rfl) ?_
  refine lv_aload_n hx hb dL_law_508 rfl (lv_at hl 0 rfl) ?_
  refine lv_iload hx hb dL_law_509 (lv_at hl 4 rfl) ?_
  refine lv_iconst (v := 1) hx hb dL_law_511 (by decide) ?_
  refine lv_iadd hx hb dL_law_512 ?_
  refine q_sld hx hb hX hbl hbA hS hL hi (j := 1) rfl (by decide) dL_law_513 ?_
  refine lv_aload_n hx hb dL_law_514 rfl (lv_at hl 3 rfl) ?_
  refine q_cH (n := 3) (As := [.ref (ad 0), .int (xs (i0 + 1)), .ref (ad 170)]) (rest := []) hx hb hml hts hown hE h0 hNC hW hS hH t_613 t_612 t_45 (by decide) (by decide +kernel) t_611 ⟨by show rm.frames + 1 ≤ 13; omega, by show 8 + (4 + 11) + rm.locals ≤ 508; omega⟩ rfl hl.1 (Nat.le_of_ble_eq_true rfl) dL_law_515 ⟨by show cells + rm.cells ≤ 601024; omega, by show slots + rm.slots ≤ 7293034; omega⟩ (fun k P H locs hp hW hS => ?_)
  obtain ⟨⟨L1, ad1, v1, o1⟩, w1⟩ := P
  obtain ⟨e1, rmM, postM, ⟨g1, g2, g3, g4⟩, hM, hU⟩ := hB _ _ hp
  dsimp only at e1 hM hU hW
  have e0 := (e1 0 hN.m0).2; have e100 := (e1 100 hN.m100).2; have e170 := (e1 170 hN.m170).2; have q100 := (e1 100 hN.m100).1; have q170 := (e1 170 hN.m170).1
  rw [← e0, ← e100, ← e170] at hl kk
  rw [← e100] at hM
  refine lv_istore (lv' := [(5, .int k), (0, .ref B), (1, .ref (ad1 0)), (2, .ref (ad1 100)), (3, .ref (ad1 170)), (4, .int (nI i0))]) hx hb dL_law_518 hl (by decide) rfl (fun ls hl => ?_)
  refine lv_aload_n hx hb dL_law_520 rfl (lv_at hl 3 rfl) ?_
  refine lv_aload_n hx hb dL_law_521 rfl (lv_at hl 1 rfl) ?_
  refine lv_iload hx hb dL_law_522 (lv_at hl 5 rfl) ?_
  refine lv_iconst (v := 1) hx hb dL_law_524 (by decide) ?_
  refine lv_iadd hx hb dL_law_525 ?_
  refine q_sld hx hb hX hbl hbA hS hL hi (j := 1) rfl (by decide) dL_law_526 ?_
  refine q_cVi (As := [.int (xs (i0 + 1))]) (rest := []) (r := 100) hx hb hml hts hown hE h0 hW hS hM mw_X7_mend q100 rfl k_8 t_995 ⟨by show rmM.frames + 1 ≤ 13; omega, by show 8 + (5 + 11) + rmM.locals ≤ 508; omega⟩ rfl hl.1 (Nat.le_of_ble_eq_true rfl) dL_law_527 ⟨by show cells + rm.cells + rmM.cells ≤ 601024; omega, by show slots + rm.slots + rmM.slots ≤ 7293034; omega⟩ (fun b9 u H locs hp2 hW hS => ?_)
  obtain ⟨u1, u2, u3⟩ := hU _ _ hp2
  refine lv_istore (lv' := [(6, .int b9), (5, .int k), (0, .ref B), (1, .ref (ad1 0)), (2, .ref (ad1 100)), (3, .ref (ad1 170)), (4, .int (nI i0))]) hx hb dL_law_530 hl (by decide) rfl (fun ls hl => ?_)
  refine lv_aload_n hx hb dL_law_532 rfl (lv_at hl 4 rfl) ?_
  refine q_cViE (As := []) (rest := []) (r := 100) hx hb hml hts hown hE h0 hW hS (c_X7_thrown l q100) mw_X7_thrown q100 rfl k_8 t_953 ⟨Nat.le_of_ble_eq_true rfl, Nat.le_of_ble_eq_true rfl⟩ rfl hl.1 (Nat.le_of_ble_eq_true rfl) dL_law_533 ⟨by show cells + rm.cells + rmM.cells ≤ 601024; omega, by show slots + rm.slots + rmM.slots ≤ 7293034; omega⟩ ⟨rfl, rfl⟩ (fun H locs hW hS => ?_)
  refine lv_iload hx hb dL_law_536 (lv_at hl 1 rfl) ?_
  refine lv_icmp_eq (tgt := 543) hx hb dL_law_538 (by decide) (fun _ => ?_) (fun c1 => absurd u1 c1)
  refine lv_iload hx hb dL_law_543 (lv_at hl 1 rfl) ?_
  refine lv_if_ne (tgt := 560) hx hb dL_law_545 (by decide) (fun c2 => ?_) (fun c2 => ?_)
  · skip
    refine lv_goto (tgt := 1589) hx hb dL_law_560 (by decide) ?_
    refine W.widen (k := cells + 200) (n := slots + 2000) (by omega) (by omega) ?_
    exact kk L1 ad1 u o1 w1 H locs ls rfl rfl rfl u3 hW hS (lv_sub hl [2, 3, 4, 5, 6] rfl)
  · skip
    refine lv_aload_n hx hb dL_law_548 rfl (lv_at hl 5 rfl) ?_
    refine lv_iconst (v := 0) hx hb dL_law_549 (by decide) ?_
    refine q_lald hx hb hW q170 dL_law_550 ?_
    refine lv_iload hx hb dL_law_551 (lv_at hl 0 rfl) ?_
    refine lv_i2l (v := b9.toInt64) hx hb dL_law_553 rfl ?_
    refine W.lcmp hx hb dL_law_554 ?_
    refine lv_if_eq (tgt := 560) hx hb dL_law_555 (by decide) (fun _ => ?_) (fun c3 => absurd (lcmp_eq (u2 c2)) c3)
    refine lv_goto (tgt := 1589) hx hb dL_law_560 (by decide) ?_
    refine W.widen (k := cells + 200) (n := slots + 2000) (by omega) (by omega) ?_
    exact kk L1 ad1 u o1 w1 H locs ls rfl rfl rfl u3 hW hS (lv_sub hl [2, 3, 4, 5, 6] rfl)

set_option maxHeartbeats 4000000 in
set_option maxRecDepth 100000 in
theorem law_grower {p : Program} {l : Launch} {e : Env} {s : State} {m : MethodId} {below : List Frame} {meth : Method} {c : Code} {Q : State → Prop} {G : GG} {L : List Nat} {ad : Nat → Nat} {v : Nat → Nat → Int32} {o : Nat → Nat → Option Nat} {w : Nat → Int64} {H : Heap} {locs : List Loc} {ls : Array Slot} {cells slots B Ls i0 : Nat} {xs : Nat → Int32} {n : Int} {ng nh nl ns : Nat} {ow gx gy gw gd : Nat → Nat} (hst9 : l.stackTraces = false) (C0 : LAt p s m meth c B Ls xs G) (hL : Ls ≤ 4608) (hi : i0 + 8 < Ls) (hn0 : 0 ≤ n) (hn2 : n ≤ 600) (hN : INV G.2.2.2 n L ad v o ng nh nl ns ow gx gy gw gd) (hW : WD G L ad v o w s H) (hS : va_S (Ab G.2.2.1) s.heap H locs) (hl : lv_has ls 9 [(0, .ref B), (1, .ref (ad 0)), (2, .ref (ad 100)), (3, .ref (ad 170)), (4, .int (nI i0))]) (hf : cells + 200 ≤ 601024 ∧ slots + 2000 ≤ 7293034) (kk : LK p l e s m below meth c Q G B i0 (cells + 200) (slots + 2000) n (ad 0) (ad 100) (ad 170)) : W p l e room_1 s m #[Value.ref B] below meth c H locs cells slots Q (F0 m 563 ls []) := by
  obtain ⟨hx, hb, hr, hml, hown, hts, hX, hbl, hlocks, hE, h0e, hNC⟩ := C0
  have h0 : G.2.2.1 ≤ s.heap.size := Nat.le_of_eq h0e
  have hbA : ¬ Ab G.2.2.1 B := by rw [h0e]; exact Nat.not_le.mpr hbl
  obtain ⟨rm, post, ⟨f1, f2, f3, f4⟩, hH, hB⟩ := st_grower l hst9 hN hn0 hn2 (w := w) (xs (i0 + 1)) (xs (i0 + 2))
  refine lv_aload_n hx hb dL_law_563 rfl (lv_at hl 1 rfl) ?_
  refine lv_aload_n hx hb dL_law_564 rfl (lv_at hl 0 rfl) ?_
  refine lv_iload hx hb dL_law_565 (lv_at hl 4 rfl) ?_
  refine lv_iconst (v := 1) hx hb dL_law_567 (by decide) ?_
  refine lv_iadd hx hb dL_law_568 ?_
  refine q_sld hx hb hX hbl hbA hS hL hi (j := 1) rfl (by decide) dL_law_569 ?_
  refine lv_aload_n hx hb dL_law_570 rfl (lv_at hl 0 rfl) ?_
  refine lv_iload hx hb dL_law_571 (lv_at hl 4 rfl) ?_
  refine lv_iconst (v := 2) hx hb dL_law_573 (by decide) ?_
  refine lv_iadd hx hb dL_law_574 ?_
  refine q_sld hx hb hX hbl hbA hS hL hi (j := 2) rfl (by decide) dL_law_575 ?_
  refine lv_aload_n hx hb dL_law_576 rfl (lv_at hl 3 rfl) ?_
  refine q_cH (n := 4) (As := [.ref (ad 0), .int (xs (i0 + 1)), .int (xs (i0 + 2)), .ref (ad 170)]) (rest := []) hx hb hml hts hown hE h0 hNC hW hS hH t_621 t_620 t_45 (by decide) (by decide +kernel) t_619 ⟨by show rm.frames + 1 ≤ 13; omega, by show 8 + (5 + 11) + rm.locals ≤ 508; omega⟩ rfl hl.1 (Nat.le_of_ble_eq_true rfl) dL_law_577 ⟨by show cells + rm.cells ≤ 601024; omega, by show slots + rm.slots ≤ 7293034; omega⟩ (fun k P H locs hp hW hS => ?_)
  obtain ⟨⟨L1, ad1, v1, o1⟩, w1⟩ := P
  obtain ⟨e1, rmM, postM, ⟨g1, g2, g3, g4⟩, hM, hU⟩ := hB _ _ hp
  dsimp only at e1 hM hU hW
  have e0 := (e1 0 hN.m0).2; have e100 := (e1 100 hN.m100).2; have e170 := (e1 170 hN.m170).2; have q100 := (e1 100 hN.m100).1; have q170 := (e1 170 hN.m170).1
  rw [← e0, ← e100, ← e170] at hl kk
  rw [← e100] at hM
  refine lv_istore (lv' := [(5, .int k), (0, .ref B), (1, .ref (ad1 0)), (2, .ref (ad1 100)), (3, .ref (ad1 170)), (4, .int (nI i0))]) hx hb dL_law_580 hl (by decide) rfl (fun ls hl => ?_)
  refine lv_aload_n hx hb dL_law_582 rfl (lv_at hl 3 rfl) ?_
  refine lv_aload_n hx hb dL_law_583 rfl (lv_at hl 1 rfl) ?_
  refine lv_iload hx hb dL_law_584 (lv_at hl 5 rfl) ?_
  refine lv_iconst (v := 1) hx hb dL_law_586 (by decide) ?_
  refine lv_iadd hx hb dL_law_587 ?_
  refine q_sld hx hb hX hbl hbA hS hL hi (j := 1) rfl (by decide) dL_law_588 ?_
  refine lv_aload_n hx hb dL_law_589 rfl (lv_at hl 1 rfl) ?_
  refine lv_iload hx hb dL_law_590 (lv_at hl 5 rfl) ?_
  refine lv_iconst (v := 2) hx hb dL_law_592 (by decide) ?_
  refine lv_iadd hx hb dL_law_593 ?_
  refine q_sld hx hb hX hbl hbA hS hL hi (j := 2) rfl (by decide) dL_law_594 ?_
  refine q_cVi (As := [.int (xs (i0 + 1)), .int (xs (i0 + 2))]) (rest := []) (r := 100) hx hb hml hts hown hE h0 hW hS hM mw_X7_grower q100 rfl k_8 t_1012 ⟨by show rmM.frames + 1 ≤ 13; omega, by show 8 + (3 + 11) + rmM.locals ≤ 508; omega⟩ rfl hl.1 (Nat.le_of_ble_eq_true rfl) dL_law_595 ⟨by show cells + rm.cells + rmM.cells ≤ 601024; omega, by show slots + rm.slots + rmM.slots ≤ 7293034; omega⟩ (fun b9 u H locs hp2 hW hS => ?_)
  obtain ⟨u1, u2, u3⟩ := hU _ _ hp2
  refine lv_istore (lv' := [(6, .int b9), (5, .int k), (0, .ref B), (1, .ref (ad1 0)), (2, .ref (ad1 100)), (3, .ref (ad1 170)), (4, .int (nI i0))]) hx hb dL_law_598 hl (by decide) rfl (fun ls hl => ?_)
  refine lv_aload_n hx hb dL_law_600 rfl (lv_at hl 4 rfl) ?_
  refine q_cViE (As := []) (rest := []) (r := 100) hx hb hml hts hown hE h0 hW hS (c_X7_thrown l q100) mw_X7_thrown q100 rfl k_8 t_953 ⟨Nat.le_of_ble_eq_true rfl, Nat.le_of_ble_eq_true rfl⟩ rfl hl.1 (Nat.le_of_ble_eq_true rfl) dL_law_601 ⟨by show cells + rm.cells + rmM.cells ≤ 601024; omega, by show slots + rm.slots + rmM.slots ≤ 7293034; omega⟩ ⟨rfl, rfl⟩ (fun H locs hW hS => ?_)
  refine lv_iload hx hb dL_law_604 (lv_at hl 1 rfl) ?_
  refine lv_icmp_eq (tgt := 611) hx hb dL_law_606 (by decide) (fun _ => ?_) (fun c1 => absurd u1 c1)
  refine lv_iload hx hb dL_law_611 (lv_at hl 1 rfl) ?_
  refine lv_if_ne (tgt := 628) hx hb dL_law_613 (by decide) (fun c2 => ?_) (fun c2 => ?_)
  · skip
    refine lv_goto (tgt := 1589) hx hb dL_law_628 (by decide) ?_
    refine W.widen (k := cells + 200) (n := slots + 2000) (by omega) (by omega) ?_
    exact kk L1 ad1 u o1 w1 H locs ls rfl rfl rfl u3 hW hS (lv_sub hl [2, 3, 4, 5, 6] rfl)
  · skip
    refine lv_aload_n hx hb dL_law_616 rfl (lv_at hl 5 rfl) ?_
    refine lv_iconst (v := 0) hx hb dL_law_617 (by decide) ?_
    refine q_lald hx hb hW q170 dL_law_618 ?_
    refine lv_iload hx hb dL_law_619 (lv_at hl 0 rfl) ?_
    refine lv_i2l (v := b9.toInt64) hx hb dL_law_621 rfl ?_
    refine W.lcmp hx hb dL_law_622 ?_
    refine lv_if_eq (tgt := 628) hx hb dL_law_623 (by decide) (fun _ => ?_) (fun c3 => absurd (lcmp_eq (u2 c2)) c3)
    refine lv_goto (tgt := 1589) hx hb dL_law_628 (by decide) ?_
    refine W.widen (k := cells + 200) (n := slots + 2000) (by omega) (by omega) ?_
    exact kk L1 ad1 u o1 w1 H locs ls rfl rfl rfl u3 hW hS (lv_sub hl [2, 3, 4, 5, 6] rfl)

set_option maxHeartbeats 4000000 in
set_option maxRecDepth 100000 in
theorem law_house {p : Program} {l : Launch} {e : Env} {s : State} {m : MethodId} {below : List Frame} {meth : Method} {c : Code} {Q : State → Prop} {G : GG} {L : List Nat} {ad : Nat → Nat} {v : Nat → Nat → Int32} {o : Nat → Nat → Option Nat} {w : Nat → Int64} {H : Heap} {locs : List Loc} {ls : Array Slot} {cells slots B Ls i0 : Nat} {xs : Nat → Int32} {n : Int} {ng nh nl ns : Nat} {ow gx gy gw gd : Nat → Nat} (hst9 : l.stackTraces = false) (C0 : LAt p s m meth c B Ls xs G) (hL : Ls ≤ 4608) (hi : i0 + 8 < Ls) (hn0 : 0 ≤ n) (hn2 : n ≤ 600) (hN : INV G.2.2.2 n L ad v o ng nh nl ns ow gx gy gw gd) (hW : WD G L ad v o w s H) (hS : va_S (Ab G.2.2.1) s.heap H locs) (hl : lv_has ls 9 [(0, .ref B), (1, .ref (ad 0)), (2, .ref (ad 100)), (3, .ref (ad 170)), (4, .int (nI i0))]) (hf : cells + 200 ≤ 601024 ∧ slots + 2000 ≤ 7293034) (kk : LK p l e s m below meth c Q G B i0 (cells + 200) (slots + 2000) n (ad 0) (ad 100) (ad 170)) : W p l e room_1 s m #[Value.ref B] below meth c H locs cells slots Q (F0 m 631 ls []) := by
  obtain ⟨hx, hb, hr, hml, hown, hts, hX, hbl, hlocks, hE, h0e, hNC⟩ := C0
  have h0 : G.2.2.1 ≤ s.heap.size := Nat.le_of_eq h0e
  have hbA : ¬ Ab G.2.2.1 B := by rw [h0e]; exact Nat.not_le.mpr hbl
  obtain ⟨rm, post, ⟨f1, f2, f3, f4⟩, hH, hB⟩ := st_house l hst9 hN hn0 hn2 (w := w) (xs (i0 + 1)) (xs (i0 + 2))
  refine lv_aload_n hx hb dL_law_631 rfl (lv_at hl 1 rfl) ?_
  refine lv_aload_n hx hb dL_law_632 rfl (lv_at hl 0 rfl) ?_
  refine lv_iload hx hb dL_law_633 (lv_at hl 4 rfl) ?_
  refine lv_iconst (v := 1) hx hb dL_law_635 (by decide) ?_
  refine lv_iadd hx hb dL_law_636 ?_
  refine q_sld hx hb hX hbl hbA hS hL hi (j := 1) rfl (by decide) dL_law_637 ?_
  refine lv_aload_n hx hb dL_law_638 rfl (lv_at hl 0 rfl) ?_
  refine lv_iload hx hb dL_law_639 (lv_at hl 4 rfl) ?_
  refine lv_iconst (v := 2) hx hb dL_law_641 (by decide) ?_
  refine lv_iadd hx hb dL_law_642 ?_
  refine q_sld hx hb hX hbl hbA hS hL hi (j := 2) rfl (by decide) dL_law_643 ?_
  refine lv_aload_n hx hb dL_law_644 rfl (lv_at hl 3 rfl) ?_
  refine q_cH (n := 4) (As := [.ref (ad 0), .int (xs (i0 + 1)), .int (xs (i0 + 2)), .ref (ad 170)]) (rest := []) hx hb hml hts hown hE h0 hNC hW hS hH t_632 t_631 t_45 (by decide) (by decide +kernel) t_630 ⟨by show rm.frames + 1 ≤ 13; omega, by show 8 + (5 + 11) + rm.locals ≤ 508; omega⟩ rfl hl.1 (Nat.le_of_ble_eq_true rfl) dL_law_645 ⟨by show cells + rm.cells ≤ 601024; omega, by show slots + rm.slots ≤ 7293034; omega⟩ (fun k P H locs hp hW hS => ?_)
  obtain ⟨⟨L1, ad1, v1, o1⟩, w1⟩ := P
  obtain ⟨e1, rmM, postM, ⟨g1, g2, g3, g4⟩, hM, hU⟩ := hB _ _ hp
  dsimp only at e1 hM hU hW
  have e0 := (e1 0 hN.m0).2; have e100 := (e1 100 hN.m100).2; have e170 := (e1 170 hN.m170).2; have q100 := (e1 100 hN.m100).1; have q170 := (e1 170 hN.m170).1
  rw [← e0, ← e100, ← e170] at hl kk
  rw [← e100] at hM
  refine lv_istore (lv' := [(5, .int k), (0, .ref B), (1, .ref (ad1 0)), (2, .ref (ad1 100)), (3, .ref (ad1 170)), (4, .int (nI i0))]) hx hb dL_law_648 hl (by decide) rfl (fun ls hl => ?_)
  refine lv_aload_n hx hb dL_law_650 rfl (lv_at hl 3 rfl) ?_
  refine lv_aload_n hx hb dL_law_651 rfl (lv_at hl 1 rfl) ?_
  refine lv_iload hx hb dL_law_652 (lv_at hl 5 rfl) ?_
  refine lv_iconst (v := 1) hx hb dL_law_654 (by decide) ?_
  refine lv_iadd hx hb dL_law_655 ?_
  refine q_sld hx hb hX hbl hbA hS hL hi (j := 1) rfl (by decide) dL_law_656 ?_
  refine lv_aload_n hx hb dL_law_657 rfl (lv_at hl 1 rfl) ?_
  refine lv_iload hx hb dL_law_658 (lv_at hl 5 rfl) ?_
  refine lv_iconst (v := 2) hx hb dL_law_660 (by decide) ?_
  refine lv_iadd hx hb dL_law_661 ?_
  refine q_sld hx hb hX hbl hbA hS hL hi (j := 2) rfl (by decide) dL_law_662 ?_
  refine q_cVi (As := [.int (xs (i0 + 1)), .int (xs (i0 + 2))]) (rest := []) (r := 100) hx hb hml hts hown hE h0 hW hS hM mw_X7_house q100 rfl k_8 t_1029 ⟨by show rmM.frames + 1 ≤ 13; omega, by show 8 + (3 + 11) + rmM.locals ≤ 508; omega⟩ rfl hl.1 (Nat.le_of_ble_eq_true rfl) dL_law_663 ⟨by show cells + rm.cells + rmM.cells ≤ 601024; omega, by show slots + rm.slots + rmM.slots ≤ 7293034; omega⟩ (fun b9 u H locs hp2 hW hS => ?_)
  obtain ⟨u1, u2, u3⟩ := hU _ _ hp2
  refine lv_istore (lv' := [(6, .int b9), (5, .int k), (0, .ref B), (1, .ref (ad1 0)), (2, .ref (ad1 100)), (3, .ref (ad1 170)), (4, .int (nI i0))]) hx hb dL_law_666 hl (by decide) rfl (fun ls hl => ?_)
  refine lv_aload_n hx hb dL_law_668 rfl (lv_at hl 4 rfl) ?_
  refine q_cViE (As := []) (rest := []) (r := 100) hx hb hml hts hown hE h0 hW hS (c_X7_thrown l q100) mw_X7_thrown q100 rfl k_8 t_953 ⟨Nat.le_of_ble_eq_true rfl, Nat.le_of_ble_eq_true rfl⟩ rfl hl.1 (Nat.le_of_ble_eq_true rfl) dL_law_669 ⟨by show cells + rm.cells + rmM.cells ≤ 601024; omega, by show slots + rm.slots + rmM.slots ≤ 7293034; omega⟩ ⟨rfl, rfl⟩ (fun H locs hW hS => ?_)
  refine lv_iload hx hb dL_law_672 (lv_at hl 1 rfl) ?_
  refine lv_icmp_eq (tgt := 679) hx hb dL_law_674 (by decide) (fun _ => ?_) (fun c1 => absurd u1 c1)
  refine lv_iload hx hb dL_law_679 (lv_at hl 1 rfl) ?_
  refine lv_if_ne (tgt := 696) hx hb dL_law_681 (by decide) (fun c2 => ?_) (fun c2 => ?_)
  · skip
    refine lv_goto (tgt := 1589) hx hb dL_law_696 (by decide) ?_
    refine W.widen (k := cells + 200) (n := slots + 2000) (by omega) (by omega) ?_
    exact kk L1 ad1 u o1 w1 H locs ls rfl rfl rfl u3 hW hS (lv_sub hl [2, 3, 4, 5, 6] rfl)
  · skip
    refine lv_aload_n hx hb dL_law_684 rfl (lv_at hl 5 rfl) ?_
    refine lv_iconst (v := 0) hx hb dL_law_685 (by decide) ?_
    refine q_lald hx hb hW q170 dL_law_686 ?_
    refine lv_iload hx hb dL_law_687 (lv_at hl 0 rfl) ?_
    refine lv_i2l (v := b9.toInt64) hx hb dL_law_689 rfl ?_
    refine W.lcmp hx hb dL_law_690 ?_
    refine lv_if_eq (tgt := 696) hx hb dL_law_691 (by decide) (fun _ => ?_) (fun c3 => absurd (lcmp_eq (u2 c2)) c3)
    refine lv_goto (tgt := 1589) hx hb dL_law_696 (by decide) ?_
    refine W.widen (k := cells + 200) (n := slots + 2000) (by omega) (by omega) ?_
    exact kk L1 ad1 u o1 w1 H locs ls rfl rfl rfl u3 hW hS (lv_sub hl [2, 3, 4, 5, 6] rfl)

set_option maxHeartbeats 4000000 in
set_option maxRecDepth 100000 in
theorem law_pane {p : Program} {l : Launch} {e : Env} {s : State} {m : MethodId} {below : List Frame} {meth : Method} {c : Code} {Q : State → Prop} {G : GG} {L : List Nat} {ad : Nat → Nat} {v : Nat → Nat → Int32} {o : Nat → Nat → Option Nat} {w : Nat → Int64} {H : Heap} {locs : List Loc} {ls : Array Slot} {cells slots B Ls i0 : Nat} {xs : Nat → Int32} {n : Int} {ng nh nl ns : Nat} {ow gx gy gw gd : Nat → Nat} (hst9 : l.stackTraces = false) (C0 : LAt p s m meth c B Ls xs G) (hL : Ls ≤ 4608) (hi : i0 + 8 < Ls) (hn0 : 0 ≤ n) (hn2 : n ≤ 600) (hN : INV G.2.2.2 n L ad v o ng nh nl ns ow gx gy gw gd) (hW : WD G L ad v o w s H) (hS : va_S (Ab G.2.2.1) s.heap H locs) (hl : lv_has ls 9 [(0, .ref B), (1, .ref (ad 0)), (2, .ref (ad 100)), (3, .ref (ad 170)), (4, .int (nI i0))]) (hf : cells + 200 ≤ 601024 ∧ slots + 2000 ≤ 7293034) (kk : LK p l e s m below meth c Q G B i0 (cells + 200) (slots + 2000) n (ad 0) (ad 100) (ad 170)) : W p l e room_1 s m #[Value.ref B] below meth c H locs cells slots Q (F0 m 699 ls []) := by
  obtain ⟨hx, hb, hr, hml, hown, hts, hX, hbl, hlocks, hE, h0e, hNC⟩ := C0
  have h0 : G.2.2.1 ≤ s.heap.size := Nat.le_of_eq h0e
  have hbA : ¬ Ab G.2.2.1 B := by rw [h0e]; exact Nat.not_le.mpr hbl
  obtain ⟨rm, post, ⟨f1, f2, f3, f4⟩, hH, hB⟩ := st_pane l hst9 hN hn0 hn2 (w := w) (xs (i0 + 1)) (xs (i0 + 2))
  refine lv_aload_n hx hb dL_law_699 rfl (lv_at hl 1 rfl) ?_
  refine lv_aload_n hx hb dL_law_700 rfl (lv_at hl 0 rfl) ?_
  refine lv_iload hx hb dL_law_701 (lv_at hl 4 rfl) ?_
  refine lv_iconst (v := 1) hx hb dL_law_703 (by decide) ?_
  refine lv_iadd hx hb dL_law_704 ?_
  refine q_sld hx hb hX hbl hbA hS hL hi (j := 1) rfl (by decide) dL_law_705 ?_
  refine lv_aload_n hx hb dL_law_706 rfl (lv_at hl 0 rfl) ?_
  refine lv_iload hx hb dL_law_707 (lv_at hl 4 rfl) ?_
  refine lv_iconst (v := 2) hx hb dL_law_709 (by decide) ?_
  refine lv_iadd hx hb dL_law_710 ?_
  refine q_sld hx hb hX hbl hbA hS hL hi (j := 2) rfl (by decide) dL_law_711 ?_
  refine lv_aload_n hx hb dL_law_712 rfl (lv_at hl 3 rfl) ?_
  refine q_cH (n := 4) (As := [.ref (ad 0), .int (xs (i0 + 1)), .int (xs (i0 + 2)), .ref (ad 170)]) (rest := []) hx hb hml hts hown hE h0 hNC hW hS hH t_639 t_638 t_45 (by decide) (by decide +kernel) t_637 ⟨by show rm.frames + 1 ≤ 13; omega, by show 8 + (5 + 11) + rm.locals ≤ 508; omega⟩ rfl hl.1 (Nat.le_of_ble_eq_true rfl) dL_law_713 ⟨by show cells + rm.cells ≤ 601024; omega, by show slots + rm.slots ≤ 7293034; omega⟩ (fun k P H locs hp hW hS => ?_)
  obtain ⟨⟨L1, ad1, v1, o1⟩, w1⟩ := P
  obtain ⟨e1, rmM, postM, ⟨g1, g2, g3, g4⟩, hM, hU⟩ := hB _ _ hp
  dsimp only at e1 hM hU hW
  have e0 := (e1 0 hN.m0).2; have e100 := (e1 100 hN.m100).2; have e170 := (e1 170 hN.m170).2; have q100 := (e1 100 hN.m100).1; have q170 := (e1 170 hN.m170).1
  rw [← e0, ← e100, ← e170] at hl kk
  rw [← e100] at hM
  refine lv_istore (lv' := [(5, .int k), (0, .ref B), (1, .ref (ad1 0)), (2, .ref (ad1 100)), (3, .ref (ad1 170)), (4, .int (nI i0))]) hx hb dL_law_716 hl (by decide) rfl (fun ls hl => ?_)
  refine lv_aload_n hx hb dL_law_718 rfl (lv_at hl 3 rfl) ?_
  refine lv_aload_n hx hb dL_law_719 rfl (lv_at hl 1 rfl) ?_
  refine lv_iload hx hb dL_law_720 (lv_at hl 5 rfl) ?_
  refine lv_iconst (v := 1) hx hb dL_law_722 (by decide) ?_
  refine lv_iadd hx hb dL_law_723 ?_
  refine q_sld hx hb hX hbl hbA hS hL hi (j := 1) rfl (by decide) dL_law_724 ?_
  refine lv_aload_n hx hb dL_law_725 rfl (lv_at hl 1 rfl) ?_
  refine lv_iload hx hb dL_law_726 (lv_at hl 5 rfl) ?_
  refine lv_iconst (v := 2) hx hb dL_law_728 (by decide) ?_
  refine lv_iadd hx hb dL_law_729 ?_
  refine q_sld hx hb hX hbl hbA hS hL hi (j := 2) rfl (by decide) dL_law_730 ?_
  refine q_cVi (As := [.int (xs (i0 + 1)), .int (xs (i0 + 2))]) (rest := []) (r := 100) hx hb hml hts hown hE h0 hW hS hM mw_X7_pane q100 rfl k_8 t_1041 ⟨by show rmM.frames + 1 ≤ 13; omega, by show 8 + (4 + 11) + rmM.locals ≤ 508; omega⟩ rfl hl.1 (Nat.le_of_ble_eq_true rfl) dL_law_731 ⟨by show cells + rm.cells + rmM.cells ≤ 601024; omega, by show slots + rm.slots + rmM.slots ≤ 7293034; omega⟩ (fun b9 u H locs hp2 hW hS => ?_)
  obtain ⟨u1, u2, u3⟩ := hU _ _ hp2
  refine lv_istore (lv' := [(6, .int b9), (5, .int k), (0, .ref B), (1, .ref (ad1 0)), (2, .ref (ad1 100)), (3, .ref (ad1 170)), (4, .int (nI i0))]) hx hb dL_law_734 hl (by decide) rfl (fun ls hl => ?_)
  refine lv_aload_n hx hb dL_law_736 rfl (lv_at hl 4 rfl) ?_
  refine q_cViE (As := []) (rest := []) (r := 100) hx hb hml hts hown hE h0 hW hS (c_X7_thrown l q100) mw_X7_thrown q100 rfl k_8 t_953 ⟨Nat.le_of_ble_eq_true rfl, Nat.le_of_ble_eq_true rfl⟩ rfl hl.1 (Nat.le_of_ble_eq_true rfl) dL_law_737 ⟨by show cells + rm.cells + rmM.cells ≤ 601024; omega, by show slots + rm.slots + rmM.slots ≤ 7293034; omega⟩ ⟨rfl, rfl⟩ (fun H locs hW hS => ?_)
  refine lv_iload hx hb dL_law_740 (lv_at hl 1 rfl) ?_
  refine lv_icmp_eq (tgt := 747) hx hb dL_law_742 (by decide) (fun _ => ?_) (fun c1 => absurd u1 c1)
  refine lv_iload hx hb dL_law_747 (lv_at hl 1 rfl) ?_
  refine lv_if_ne (tgt := 764) hx hb dL_law_749 (by decide) (fun c2 => ?_) (fun c2 => ?_)
  · skip
    refine lv_goto (tgt := 1589) hx hb dL_law_764 (by decide) ?_
    refine W.widen (k := cells + 200) (n := slots + 2000) (by omega) (by omega) ?_
    exact kk L1 ad1 u o1 w1 H locs ls rfl rfl rfl u3 hW hS (lv_sub hl [2, 3, 4, 5, 6] rfl)
  · skip
    refine lv_aload_n hx hb dL_law_752 rfl (lv_at hl 5 rfl) ?_
    refine lv_iconst (v := 0) hx hb dL_law_753 (by decide) ?_
    refine q_lald hx hb hW q170 dL_law_754 ?_
    refine lv_iload hx hb dL_law_755 (lv_at hl 0 rfl) ?_
    refine lv_i2l (v := b9.toInt64) hx hb dL_law_757 rfl ?_
    refine W.lcmp hx hb dL_law_758 ?_
    refine lv_if_eq (tgt := 764) hx hb dL_law_759 (by decide) (fun _ => ?_) (fun c3 => absurd (lcmp_eq (u2 c2)) c3)
    refine lv_goto (tgt := 1589) hx hb dL_law_764 (by decide) ?_
    refine W.widen (k := cells + 200) (n := slots + 2000) (by omega) (by omega) ?_
    exact kk L1 ad1 u o1 w1 H locs ls rfl rfl rfl u3 hW hS (lv_sub hl [2, 3, 4, 5, 6] rfl)
