/-! the law, case by case -/
set_option maxHeartbeats 4000000 in
set_option maxRecDepth 100000 in
theorem law_build {p : Program} {l : Launch} {e : Env} {s : State} {m : MethodId} {below : List Frame} {meth : Method} {c : Code} {Q : State → Prop} {G : GG} {L : List Nat} {ad : Nat → Nat} {v : Nat → Nat → Int32} {o : Nat → Nat → Option Nat} {w : Nat → Int64} {H : Heap} {locs : List Loc} {ls : Array Slot} {cells slots B Ls i0 : Nat} {xs : Nat → Int32} {n : Int} {ng nh nl ns : Nat} {ow gx gy gw gd : Nat → Nat} (hst9 : l.stackTraces = false) (C0 : LAt p s m meth c B Ls xs G) (hL : Ls ≤ 4608) (hi : i0 + 8 < Ls) (hn0 : 0 ≤ n) (hn2 : n ≤ 600) (hN : INV G.2.2.2 n L ad v o ng nh nl ns ow gx gy gw gd) (hW : WD G L ad v o w s H) (hS : va_S (Ab G.2.2.1) s.heap H locs) (hl : lv_has ls 9 [(0, .ref B), (1, .ref (ad 0)), (2, .ref (ad 100)), (3, .ref (ad 170)), (4, .int (nI i0))]) (hf : cells + 200 ≤ 601024 ∧ slots + 2000 ≤ 7293034) (kk : LK p l e s m below meth c Q G B i0 (cells + 200) (slots + 2000) n (ad 0) (ad 100) (ad 170)) : W p l e room_1 s m #[Value.ref B] below meth c H locs cells slots Q (F0 m 192 ls []) := by
  obtain ⟨hx, hb, hr, hml, hown, hts, hX, hbl, hlocks, hE, h0e, hNC⟩ := C0
  have h0 : G.2.2.1 ≤ s.heap.size := Nat.le_of_eq h0e
  have hbA : ¬ Ab G.2.2.1 B := by rw [h0e]; exact Nat.not_le.mpr hbl
  obtain ⟨rm, post, ⟨f1, f2, f3, f4⟩, hH, hB⟩ := st_build l hst9 hN hn0 hn2 (w := w) (xs (i0 + 1)) (xs (i0 + 2)) (xs (i0 + 3)) (xs (i0 + 4)) (xs (i0 + 5)) (xs (i0 + 6)) (xs (i0 + 7))
  refine lv_aload_n hx hb dL_law_192 rfl (lv_at hl 1 rfl) ?_
  refine lv_aload_n hx hb dL_law_193 rfl (lv_at hl 0 rfl) ?_
  refine lv_iload hx hb dL_law_194 (lv_at hl 4 rfl) ?_
  refine lv_iconst (v := 1) hx hb dL_law_196 (by decide) ?_
  refine lv_iadd hx hb dL_law_197 ?_
  refine q_sld hx hb hX hbl hbA hS hL hi (j := 1) rfl (by decide) dL_law_198 ?_
  refine lv_aload_n hx hb dL_law_199 rfl (lv_at hl 0 rfl) ?_
  refine lv_iload hx hb dL_law_200 (lv_at hl 4 rfl) ?_
  refine lv_iconst (v := 2) hx hb dL_law_202 (by decide) ?_
  refine lv_iadd hx hb dL_law_203 ?_
  refine q_sld hx hb hX hbl hbA hS hL hi (j := 2) rfl (by decide) dL_law_204 ?_
  refine lv_aload_n hx hb dL_law_205 rfl (lv_at hl 0 rfl) ?_
  refine lv_iload hx hb dL_law_206 (lv_at hl 4 rfl) ?_
  refine lv_iconst (v := 3) hx hb dL_law_208 (by decide) ?_
  refine lv_iadd hx hb dL_law_209 ?_
  refine q_sld hx hb hX hbl hbA hS hL hi (j := 3) rfl (by decide) dL_law_210 ?_
  refine lv_aload_n hx hb dL_law_211 rfl (lv_at hl 0 rfl) ?_
  refine lv_iload hx hb dL_law_212 (lv_at hl 4 rfl) ?_
  refine lv_iconst (v := 4) hx hb dL_law_214 (by decide) ?_
  refine lv_iadd hx hb dL_law_215 ?_
  refine q_sld hx hb hX hbl hbA hS hL hi (j := 4) rfl (by decide) dL_law_216 ?_
  refine lv_aload_n hx hb dL_law_217 rfl (lv_at hl 0 rfl) ?_
  refine lv_iload hx hb dL_law_218 (lv_at hl 4 rfl) ?_
  refine lv_iconst (v := 5) hx hb dL_law_220 (by decide) ?_
  refine lv_iadd hx hb dL_law_221 ?_
  refine q_sld hx hb hX hbl hbA hS hL hi (j := 5) rfl (by decide) dL_law_222 ?_
  refine lv_aload_n hx hb dL_law_223 rfl (lv_at hl 0 rfl) ?_
  refine lv_iload hx hb dL_law_224 (lv_at hl 4 rfl) ?_
  refine lv_bipush (v := 6) hx hb dL_law_226 (by decide) ?_
  refine lv_iadd hx hb dL_law_228 ?_
  refine q_sld hx hb hX hbl hbA hS hL hi (j := 6) rfl (by decide) dL_law_229 ?_
  refine lv_aload_n hx hb dL_law_230 rfl (lv_at hl 0 rfl) ?_
  refine lv_iload hx hb dL_law_231 (lv_at hl 4 rfl) ?_
  refine lv_bipush (v := 7) hx hb dL_law_233 (by decide) ?_
  refine lv_iadd hx hb dL_law_235 ?_
  refine q_sld hx hb hX hbl hbA hS hL hi (j := 7) rfl (by decide) dL_law_236 ?_
  refine lv_aload_n hx hb dL_law_237 rfl (lv_at hl 3 rfl) ?_
  refine q_cH (n := 9) (As := [.ref (ad 0), .int (xs (i0 + 1)), .int (xs (i0 + 2)), .int (xs (i0 + 3)), .int (xs (i0 + 4)), .int (xs (i0 + 5)), .int (xs (i0 + 6)), .int (xs (i0 + 7)), .ref (ad 170)]) (rest := []) hx hb hml hts hown hE h0 hNC hW hS hH t_504 t_503 t_45 (by decide) (by decide +kernel) t_502 ⟨by show rm.frames + 1 ≤ 13; omega, by show 8 + (10 + 11) + rm.locals ≤ 508; omega⟩ rfl hl.1 (Nat.le_of_ble_eq_true rfl) dL_law_238 ⟨by show cells + rm.cells ≤ 601024; omega, by show slots + rm.slots ≤ 7293034; omega⟩ (fun k P H locs hp hW hS => ?_)
  obtain ⟨⟨L1, ad1, v1, o1⟩, w1⟩ := P
  obtain ⟨e1, rmM, postM, ⟨g1, g2, g3, g4⟩, hM, hU⟩ := hB _ _ hp
  dsimp only at e1 hM hU hW
  have e0 := (e1 0 hN.m0).2; have e100 := (e1 100 hN.m100).2; have e170 := (e1 170 hN.m170).2; have q100 := (e1 100 hN.m100).1; have q170 := (e1 170 hN.m170).1
  rw [← e0, ← e100, ← e170] at hl kk
  rw [← e100] at hM
  refine lv_istore (lv' := [(5, .int k), (0, .ref B), (1, .ref (ad1 0)), (2, .ref (ad1 100)), (3, .ref (ad1 170)), (4, .int (nI i0))]) hx hb dL_law_241 hl (by decide) rfl (fun ls hl => ?_)
  refine lv_aload_n hx hb dL_law_243 rfl (lv_at hl 3 rfl) ?_
  refine lv_aload_n hx hb dL_law_244 rfl (lv_at hl 1 rfl) ?_
  refine lv_iload hx hb dL_law_245 (lv_at hl 5 rfl) ?_
  refine lv_iconst (v := 1) hx hb dL_law_247 (by decide) ?_
  refine lv_iadd hx hb dL_law_248 ?_
  refine q_sld hx hb hX hbl hbA hS hL hi (j := 1) rfl (by decide) dL_law_249 ?_
  refine lv_aload_n hx hb dL_law_250 rfl (lv_at hl 1 rfl) ?_
  refine lv_iload hx hb dL_law_251 (lv_at hl 5 rfl) ?_
  refine lv_iconst (v := 2) hx hb dL_law_253 (by decide) ?_
  refine lv_iadd hx hb dL_law_254 ?_
  refine q_sld hx hb hX hbl hbA hS hL hi (j := 2) rfl (by decide) dL_law_255 ?_
  refine lv_aload_n hx hb dL_law_256 rfl (lv_at hl 1 rfl) ?_
  refine lv_iload hx hb dL_law_257 (lv_at hl 5 rfl) ?_
  refine lv_iconst (v := 3) hx hb dL_law_259 (by decide) ?_
  refine lv_iadd hx hb dL_law_260 ?_
  refine q_sld hx hb hX hbl hbA hS hL hi (j := 3) rfl (by decide) dL_law_261 ?_
  refine lv_aload_n hx hb dL_law_262 rfl (lv_at hl 1 rfl) ?_
  refine lv_iload hx hb dL_law_263 (lv_at hl 5 rfl) ?_
  refine lv_iconst (v := 4) hx hb dL_law_265 (by decide) ?_
  refine lv_iadd hx hb dL_law_266 ?_
  refine q_sld hx hb hX hbl hbA hS hL hi (j := 4) rfl (by decide) dL_law_267 ?_
  refine lv_aload_n hx hb dL_law_268 rfl (lv_at hl 1 rfl) ?_
  refine lv_iload hx hb dL_law_269 (lv_at hl 5 rfl) ?_
  refine lv_iconst (v := 5) hx hb dL_law_271 (by decide) ?_
  refine lv_iadd hx hb dL_law_272 ?_
  refine q_sld hx hb hX hbl hbA hS hL hi (j := 5) rfl (by decide) dL_law_273 ?_
  refine lv_aload_n hx hb dL_law_274 rfl (lv_at hl 1 rfl) ?_
  refine lv_iload hx hb dL_law_275 (lv_at hl 5 rfl) ?_
  refine lv_bipush (v := 6) hx hb dL_law_277 (by decide) ?_
  refine lv_iadd hx hb dL_law_279 ?_
  refine q_sld hx hb hX hbl hbA hS hL hi (j := 6) rfl (by decide) dL_law_280 ?_
  refine lv_aload_n hx hb dL_law_281 rfl (lv_at hl 1 rfl) ?_
  refine lv_iload hx hb dL_law_282 (lv_at hl 5 rfl) ?_
  refine lv_bipush (v := 7) hx hb dL_law_284 (by decide) ?_
  refine lv_iadd hx hb dL_law_286 ?_
  refine q_sld hx hb hX hbl hbA hS hL hi (j := 7) rfl (by decide) dL_law_287 ?_
  refine q_cVi (As := [.int (xs (i0 + 1)), .int (xs (i0 + 2)), .int (xs (i0 + 3)), .int (xs (i0 + 4)), .int (xs (i0 + 5)), .int (xs (i0 + 6)), .int (xs (i0 + 7))]) (rest := []) (r := 100) hx hb hml hts hown hE h0 hW hS hM mw_X7_build q100 rfl k_8 t_969 ⟨by show rmM.frames + 1 ≤ 13; omega, by show 8 + (10 + 11) + rmM.locals ≤ 508; omega⟩ rfl hl.1 (Nat.le_of_ble_eq_true rfl) dL_law_288 ⟨by show cells + rm.cells + rmM.cells ≤ 601024; omega, by show slots + rm.slots + rmM.slots ≤ 7293034; omega⟩ (fun b9 u H locs hp2 hW hS => ?_)
  obtain ⟨u1, u2, u3⟩ := hU _ _ hp2
  refine lv_istore (lv' := [(6, .int b9), (5, .int k), (0, .ref B), (1, .ref (ad1 0)), (2, .ref (ad1 100)), (3, .ref (ad1 170)), (4, .int (nI i0))]) hx hb dL_law_291 hl (by decide) rfl (fun ls hl => ?_)
  refine lv_aload_n hx hb dL_law_293 rfl (lv_at hl 4 rfl) ?_
  refine q_cViE (As := []) (rest := []) (r := 100) hx hb hml hts hown hE h0 hW hS (c_X7_thrown l q100) mw_X7_thrown q100 rfl k_8 t_953 ⟨Nat.le_of_ble_eq_true rfl, Nat.le_of_ble_eq_true rfl⟩ rfl hl.1 (Nat.le_of_ble_eq_true rfl) dL_law_294 ⟨by show cells + rm.cells + rmM.cells ≤ 601024; omega, by show slots + rm.slots + rmM.slots ≤ 7293034; omega⟩ ⟨rfl, rfl⟩ (fun H locs hW hS => ?_)
  refine lv_iload hx hb dL_law_297 (lv_at hl 1 rfl) ?_
  refine lv_icmp_eq (tgt := 304) hx hb dL_law_299 (by decide) (fun _ => ?_) (fun c1 => absurd u1 c1)
  refine lv_iload hx hb dL_law_304 (lv_at hl 1 rfl) ?_
  refine lv_if_ne (tgt := 321) hx hb dL_law_306 (by decide) (fun c2 => ?_) (fun c2 => ?_)
  · skip
    refine lv_goto (tgt := 1589) hx hb dL_law_321 (by decide) ?_
    refine W.widen (k := cells + 200) (n := slots + 2000) (by omega) (by omega) ?_
    exact kk L1 ad1 u o1 w1 H locs ls rfl rfl rfl u3 hW hS (lv_sub hl [2, 3, 4, 5, 6] rfl)
  · skip
    refine lv_aload_n hx hb dL_law_309 rfl (lv_at hl 5 rfl) ?_
    refine lv_iconst (v := 0) hx hb dL_law_310 (by decide) ?_
    refine q_lald hx hb hW q170 dL_law_311 ?_
    refine lv_iload hx hb dL_law_312 (lv_at hl 0 rfl) ?_
    refine lv_i2l (v := b9.toInt64) hx hb dL_law_314 rfl ?_
    refine W.lcmp hx hb dL_law_315 ?_
    refine lv_if_eq (tgt := 321) hx hb dL_law_316 (by decide) (fun _ => ?_) (fun c3 => absurd (lcmp_eq (u2 c2)) c3)
    refine lv_goto (tgt := 1589) hx hb dL_law_321 (by decide) ?_
    refine W.widen (k := cells + 200) (n := slots + 2000) (by omega) (by omega) ?_
    exact kk L1 ad1 u o1 w1 H locs ls rfl rfl rfl u3 hW hS (lv_sub hl [2, 3, 4, 5, 6] rfl)

set_option maxHeartbeats 4000000 in
set_option maxRecDepth 100000 in
theorem law_storm {p : Program} {l : Launch} {e : Env} {s : State} {m : MethodId} {below : List Frame} {meth : Method} {c : Code} {Q : State → Prop} {G : GG} {L : List Nat} {ad : Nat → Nat} {v : Nat → Nat → Int32} {o : Nat → Nat → Option Nat} {w : Nat → Int64} {H : Heap} {locs : List Loc} {ls : Array Slot} {cells slots B Ls i0 : Nat} {xs : Nat → Int32} {n : Int} {ng nh nl ns : Nat} {ow gx gy gw gd : Nat → Nat} (hst9 : l.stackTraces = false) (C0 : LAt p s m meth c B Ls xs G) (hL : Ls ≤ 4608) (hi : i0 + 8 < Ls) (hn0 : 0 ≤ n) (hn2 : n ≤ 600) (hN : INV G.2.2.2 n L ad v o ng nh nl ns ow gx gy gw gd) (hW : WD G L ad v o w s H) (hS : va_S (Ab G.2.2.1) s.heap H locs) (hl : lv_has ls 9 [(0, .ref B), (1, .ref (ad 0)), (2, .ref (ad 100)), (3, .ref (ad 170)), (4, .int (nI i0))]) (hf : cells + 200 ≤ 601024 ∧ slots + 2000 ≤ 7293034) (kk : LK p l e s m below meth c Q G B i0 (cells + 200) (slots + 2000) n (ad 0) (ad 100) (ad 170)) : W p l e room_1 s m #[Value.ref B] below meth c H locs cells slots Q (F0 m 1040 ls []) := by
  obtain ⟨hx, hb, hr, hml, hown, hts, hX, hbl, hlocks, hE, h0e, hNC⟩ := C0
  have h0 : G.2.2.1 ≤ s.heap.size := Nat.le_of_eq h0e
  have hbA : ¬ Ab G.2.2.1 B := by rw [h0e]; exact Nat.not_le.mpr hbl
  obtain ⟨rm, post, ⟨f1, f2, f3, f4⟩, hH, hB⟩ := st_storm l hst9 hN hn0 hn2 (w := w) (xs (i0 + 1)) (xs (i0 + 2)) (xs (i0 + 3)) (xs (i0 + 4)) (xs (i0 + 5)) (xs (i0 + 6)) (xs (i0 + 7))
  refine lv_aload_n hx hb dL_law_1040 rfl (lv_at hl 1 rfl) ?_
  refine lv_aload_n hx hb dL_law_1041 rfl (lv_at hl 0 rfl) ?_
  refine lv_iload hx hb dL_law_1042 (lv_at hl 4 rfl) ?_
  refine lv_iconst (v := 1) hx hb dL_law_1044 (by decide) ?_
  refine lv_iadd hx hb dL_law_1045 ?_
  refine q_sld hx hb hX hbl hbA hS hL hi (j := 1) rfl (by decide) dL_law_1046 ?_
  refine lv_aload_n hx hb dL_law_1047 rfl (lv_at hl 0 rfl) ?_
  refine lv_iload hx hb dL_law_1048 (lv_at hl 4 rfl) ?_
  refine lv_iconst (v := 2) hx hb dL_law_1050 (by decide) ?_
  refine lv_iadd hx hb dL_law_1051 ?_
  refine q_sld hx hb hX hbl hbA hS hL hi (j := 2) rfl (by decide) dL_law_1052 ?_
  refine lv_aload_n hx hb dL_law_1053 rfl (lv_at hl 0 rfl) ?_
  refine lv_iload hx hb dL_law_1054 (lv_at hl 4 rfl) ?_
  refine lv_iconst (v := 3) hx hb dL_law_1056 (by decide) ?_
  refine lv_iadd hx hb dL_law_1057 ?_
  refine q_sld hx hb hX hbl hbA hS hL hi (j := 3) rfl (by decide) dL_law_1058 ?_
  refine lv_aload_n hx hb dL_law_1059 rfl (lv_at hl 0 rfl) ?_
  refine lv_iload hx hb dL_law_1060 (lv_at hl 4 rfl) ?_
  refine lv_iconst (v := 4) hx hb dL_law_1062 (by decide) ?_
  refine lv_iadd hx hb dL_law_1063 ?_
  refine q_sld hx hb hX hbl hbA hS hL hi (j := 4) rfl (by decide) dL_law_1064 ?_
  refine lv_aload_n hx hb dL_law_1065 rfl (lv_at hl 0 rfl) ?_
  refine lv_iload hx hb dL_law_1066 (lv_at hl 4 rfl) ?_
  refine lv_iconst (v := 5) hx hb dL_law_1068 (by decide) ?_
  refine lv_iadd hx hb dL_law_1069 ?_
  refine q_sld hx hb hX hbl hbA hS hL hi (j := 5) rfl (by decide) dL_law_1070 ?_
  refine lv_aload_n hx hb dL_law_1071 rfl (lv_at hl 0 rfl) ?_
  refine lv_iload hx hb dL_law_1072 (lv_at hl 4 rfl) ?_
  refine lv_bipush (v := 6) hx hb dL_law_1074 (by decide) ?_
  refine lv_iadd hx hb dL_law_1076 ?_
  refine q_sld hx hb hX hbl hbA hS hL hi (j := 6) rfl (by decide) dL_law_1077 ?_
  refine lv_aload_n hx hb dL_law_1078 rfl (lv_at hl 0 rfl) ?_
  refine lv_iload hx hb dL_law_1079 (lv_at hl 4 rfl) ?_
  refine lv_bipush (v := 7) hx hb dL_law_1081 (by decide) ?_
  refine lv_iadd hx hb dL_law_1083 ?_
  refine q_sld hx hb hX hbl hbA hS hL hi (j := 7) rfl (by decide) dL_law_1084 ?_
  refine lv_aload_n hx hb dL_law_1085 rfl (lv_at hl 3 rfl) ?_
  refine q_cH (n := 9) (As := [.ref (ad 0), .int (xs (i0 + 1)), .int (xs (i0 + 2)), .int (xs (i0 + 3)), .int (xs (i0 + 4)), .int (xs (i0 + 5)), .int (xs (i0 + 6)), .int (xs (i0 + 7)), .ref (ad 170)]) (rest := []) hx hb hml hts hown hE h0 hNC hW hS hH t_707 t_706 t_45 (by decide) (by decide +kernel) t_705 ⟨by show rm.frames + 1 ≤ 13; omega, by show 8 + (10 + 11) + rm.locals ≤ 508; omega⟩ rfl hl.1 (Nat.le_of_ble_eq_true rfl) dL_law_1086 ⟨by show cells + rm.cells ≤ 601024; omega, by show slots + rm.slots ≤ 7293034; omega⟩ (fun k P H locs hp hW hS => ?_)
  obtain ⟨⟨L1, ad1, v1, o1⟩, w1⟩ := P
  obtain ⟨e1, rmM, postM, ⟨g1, g2, g3, g4⟩, hM, hU⟩ := hB _ _ hp
  dsimp only at e1 hM hU hW
  have e0 := (e1 0 hN.m0).2; have e100 := (e1 100 hN.m100).2; have e170 := (e1 170 hN.m170).2; have q100 := (e1 100 hN.m100).1; have q170 := (e1 170 hN.m170).1
  rw [← e0, ← e100, ← e170] at hl kk
  rw [← e100] at hM
  refine lv_istore (lv' := [(5, .int k), (0, .ref B), (1, .ref (ad1 0)), (2, .ref (ad1 100)), (3, .ref (ad1 170)), (4, .int (nI i0))]) hx hb dL_law_1089 hl (by decide) rfl (fun ls hl => ?_)
  refine lv_aload_n hx hb dL_law_1091 rfl (lv_at hl 3 rfl) ?_
  refine lv_aload_n hx hb dL_law_1092 rfl (lv_at hl 1 rfl) ?_
  refine lv_iload hx hb dL_law_1093 (lv_at hl 5 rfl) ?_
  refine lv_iconst (v := 1) hx hb dL_law_1095 (by decide) ?_
  refine lv_iadd hx hb dL_law_1096 ?_
  refine q_sld hx hb hX hbl hbA hS hL hi (j := 1) rfl (by decide) dL_law_1097 ?_
  refine lv_aload_n hx hb dL_law_1098 rfl (lv_at hl 1 rfl) ?_
  refine lv_iload hx hb dL_law_1099 (lv_at hl 5 rfl) ?_
  refine lv_iconst (v := 2) hx hb dL_law_1101 (by decide) ?_
  refine lv_iadd hx hb dL_law_1102 ?_
  refine q_sld hx hb hX hbl hbA hS hL hi (j := 2) rfl (by decide) dL_law_1103 ?_
  refine lv_aload_n hx hb dL_law_1104 rfl (lv_at hl 1 rfl) ?_
  refine lv_iload hx hb dL_law_1105 (lv_at hl 5 rfl) ?_
  refine lv_iconst (v := 3) hx hb dL_law_1107 (by decide) ?_
  refine lv_iadd hx hb dL_law_1108 ?_
  refine q_sld hx hb hX hbl hbA hS hL hi (j := 3) rfl (by decide) dL_law_1109 ?_
  refine lv_aload_n hx hb dL_law_1110 rfl (lv_at hl 1 rfl) ?_
  refine lv_iload hx hb dL_law_1111 (lv_at hl 5 rfl) ?_
  refine lv_iconst (v := 4) hx hb dL_law_1113 (by decide) ?_
  refine lv_iadd hx hb dL_law_1114 ?_
  refine q_sld hx hb hX hbl hbA hS hL hi (j := 4) rfl (by decide) dL_law_1115 ?_
  refine lv_aload_n hx hb dL_law_1116 rfl (lv_at hl 1 rfl) ?_
  refine lv_iload hx hb dL_law_1117 (lv_at hl 5 rfl) ?_
  refine lv_iconst (v := 5) hx hb dL_law_1119 (by decide) ?_
  refine lv_iadd hx hb dL_law_1120 ?_
  refine q_sld hx hb hX hbl hbA hS hL hi (j := 5) rfl (by decide) dL_law_1121 ?_
  refine lv_aload_n hx hb dL_law_1122 rfl (lv_at hl 1 rfl) ?_
  refine lv_iload hx hb dL_law_1123 (lv_at hl 5 rfl) ?_
  refine lv_bipush (v := 6) hx hb dL_law_1125 (by decide) ?_
  refine lv_iadd hx hb dL_law_1127 ?_
  refine q_sld hx hb hX hbl hbA hS hL hi (j := 6) rfl (by decide) dL_law_1128 ?_
  refine lv_aload_n hx hb dL_law_1129 rfl (lv_at hl 1 rfl) ?_
  refine lv_iload hx hb dL_law_1130 (lv_at hl 5 rfl) ?_
  refine lv_bipush (v := 7) hx hb dL_law_1132 (by decide) ?_
  refine lv_iadd hx hb dL_law_1134 ?_
  refine q_sld hx hb hX hbl hbA hS hL hi (j := 7) rfl (by decide) dL_law_1135 ?_
  refine q_cVi (As := [.int (xs (i0 + 1)), .int (xs (i0 + 2)), .int (xs (i0 + 3)), .int (xs (i0 + 4)), .int (xs (i0 + 5)), .int (xs (i0 + 6)), .int (xs (i0 + 7))]) (rest := []) (r := 100) hx hb hml hts hown hE h0 hW hS hM mw_X7_storm q100 rfl k_8 t_1081 ⟨by show rmM.frames + 1 ≤ 13; omega, by show 8 + (8 + 11) + rmM.locals ≤ 508; omega⟩ rfl hl.1 (Nat.le_of_ble_eq_true rfl) dL_law_1136 ⟨by show cells + rm.cells + rmM.cells ≤ 601024; omega, by show slots + rm.slots + rmM.slots ≤ 7293034; omega⟩ (fun b9 u H locs hp2 hW hS => ?_)
  obtain ⟨u1, u2, u3⟩ := hU _ _ hp2
  refine lv_istore (lv' := [(6, .int b9), (5, .int k), (0, .ref B), (1, .ref (ad1 0)), (2, .ref (ad1 100)), (3, .ref (ad1 170)), (4, .int (nI i0))]) hx hb dL_law_1139 hl (by decide) rfl (fun ls hl => ?_)
  refine lv_aload_n hx hb dL_law_1141 rfl (lv_at hl 4 rfl) ?_
  refine q_cViE (As := []) (rest := []) (r := 100) hx hb hml hts hown hE h0 hW hS (c_X7_thrown l q100) mw_X7_thrown q100 rfl k_8 t_953 ⟨Nat.le_of_ble_eq_true rfl, Nat.le_of_ble_eq_true rfl⟩ rfl hl.1 (Nat.le_of_ble_eq_true rfl) dL_law_1142 ⟨by show cells + rm.cells + rmM.cells ≤ 601024; omega, by show slots + rm.slots + rmM.slots ≤ 7293034; omega⟩ ⟨rfl, rfl⟩ (fun H locs hW hS => ?_)
  refine lv_iload hx hb dL_law_1145 (lv_at hl 1 rfl) ?_
  refine lv_icmp_eq (tgt := 1152) hx hb dL_law_1147 (by decide) (fun _ => ?_) (fun c1 => absurd u1 c1)
  refine lv_iload hx hb dL_law_1152 (lv_at hl 1 rfl) ?_
  refine lv_if_ne (tgt := 1169) hx hb dL_law_1154 (by decide) (fun c2 => ?_) (fun c2 => ?_)
  · skip
    refine lv_goto (tgt := 1589) hx hb dL_law_1169 (by decide) ?_
    refine W.widen (k := cells + 200) (n := slots + 2000) (by omega) (by omega) ?_
    exact kk L1 ad1 u o1 w1 H locs ls rfl rfl rfl u3 hW hS (lv_sub hl [2, 3, 4, 5, 6] rfl)
  · skip
    refine lv_aload_n hx hb dL_law_1157 rfl (lv_at hl 5 rfl) ?_
    refine lv_iconst (v := 0) hx hb dL_law_1158 (by decide) ?_
    refine q_lald hx hb hW q170 dL_law_1159 ?_
    refine lv_iload hx hb dL_law_1160 (lv_at hl 0 rfl) ?_
    refine lv_i2l (v := b9.toInt64) hx hb dL_law_1162 rfl ?_
    refine W.lcmp hx hb dL_law_1163 ?_
    refine lv_if_eq (tgt := 1169) hx hb dL_law_1164 (by decide) (fun _ => ?_) (fun c3 => absurd (lcmp_eq (u2 c2)) c3)
    refine lv_goto (tgt := 1589) hx hb dL_law_1169 (by decide) ?_
    refine W.widen (k := cells + 200) (n := slots + 2000) (by omega) (by omega) ?_
    exact kk L1 ad1 u o1 w1 H locs ls rfl rfl rfl u3 hW hS (lv_sub hl [2, 3, 4, 5, 6] rfl)

set_option maxHeartbeats 4000000 in
set_option maxRecDepth 100000 in
theorem law_wouldBe {p : Program} {l : Launch} {e : Env} {s : State} {m : MethodId} {below : List Frame} {meth : Method} {c : Code} {Q : State → Prop} {G : GG} {L : List Nat} {ad : Nat → Nat} {v : Nat → Nat → Int32} {o : Nat → Nat → Option Nat} {w : Nat → Int64} {H : Heap} {locs : List Loc} {ls : Array Slot} {cells slots B Ls i0 : Nat} {xs : Nat → Int32} {n : Int} {ng nh nl ns : Nat} {ow gx gy gw gd : Nat → Nat} (hst9 : l.stackTraces = false) (C0 : LAt p s m meth c B Ls xs G) (hL : Ls ≤ 4608) (hi : i0 + 8 < Ls) (hn0 : 0 ≤ n) (hn2 : n ≤ 600) (hN : INV G.2.2.2 n L ad v o ng nh nl ns ow gx gy gw gd) (hW : WD G L ad v o w s H) (hS : va_S (Ab G.2.2.1) s.heap H locs) (hl : lv_has ls 9 [(0, .ref B), (1, .ref (ad 0)), (2, .ref (ad 100)), (3, .ref (ad 170)), (4, .int (nI i0))]) (hf : cells + 200 ≤ 601024 ∧ slots + 2000 ≤ 7293034) (kk : LK p l e s m below meth c Q G B i0 (cells + 200) (slots + 2000) n (ad 0) (ad 100) (ad 170)) : W p l e room_1 s m #[Value.ref B] below meth c H locs cells slots Q (F0 m 1240 ls []) := by
  obtain ⟨hx, hb, hr, hml, hown, hts, hX, hbl, hlocks, hE, h0e, hNC⟩ := C0
  have h0 : G.2.2.1 ≤ s.heap.size := Nat.le_of_eq h0e
  have hbA : ¬ Ab G.2.2.1 B := by rw [h0e]; exact Nat.not_le.mpr hbl
  obtain ⟨rm, post, ⟨f1, f2, f3, f4⟩, hH, hB⟩ := st_wouldBe l hst9 hN hn0 hn2 (w := w) (xs (i0 + 1)) (xs (i0 + 2)) (xs (i0 + 3)) (xs (i0 + 4)) (xs (i0 + 5)) (xs (i0 + 6)) (xs (i0 + 7)) (xs (i0 + 8))
  refine lv_aload_n hx hb dL_law_1240 rfl (lv_at hl 1 rfl) ?_
  refine lv_aload_n hx hb dL_law_1241 rfl (lv_at hl 0 rfl) ?_
  refine lv_iload hx hb dL_law_1242 (lv_at hl 4 rfl) ?_
  refine lv_iconst (v := 1) hx hb dL_law_1244 (by decide) ?_
  refine lv_iadd hx hb dL_law_1245 ?_
  refine q_sld hx hb hX hbl hbA hS hL hi (j := 1) rfl (by decide) dL_law_1246 ?_
  refine lv_aload_n hx hb dL_law_1247 rfl (lv_at hl 0 rfl) ?_
  refine lv_iload hx hb dL_law_1248 (lv_at hl 4 rfl) ?_
  refine lv_iconst (v := 2) hx hb dL_law_1250 (by decide) ?_
  refine lv_iadd hx hb dL_law_1251 ?_
  refine q_sld hx hb hX hbl hbA hS hL hi (j := 2) rfl (by decide) dL_law_1252 ?_
  refine lv_aload_n hx hb dL_law_1253 rfl (lv_at hl 0 rfl) ?_
  refine lv_iload hx hb dL_law_1254 (lv_at hl 4 rfl) ?_
  refine lv_iconst (v := 3) hx hb dL_law_1256 (by decide) ?_
  refine lv_iadd hx hb dL_law_1257 ?_
  refine q_sld hx hb hX hbl hbA hS hL hi (j := 3) rfl (by decide) dL_law_1258 ?_
  refine lv_aload_n hx hb dL_law_1259 rfl (lv_at hl 0 rfl) ?_
  refine lv_iload hx hb dL_law_1260 (lv_at hl 4 rfl) ?_
  refine lv_iconst (v := 4) hx hb dL_law_1262 (by decide) ?_
  refine lv_iadd hx hb dL_law_1263 ?_
  refine q_sld hx hb hX hbl hbA hS hL hi (j := 4) rfl (by decide) dL_law_1264 ?_
  refine lv_aload_n hx hb dL_law_1265 rfl (lv_at hl 0 rfl) ?_
  refine lv_iload hx hb dL_law_1266 (lv_at hl 4 rfl) ?_
  refine lv_iconst (v := 5) hx hb dL_law_1268 (by decide) ?_
  refine lv_iadd hx hb dL_law_1269 ?_
  refine q_sld hx hb hX hbl hbA hS hL hi (j := 5) rfl (by decide) dL_law_1270 ?_
  refine lv_aload_n hx hb dL_law_1271 rfl (lv_at hl 0 rfl) ?_
  refine lv_iload hx hb dL_law_1272 (lv_at hl 4 rfl) ?_
  refine lv_bipush (v := 6) hx hb dL_law_1274 (by decide) ?_
  refine lv_iadd hx hb dL_law_1276 ?_
  refine q_sld hx hb hX hbl hbA hS hL hi (j := 6) rfl (by decide) dL_law_1277 ?_
  refine lv_aload_n hx hb dL_law_1278 rfl (lv_at hl 0 rfl) ?_
  refine lv_iload hx hb dL_law_1279 (lv_at hl 4 rfl) ?_
  refine lv_bipush (v := 7) hx hb dL_law_1281 (by decide) ?_
  refine lv_iadd hx hb dL_law_1283 ?_
  refine q_sld hx hb hX hbl hbA hS hL hi (j := 7) rfl (by decide) dL_law_1284 ?_
  refine lv_aload_n hx hb dL_law_1285 rfl (lv_at hl 0 rfl) ?_
  refine lv_iload hx hb dL_law_1286 (lv_at hl 4 rfl) ?_
  refine lv_bipush (v := 8) hx hb dL_law_1288 (by decide) ?_
  refine lv_iadd hx hb dL_law_1290 ?_
  refine q_sld hx hb hX hbl hbA hS hL hi (j := 8) rfl (by decide) dL_law_1291 ?_
  refine lv_aload_n hx hb dL_law_1292 rfl (lv_at hl 3 rfl) ?_
  refine q_cH (n := 10) (As := [.ref (ad 0), .int (xs (i0 + 1)), .int (xs (i0 + 2)), .int (xs (i0 + 3)), .int (xs (i0 + 4)), .int (xs (i0 + 5)), .int (xs (i0 + 6)), .int (xs (i0 + 7)), .int (xs (i0 + 8)), .ref (ad 170)]) (rest := []) hx hb hml hts hown hE h0 hNC hW hS hH t_824 t_823 t_45 (by decide) (by decide +kernel) t_822 ⟨by show rm.frames + 1 ≤ 13; omega, by show 8 + (11 + 11) + rm.locals ≤ 508; omega⟩ rfl hl.1 (Nat.le_of_ble_eq_true rfl) dL_law_1293 ⟨by show cells + rm.cells ≤ 601024; omega, by show slots + rm.slots ≤ 7293034; omega⟩ (fun k P H locs hp hW hS => ?_)
  obtain ⟨⟨L1, ad1, v1, o1⟩, w1⟩ := P
  obtain ⟨e1, rmM, postM, ⟨g1, g2, g3, g4⟩, hM, hU⟩ := hB _ _ hp
  dsimp only at e1 hM hU hW
  have e0 := (e1 0 hN.m0).2; have e100 := (e1 100 hN.m100).2; have e170 := (e1 170 hN.m170).2; have q100 := (e1 100 hN.m100).1; have q170 := (e1 170 hN.m170).1
  rw [← e0, ← e100, ← e170] at hl kk
  rw [← e100] at hM
  refine lv_istore (lv' := [(5, .int k), (0, .ref B), (1, .ref (ad1 0)), (2, .ref (ad1 100)), (3, .ref (ad1 170)), (4, .int (nI i0))]) hx hb dL_law_1296 hl (by decide) rfl (fun ls hl => ?_)
  refine lv_aload_n hx hb dL_law_1298 rfl (lv_at hl 3 rfl) ?_
  refine lv_aload_n hx hb dL_law_1299 rfl (lv_at hl 1 rfl) ?_
  refine lv_iload hx hb dL_law_1300 (lv_at hl 5 rfl) ?_
  refine lv_iconst (v := 1) hx hb dL_law_1302 (by decide) ?_
  refine lv_iadd hx hb dL_law_1303 ?_
  refine q_sld hx hb hX hbl hbA hS hL hi (j := 1) rfl (by decide) dL_law_1304 ?_
  refine lv_aload_n hx hb dL_law_1305 rfl (lv_at hl 1 rfl) ?_
  refine lv_iload hx hb dL_law_1306 (lv_at hl 5 rfl) ?_
  refine lv_iconst (v := 2) hx hb dL_law_1308 (by decide) ?_
  refine lv_iadd hx hb dL_law_1309 ?_
  refine q_sld hx hb hX hbl hbA hS hL hi (j := 2) rfl (by decide) dL_law_1310 ?_
  refine lv_aload_n hx hb dL_law_1311 rfl (lv_at hl 1 rfl) ?_
  refine lv_iload hx hb dL_law_1312 (lv_at hl 5 rfl) ?_
  refine lv_iconst (v := 3) hx hb dL_law_1314 (by decide) ?_
  refine lv_iadd hx hb dL_law_1315 ?_
  refine q_sld hx hb hX hbl hbA hS hL hi (j := 3) rfl (by decide) dL_law_1316 ?_
  refine lv_aload_n hx hb dL_law_1317 rfl (lv_at hl 1 rfl) ?_
  refine lv_iload hx hb dL_law_1318 (lv_at hl 5 rfl) ?_
  refine lv_iconst (v := 4) hx hb dL_law_1320 (by decide) ?_
  refine lv_iadd hx hb dL_law_1321 ?_
  refine q_sld hx hb hX hbl hbA hS hL hi (j := 4) rfl (by decide) dL_law_1322 ?_
  refine lv_aload_n hx hb dL_law_1323 rfl (lv_at hl 1 rfl) ?_
  refine lv_iload hx hb dL_law_1324 (lv_at hl 5 rfl) ?_
  refine lv_iconst (v := 5) hx hb dL_law_1326 (by decide) ?_
  refine lv_iadd hx hb dL_law_1327 ?_
  refine q_sld hx hb hX hbl hbA hS hL hi (j := 5) rfl (by decide) dL_law_1328 ?_
  refine lv_aload_n hx hb dL_law_1329 rfl (lv_at hl 1 rfl) ?_
  refine lv_iload hx hb dL_law_1330 (lv_at hl 5 rfl) ?_
  refine lv_bipush (v := 6) hx hb dL_law_1332 (by decide) ?_
  refine lv_iadd hx hb dL_law_1334 ?_
  refine q_sld hx hb hX hbl hbA hS hL hi (j := 6) rfl (by decide) dL_law_1335 ?_
  refine lv_aload_n hx hb dL_law_1336 rfl (lv_at hl 1 rfl) ?_
  refine lv_iload hx hb dL_law_1337 (lv_at hl 5 rfl) ?_
  refine lv_bipush (v := 7) hx hb dL_law_1339 (by decide) ?_
  refine lv_iadd hx hb dL_law_1341 ?_
  refine q_sld hx hb hX hbl hbA hS hL hi (j := 7) rfl (by decide) dL_law_1342 ?_
  refine lv_aload_n hx hb dL_law_1343 rfl (lv_at hl 1 rfl) ?_
  refine lv_iload hx hb dL_law_1344 (lv_at hl 5 rfl) ?_
  refine lv_bipush (v := 8) hx hb dL_law_1346 (by decide) ?_
  refine lv_iadd hx hb dL_law_1348 ?_
  refine q_sld hx hb hX hbl hbA hS hL hi (j := 8) rfl (by decide) dL_law_1349 ?_
  refine q_cVi (As := [.int (xs (i0 + 1)), .int (xs (i0 + 2)), .int (xs (i0 + 3)), .int (xs (i0 + 4)), .int (xs (i0 + 5)), .int (xs (i0 + 6)), .int (xs (i0 + 7)), .int (xs (i0 + 8))]) (rest := []) (r := 100) hx hb hml hts hown hE h0 hW hS hM mw_X7_wouldBe q100 rfl k_8 t_1102 ⟨by show rmM.frames + 1 ≤ 13; omega, by show 8 + (9 + 11) + rmM.locals ≤ 508; omega⟩ rfl hl.1 (Nat.le_of_ble_eq_true rfl) dL_law_1350 ⟨by show cells + rm.cells + rmM.cells ≤ 601024; omega, by show slots + rm.slots + rmM.slots ≤ 7293034; omega⟩ (fun b9 u H locs hp2 hW hS => ?_)
  obtain ⟨u1, u2, u3⟩ := hU _ _ hp2
  refine lv_istore (lv' := [(6, .int b9), (5, .int k), (0, .ref B), (1, .ref (ad1 0)), (2, .ref (ad1 100)), (3, .ref (ad1 170)), (4, .int (nI i0))]) hx hb dL_law_1353 hl (by decide) rfl (fun ls hl => ?_)
  refine lv_aload_n hx hb dL_law_1355 rfl (lv_at hl 4 rfl) ?_
  refine q_cViE (As := []) (rest := []) (r := 100) hx hb hml hts hown hE h0 hW hS (c_X7_thrown l q100) mw_X7_thrown q100 rfl k_8 t_953 ⟨Nat.le_of_ble_eq_true rfl, Nat.le_of_ble_eq_true rfl⟩ rfl hl.1 (Nat.le_of_ble_eq_true rfl) dL_law_1356 ⟨by show cells + rm.cells + rmM.cells ≤ 601024; omega, by show slots + rm.slots + rmM.slots ≤ 7293034; omega⟩ ⟨rfl, rfl⟩ (fun H locs hW hS => ?_)
  refine lv_iload hx hb dL_law_1359 (lv_at hl 1 rfl) ?_
  refine lv_icmp_eq (tgt := 1366) hx hb dL_law_1361 (by decide) (fun _ => ?_) (fun c1 => absurd u1 c1)
  refine lv_iload hx hb dL_law_1366 (lv_at hl 1 rfl) ?_
  refine lv_if_ne (tgt := 1383) hx hb dL_law_1368 (by decide) (fun c2 => ?_) (fun c2 => ?_)
  · skip
    refine lv_goto (tgt := 1589) hx hb dL_law_1383 (by decide) ?_
    refine W.widen (k := cells + 200) (n := slots + 2000) (by omega) (by omega) ?_
    exact kk L1 ad1 u o1 w1 H locs ls rfl rfl rfl u3 hW hS (lv_sub hl [2, 3, 4, 5, 6] rfl)
  · skip
    refine lv_aload_n hx hb dL_law_1371 rfl (lv_at hl 5 rfl) ?_
    refine lv_iconst (v := 0) hx hb dL_law_1372 (by decide) ?_
    refine q_lald hx hb hW q170 dL_law_1373 ?_
    refine lv_iload hx hb dL_law_1374 (lv_at hl 0 rfl) ?_
    refine lv_i2l (v := b9.toInt64) hx hb dL_law_1376 rfl ?_
    refine W.lcmp hx hb dL_law_1377 ?_
    refine lv_if_eq (tgt := 1383) hx hb dL_law_1378 (by decide) (fun _ => ?_) (fun c3 => absurd (lcmp_eq (u2 c2)) c3)
    refine lv_goto (tgt := 1589) hx hb dL_law_1383 (by decide) ?_
    refine W.widen (k := cells + 200) (n := slots + 2000) (by omega) (by omega) ?_
    exact kk L1 ad1 u o1 w1 H locs ls rfl rfl rfl u3 hW hS (lv_sub hl [2, 3, 4, 5, 6] rfl)
