/-! the law's helpers -/
set_option maxHeartbeats 4000000 in
set_option maxRecDepth 100000 in
theorem h_addGrower (l : Launch) {G : GG} {L : List Nat} {ad : Nat → Nat} {v : Nat → Nat → Int32} {o : Nat → Nat → Option Nat} {w : Nat → Int64} (hr0 : 0 ∈ L) {rm : Room} {p0 : Int32} {post : Int32 → PW → Prop} (hM : CtIw l G L ad v o w yX5_addGrower cX5_addGrower 2 .int rm [.ref (ad 0), .int p0] post) (hk : ∀ r P, post r P → 170 ∈ P.1 ∧ P.2.1 170 = ad 170) : CtH l G L ad v o w yL_addGrower cL_addGrower 4 [(0, 9, 12, 13), (0, 9, 15, 15)] (hRm rm 2) [.ref (ad 0), .int p0, .ref (ad 170)] (fun k P => k = 0 ∧ ∃ r1, post r1 P.1 ∧ P.2 = vp_updL w 0 r1.toInt64) := by
  refine Met.ofWH (cc := cL_addGrower) (maxL := 4) (ret := some .int) (hh := [(0, 9, 12, 13), (0, 9, 15, 15)]) (by decide) rfl ?_
  intro p e s m args below meth c s₁ B hml hv9
  obtain ⟨rfl, ⟨hE, h0, hW⟩, hN⟩ := hv9
  have hx := B.exec; have hb := B.bytes; have hr := B.returns; have hts := hE.hts (args := ([.ref (ad 0), .int p0, .ref (ad 170)] : List Value).toArray); have hown : s.vm.findClass RL = some m.cls := findClass_of_methodNamed B.named; have hlocks := B.notSynchronized
  have htb := vx_table (x := yL_law) B (hts _ t_310)
  have hl := lv_entry ([.ref (ad 0), .int p0, .ref (ad 170)] : List Value) (n := 4) (Nat.le_of_ble_eq_true rfl)
  rw [lg_entry_eq]
  generalize (lg_sl ([.ref (ad 0), .int p0, .ref (ad 170)] : List Value) ++ List.replicate (4 - (lg_sl ([.ref (ad 0), .int p0, .ref (ad 170)] : List Value)).length) Slot.unset).toArray = ls at hl ⊢
  generalize hH : s.heap = H at hW ⊢
  have hS : va_S (Ab G.2.2.1) s.heap H [] := hH ▸ va_S.rf
  obtain ⟨locs, hlc⟩ : ∃ z : List Loc, z = [] := ⟨_, rfl⟩
  rw [← hlc] at hS ⊢
  have hl : lv_has ls 4 [(0, .ref (ad 0)), (1, .int p0), (2, .ref (ad 170))] := hl
  refine lv_aload_n hx hb dL_addGrower_0 rfl (lv_at hl 2 rfl) ?_
  refine lv_iconst (v := 0) hx hb dL_addGrower_1 (by decide) ?_
  refine lv_aload_n hx hb dL_addGrower_2 rfl (lv_at hl 0 rfl) ?_
  refine lv_iload_n hx hb dL_addGrower_3 rfl (lv_at hl 1 rfl) ?_
  refine q_cViw (As := [.int p0]) (rest := [.int 0, .ref (ad 170)]) (r := 0) hx hb hml hts hown hE h0 hW hS hM mw_X5_addGrower hr0 rfl k_6 t_313 ⟨Nat.le_refl _, Nat.le_refl _⟩ rfl hl.1 (Nat.le_of_ble_eq_true rfl) dL_addGrower_4 ⟨by show 0 + rm.cells ≤ rm.cells; omega, by show 0 + rm.slots ≤ rm.slots; omega⟩ (fun r1 P1 H locs hp hW hS => ?_)
  obtain ⟨hk1, hk2⟩ := hk r1 P1 hp
  refine lv_i2l (v := r1.toInt64) hx hb dL_addGrower_7 rfl ?_
  refine q_last hx hb hW hS hk1 hk2.symm dL_addGrower_8 (fun H locs hW hS => ?_)
  refine lv_goto (tgt := 18) hx hb dL_addGrower_9 (by decide) ?_
  refine lv_iconst (v := 0) hx hb dL_addGrower_18 (by decide) ?_
  exact q_hret (rm := hRm rm 2) (P := (P1, vp_updL w 0 r1.toInt64)) hx hb hr hlocks hW hS (by show 0 + rm.cells ≤ rm.cells; omega) (by show 0 + rm.slots ≤ rm.slots; omega) dL_addGrower_19 ⟨rfl, r1, hp, rfl⟩

set_option maxHeartbeats 4000000 in
set_option maxRecDepth 100000 in
theorem h_addGrower_xIA (l : Launch) {G : GG} {L : List Nat} {ad : Nat → Nat} {v : Nat → Nat → Int32} {o : Nat → Nat → Option Nat} {w : Nat → Int64} (hr0 : 0 ∈ L) {rm : Room} {p0 : Int32} (hM : CtXi l G L ad v o w yX5_addGrower cX5_addGrower 2 .int rm [.ref (ad 0), .int p0] "java/lang/IllegalArgumentException") : CtH l G L ad v o w yL_addGrower cL_addGrower 4 [(0, 9, 12, 13), (0, 9, 15, 15)] (hRm rm 2) [.ref (ad 0), .int p0, .ref (ad 170)] (fun k P => k = 1 ∧ P = ((L, ad, v, o), w)) := by
  refine Met.ofWH (cc := cL_addGrower) (maxL := 4) (ret := some .int) (hh := [(0, 9, 12, 13), (0, 9, 15, 15)]) (by decide) rfl ?_
  intro p e s m args below meth c s₁ B hml hv9
  obtain ⟨rfl, ⟨hE, h0, hW⟩, hN⟩ := hv9
  have hx := B.exec; have hb := B.bytes; have hr := B.returns; have hts := hE.hts (args := ([.ref (ad 0), .int p0, .ref (ad 170)] : List Value).toArray); have hown : s.vm.findClass RL = some m.cls := findClass_of_methodNamed B.named; have hlocks := B.notSynchronized
  have htb := vx_table (x := yL_law) B (hts _ t_310)
  have hl := lv_entry ([.ref (ad 0), .int p0, .ref (ad 170)] : List Value) (n := 4) (Nat.le_of_ble_eq_true rfl)
  rw [lg_entry_eq]
  generalize (lg_sl ([.ref (ad 0), .int p0, .ref (ad 170)] : List Value) ++ List.replicate (4 - (lg_sl ([.ref (ad 0), .int p0, .ref (ad 170)] : List Value)).length) Slot.unset).toArray = ls at hl ⊢
  generalize hH : s.heap = H at hW ⊢
  have hS : va_S (Ab G.2.2.1) s.heap H [] := hH ▸ va_S.rf
  obtain ⟨locs, hlc⟩ : ∃ z : List Loc, z = [] := ⟨_, rfl⟩
  rw [← hlc] at hS ⊢
  have hl : lv_has ls 4 [(0, .ref (ad 0)), (1, .int p0), (2, .ref (ad 170))] := hl
  refine lv_aload_n hx hb dL_addGrower_0 rfl (lv_at hl 2 rfl) ?_
  refine lv_iconst (v := 0) hx hb dL_addGrower_1 (by decide) ?_
  refine lv_aload_n hx hb dL_addGrower_2 rfl (lv_at hl 0 rfl) ?_
  refine lv_iload_n hx hb dL_addGrower_3 rfl (lv_at hl 1 rfl) ?_
  refine q_xVc (As := [.int p0]) (rest := [.int 0, .ref (ad 170)]) (r := 0) hx hb hml hts hown hE h0 hW hS hM mw_X5_addGrower hr0 rfl k_6 t_313 ⟨Nat.le_refl _, Nat.le_refl _⟩ rfl hl.1 (Nat.le_of_ble_eq_true rfl) dL_addGrower_4 ⟨by show 0 + rm.cells ≤ rm.cells; omega, by show 0 + rm.slots ≤ rm.slots; omega⟩ [] ⟨0, 9, 12, 13⟩ [⟨0, 9, 15, 15⟩] htb (fun z hz => by cases hz) (by decide) (by decide) t_311 t_323 (fun H locs q9 hW hS => ?_)
  refine lv_astore_n (lv' := [(3, .ref q9), (0, .ref (ad 0)), (1, .int p0), (2, .ref (ad 170))]) hx hb dL_addGrower_12 rfl hl (by decide) rfl (fun ls hl => ?_)
  refine lv_iconst (v := 1) hx hb dL_addGrower_13 (by decide) ?_
  exact q_hret (rm := hRm rm 2) (P := ((L, ad, v, o), w)) hx hb hr hlocks hW hS (by show 0 + rm.cells ≤ rm.cells; omega) (by show 0 + rm.slots ≤ rm.slots; omega) dL_addGrower_14 ⟨rfl, rfl⟩

set_option maxHeartbeats 4000000 in
set_option maxRecDepth 100000 in
theorem h_addGrower_xIS (l : Launch) {G : GG} {L : List Nat} {ad : Nat → Nat} {v : Nat → Nat → Int32} {o : Nat → Nat → Option Nat} {w : Nat → Int64} (hr0 : 0 ∈ L) {rm : Room} {p0 : Int32} (hM : CtXi l G L ad v o w yX5_addGrower cX5_addGrower 2 .int rm [.ref (ad 0), .int p0] "java/lang/IllegalStateException") : CtH l G L ad v o w yL_addGrower cL_addGrower 4 [(0, 9, 12, 13), (0, 9, 15, 15)] (hRm rm 2) [.ref (ad 0), .int p0, .ref (ad 170)] (fun k P => k = 2 ∧ P = ((L, ad, v, o), w)) := by
  refine Met.ofWH (cc := cL_addGrower) (maxL := 4) (ret := some .int) (hh := [(0, 9, 12, 13), (0, 9, 15, 15)]) (by decide) rfl ?_
  intro p e s m args below meth c s₁ B hml hv9
  obtain ⟨rfl, ⟨hE, h0, hW⟩, hN⟩ := hv9
  have hx := B.exec; have hb := B.bytes; have hr := B.returns; have hts := hE.hts (args := ([.ref (ad 0), .int p0, .ref (ad 170)] : List Value).toArray); have hown : s.vm.findClass RL = some m.cls := findClass_of_methodNamed B.named; have hlocks := B.notSynchronized
  have htb := vx_table (x := yL_law) B (hts _ t_310)
  have hl := lv_entry ([.ref (ad 0), .int p0, .ref (ad 170)] : List Value) (n := 4) (Nat.le_of_ble_eq_true rfl)
  rw [lg_entry_eq]
  generalize (lg_sl ([.ref (ad 0), .int p0, .ref (ad 170)] : List Value) ++ List.replicate (4 - (lg_sl ([.ref (ad 0), .int p0, .ref (ad 170)] : List Value)).length) Slot.unset).toArray = ls at hl ⊢
  generalize hH : s.heap = H at hW ⊢
  have hS : va_S (Ab G.2.2.1) s.heap H [] := hH ▸ va_S.rf
  obtain ⟨locs, hlc⟩ : ∃ z : List Loc, z = [] := ⟨_, rfl⟩
  rw [← hlc] at hS ⊢
  have hl : lv_has ls 4 [(0, .ref (ad 0)), (1, .int p0), (2, .ref (ad 170))] := hl
  refine lv_aload_n hx hb dL_addGrower_0 rfl (lv_at hl 2 rfl) ?_
  refine lv_iconst (v := 0) hx hb dL_addGrower_1 (by decide) ?_
  refine lv_aload_n hx hb dL_addGrower_2 rfl (lv_at hl 0 rfl) ?_
  refine lv_iload_n hx hb dL_addGrower_3 rfl (lv_at hl 1 rfl) ?_
  refine q_xVc (As := [.int p0]) (rest := [.int 0, .ref (ad 170)]) (r := 0) hx hb hml hts hown hE h0 hW hS hM mw_X5_addGrower hr0 rfl k_6 t_313 ⟨Nat.le_refl _, Nat.le_refl _⟩ rfl hl.1 (Nat.le_of_ble_eq_true rfl) dL_addGrower_4 ⟨by show 0 + rm.cells ≤ rm.cells; omega, by show 0 + rm.slots ≤ rm.slots; omega⟩ [⟨0, 9, 12, 13⟩] ⟨0, 9, 15, 15⟩ [] htb (fun z hz => by
    rcases List.mem_cons.mp hz with rfl | hz
    · exact Or.inr ⟨by decide, xIA, hts _ t_311, hN.1⟩
    cases hz) (by decide) (by decide) t_312 t_391 (fun H locs q9 hW hS => ?_)
  refine lv_astore_n (lv' := [(3, .ref q9), (0, .ref (ad 0)), (1, .int p0), (2, .ref (ad 170))]) hx hb dL_addGrower_15 rfl hl (by decide) rfl (fun ls hl => ?_)
  refine lv_iconst (v := 2) hx hb dL_addGrower_16 (by decide) ?_
  exact q_hret (rm := hRm rm 2) (P := ((L, ad, v, o), w)) hx hb hr hlocks hW hS (by show 0 + rm.cells ≤ rm.cells; omega) (by show 0 + rm.slots ≤ rm.slots; omega) dL_addGrower_17 ⟨rfl, rfl⟩

set_option maxHeartbeats 4000000 in
set_option maxRecDepth 100000 in
theorem h_build (l : Launch) {G : GG} {L : List Nat} {ad : Nat → Nat} {v : Nat → Nat → Int32} {o : Nat → Nat → Option Nat} {w : Nat → Int64} (hr0 : 0 ∈ L) {rm : Room} {p0 p1 p2 p3 p4 p5 p6 : Int32} {post : Int32 → PW → Prop} (hM : CtIw l G L ad v o w yX5_build cX5_build 9 .int rm [.ref (ad 0), .int p0, .int p1, .int p2, .int p3, .int p4, .int p5, .int p6] post) (hk : ∀ r P, post r P → 170 ∈ P.1 ∧ P.2.1 170 = ad 170) : CtH l G L ad v o w yL_build cL_build 10 [(0, 20, 23, 21), (0, 20, 27, 13), (0, 20, 31, 15)] (hRm rm 9) [.ref (ad 0), .int p0, .int p1, .int p2, .int p3, .int p4, .int p5, .int p6, .ref (ad 170)] (fun k P => k = 0 ∧ ∃ r1, post r1 P.1 ∧ P.2 = vp_updL w 0 r1.toInt64) := by
  refine Met.ofWH (cc := cL_build) (maxL := 10) (ret := some .int) (hh := [(0, 20, 23, 21), (0, 20, 27, 13), (0, 20, 31, 15)]) (by decide) rfl ?_
  intro p e s m args below meth c s₁ B hml hv9
  obtain ⟨rfl, ⟨hE, h0, hW⟩, hN⟩ := hv9
  have hx := B.exec; have hb := B.bytes; have hr := B.returns; have hts := hE.hts (args := ([.ref (ad 0), .int p0, .int p1, .int p2, .int p3, .int p4, .int p5, .int p6, .ref (ad 170)] : List Value).toArray); have hown : s.vm.findClass RL = some m.cls := findClass_of_methodNamed B.named; have hlocks := B.notSynchronized
  have htb := vx_table (x := yL_law) B (hts _ t_504)
  have hl := lv_entry ([.ref (ad 0), .int p0, .int p1, .int p2, .int p3, .int p4, .int p5, .int p6, .ref (ad 170)] : List Value) (n := 10) (Nat.le_of_ble_eq_true rfl)
  rw [lg_entry_eq]
  generalize (lg_sl ([.ref (ad 0), .int p0, .int p1, .int p2, .int p3, .int p4, .int p5, .int p6, .ref (ad 170)] : List Value) ++ List.replicate (10 - (lg_sl ([.ref (ad 0), .int p0, .int p1, .int p2, .int p3, .int p4, .int p5, .int p6, .ref (ad 170)] : List Value)).length) Slot.unset).toArray = ls at hl ⊢
  generalize hH : s.heap = H at hW ⊢
  have hS : va_S (Ab G.2.2.1) s.heap H [] := hH ▸ va_S.rf
  obtain ⟨locs, hlc⟩ : ∃ z : List Loc, z = [] := ⟨_, rfl⟩
  rw [← hlc] at hS ⊢
  have hl : lv_has ls 10 [(0, .ref (ad 0)), (1, .int p0), (2, .int p1), (3, .int p2), (4, .int p3), (5, .int p4), (6, .int p5), (7, .int p6), (8, .ref (ad 170))] := hl
  refine lv_aload hx hb dL_build_0 (lv_at hl 8 rfl) ?_
  refine lv_iconst (v := 0) hx hb dL_build_2 (by decide) ?_
  refine lv_aload_n hx hb dL_build_3 rfl (lv_at hl 0 rfl) ?_
  refine lv_iload_n hx hb dL_build_4 rfl (lv_at hl 1 rfl) ?_
  refine lv_iload_n hx hb dL_build_5 rfl (lv_at hl 2 rfl) ?_
  refine lv_iload_n hx hb dL_build_6 rfl (lv_at hl 3 rfl) ?_
  refine lv_iload hx hb dL_build_7 (lv_at hl 4 rfl) ?_
  refine lv_iload hx hb dL_build_9 (lv_at hl 5 rfl) ?_
  refine lv_iload hx hb dL_build_11 (lv_at hl 6 rfl) ?_
  refine lv_iload hx hb dL_build_13 (lv_at hl 7 rfl) ?_
  refine q_cViw (As := [.int p0, .int p1, .int p2, .int p3, .int p4, .int p5, .int p6]) (rest := [.int 0, .ref (ad 170)]) (r := 0) hx hb hml hts hown hE h0 hW hS hM mw_X5_build hr0 rfl k_6 t_506 ⟨Nat.le_refl _, Nat.le_refl _⟩ rfl hl.1 (Nat.le_of_ble_eq_true rfl) dL_build_15 ⟨by show 0 + rm.cells ≤ rm.cells; omega, by show 0 + rm.slots ≤ rm.slots; omega⟩ (fun r1 P1 H locs hp hW hS => ?_)
  obtain ⟨hk1, hk2⟩ := hk r1 P1 hp
  refine lv_i2l (v := r1.toInt64) hx hb dL_build_18 rfl ?_
  refine q_last hx hb hW hS hk1 hk2.symm dL_build_19 (fun H locs hW hS => ?_)
  refine lv_goto (tgt := 35) hx hb dL_build_20 (by decide) ?_
  refine lv_iconst (v := 0) hx hb dL_build_35 (by decide) ?_
  exact q_hret (rm := hRm rm 9) (P := (P1, vp_updL w 0 r1.toInt64)) hx hb hr hlocks hW hS (by show 0 + rm.cells ≤ rm.cells; omega) (by show 0 + rm.slots ≤ rm.slots; omega) dL_build_36 ⟨rfl, r1, hp, rfl⟩

set_option maxHeartbeats 4000000 in
set_option maxRecDepth 100000 in
theorem h_build_xIO (l : Launch) {G : GG} {L : List Nat} {ad : Nat → Nat} {v : Nat → Nat → Int32} {o : Nat → Nat → Option Nat} {w : Nat → Int64} (hr0 : 0 ∈ L) {rm : Room} {p0 p1 p2 p3 p4 p5 p6 : Int32} (hM : CtXi l G L ad v o w yX5_build cX5_build 9 .int rm [.ref (ad 0), .int p0, .int p1, .int p2, .int p3, .int p4, .int p5, .int p6] "java/lang/IndexOutOfBoundsException") : CtH l G L ad v o w yL_build cL_build 10 [(0, 20, 23, 21), (0, 20, 27, 13), (0, 20, 31, 15)] (hRm rm 9) [.ref (ad 0), .int p0, .int p1, .int p2, .int p3, .int p4, .int p5, .int p6, .ref (ad 170)] (fun k P => k = 1 ∧ P = ((L, ad, v, o), w)) := by
  refine Met.ofWH (cc := cL_build) (maxL := 10) (ret := some .int) (hh := [(0, 20, 23, 21), (0, 20, 27, 13), (0, 20, 31, 15)]) (by decide) rfl ?_
  intro p e s m args below meth c s₁ B hml hv9
  obtain ⟨rfl, ⟨hE, h0, hW⟩, hN⟩ := hv9
  have hx := B.exec; have hb := B.bytes; have hr := B.returns; have hts := hE.hts (args := ([.ref (ad 0), .int p0, .int p1, .int p2, .int p3, .int p4, .int p5, .int p6, .ref (ad 170)] : List Value).toArray); have hown : s.vm.findClass RL = some m.cls := findClass_of_methodNamed B.named; have hlocks := B.notSynchronized
  have htb := vx_table (x := yL_law) B (hts _ t_504)
  have hl := lv_entry ([.ref (ad 0), .int p0, .int p1, .int p2, .int p3, .int p4, .int p5, .int p6, .ref (ad 170)] : List Value) (n := 10) (Nat.le_of_ble_eq_true rfl)
  rw [lg_entry_eq]
  generalize (lg_sl ([.ref (ad 0), .int p0, .int p1, .int p2, .int p3, .int p4, .int p5, .int p6, .ref (ad 170)] : List Value) ++ List.replicate (10 - (lg_sl ([.ref (ad 0), .int p0, .int p1, .int p2, .int p3, .int p4, .int p5, .int p6, .ref (ad 170)] : List Value)).length) Slot.unset).toArray = ls at hl ⊢
  generalize hH : s.heap = H at hW ⊢
  have hS : va_S (Ab G.2.2.1) s.heap H [] := hH ▸ va_S.rf
  obtain ⟨locs, hlc⟩ : ∃ z : List Loc, z = [] := ⟨_, rfl⟩
  rw [← hlc] at hS ⊢
  have hl : lv_has ls 10 [(0, .ref (ad 0)), (1, .int p0), (2, .int p1), (3, .int p2), (4, .int p3), (5, .int p4), (6, .int p5), (7, .int p6), (8, .ref (ad 170))] := hl
  refine lv_aload hx hb dL_build_0 (lv_at hl 8 rfl) ?_
  refine lv_iconst (v := 0) hx hb dL_build_2 (by decide) ?_
  refine lv_aload_n hx hb dL_build_3 rfl (lv_at hl 0 rfl) ?_
  refine lv_iload_n hx hb dL_build_4 rfl (lv_at hl 1 rfl) ?_
  refine lv_iload_n hx hb dL_build_5 rfl (lv_at hl 2 rfl) ?_
  refine lv_iload_n hx hb dL_build_6 rfl (lv_at hl 3 rfl) ?_
  refine lv_iload hx hb dL_build_7 (lv_at hl 4 rfl) ?_
  refine lv_iload hx hb dL_build_9 (lv_at hl 5 rfl) ?_
  refine lv_iload hx hb dL_build_11 (lv_at hl 6 rfl) ?_
  refine lv_iload hx hb dL_build_13 (lv_at hl 7 rfl) ?_
  refine q_xVc (As := [.int p0, .int p1, .int p2, .int p3, .int p4, .int p5, .int p6]) (rest := [.int 0, .ref (ad 170)]) (r := 0) hx hb hml hts hown hE h0 hW hS hM mw_X5_build hr0 rfl k_6 t_506 ⟨Nat.le_refl _, Nat.le_refl _⟩ rfl hl.1 (Nat.le_of_ble_eq_true rfl) dL_build_15 ⟨by show 0 + rm.cells ≤ rm.cells; omega, by show 0 + rm.slots ≤ rm.slots; omega⟩ [] ⟨0, 20, 23, 21⟩ [⟨0, 20, 27, 13⟩, ⟨0, 20, 31, 15⟩] htb (fun z hz => by cases hz) (by decide) (by decide) t_505 t_516 (fun H locs q9 hW hS => ?_)
  refine lv_astore (lv' := [(9, .ref q9), (0, .ref (ad 0)), (1, .int p0), (2, .int p1), (3, .int p2), (4, .int p3), (5, .int p4), (6, .int p5), (7, .int p6), (8, .ref (ad 170))]) hx hb dL_build_23 hl (by decide) rfl (fun ls hl => ?_)
  refine lv_iconst (v := 1) hx hb dL_build_25 (by decide) ?_
  exact q_hret (rm := hRm rm 9) (P := ((L, ad, v, o), w)) hx hb hr hlocks hW hS (by show 0 + rm.cells ≤ rm.cells; omega) (by show 0 + rm.slots ≤ rm.slots; omega) dL_build_26 ⟨rfl, rfl⟩

set_option maxHeartbeats 4000000 in
set_option maxRecDepth 100000 in
theorem h_build_xIA (l : Launch) {G : GG} {L : List Nat} {ad : Nat → Nat} {v : Nat → Nat → Int32} {o : Nat → Nat → Option Nat} {w : Nat → Int64} (hr0 : 0 ∈ L) {rm : Room} {p0 p1 p2 p3 p4 p5 p6 : Int32} (hM : CtXi l G L ad v o w yX5_build cX5_build 9 .int rm [.ref (ad 0), .int p0, .int p1, .int p2, .int p3, .int p4, .int p5, .int p6] "java/lang/IllegalArgumentException") : CtH l G L ad v o w yL_build cL_build 10 [(0, 20, 23, 21), (0, 20, 27, 13), (0, 20, 31, 15)] (hRm rm 9) [.ref (ad 0), .int p0, .int p1, .int p2, .int p3, .int p4, .int p5, .int p6, .ref (ad 170)] (fun k P => k = 2 ∧ P = ((L, ad, v, o), w)) := by
  refine Met.ofWH (cc := cL_build) (maxL := 10) (ret := some .int) (hh := [(0, 20, 23, 21), (0, 20, 27, 13), (0, 20, 31, 15)]) (by decide) rfl ?_
  intro p e s m args below meth c s₁ B hml hv9
  obtain ⟨rfl, ⟨hE, h0, hW⟩, hN⟩ := hv9
  have hx := B.exec; have hb := B.bytes; have hr := B.returns; have hts := hE.hts (args := ([.ref (ad 0), .int p0, .int p1, .int p2, .int p3, .int p4, .int p5, .int p6, .ref (ad 170)] : List Value).toArray); have hown : s.vm.findClass RL = some m.cls := findClass_of_methodNamed B.named; have hlocks := B.notSynchronized
  have htb := vx_table (x := yL_law) B (hts _ t_504)
  have hl := lv_entry ([.ref (ad 0), .int p0, .int p1, .int p2, .int p3, .int p4, .int p5, .int p6, .ref (ad 170)] : List Value) (n := 10) (Nat.le_of_ble_eq_true rfl)
  rw [lg_entry_eq]
  generalize (lg_sl ([.ref (ad 0), .int p0, .int p1, .int p2, .int p3, .int p4, .int p5, .int p6, .ref (ad 170)] : List Value) ++ List.replicate (10 - (lg_sl ([.ref (ad 0), .int p0, .int p1, .int p2, .int p3, .int p4, .int p5, .int p6, .ref (ad 170)] : List Value)).length) Slot.unset).toArray = ls at hl ⊢
  generalize hH : s.heap = H at hW ⊢
  have hS : va_S (Ab G.2.2.1) s.heap H [] := hH ▸ va_S.rf
  obtain ⟨locs, hlc⟩ : ∃ z : List Loc, z = [] := ⟨_, rfl⟩
  rw [← hlc] at hS ⊢
  have hl : lv_has ls 10 [(0, .ref (ad 0)), (1, .int p0), (2, .int p1), (3, .int p2), (4, .int p3), (5, .int p4), (6, .int p5), (7, .int p6), (8, .ref (ad 170))] := hl
  refine lv_aload hx hb dL_build_0 (lv_at hl 8 rfl) ?_
  refine lv_iconst (v := 0) hx hb dL_build_2 (by decide) ?_
  refine lv_aload_n hx hb dL_build_3 rfl (lv_at hl 0 rfl) ?_
  refine lv_iload_n hx hb dL_build_4 rfl (lv_at hl 1 rfl) ?_
  refine lv_iload_n hx hb dL_build_5 rfl (lv_at hl 2 rfl) ?_
  refine lv_iload_n hx hb dL_build_6 rfl (lv_at hl 3 rfl) ?_
  refine lv_iload hx hb dL_build_7 (lv_at hl 4 rfl) ?_
  refine lv_iload hx hb dL_build_9 (lv_at hl 5 rfl) ?_
  refine lv_iload hx hb dL_build_11 (lv_at hl 6 rfl) ?_
  refine lv_iload hx hb dL_build_13 (lv_at hl 7 rfl) ?_
  refine q_xVc (As := [.int p0, .int p1, .int p2, .int p3, .int p4, .int p5, .int p6]) (rest := [.int 0, .ref (ad 170)]) (r := 0) hx hb hml hts hown hE h0 hW hS hM mw_X5_build hr0 rfl k_6 t_506 ⟨Nat.le_refl _, Nat.le_refl _⟩ rfl hl.1 (Nat.le_of_ble_eq_true rfl) dL_build_15 ⟨by show 0 + rm.cells ≤ rm.cells; omega, by show 0 + rm.slots ≤ rm.slots; omega⟩ [⟨0, 20, 23, 21⟩] ⟨0, 20, 27, 13⟩ [⟨0, 20, 31, 15⟩] htb (fun z hz => by
    rcases List.mem_cons.mp hz with rfl | hz
    · exact Or.inr ⟨by decide, xIO, hts _ t_505, hN.2.1⟩
    cases hz) (by decide) (by decide) t_311 t_323 (fun H locs q9 hW hS => ?_)
  refine lv_astore (lv' := [(9, .ref q9), (0, .ref (ad 0)), (1, .int p0), (2, .int p1), (3, .int p2), (4, .int p3), (5, .int p4), (6, .int p5), (7, .int p6), (8, .ref (ad 170))]) hx hb dL_build_27 hl (by decide) rfl (fun ls hl => ?_)
  refine lv_iconst (v := 2) hx hb dL_build_29 (by decide) ?_
  exact q_hret (rm := hRm rm 9) (P := ((L, ad, v, o), w)) hx hb hr hlocks hW hS (by show 0 + rm.cells ≤ rm.cells; omega) (by show 0 + rm.slots ≤ rm.slots; omega) dL_build_30 ⟨rfl, rfl⟩

set_option maxHeartbeats 4000000 in
set_option maxRecDepth 100000 in
theorem h_build_xIS (l : Launch) {G : GG} {L : List Nat} {ad : Nat → Nat} {v : Nat → Nat → Int32} {o : Nat → Nat → Option Nat} {w : Nat → Int64} (hr0 : 0 ∈ L) {rm : Room} {p0 p1 p2 p3 p4 p5 p6 : Int32} (hM : CtXi l G L ad v o w yX5_build cX5_build 9 .int rm [.ref (ad 0), .int p0, .int p1, .int p2, .int p3, .int p4, .int p5, .int p6] "java/lang/IllegalStateException") : CtH l G L ad v o w yL_build cL_build 10 [(0, 20, 23, 21), (0, 20, 27, 13), (0, 20, 31, 15)] (hRm rm 9) [.ref (ad 0), .int p0, .int p1, .int p2, .int p3, .int p4, .int p5, .int p6, .ref (ad 170)] (fun k P => k = 3 ∧ P = ((L, ad, v, o), w)) := by
  refine Met.ofWH (cc := cL_build) (maxL := 10) (ret := some .int) (hh := [(0, 20, 23, 21), (0, 20, 27, 13), (0, 20, 31, 15)]) (by decide) rfl ?_
  intro p e s m args below meth c s₁ B hml hv9
  obtain ⟨rfl, ⟨hE, h0, hW⟩, hN⟩ := hv9
  have hx := B.exec; have hb := B.bytes; have hr := B.returns; have hts := hE.hts (args := ([.ref (ad 0), .int p0, .int p1, .int p2, .int p3, .int p4, .int p5, .int p6, .ref (ad 170)] : List Value).toArray); have hown : s.vm.findClass RL = some m.cls := findClass_of_methodNamed B.named; have hlocks := B.notSynchronized
  have htb := vx_table (x := yL_law) B (hts _ t_504)
  have hl := lv_entry ([.ref (ad 0), .int p0, .int p1, .int p2, .int p3, .int p4, .int p5, .int p6, .ref (ad 170)] : List Value) (n := 10) (Nat.le_of_ble_eq_true rfl)
  rw [lg_entry_eq]
  generalize (lg_sl ([.ref (ad 0), .int p0, .int p1, .int p2, .int p3, .int p4, .int p5, .int p6, .ref (ad 170)] : List Value) ++ List.replicate (10 - (lg_sl ([.ref (ad 0), .int p0, .int p1, .int p2, .int p3, .int p4, .int p5, .int p6, .ref (ad 170)] : List Value)).length) Slot.unset).toArray = ls at hl ⊢
  generalize hH : s.heap = H at hW ⊢
  have hS : va_S (Ab G.2.2.1) s.heap H [] := hH ▸ va_S.rf
  obtain ⟨locs, hlc⟩ : ∃ z : List Loc, z = [] := ⟨_, rfl⟩
  rw [← hlc] at hS ⊢
  have hl : lv_has ls 10 [(0, .ref (ad 0)), (1, .int p0), (2, .int p1), (3, .int p2), (4, .int p3), (5, .int p4), (6, .int p5), (7, .int p6), (8, .ref (ad 170))] := hl
  refine lv_aload hx hb dL_build_0 (lv_at hl 8 rfl) ?_
  refine lv_iconst (v := 0) hx hb dL_build_2 (by decide) ?_
  refine lv_aload_n hx hb dL_build_3 rfl (lv_at hl 0 rfl) ?_
  refine lv_iload_n hx hb dL_build_4 rfl (lv_at hl 1 rfl) ?_
  refine lv_iload_n hx hb dL_build_5 rfl (lv_at hl 2 rfl) ?_
  refine lv_iload_n hx hb dL_build_6 rfl (lv_at hl 3 rfl) ?_
  refine lv_iload hx hb dL_build_7 (lv_at hl 4 rfl) ?_
  refine lv_iload hx hb dL_build_9 (lv_at hl 5 rfl) ?_
  refine lv_iload hx hb dL_build_11 (lv_at hl 6 rfl) ?_
  refine lv_iload hx hb dL_build_13 (lv_at hl 7 rfl) ?_
  refine q_xVc (As := [.int p0, .int p1, .int p2, .int p3, .int p4, .int p5, .int p6]) (rest := [.int 0, .ref (ad 170)]) (r := 0) hx hb hml hts hown hE h0 hW hS hM mw_X5_build hr0 rfl k_6 t_506 ⟨Nat.le_refl _, Nat.le_refl _⟩ rfl hl.1 (Nat.le_of_ble_eq_true rfl) dL_build_15 ⟨by show 0 + rm.cells ≤ rm.cells; omega, by show 0 + rm.slots ≤ rm.slots; omega⟩ [⟨0, 20, 23, 21⟩, ⟨0, 20, 27, 13⟩] ⟨0, 20, 31, 15⟩ [] htb (fun z hz => by
    rcases List.mem_cons.mp hz with rfl | hz
    · exact Or.inr ⟨by decide, xIO, hts _ t_505, hN.2.2.1⟩
    rcases List.mem_cons.mp hz with rfl | hz
    · exact Or.inr ⟨by decide, xIA, hts _ t_311, hN.1⟩
    cases hz) (by decide) (by decide) t_312 t_391 (fun H locs q9 hW hS => ?_)
  refine lv_astore (lv' := [(9, .ref q9), (0, .ref (ad 0)), (1, .int p0), (2, .int p1), (3, .int p2), (4, .int p3), (5, .int p4), (6, .int p5), (7, .int p6), (8, .ref (ad 170))]) hx hb dL_build_31 hl (by decide) rfl (fun ls hl => ?_)
  refine lv_iconst (v := 3) hx hb dL_build_33 (by decide) ?_
  exact q_hret (rm := hRm rm 9) (P := ((L, ad, v, o), w)) hx hb hr hlocks hW hS (by show 0 + rm.cells ≤ rm.cells; omega) (by show 0 + rm.slots ≤ rm.slots; omega) dL_build_34 ⟨rfl, rfl⟩

set_option maxHeartbeats 4000000 in
set_option maxRecDepth 100000 in
theorem h_setNet (l : Launch) {G : GG} {L : List Nat} {ad : Nat → Nat} {v : Nat → Nat → Int32} {o : Nat → Nat → Option Nat} {w : Nat → Int64} (hr0 : 0 ∈ L) {rm : Room} {p0 p1 : Int32} {post : Int32 → PW → Prop} (hM : CtIw l G L ad v o w yX5_setNet cX5_setNet 5 .boolean rm [.ref (ad 0), .int p0, .int p1] post) (hk : ∀ r P, post r P → 170 ∈ P.1 ∧ P.2.1 170 = ad 170) : CtH l G L ad v o w yL_setNet cL_setNet 5 [(0, 17, 20, 21)] (hRm rm 5) [.ref (ad 0), .int p0, .int p1, .ref (ad 170)] (fun k P => k = 0 ∧ ∃ r1, post r1 P.1 ∧ P.2 = vp_updL w 0 (if r1 = 0 then 0 else 1)) := by
  refine Met.ofWH (cc := cL_setNet) (maxL := 5) (ret := some .int) (hh := [(0, 17, 20, 21)]) (by decide) rfl ?_
  intro p e s m args below meth c s₁ B hml hv9
  obtain ⟨rfl, ⟨hE, h0, hW⟩, hN⟩ := hv9
  have hx := B.exec; have hb := B.bytes; have hr := B.returns; have hts := hE.hts (args := ([.ref (ad 0), .int p0, .int p1, .ref (ad 170)] : List Value).toArray); have hown : s.vm.findClass RL = some m.cls := findClass_of_methodNamed B.named; have hlocks := B.notSynchronized
  have htb := vx_table (x := yL_law) B (hts _ t_590)
  have hl := lv_entry ([.ref (ad 0), .int p0, .int p1, .ref (ad 170)] : List Value) (n := 5) (Nat.le_of_ble_eq_true rfl)
  rw [lg_entry_eq]
  generalize (lg_sl ([.ref (ad 0), .int p0, .int p1, .ref (ad 170)] : List Value) ++ List.replicate (5 - (lg_sl ([.ref (ad 0), .int p0, .int p1, .ref (ad 170)] : List Value)).length) Slot.unset).toArray = ls at hl ⊢
  generalize hH : s.heap = H at hW ⊢
  have hS : va_S (Ab G.2.2.1) s.heap H [] := hH ▸ va_S.rf
  obtain ⟨locs, hlc⟩ : ∃ z : List Loc, z = [] := ⟨_, rfl⟩
  rw [← hlc] at hS ⊢
  have hl : lv_has ls 5 [(0, .ref (ad 0)), (1, .int p0), (2, .int p1), (3, .ref (ad 170))] := hl
  refine lv_aload_n hx hb dL_setNet_0 rfl (lv_at hl 3 rfl) ?_
  refine lv_iconst (v := 0) hx hb dL_setNet_1 (by decide) ?_
  refine lv_aload_n hx hb dL_setNet_2 rfl (lv_at hl 0 rfl) ?_
  refine lv_iload_n hx hb dL_setNet_3 rfl (lv_at hl 1 rfl) ?_
  refine lv_iload_n hx hb dL_setNet_4 rfl (lv_at hl 2 rfl) ?_
  refine q_cViw (As := [.int p0, .int p1]) (rest := [.int 0, .ref (ad 170)]) (r := 0) hx hb hml hts hown hE h0 hW hS hM mw_X5_setNet hr0 rfl k_6 t_591 ⟨Nat.le_refl _, Nat.le_refl _⟩ rfl hl.1 (Nat.le_of_ble_eq_true rfl) dL_setNet_5 ⟨by show 0 + rm.cells ≤ rm.cells; omega, by show 0 + rm.slots ≤ rm.slots; omega⟩ (fun r1 P1 H locs hp hW hS => ?_)
  obtain ⟨hk1, hk2⟩ := hk r1 P1 hp
  refine lv_if_eq (tgt := 15) hx hb dL_setNet_8 (by decide) (fun c9 => ?_) (fun c9 => ?_)
  · skip
    refine lv_lconst (v := 0) hx hb dL_setNet_15 rfl ?_
    refine q_last hx hb hW hS hk1 hk2.symm dL_setNet_16 (fun H locs hW hS => ?_)
    refine lv_goto (tgt := 24) hx hb dL_setNet_17 (by decide) ?_
    refine lv_iconst (v := 0) hx hb dL_setNet_24 (by decide) ?_
    exact q_hret (rm := hRm rm 5) (P := (P1, vp_updL w 0 0)) hx hb hr hlocks hW hS (by show 0 + rm.cells ≤ rm.cells; omega) (by show 0 + rm.slots ≤ rm.slots; omega) dL_setNet_25 ⟨rfl, r1, hp, by rw [if_pos c9]⟩
  · skip
    refine lv_lconst (v := 1) hx hb dL_setNet_11 rfl ?_
    refine lv_goto (tgt := 16) hx hb dL_setNet_12 (by decide) ?_
    refine q_last hx hb hW hS hk1 hk2.symm dL_setNet_16 (fun H locs hW hS => ?_)
    refine lv_goto (tgt := 24) hx hb dL_setNet_17 (by decide) ?_
    refine lv_iconst (v := 0) hx hb dL_setNet_24 (by decide) ?_
    exact q_hret (rm := hRm rm 5) (P := (P1, vp_updL w 0 1)) hx hb hr hlocks hW hS (by show 0 + rm.cells ≤ rm.cells; omega) (by show 0 + rm.slots ≤ rm.slots; omega) dL_setNet_25 ⟨rfl, r1, hp, by rw [if_neg c9]⟩

set_option maxHeartbeats 4000000 in
set_option maxRecDepth 100000 in
theorem h_setNet_xIO (l : Launch) {G : GG} {L : List Nat} {ad : Nat → Nat} {v : Nat → Nat → Int32} {o : Nat → Nat → Option Nat} {w : Nat → Int64} (hr0 : 0 ∈ L) {rm : Room} {p0 p1 : Int32} (hM : CtXi l G L ad v o w yX5_setNet cX5_setNet 5 .boolean rm [.ref (ad 0), .int p0, .int p1] "java/lang/IndexOutOfBoundsException") : CtH l G L ad v o w yL_setNet cL_setNet 5 [(0, 17, 20, 21)] (hRm rm 5) [.ref (ad 0), .int p0, .int p1, .ref (ad 170)] (fun k P => k = 1 ∧ P = ((L, ad, v, o), w)) := by
  refine Met.ofWH (cc := cL_setNet) (maxL := 5) (ret := some .int) (hh := [(0, 17, 20, 21)]) (by decide) rfl ?_
  intro p e s m args below meth c s₁ B hml hv9
  obtain ⟨rfl, ⟨hE, h0, hW⟩, hN⟩ := hv9
  have hx := B.exec; have hb := B.bytes; have hr := B.returns; have hts := hE.hts (args := ([.ref (ad 0), .int p0, .int p1, .ref (ad 170)] : List Value).toArray); have hown : s.vm.findClass RL = some m.cls := findClass_of_methodNamed B.named; have hlocks := B.notSynchronized
  have htb := vx_table (x := yL_law) B (hts _ t_590)
  have hl := lv_entry ([.ref (ad 0), .int p0, .int p1, .ref (ad 170)] : List Value) (n := 5) (Nat.le_of_ble_eq_true rfl)
  rw [lg_entry_eq]
  generalize (lg_sl ([.ref (ad 0), .int p0, .int p1, .ref (ad 170)] : List Value) ++ List.replicate (5 - (lg_sl ([.ref (ad 0), .int p0, .int p1, .ref (ad 170)] : List Value)).length) Slot.unset).toArray = ls at hl ⊢
  generalize hH : s.heap = H at hW ⊢
  have hS : va_S (Ab G.2.2.1) s.heap H [] := hH ▸ va_S.rf
  obtain ⟨locs, hlc⟩ : ∃ z : List Loc, z = [] := ⟨_, rfl⟩
  rw [← hlc] at hS ⊢
  have hl : lv_has ls 5 [(0, .ref (ad 0)), (1, .int p0), (2, .int p1), (3, .ref (ad 170))] := hl
  refine lv_aload_n hx hb dL_setNet_0 rfl (lv_at hl 3 rfl) ?_
  refine lv_iconst (v := 0) hx hb dL_setNet_1 (by decide) ?_
  refine lv_aload_n hx hb dL_setNet_2 rfl (lv_at hl 0 rfl) ?_
  refine lv_iload_n hx hb dL_setNet_3 rfl (lv_at hl 1 rfl) ?_
  refine lv_iload_n hx hb dL_setNet_4 rfl (lv_at hl 2 rfl) ?_
  refine q_xVc (As := [.int p0, .int p1]) (rest := [.int 0, .ref (ad 170)]) (r := 0) hx hb hml hts hown hE h0 hW hS hM mw_X5_setNet hr0 rfl k_6 t_591 ⟨Nat.le_refl _, Nat.le_refl _⟩ rfl hl.1 (Nat.le_of_ble_eq_true rfl) dL_setNet_5 ⟨by show 0 + rm.cells ≤ rm.cells; omega, by show 0 + rm.slots ≤ rm.slots; omega⟩ [] ⟨0, 17, 20, 21⟩ [] htb (fun z hz => by cases hz) (by decide) (by decide) t_505 t_516 (fun H locs q9 hW hS => ?_)
  refine lv_astore (lv' := [(4, .ref q9), (0, .ref (ad 0)), (1, .int p0), (2, .int p1), (3, .ref (ad 170))]) hx hb dL_setNet_20 hl (by decide) rfl (fun ls hl => ?_)
  refine lv_iconst (v := 1) hx hb dL_setNet_22 (by decide) ?_
  exact q_hret (rm := hRm rm 5) (P := ((L, ad, v, o), w)) hx hb hr hlocks hW hS (by show 0 + rm.cells ≤ rm.cells; omega) (by show 0 + rm.slots ≤ rm.slots; omega) dL_setNet_23 ⟨rfl, rfl⟩

set_option maxHeartbeats 4000000 in
set_option maxRecDepth 100000 in
theorem h_insure (l : Launch) {G : GG} {L : List Nat} {ad : Nat → Nat} {v : Nat → Nat → Int32} {o : Nat → Nat → Option Nat} {w : Nat → Int64} (hr0 : 0 ∈ L) {rm : Room} {p0 p1 p2 p3 : Int32} {post : Int32 → PW → Prop} (hM : CtIw l G L ad v o w yX5_insure cX5_insure 7 .int rm [.ref (ad 0), .int p0, .int p1, .int p2, .int p3] post) (hk : ∀ r P, post r P → 170 ∈ P.1 ∧ P.2.1 170 = ad 170) : CtH l G L ad v o w yL_insure cL_insure 7 [(0, 14, 17, 21), (0, 14, 21, 13)] (hRm rm 7) [.ref (ad 0), .int p0, .int p1, .int p2, .int p3, .ref (ad 170)] (fun k P => k = 0 ∧ ∃ r1, post r1 P.1 ∧ P.2 = vp_updL w 0 r1.toInt64) := by
  refine Met.ofWH (cc := cL_insure) (maxL := 7) (ret := some .int) (hh := [(0, 14, 17, 21), (0, 14, 21, 13)]) (by decide) rfl ?_
  intro p e s m args below meth c s₁ B hml hv9
  obtain ⟨rfl, ⟨hE, h0, hW⟩, hN⟩ := hv9
  have hx := B.exec; have hb := B.bytes; have hr := B.returns; have hts := hE.hts (args := ([.ref (ad 0), .int p0, .int p1, .int p2, .int p3, .ref (ad 170)] : List Value).toArray); have hown : s.vm.findClass RL = some m.cls := findClass_of_methodNamed B.named; have hlocks := B.notSynchronized
  have htb := vx_table (x := yL_law) B (hts _ t_602)
  have hl := lv_entry ([.ref (ad 0), .int p0, .int p1, .int p2, .int p3, .ref (ad 170)] : List Value) (n := 7) (Nat.le_of_ble_eq_true rfl)
  rw [lg_entry_eq]
  generalize (lg_sl ([.ref (ad 0), .int p0, .int p1, .int p2, .int p3, .ref (ad 170)] : List Value) ++ List.replicate (7 - (lg_sl ([.ref (ad 0), .int p0, .int p1, .int p2, .int p3, .ref (ad 170)] : List Value)).length) Slot.unset).toArray = ls at hl ⊢
  generalize hH : s.heap = H at hW ⊢
  have hS : va_S (Ab G.2.2.1) s.heap H [] := hH ▸ va_S.rf
  obtain ⟨locs, hlc⟩ : ∃ z : List Loc, z = [] := ⟨_, rfl⟩
  rw [← hlc] at hS ⊢
  have hl : lv_has ls 7 [(0, .ref (ad 0)), (1, .int p0), (2, .int p1), (3, .int p2), (4, .int p3), (5, .ref (ad 170))] := hl
  refine lv_aload hx hb dL_insure_0 (lv_at hl 5 rfl) ?_
  refine lv_iconst (v := 0) hx hb dL_insure_2 (by decide) ?_
  refine lv_aload_n hx hb dL_insure_3 rfl (lv_at hl 0 rfl) ?_
  refine lv_iload_n hx hb dL_insure_4 rfl (lv_at hl 1 rfl) ?_
  refine lv_iload_n hx hb dL_insure_5 rfl (lv_at hl 2 rfl) ?_
  refine lv_iload_n hx hb dL_insure_6 rfl (lv_at hl 3 rfl) ?_
  refine lv_iload hx hb dL_insure_7 (lv_at hl 4 rfl) ?_
  refine q_cViw (As := [.int p0, .int p1, .int p2, .int p3]) (rest := [.int 0, .ref (ad 170)]) (r := 0) hx hb hml hts hown hE h0 hW hS hM mw_X5_insure hr0 rfl k_6 t_603 ⟨Nat.le_refl _, Nat.le_refl _⟩ rfl hl.1 (Nat.le_of_ble_eq_true rfl) dL_insure_9 ⟨by show 0 + rm.cells ≤ rm.cells; omega, by show 0 + rm.slots ≤ rm.slots; omega⟩ (fun r1 P1 H locs hp hW hS => ?_)
  obtain ⟨hk1, hk2⟩ := hk r1 P1 hp
  refine lv_i2l (v := r1.toInt64) hx hb dL_insure_12 rfl ?_
  refine q_last hx hb hW hS hk1 hk2.symm dL_insure_13 (fun H locs hW hS => ?_)
  refine lv_goto (tgt := 25) hx hb dL_insure_14 (by decide) ?_
  refine lv_iconst (v := 0) hx hb dL_insure_25 (by decide) ?_
  exact q_hret (rm := hRm rm 7) (P := (P1, vp_updL w 0 r1.toInt64)) hx hb hr hlocks hW hS (by show 0 + rm.cells ≤ rm.cells; omega) (by show 0 + rm.slots ≤ rm.slots; omega) dL_insure_26 ⟨rfl, r1, hp, rfl⟩

set_option maxHeartbeats 4000000 in
set_option maxRecDepth 100000 in
theorem h_insure_xIO (l : Launch) {G : GG} {L : List Nat} {ad : Nat → Nat} {v : Nat → Nat → Int32} {o : Nat → Nat → Option Nat} {w : Nat → Int64} (hr0 : 0 ∈ L) {rm : Room} {p0 p1 p2 p3 : Int32} (hM : CtXi l G L ad v o w yX5_insure cX5_insure 7 .int rm [.ref (ad 0), .int p0, .int p1, .int p2, .int p3] "java/lang/IndexOutOfBoundsException") : CtH l G L ad v o w yL_insure cL_insure 7 [(0, 14, 17, 21), (0, 14, 21, 13)] (hRm rm 7) [.ref (ad 0), .int p0, .int p1, .int p2, .int p3, .ref (ad 170)] (fun k P => k = 1 ∧ P = ((L, ad, v, o), w)) := by
  refine Met.ofWH (cc := cL_insure) (maxL := 7) (ret := some .int) (hh := [(0, 14, 17, 21), (0, 14, 21, 13)]) (by decide) rfl ?_
  intro p e s m args below meth c s₁ B hml hv9
  obtain ⟨rfl, ⟨hE, h0, hW⟩, hN⟩ := hv9
  have hx := B.exec; have hb := B.bytes; have hr := B.returns; have hts := hE.hts (args := ([.ref (ad 0), .int p0, .int p1, .int p2, .int p3, .ref (ad 170)] : List Value).toArray); have hown : s.vm.findClass RL = some m.cls := findClass_of_methodNamed B.named; have hlocks := B.notSynchronized
  have htb := vx_table (x := yL_law) B (hts _ t_602)
  have hl := lv_entry ([.ref (ad 0), .int p0, .int p1, .int p2, .int p3, .ref (ad 170)] : List Value) (n := 7) (Nat.le_of_ble_eq_true rfl)
  rw [lg_entry_eq]
  generalize (lg_sl ([.ref (ad 0), .int p0, .int p1, .int p2, .int p3, .ref (ad 170)] : List Value) ++ List.replicate (7 - (lg_sl ([.ref (ad 0), .int p0, .int p1, .int p2, .int p3, .ref (ad 170)] : List Value)).length) Slot.unset).toArray = ls at hl ⊢
  generalize hH : s.heap = H at hW ⊢
  have hS : va_S (Ab G.2.2.1) s.heap H [] := hH ▸ va_S.rf
  obtain ⟨locs, hlc⟩ : ∃ z : List Loc, z = [] := ⟨_, rfl⟩
  rw [← hlc] at hS ⊢
  have hl : lv_has ls 7 [(0, .ref (ad 0)), (1, .int p0), (2, .int p1), (3, .int p2), (4, .int p3), (5, .ref (ad 170))] := hl
  refine lv_aload hx hb dL_insure_0 (lv_at hl 5 rfl) ?_
  refine lv_iconst (v := 0) hx hb dL_insure_2 (by decide) ?_
  refine lv_aload_n hx hb dL_insure_3 rfl (lv_at hl 0 rfl) ?_
  refine lv_iload_n hx hb dL_insure_4 rfl (lv_at hl 1 rfl) ?_
  refine lv_iload_n hx hb dL_insure_5 rfl (lv_at hl 2 rfl) ?_
  refine lv_iload_n hx hb dL_insure_6 rfl (lv_at hl 3 rfl) ?_
  refine lv_iload hx hb dL_insure_7 (lv_at hl 4 rfl) ?_
  refine q_xVc (As := [.int p0, .int p1, .int p2, .int p3]) (rest := [.int 0, .ref (ad 170)]) (r := 0) hx hb hml hts hown hE h0 hW hS hM mw_X5_insure hr0 rfl k_6 t_603 ⟨Nat.le_refl _, Nat.le_refl _⟩ rfl hl.1 (Nat.le_of_ble_eq_true rfl) dL_insure_9 ⟨by show 0 + rm.cells ≤ rm.cells; omega, by show 0 + rm.slots ≤ rm.slots; omega⟩ [] ⟨0, 14, 17, 21⟩ [⟨0, 14, 21, 13⟩] htb (fun z hz => by cases hz) (by decide) (by decide) t_505 t_516 (fun H locs q9 hW hS => ?_)
  refine lv_astore (lv' := [(6, .ref q9), (0, .ref (ad 0)), (1, .int p0), (2, .int p1), (3, .int p2), (4, .int p3), (5, .ref (ad 170))]) hx hb dL_insure_17 hl (by decide) rfl (fun ls hl => ?_)
  refine lv_iconst (v := 1) hx hb dL_insure_19 (by decide) ?_
  exact q_hret (rm := hRm rm 7) (P := ((L, ad, v, o), w)) hx hb hr hlocks hW hS (by show 0 + rm.cells ≤ rm.cells; omega) (by show 0 + rm.slots ≤ rm.slots; omega) dL_insure_20 ⟨rfl, rfl⟩

set_option maxHeartbeats 4000000 in
set_option maxRecDepth 100000 in
theorem h_insure_xIA (l : Launch) {G : GG} {L : List Nat} {ad : Nat → Nat} {v : Nat → Nat → Int32} {o : Nat → Nat → Option Nat} {w : Nat → Int64} (hr0 : 0 ∈ L) {rm : Room} {p0 p1 p2 p3 : Int32} (hM : CtXi l G L ad v o w yX5_insure cX5_insure 7 .int rm [.ref (ad 0), .int p0, .int p1, .int p2, .int p3] "java/lang/IllegalArgumentException") : CtH l G L ad v o w yL_insure cL_insure 7 [(0, 14, 17, 21), (0, 14, 21, 13)] (hRm rm 7) [.ref (ad 0), .int p0, .int p1, .int p2, .int p3, .ref (ad 170)] (fun k P => k = 2 ∧ P = ((L, ad, v, o), w)) := by
  refine Met.ofWH (cc := cL_insure) (maxL := 7) (ret := some .int) (hh := [(0, 14, 17, 21), (0, 14, 21, 13)]) (by decide) rfl ?_
  intro p e s m args below meth c s₁ B hml hv9
  obtain ⟨rfl, ⟨hE, h0, hW⟩, hN⟩ := hv9
  have hx := B.exec; have hb := B.bytes; have hr := B.returns; have hts := hE.hts (args := ([.ref (ad 0), .int p0, .int p1, .int p2, .int p3, .ref (ad 170)] : List Value).toArray); have hown : s.vm.findClass RL = some m.cls := findClass_of_methodNamed B.named; have hlocks := B.notSynchronized
  have htb := vx_table (x := yL_law) B (hts _ t_602)
  have hl := lv_entry ([.ref (ad 0), .int p0, .int p1, .int p2, .int p3, .ref (ad 170)] : List Value) (n := 7) (Nat.le_of_ble_eq_true rfl)
  rw [lg_entry_eq]
  generalize (lg_sl ([.ref (ad 0), .int p0, .int p1, .int p2, .int p3, .ref (ad 170)] : List Value) ++ List.replicate (7 - (lg_sl ([.ref (ad 0), .int p0, .int p1, .int p2, .int p3, .ref (ad 170)] : List Value)).length) Slot.unset).toArray = ls at hl ⊢
  generalize hH : s.heap = H at hW ⊢
  have hS : va_S (Ab G.2.2.1) s.heap H [] := hH ▸ va_S.rf
  obtain ⟨locs, hlc⟩ : ∃ z : List Loc, z = [] := ⟨_, rfl⟩
  rw [← hlc] at hS ⊢
  have hl : lv_has ls 7 [(0, .ref (ad 0)), (1, .int p0), (2, .int p1), (3, .int p2), (4, .int p3), (5, .ref (ad 170))] := hl
  refine lv_aload hx hb dL_insure_0 (lv_at hl 5 rfl) ?_
  refine lv_iconst (v := 0) hx hb dL_insure_2 (by decide) ?_
  refine lv_aload_n hx hb dL_insure_3 rfl (lv_at hl 0 rfl) ?_
  refine lv_iload_n hx hb dL_insure_4 rfl (lv_at hl 1 rfl) ?_
  refine lv_iload_n hx hb dL_insure_5 rfl (lv_at hl 2 rfl) ?_
  refine lv_iload_n hx hb dL_insure_6 rfl (lv_at hl 3 rfl) ?_
  refine lv_iload hx hb dL_insure_7 (lv_at hl 4 rfl) ?_
  refine q_xVc (As := [.int p0, .int p1, .int p2, .int p3]) (rest := [.int 0, .ref (ad 170)]) (r := 0) hx hb hml hts hown hE h0 hW hS hM mw_X5_insure hr0 rfl k_6 t_603 ⟨Nat.le_refl _, Nat.le_refl _⟩ rfl hl.1 (Nat.le_of_ble_eq_true rfl) dL_insure_9 ⟨by show 0 + rm.cells ≤ rm.cells; omega, by show 0 + rm.slots ≤ rm.slots; omega⟩ [⟨0, 14, 17, 21⟩] ⟨0, 14, 21, 13⟩ [] htb (fun z hz => by
    rcases List.mem_cons.mp hz with rfl | hz
    · exact Or.inr ⟨by decide, xIO, hts _ t_505, hN.2.1⟩
    cases hz) (by decide) (by decide) t_311 t_323 (fun H locs q9 hW hS => ?_)
  refine lv_astore (lv' := [(6, .ref q9), (0, .ref (ad 0)), (1, .int p0), (2, .int p1), (3, .int p2), (4, .int p3), (5, .ref (ad 170))]) hx hb dL_insure_21 hl (by decide) rfl (fun ls hl => ?_)
  refine lv_iconst (v := 2) hx hb dL_insure_23 (by decide) ?_
  exact q_hret (rm := hRm rm 7) (P := ((L, ad, v, o), w)) hx hb hr hlocks hW hS (by show 0 + rm.cells ≤ rm.cells; omega) (by show 0 + rm.slots ≤ rm.slots; omega) dL_insure_24 ⟨rfl, rfl⟩

set_option maxHeartbeats 4000000 in
set_option maxRecDepth 100000 in
theorem h_mend (l : Launch) {G : GG} {L : List Nat} {ad : Nat → Nat} {v : Nat → Nat → Int32} {o : Nat → Nat → Option Nat} {w : Nat → Int64} (hr0 : 0 ∈ L) {rm : Room} {p0 : Int32} {post : Int32 → PW → Prop} (hM : CtIw l G L ad v o w yX5_mend cX5_mend 5 .int rm [.ref (ad 0), .int p0] post) (hk : ∀ r P, post r P → 170 ∈ P.1 ∧ P.2.1 170 = ad 170) : CtH l G L ad v o w yL_mend cL_mend 4 [(0, 9, 12, 21), (0, 9, 15, 15)] (hRm rm 5) [.ref (ad 0), .int p0, .ref (ad 170)] (fun k P => k = 0 ∧ ∃ r1, post r1 P.1 ∧ P.2 = vp_updL w 0 r1.toInt64) := by
  refine Met.ofWH (cc := cL_mend) (maxL := 4) (ret := some .int) (hh := [(0, 9, 12, 21), (0, 9, 15, 15)]) (by decide) rfl ?_
  intro p e s m args below meth c s₁ B hml hv9
  obtain ⟨rfl, ⟨hE, h0, hW⟩, hN⟩ := hv9
  have hx := B.exec; have hb := B.bytes; have hr := B.returns; have hts := hE.hts (args := ([.ref (ad 0), .int p0, .ref (ad 170)] : List Value).toArray); have hown : s.vm.findClass RL = some m.cls := findClass_of_methodNamed B.named; have hlocks := B.notSynchronized
  have htb := vx_table (x := yL_law) B (hts _ t_613)
  have hl := lv_entry ([.ref (ad 0), .int p0, .ref (ad 170)] : List Value) (n := 4) (Nat.le_of_ble_eq_true rfl)
  rw [lg_entry_eq]
  generalize (lg_sl ([.ref (ad 0), .int p0, .ref (ad 170)] : List Value) ++ List.replicate (4 - (lg_sl ([.ref (ad 0), .int p0, .ref (ad 170)] : List Value)).length) Slot.unset).toArray = ls at hl ⊢
  generalize hH : s.heap = H at hW ⊢
  have hS : va_S (Ab G.2.2.1) s.heap H [] := hH ▸ va_S.rf
  obtain ⟨locs, hlc⟩ : ∃ z : List Loc, z = [] := ⟨_, rfl⟩
  rw [← hlc] at hS ⊢
  have hl : lv_has ls 4 [(0, .ref (ad 0)), (1, .int p0), (2, .ref (ad 170))] := hl
  refine lv_aload_n hx hb dL_mend_0 rfl (lv_at hl 2 rfl) ?_
  refine lv_iconst (v := 0) hx hb dL_mend_1 (by decide) ?_
  refine lv_aload_n hx hb dL_mend_2 rfl (lv_at hl 0 rfl) ?_
  refine lv_iload_n hx hb dL_mend_3 rfl (lv_at hl 1 rfl) ?_
  refine q_cViw (As := [.int p0]) (rest := [.int 0, .ref (ad 170)]) (r := 0) hx hb hml hts hown hE h0 hW hS hM mw_X5_mend hr0 rfl k_6 t_614 ⟨Nat.le_refl _, Nat.le_refl _⟩ rfl hl.1 (Nat.le_of_ble_eq_true rfl) dL_mend_4 ⟨by show 0 + rm.cells ≤ rm.cells; omega, by show 0 + rm.slots ≤ rm.slots; omega⟩ (fun r1 P1 H locs hp hW hS => ?_)
  obtain ⟨hk1, hk2⟩ := hk r1 P1 hp
  refine lv_i2l (v := r1.toInt64) hx hb dL_mend_7 rfl ?_
  refine q_last hx hb hW hS hk1 hk2.symm dL_mend_8 (fun H locs hW hS => ?_)
  refine lv_goto (tgt := 18) hx hb dL_mend_9 (by decide) ?_
  refine lv_iconst (v := 0) hx hb dL_mend_18 (by decide) ?_
  exact q_hret (rm := hRm rm 5) (P := (P1, vp_updL w 0 r1.toInt64)) hx hb hr hlocks hW hS (by show 0 + rm.cells ≤ rm.cells; omega) (by show 0 + rm.slots ≤ rm.slots; omega) dL_mend_19 ⟨rfl, r1, hp, rfl⟩

set_option maxHeartbeats 4000000 in
set_option maxRecDepth 100000 in
theorem h_mend_xIO (l : Launch) {G : GG} {L : List Nat} {ad : Nat → Nat} {v : Nat → Nat → Int32} {o : Nat → Nat → Option Nat} {w : Nat → Int64} (hr0 : 0 ∈ L) {rm : Room} {p0 : Int32} (hM : CtXi l G L ad v o w yX5_mend cX5_mend 5 .int rm [.ref (ad 0), .int p0] "java/lang/IndexOutOfBoundsException") : CtH l G L ad v o w yL_mend cL_mend 4 [(0, 9, 12, 21), (0, 9, 15, 15)] (hRm rm 5) [.ref (ad 0), .int p0, .ref (ad 170)] (fun k P => k = 1 ∧ P = ((L, ad, v, o), w)) := by
  refine Met.ofWH (cc := cL_mend) (maxL := 4) (ret := some .int) (hh := [(0, 9, 12, 21), (0, 9, 15, 15)]) (by decide) rfl ?_
  intro p e s m args below meth c s₁ B hml hv9
  obtain ⟨rfl, ⟨hE, h0, hW⟩, hN⟩ := hv9
  have hx := B.exec; have hb := B.bytes; have hr := B.returns; have hts := hE.hts (args := ([.ref (ad 0), .int p0, .ref (ad 170)] : List Value).toArray); have hown : s.vm.findClass RL = some m.cls := findClass_of_methodNamed B.named; have hlocks := B.notSynchronized
  have htb := vx_table (x := yL_law) B (hts _ t_613)
  have hl := lv_entry ([.ref (ad 0), .int p0, .ref (ad 170)] : List Value) (n := 4) (Nat.le_of_ble_eq_true rfl)
  rw [lg_entry_eq]
  generalize (lg_sl ([.ref (ad 0), .int p0, .ref (ad 170)] : List Value) ++ List.replicate (4 - (lg_sl ([.ref (ad 0), .int p0, .ref (ad 170)] : List Value)).length) Slot.unset).toArray = ls at hl ⊢
  generalize hH : s.heap = H at hW ⊢
  have hS : va_S (Ab G.2.2.1) s.heap H [] := hH ▸ va_S.rf
  obtain ⟨locs, hlc⟩ : ∃ z : List Loc, z = [] := ⟨_, rfl⟩
  rw [← hlc] at hS ⊢
  have hl : lv_has ls 4 [(0, .ref (ad 0)), (1, .int p0), (2, .ref (ad 170))] := hl
  refine lv_aload_n hx hb dL_mend_0 rfl (lv_at hl 2 rfl) ?_
  refine lv_iconst (v := 0) hx hb dL_mend_1 (by decide) ?_
  refine lv_aload_n hx hb dL_mend_2 rfl (lv_at hl 0 rfl) ?_
  refine lv_iload_n hx hb dL_mend_3 rfl (lv_at hl 1 rfl) ?_
  refine q_xVc (As := [.int p0]) (rest := [.int 0, .ref (ad 170)]) (r := 0) hx hb hml hts hown hE h0 hW hS hM mw_X5_mend hr0 rfl k_6 t_614 ⟨Nat.le_refl _, Nat.le_refl _⟩ rfl hl.1 (Nat.le_of_ble_eq_true rfl) dL_mend_4 ⟨by show 0 + rm.cells ≤ rm.cells; omega, by show 0 + rm.slots ≤ rm.slots; omega⟩ [] ⟨0, 9, 12, 21⟩ [⟨0, 9, 15, 15⟩] htb (fun z hz => by cases hz) (by decide) (by decide) t_505 t_516 (fun H locs q9 hW hS => ?_)
  refine lv_astore_n (lv' := [(3, .ref q9), (0, .ref (ad 0)), (1, .int p0), (2, .ref (ad 170))]) hx hb dL_mend_12 rfl hl (by decide) rfl (fun ls hl => ?_)
  refine lv_iconst (v := 1) hx hb dL_mend_13 (by decide) ?_
  exact q_hret (rm := hRm rm 5) (P := ((L, ad, v, o), w)) hx hb hr hlocks hW hS (by show 0 + rm.cells ≤ rm.cells; omega) (by show 0 + rm.slots ≤ rm.slots; omega) dL_mend_14 ⟨rfl, rfl⟩

set_option maxHeartbeats 4000000 in
set_option maxRecDepth 100000 in
theorem h_mend_xIS (l : Launch) {G : GG} {L : List Nat} {ad : Nat → Nat} {v : Nat → Nat → Int32} {o : Nat → Nat → Option Nat} {w : Nat → Int64} (hr0 : 0 ∈ L) {rm : Room} {p0 : Int32} (hM : CtXi l G L ad v o w yX5_mend cX5_mend 5 .int rm [.ref (ad 0), .int p0] "java/lang/IllegalStateException") : CtH l G L ad v o w yL_mend cL_mend 4 [(0, 9, 12, 21), (0, 9, 15, 15)] (hRm rm 5) [.ref (ad 0), .int p0, .ref (ad 170)] (fun k P => k = 2 ∧ P = ((L, ad, v, o), w)) := by
  refine Met.ofWH (cc := cL_mend) (maxL := 4) (ret := some .int) (hh := [(0, 9, 12, 21), (0, 9, 15, 15)]) (by decide) rfl ?_
  intro p e s m args below meth c s₁ B hml hv9
  obtain ⟨rfl, ⟨hE, h0, hW⟩, hN⟩ := hv9
  have hx := B.exec; have hb := B.bytes; have hr := B.returns; have hts := hE.hts (args := ([.ref (ad 0), .int p0, .ref (ad 170)] : List Value).toArray); have hown : s.vm.findClass RL = some m.cls := findClass_of_methodNamed B.named; have hlocks := B.notSynchronized
  have htb := vx_table (x := yL_law) B (hts _ t_613)
  have hl := lv_entry ([.ref (ad 0), .int p0, .ref (ad 170)] : List Value) (n := 4) (Nat.le_of_ble_eq_true rfl)
  rw [lg_entry_eq]
  generalize (lg_sl ([.ref (ad 0), .int p0, .ref (ad 170)] : List Value) ++ List.replicate (4 - (lg_sl ([.ref (ad 0), .int p0, .ref (ad 170)] : List Value)).length) Slot.unset).toArray = ls at hl ⊢
  generalize hH : s.heap = H at hW ⊢
  have hS : va_S (Ab G.2.2.1) s.heap H [] := hH ▸ va_S.rf
  obtain ⟨locs, hlc⟩ : ∃ z : List Loc, z = [] := ⟨_, rfl⟩
  rw [← hlc] at hS ⊢
  have hl : lv_has ls 4 [(0, .ref (ad 0)), (1, .int p0), (2, .ref (ad 170))] := hl
  refine lv_aload_n hx hb dL_mend_0 rfl (lv_at hl 2 rfl) ?_
  refine lv_iconst (v := 0) hx hb dL_mend_1 (by decide) ?_
  refine lv_aload_n hx hb dL_mend_2 rfl (lv_at hl 0 rfl) ?_
  refine lv_iload_n hx hb dL_mend_3 rfl (lv_at hl 1 rfl) ?_
  refine q_xVc (As := [.int p0]) (rest := [.int 0, .ref (ad 170)]) (r := 0) hx hb hml hts hown hE h0 hW hS hM mw_X5_mend hr0 rfl k_6 t_614 ⟨Nat.le_refl _, Nat.le_refl _⟩ rfl hl.1 (Nat.le_of_ble_eq_true rfl) dL_mend_4 ⟨by show 0 + rm.cells ≤ rm.cells; omega, by show 0 + rm.slots ≤ rm.slots; omega⟩ [⟨0, 9, 12, 21⟩] ⟨0, 9, 15, 15⟩ [] htb (fun z hz => by
    rcases List.mem_cons.mp hz with rfl | hz
    · exact Or.inr ⟨by decide, xIO, hts _ t_505, hN.2.2.1⟩
    cases hz) (by decide) (by decide) t_312 t_391 (fun H locs q9 hW hS => ?_)
  refine lv_astore_n (lv' := [(3, .ref q9), (0, .ref (ad 0)), (1, .int p0), (2, .ref (ad 170))]) hx hb dL_mend_15 rfl hl (by decide) rfl (fun ls hl => ?_)
  refine lv_iconst (v := 2) hx hb dL_mend_16 (by decide) ?_
  exact q_hret (rm := hRm rm 5) (P := ((L, ad, v, o), w)) hx hb hr hlocks hW hS (by show 0 + rm.cells ≤ rm.cells; omega) (by show 0 + rm.slots ≤ rm.slots; omega) dL_mend_17 ⟨rfl, rfl⟩

set_option maxHeartbeats 4000000 in
set_option maxRecDepth 100000 in
theorem h_grower (l : Launch) {G : GG} {L : List Nat} {ad : Nat → Nat} {v : Nat → Nat → Int32} {o : Nat → Nat → Option Nat} {w : Nat → Int64} (hr0 : 0 ∈ L) {rm : Room} {p0 p1 : Int32} {post : Int32 → PW → Prop} (hM : CtIw l G L ad v o w yX5_grower cX5_grower 3 .int rm [.ref (ad 0), .int p0, .int p1] post) (hk : ∀ r P, post r P → 170 ∈ P.1 ∧ P.2.1 170 = ad 170) : CtH l G L ad v o w yL_grower cL_grower 5 [(0, 10, 13, 21)] (hRm rm 3) [.ref (ad 0), .int p0, .int p1, .ref (ad 170)] (fun k P => k = 0 ∧ ∃ r1, post r1 P.1 ∧ P.2 = vp_updL w 0 r1.toInt64) := by
  refine Met.ofWH (cc := cL_grower) (maxL := 5) (ret := some .int) (hh := [(0, 10, 13, 21)]) (by decide) rfl ?_
  intro p e s m args below meth c s₁ B hml hv9
  obtain ⟨rfl, ⟨hE, h0, hW⟩, hN⟩ := hv9
  have hx := B.exec; have hb := B.bytes; have hr := B.returns; have hts := hE.hts (args := ([.ref (ad 0), .int p0, .int p1, .ref (ad 170)] : List Value).toArray); have hown : s.vm.findClass RL = some m.cls := findClass_of_methodNamed B.named; have hlocks := B.notSynchronized
  have htb := vx_table (x := yL_law) B (hts _ t_621)
  have hl := lv_entry ([.ref (ad 0), .int p0, .int p1, .ref (ad 170)] : List Value) (n := 5) (Nat.le_of_ble_eq_true rfl)
  rw [lg_entry_eq]
  generalize (lg_sl ([.ref (ad 0), .int p0, .int p1, .ref (ad 170)] : List Value) ++ List.replicate (5 - (lg_sl ([.ref (ad 0), .int p0, .int p1, .ref (ad 170)] : List Value)).length) Slot.unset).toArray = ls at hl ⊢
  generalize hH : s.heap = H at hW ⊢
  have hS : va_S (Ab G.2.2.1) s.heap H [] := hH ▸ va_S.rf
  obtain ⟨locs, hlc⟩ : ∃ z : List Loc, z = [] := ⟨_, rfl⟩
  rw [← hlc] at hS ⊢
  have hl : lv_has ls 5 [(0, .ref (ad 0)), (1, .int p0), (2, .int p1), (3, .ref (ad 170))] := hl
  refine lv_aload_n hx hb dL_grower_0 rfl (lv_at hl 3 rfl) ?_
  refine lv_iconst (v := 0) hx hb dL_grower_1 (by decide) ?_
  refine lv_aload_n hx hb dL_grower_2 rfl (lv_at hl 0 rfl) ?_
  refine lv_iload_n hx hb dL_grower_3 rfl (lv_at hl 1 rfl) ?_
  refine lv_iload_n hx hb dL_grower_4 rfl (lv_at hl 2 rfl) ?_
  refine q_cViw (As := [.int p0, .int p1]) (rest := [.int 0, .ref (ad 170)]) (r := 0) hx hb hml hts hown hE h0 hW hS hM mw_X5_grower hr0 rfl k_6 t_622 ⟨Nat.le_refl _, Nat.le_refl _⟩ rfl hl.1 (Nat.le_of_ble_eq_true rfl) dL_grower_5 ⟨by show 0 + rm.cells ≤ rm.cells; omega, by show 0 + rm.slots ≤ rm.slots; omega⟩ (fun r1 P1 H locs hp hW hS => ?_)
  obtain ⟨hk1, hk2⟩ := hk r1 P1 hp
  refine lv_i2l (v := r1.toInt64) hx hb dL_grower_8 rfl ?_
  refine q_last hx hb hW hS hk1 hk2.symm dL_grower_9 (fun H locs hW hS => ?_)
  refine lv_goto (tgt := 17) hx hb dL_grower_10 (by decide) ?_
  refine lv_iconst (v := 0) hx hb dL_grower_17 (by decide) ?_
  exact q_hret (rm := hRm rm 3) (P := (P1, vp_updL w 0 r1.toInt64)) hx hb hr hlocks hW hS (by show 0 + rm.cells ≤ rm.cells; omega) (by show 0 + rm.slots ≤ rm.slots; omega) dL_grower_18 ⟨rfl, r1, hp, rfl⟩

set_option maxHeartbeats 4000000 in
set_option maxRecDepth 100000 in
theorem h_grower_xIO (l : Launch) {G : GG} {L : List Nat} {ad : Nat → Nat} {v : Nat → Nat → Int32} {o : Nat → Nat → Option Nat} {w : Nat → Int64} (hr0 : 0 ∈ L) {rm : Room} {p0 p1 : Int32} (hM : CtXi l G L ad v o w yX5_grower cX5_grower 3 .int rm [.ref (ad 0), .int p0, .int p1] "java/lang/IndexOutOfBoundsException") : CtH l G L ad v o w yL_grower cL_grower 5 [(0, 10, 13, 21)] (hRm rm 3) [.ref (ad 0), .int p0, .int p1, .ref (ad 170)] (fun k P => k = 1 ∧ P = ((L, ad, v, o), w)) := by
  refine Met.ofWH (cc := cL_grower) (maxL := 5) (ret := some .int) (hh := [(0, 10, 13, 21)]) (by decide) rfl ?_
  intro p e s m args below meth c s₁ B hml hv9
  obtain ⟨rfl, ⟨hE, h0, hW⟩, hN⟩ := hv9
  have hx := B.exec; have hb := B.bytes; have hr := B.returns; have hts := hE.hts (args := ([.ref (ad 0), .int p0, .int p1, .ref (ad 170)] : List Value).toArray); have hown : s.vm.findClass RL = some m.cls := findClass_of_methodNamed B.named; have hlocks := B.notSynchronized
  have htb := vx_table (x := yL_law) B (hts _ t_621)
  have hl := lv_entry ([.ref (ad 0), .int p0, .int p1, .ref (ad 170)] : List Value) (n := 5) (Nat.le_of_ble_eq_true rfl)
  rw [lg_entry_eq]
  generalize (lg_sl ([.ref (ad 0), .int p0, .int p1, .ref (ad 170)] : List Value) ++ List.replicate (5 - (lg_sl ([.ref (ad 0), .int p0, .int p1, .ref (ad 170)] : List Value)).length) Slot.unset).toArray = ls at hl ⊢
  generalize hH : s.heap = H at hW ⊢
  have hS : va_S (Ab G.2.2.1) s.heap H [] := hH ▸ va_S.rf
  obtain ⟨locs, hlc⟩ : ∃ z : List Loc, z = [] := ⟨_, rfl⟩
  rw [← hlc] at hS ⊢
  have hl : lv_has ls 5 [(0, .ref (ad 0)), (1, .int p0), (2, .int p1), (3, .ref (ad 170))] := hl
  refine lv_aload_n hx hb dL_grower_0 rfl (lv_at hl 3 rfl) ?_
  refine lv_iconst (v := 0) hx hb dL_grower_1 (by decide) ?_
  refine lv_aload_n hx hb dL_grower_2 rfl (lv_at hl 0 rfl) ?_
  refine lv_iload_n hx hb dL_grower_3 rfl (lv_at hl 1 rfl) ?_
  refine lv_iload_n hx hb dL_grower_4 rfl (lv_at hl 2 rfl) ?_
  refine q_xVc (As := [.int p0, .int p1]) (rest := [.int 0, .ref (ad 170)]) (r := 0) hx hb hml hts hown hE h0 hW hS hM mw_X5_grower hr0 rfl k_6 t_622 ⟨Nat.le_refl _, Nat.le_refl _⟩ rfl hl.1 (Nat.le_of_ble_eq_true rfl) dL_grower_5 ⟨by show 0 + rm.cells ≤ rm.cells; omega, by show 0 + rm.slots ≤ rm.slots; omega⟩ [] ⟨0, 10, 13, 21⟩ [] htb (fun z hz => by cases hz) (by decide) (by decide) t_505 t_516 (fun H locs q9 hW hS => ?_)
  refine lv_astore (lv' := [(4, .ref q9), (0, .ref (ad 0)), (1, .int p0), (2, .int p1), (3, .ref (ad 170))]) hx hb dL_grower_13 hl (by decide) rfl (fun ls hl => ?_)
  refine lv_iconst (v := 1) hx hb dL_grower_15 (by decide) ?_
  exact q_hret (rm := hRm rm 3) (P := ((L, ad, v, o), w)) hx hb hr hlocks hW hS (by show 0 + rm.cells ≤ rm.cells; omega) (by show 0 + rm.slots ≤ rm.slots; omega) dL_grower_16 ⟨rfl, rfl⟩

set_option maxHeartbeats 4000000 in
set_option maxRecDepth 100000 in
theorem h_house (l : Launch) {G : GG} {L : List Nat} {ad : Nat → Nat} {v : Nat → Nat → Int32} {o : Nat → Nat → Option Nat} {w : Nat → Int64} (hr0 : 0 ∈ L) {rm : Room} {p0 p1 : Int32} {post : Int32 → PW → Prop} (hM : CtIw l G L ad v o w yX5_house cX5_house 3 .int rm [.ref (ad 0), .int p0, .int p1] post) (hk : ∀ r P, post r P → 170 ∈ P.1 ∧ P.2.1 170 = ad 170) : CtH l G L ad v o w yL_house cL_house 5 [(0, 10, 13, 21)] (hRm rm 3) [.ref (ad 0), .int p0, .int p1, .ref (ad 170)] (fun k P => k = 0 ∧ ∃ r1, post r1 P.1 ∧ P.2 = vp_updL w 0 r1.toInt64) := by
  refine Met.ofWH (cc := cL_house) (maxL := 5) (ret := some .int) (hh := [(0, 10, 13, 21)]) (by decide) rfl ?_
  intro p e s m args below meth c s₁ B hml hv9
  obtain ⟨rfl, ⟨hE, h0, hW⟩, hN⟩ := hv9
  have hx := B.exec; have hb := B.bytes; have hr := B.returns; have hts := hE.hts (args := ([.ref (ad 0), .int p0, .int p1, .ref (ad 170)] : List Value).toArray); have hown : s.vm.findClass RL = some m.cls := findClass_of_methodNamed B.named; have hlocks := B.notSynchronized
  have htb := vx_table (x := yL_law) B (hts _ t_632)
  have hl := lv_entry ([.ref (ad 0), .int p0, .int p1, .ref (ad 170)] : List Value) (n := 5) (Nat.le_of_ble_eq_true rfl)
  rw [lg_entry_eq]
  generalize (lg_sl ([.ref (ad 0), .int p0, .int p1, .ref (ad 170)] : List Value) ++ List.replicate (5 - (lg_sl ([.ref (ad 0), .int p0, .int p1, .ref (ad 170)] : List Value)).length) Slot.unset).toArray = ls at hl ⊢
  generalize hH : s.heap = H at hW ⊢
  have hS : va_S (Ab G.2.2.1) s.heap H [] := hH ▸ va_S.rf
  obtain ⟨locs, hlc⟩ : ∃ z : List Loc, z = [] := ⟨_, rfl⟩
  rw [← hlc] at hS ⊢
  have hl : lv_has ls 5 [(0, .ref (ad 0)), (1, .int p0), (2, .int p1), (3, .ref (ad 170))] := hl
  refine lv_aload_n hx hb dL_house_0 rfl (lv_at hl 3 rfl) ?_
  refine lv_iconst (v := 0) hx hb dL_house_1 (by decide) ?_
  refine lv_aload_n hx hb dL_house_2 rfl (lv_at hl 0 rfl) ?_
  refine lv_iload_n hx hb dL_house_3 rfl (lv_at hl 1 rfl) ?_
  refine lv_iload_n hx hb dL_house_4 rfl (lv_at hl 2 rfl) ?_
  refine q_cViw (As := [.int p0, .int p1]) (rest := [.int 0, .ref (ad 170)]) (r := 0) hx hb hml hts hown hE h0 hW hS hM mw_X5_house hr0 rfl k_6 t_633 ⟨Nat.le_refl _, Nat.le_refl _⟩ rfl hl.1 (Nat.le_of_ble_eq_true rfl) dL_house_5 ⟨by show 0 + rm.cells ≤ rm.cells; omega, by show 0 + rm.slots ≤ rm.slots; omega⟩ (fun r1 P1 H locs hp hW hS => ?_)
  obtain ⟨hk1, hk2⟩ := hk r1 P1 hp
  refine lv_i2l (v := r1.toInt64) hx hb dL_house_8 rfl ?_
  refine q_last hx hb hW hS hk1 hk2.symm dL_house_9 (fun H locs hW hS => ?_)
  refine lv_goto (tgt := 17) hx hb dL_house_10 (by decide) ?_
  refine lv_iconst (v := 0) hx hb dL_house_17 (by decide) ?_
  exact q_hret (rm := hRm rm 3) (P := (P1, vp_updL w 0 r1.toInt64)) hx hb hr hlocks hW hS (by show 0 + rm.cells ≤ rm.cells; omega) (by show 0 + rm.slots ≤ rm.slots; omega) dL_house_18 ⟨rfl, r1, hp, rfl⟩

set_option maxHeartbeats 4000000 in
set_option maxRecDepth 100000 in
theorem h_house_xIO (l : Launch) {G : GG} {L : List Nat} {ad : Nat → Nat} {v : Nat → Nat → Int32} {o : Nat → Nat → Option Nat} {w : Nat → Int64} (hr0 : 0 ∈ L) {rm : Room} {p0 p1 : Int32} (hM : CtXi l G L ad v o w yX5_house cX5_house 3 .int rm [.ref (ad 0), .int p0, .int p1] "java/lang/IndexOutOfBoundsException") : CtH l G L ad v o w yL_house cL_house 5 [(0, 10, 13, 21)] (hRm rm 3) [.ref (ad 0), .int p0, .int p1, .ref (ad 170)] (fun k P => k = 1 ∧ P = ((L, ad, v, o), w)) := by
  refine Met.ofWH (cc := cL_house) (maxL := 5) (ret := some .int) (hh := [(0, 10, 13, 21)]) (by decide) rfl ?_
  intro p e s m args below meth c s₁ B hml hv9
  obtain ⟨rfl, ⟨hE, h0, hW⟩, hN⟩ := hv9
  have hx := B.exec; have hb := B.bytes; have hr := B.returns; have hts := hE.hts (args := ([.ref (ad 0), .int p0, .int p1, .ref (ad 170)] : List Value).toArray); have hown : s.vm.findClass RL = some m.cls := findClass_of_methodNamed B.named; have hlocks := B.notSynchronized
  have htb := vx_table (x := yL_law) B (hts _ t_632)
  have hl := lv_entry ([.ref (ad 0), .int p0, .int p1, .ref (ad 170)] : List Value) (n := 5) (Nat.le_of_ble_eq_true rfl)
  rw [lg_entry_eq]
  generalize (lg_sl ([.ref (ad 0), .int p0, .int p1, .ref (ad 170)] : List Value) ++ List.replicate (5 - (lg_sl ([.ref (ad 0), .int p0, .int p1, .ref (ad 170)] : List Value)).length) Slot.unset).toArray = ls at hl ⊢
  generalize hH : s.heap = H at hW ⊢
  have hS : va_S (Ab G.2.2.1) s.heap H [] := hH ▸ va_S.rf
  obtain ⟨locs, hlc⟩ : ∃ z : List Loc, z = [] := ⟨_, rfl⟩
  rw [← hlc] at hS ⊢
  have hl : lv_has ls 5 [(0, .ref (ad 0)), (1, .int p0), (2, .int p1), (3, .ref (ad 170))] := hl
  refine lv_aload_n hx hb dL_house_0 rfl (lv_at hl 3 rfl) ?_
  refine lv_iconst (v := 0) hx hb dL_house_1 (by decide) ?_
  refine lv_aload_n hx hb dL_house_2 rfl (lv_at hl 0 rfl) ?_
  refine lv_iload_n hx hb dL_house_3 rfl (lv_at hl 1 rfl) ?_
  refine lv_iload_n hx hb dL_house_4 rfl (lv_at hl 2 rfl) ?_
  refine q_xVc (As := [.int p0, .int p1]) (rest := [.int 0, .ref (ad 170)]) (r := 0) hx hb hml hts hown hE h0 hW hS hM mw_X5_house hr0 rfl k_6 t_633 ⟨Nat.le_refl _, Nat.le_refl _⟩ rfl hl.1 (Nat.le_of_ble_eq_true rfl) dL_house_5 ⟨by show 0 + rm.cells ≤ rm.cells; omega, by show 0 + rm.slots ≤ rm.slots; omega⟩ [] ⟨0, 10, 13, 21⟩ [] htb (fun z hz => by cases hz) (by decide) (by decide) t_505 t_516 (fun H locs q9 hW hS => ?_)
  refine lv_astore (lv' := [(4, .ref q9), (0, .ref (ad 0)), (1, .int p0), (2, .int p1), (3, .ref (ad 170))]) hx hb dL_house_13 hl (by decide) rfl (fun ls hl => ?_)
  refine lv_iconst (v := 1) hx hb dL_house_15 (by decide) ?_
  exact q_hret (rm := hRm rm 3) (P := ((L, ad, v, o), w)) hx hb hr hlocks hW hS (by show 0 + rm.cells ≤ rm.cells; omega) (by show 0 + rm.slots ≤ rm.slots; omega) dL_house_16 ⟨rfl, rfl⟩

set_option maxHeartbeats 4000000 in
set_option maxRecDepth 100000 in
theorem h_pane (l : Launch) {G : GG} {L : List Nat} {ad : Nat → Nat} {v : Nat → Nat → Int32} {o : Nat → Nat → Option Nat} {w : Nat → Int64} (hr0 : 0 ∈ L) {rm : Room} {p0 p1 : Int32} {post : Int32 → PW → Prop} (hM : CtIw l G L ad v o w yX5_pane cX5_pane 3 .int rm [.ref (ad 0), .int p0, .int p1] post) (hk : ∀ r P, post r P → 170 ∈ P.1 ∧ P.2.1 170 = ad 170) : CtH l G L ad v o w yL_pane cL_pane 5 [(0, 10, 13, 21)] (hRm rm 3) [.ref (ad 0), .int p0, .int p1, .ref (ad 170)] (fun k P => k = 0 ∧ ∃ r1, post r1 P.1 ∧ P.2 = vp_updL w 0 r1.toInt64) := by
  refine Met.ofWH (cc := cL_pane) (maxL := 5) (ret := some .int) (hh := [(0, 10, 13, 21)]) (by decide) rfl ?_
  intro p e s m args below meth c s₁ B hml hv9
  obtain ⟨rfl, ⟨hE, h0, hW⟩, hN⟩ := hv9
  have hx := B.exec; have hb := B.bytes; have hr := B.returns; have hts := hE.hts (args := ([.ref (ad 0), .int p0, .int p1, .ref (ad 170)] : List Value).toArray); have hown : s.vm.findClass RL = some m.cls := findClass_of_methodNamed B.named; have hlocks := B.notSynchronized
  have htb := vx_table (x := yL_law) B (hts _ t_639)
  have hl := lv_entry ([.ref (ad 0), .int p0, .int p1, .ref (ad 170)] : List Value) (n := 5) (Nat.le_of_ble_eq_true rfl)
  rw [lg_entry_eq]
  generalize (lg_sl ([.ref (ad 0), .int p0, .int p1, .ref (ad 170)] : List Value) ++ List.replicate (5 - (lg_sl ([.ref (ad 0), .int p0, .int p1, .ref (ad 170)] : List Value)).length) Slot.unset).toArray = ls at hl ⊢
  generalize hH : s.heap = H at hW ⊢
  have hS : va_S (Ab G.2.2.1) s.heap H [] := hH ▸ va_S.rf
  obtain ⟨locs, hlc⟩ : ∃ z : List Loc, z = [] := ⟨_, rfl⟩
  rw [← hlc] at hS ⊢
  have hl : lv_has ls 5 [(0, .ref (ad 0)), (1, .int p0), (2, .int p1), (3, .ref (ad 170))] := hl
  refine lv_aload_n hx hb dL_pane_0 rfl (lv_at hl 3 rfl) ?_
  refine lv_iconst (v := 0) hx hb dL_pane_1 (by decide) ?_
  refine lv_aload_n hx hb dL_pane_2 rfl (lv_at hl 0 rfl) ?_
  refine lv_iload_n hx hb dL_pane_3 rfl (lv_at hl 1 rfl) ?_
  refine lv_iload_n hx hb dL_pane_4 rfl (lv_at hl 2 rfl) ?_
  refine q_cViw (As := [.int p0, .int p1]) (rest := [.int 0, .ref (ad 170)]) (r := 0) hx hb hml hts hown hE h0 hW hS hM mw_X5_pane hr0 rfl k_6 t_640 ⟨Nat.le_refl _, Nat.le_refl _⟩ rfl hl.1 (Nat.le_of_ble_eq_true rfl) dL_pane_5 ⟨by show 0 + rm.cells ≤ rm.cells; omega, by show 0 + rm.slots ≤ rm.slots; omega⟩ (fun r1 P1 H locs hp hW hS => ?_)
  obtain ⟨hk1, hk2⟩ := hk r1 P1 hp
  refine lv_i2l (v := r1.toInt64) hx hb dL_pane_8 rfl ?_
  refine q_last hx hb hW hS hk1 hk2.symm dL_pane_9 (fun H locs hW hS => ?_)
  refine lv_goto (tgt := 17) hx hb dL_pane_10 (by decide) ?_
  refine lv_iconst (v := 0) hx hb dL_pane_17 (by decide) ?_
  exact q_hret (rm := hRm rm 3) (P := (P1, vp_updL w 0 r1.toInt64)) hx hb hr hlocks hW hS (by show 0 + rm.cells ≤ rm.cells; omega) (by show 0 + rm.slots ≤ rm.slots; omega) dL_pane_18 ⟨rfl, r1, hp, rfl⟩

set_option maxHeartbeats 4000000 in
set_option maxRecDepth 100000 in
theorem h_pane_xIO (l : Launch) {G : GG} {L : List Nat} {ad : Nat → Nat} {v : Nat → Nat → Int32} {o : Nat → Nat → Option Nat} {w : Nat → Int64} (hr0 : 0 ∈ L) {rm : Room} {p0 p1 : Int32} (hM : CtXi l G L ad v o w yX5_pane cX5_pane 3 .int rm [.ref (ad 0), .int p0, .int p1] "java/lang/IndexOutOfBoundsException") : CtH l G L ad v o w yL_pane cL_pane 5 [(0, 10, 13, 21)] (hRm rm 3) [.ref (ad 0), .int p0, .int p1, .ref (ad 170)] (fun k P => k = 1 ∧ P = ((L, ad, v, o), w)) := by
  refine Met.ofWH (cc := cL_pane) (maxL := 5) (ret := some .int) (hh := [(0, 10, 13, 21)]) (by decide) rfl ?_
  intro p e s m args below meth c s₁ B hml hv9
  obtain ⟨rfl, ⟨hE, h0, hW⟩, hN⟩ := hv9
  have hx := B.exec; have hb := B.bytes; have hr := B.returns; have hts := hE.hts (args := ([.ref (ad 0), .int p0, .int p1, .ref (ad 170)] : List Value).toArray); have hown : s.vm.findClass RL = some m.cls := findClass_of_methodNamed B.named; have hlocks := B.notSynchronized
  have htb := vx_table (x := yL_law) B (hts _ t_639)
  have hl := lv_entry ([.ref (ad 0), .int p0, .int p1, .ref (ad 170)] : List Value) (n := 5) (Nat.le_of_ble_eq_true rfl)
  rw [lg_entry_eq]
  generalize (lg_sl ([.ref (ad 0), .int p0, .int p1, .ref (ad 170)] : List Value) ++ List.replicate (5 - (lg_sl ([.ref (ad 0), .int p0, .int p1, .ref (ad 170)] : List Value)).length) Slot.unset).toArray = ls at hl ⊢
  generalize hH : s.heap = H at hW ⊢
  have hS : va_S (Ab G.2.2.1) s.heap H [] := hH ▸ va_S.rf
  obtain ⟨locs, hlc⟩ : ∃ z : List Loc, z = [] := ⟨_, rfl⟩
  rw [← hlc] at hS ⊢
  have hl : lv_has ls 5 [(0, .ref (ad 0)), (1, .int p0), (2, .int p1), (3, .ref (ad 170))] := hl
  refine lv_aload_n hx hb dL_pane_0 rfl (lv_at hl 3 rfl) ?_
  refine lv_iconst (v := 0) hx hb dL_pane_1 (by decide) ?_
  refine lv_aload_n hx hb dL_pane_2 rfl (lv_at hl 0 rfl) ?_
  refine lv_iload_n hx hb dL_pane_3 rfl (lv_at hl 1 rfl) ?_
  refine lv_iload_n hx hb dL_pane_4 rfl (lv_at hl 2 rfl) ?_
  refine q_xVc (As := [.int p0, .int p1]) (rest := [.int 0, .ref (ad 170)]) (r := 0) hx hb hml hts hown hE h0 hW hS hM mw_X5_pane hr0 rfl k_6 t_640 ⟨Nat.le_refl _, Nat.le_refl _⟩ rfl hl.1 (Nat.le_of_ble_eq_true rfl) dL_pane_5 ⟨by show 0 + rm.cells ≤ rm.cells; omega, by show 0 + rm.slots ≤ rm.slots; omega⟩ [] ⟨0, 10, 13, 21⟩ [] htb (fun z hz => by cases hz) (by decide) (by decide) t_505 t_516 (fun H locs q9 hW hS => ?_)
  refine lv_astore (lv' := [(4, .ref q9), (0, .ref (ad 0)), (1, .int p0), (2, .int p1), (3, .ref (ad 170))]) hx hb dL_pane_13 hl (by decide) rfl (fun ls hl => ?_)
  refine lv_iconst (v := 1) hx hb dL_pane_15 (by decide) ?_
  exact q_hret (rm := hRm rm 3) (P := ((L, ad, v, o), w)) hx hb hr hlocks hW hS (by show 0 + rm.cells ≤ rm.cells; omega) (by show 0 + rm.slots ≤ rm.slots; omega) dL_pane_16 ⟨rfl, rfl⟩

set_option maxHeartbeats 4000000 in
set_option maxRecDepth 100000 in
theorem h_fund (l : Launch) {G : GG} {L : List Nat} {ad : Nat → Nat} {v : Nat → Nat → Int32} {o : Nat → Nat → Option Nat} {w : Nat → Int64} (hr0 : 0 ∈ L) {rm : Room} {p0 : Int32} {post : Int32 → PW → Prop} (hM : CtIw l G L ad v o w yX5_fund cX5_fund 2 .int rm [.ref (ad 0), .int p0] post) (hk : ∀ r P, post r P → 170 ∈ P.1 ∧ P.2.1 170 = ad 170) : CtH l G L ad v o w yL_fund cL_fund 4 [(0, 9, 12, 13), (0, 9, 15, 15)] (hRm rm 2) [.ref (ad 0), .int p0, .ref (ad 170)] (fun k P => k = 0 ∧ ∃ r1, post r1 P.1 ∧ P.2 = vp_updL w 0 r1.toInt64) := by
  refine Met.ofWH (cc := cL_fund) (maxL := 4) (ret := some .int) (hh := [(0, 9, 12, 13), (0, 9, 15, 15)]) (by decide) rfl ?_
  intro p e s m args below meth c s₁ B hml hv9
  obtain ⟨rfl, ⟨hE, h0, hW⟩, hN⟩ := hv9
  have hx := B.exec; have hb := B.bytes; have hr := B.returns; have hts := hE.hts (args := ([.ref (ad 0), .int p0, .ref (ad 170)] : List Value).toArray); have hown : s.vm.findClass RL = some m.cls := findClass_of_methodNamed B.named; have hlocks := B.notSynchronized
  have htb := vx_table (x := yL_law) B (hts _ t_647)
  have hl := lv_entry ([.ref (ad 0), .int p0, .ref (ad 170)] : List Value) (n := 4) (Nat.le_of_ble_eq_true rfl)
  rw [lg_entry_eq]
  generalize (lg_sl ([.ref (ad 0), .int p0, .ref (ad 170)] : List Value) ++ List.replicate (4 - (lg_sl ([.ref (ad 0), .int p0, .ref (ad 170)] : List Value)).length) Slot.unset).toArray = ls at hl ⊢
  generalize hH : s.heap = H at hW ⊢
  have hS : va_S (Ab G.2.2.1) s.heap H [] := hH ▸ va_S.rf
  obtain ⟨locs, hlc⟩ : ∃ z : List Loc, z = [] := ⟨_, rfl⟩
  rw [← hlc] at hS ⊢
  have hl : lv_has ls 4 [(0, .ref (ad 0)), (1, .int p0), (2, .ref (ad 170))] := hl
  refine lv_aload_n hx hb dL_fund_0 rfl (lv_at hl 2 rfl) ?_
  refine lv_iconst (v := 0) hx hb dL_fund_1 (by decide) ?_
  refine lv_aload_n hx hb dL_fund_2 rfl (lv_at hl 0 rfl) ?_
  refine lv_iload_n hx hb dL_fund_3 rfl (lv_at hl 1 rfl) ?_
  refine q_cViw (As := [.int p0]) (rest := [.int 0, .ref (ad 170)]) (r := 0) hx hb hml hts hown hE h0 hW hS hM mw_X5_fund hr0 rfl k_6 t_648 ⟨Nat.le_refl _, Nat.le_refl _⟩ rfl hl.1 (Nat.le_of_ble_eq_true rfl) dL_fund_4 ⟨by show 0 + rm.cells ≤ rm.cells; omega, by show 0 + rm.slots ≤ rm.slots; omega⟩ (fun r1 P1 H locs hp hW hS => ?_)
  obtain ⟨hk1, hk2⟩ := hk r1 P1 hp
  refine lv_i2l (v := r1.toInt64) hx hb dL_fund_7 rfl ?_
  refine q_last hx hb hW hS hk1 hk2.symm dL_fund_8 (fun H locs hW hS => ?_)
  refine lv_goto (tgt := 18) hx hb dL_fund_9 (by decide) ?_
  refine lv_iconst (v := 0) hx hb dL_fund_18 (by decide) ?_
  exact q_hret (rm := hRm rm 2) (P := (P1, vp_updL w 0 r1.toInt64)) hx hb hr hlocks hW hS (by show 0 + rm.cells ≤ rm.cells; omega) (by show 0 + rm.slots ≤ rm.slots; omega) dL_fund_19 ⟨rfl, r1, hp, rfl⟩

set_option maxHeartbeats 4000000 in
set_option maxRecDepth 100000 in
theorem h_fund_xIA (l : Launch) {G : GG} {L : List Nat} {ad : Nat → Nat} {v : Nat → Nat → Int32} {o : Nat → Nat → Option Nat} {w : Nat → Int64} (hr0 : 0 ∈ L) {rm : Room} {p0 : Int32} (hM : CtXi l G L ad v o w yX5_fund cX5_fund 2 .int rm [.ref (ad 0), .int p0] "java/lang/IllegalArgumentException") : CtH l G L ad v o w yL_fund cL_fund 4 [(0, 9, 12, 13), (0, 9, 15, 15)] (hRm rm 2) [.ref (ad 0), .int p0, .ref (ad 170)] (fun k P => k = 1 ∧ P = ((L, ad, v, o), w)) := by
  refine Met.ofWH (cc := cL_fund) (maxL := 4) (ret := some .int) (hh := [(0, 9, 12, 13), (0, 9, 15, 15)]) (by decide) rfl ?_
  intro p e s m args below meth c s₁ B hml hv9
  obtain ⟨rfl, ⟨hE, h0, hW⟩, hN⟩ := hv9
  have hx := B.exec; have hb := B.bytes; have hr := B.returns; have hts := hE.hts (args := ([.ref (ad 0), .int p0, .ref (ad 170)] : List Value).toArray); have hown : s.vm.findClass RL = some m.cls := findClass_of_methodNamed B.named; have hlocks := B.notSynchronized
  have htb := vx_table (x := yL_law) B (hts _ t_647)
  have hl := lv_entry ([.ref (ad 0), .int p0, .ref (ad 170)] : List Value) (n := 4) (Nat.le_of_ble_eq_true rfl)
  rw [lg_entry_eq]
  generalize (lg_sl ([.ref (ad 0), .int p0, .ref (ad 170)] : List Value) ++ List.replicate (4 - (lg_sl ([.ref (ad 0), .int p0, .ref (ad 170)] : List Value)).length) Slot.unset).toArray = ls at hl ⊢
  generalize hH : s.heap = H at hW ⊢
  have hS : va_S (Ab G.2.2.1) s.heap H [] := hH ▸ va_S.rf
  obtain ⟨locs, hlc⟩ : ∃ z : List Loc, z = [] := ⟨_, rfl⟩
  rw [← hlc] at hS ⊢
  have hl : lv_has ls 4 [(0, .ref (ad 0)), (1, .int p0), (2, .ref (ad 170))] := hl
  refine lv_aload_n hx hb dL_fund_0 rfl (lv_at hl 2 rfl) ?_
  refine lv_iconst (v := 0) hx hb dL_fund_1 (by decide) ?_
  refine lv_aload_n hx hb dL_fund_2 rfl (lv_at hl 0 rfl) ?_
  refine lv_iload_n hx hb dL_fund_3 rfl (lv_at hl 1 rfl) ?_
  refine q_xVc (As := [.int p0]) (rest := [.int 0, .ref (ad 170)]) (r := 0) hx hb hml hts hown hE h0 hW hS hM mw_X5_fund hr0 rfl k_6 t_648 ⟨Nat.le_refl _, Nat.le_refl _⟩ rfl hl.1 (Nat.le_of_ble_eq_true rfl) dL_fund_4 ⟨by show 0 + rm.cells ≤ rm.cells; omega, by show 0 + rm.slots ≤ rm.slots; omega⟩ [] ⟨0, 9, 12, 13⟩ [⟨0, 9, 15, 15⟩] htb (fun z hz => by cases hz) (by decide) (by decide) t_311 t_323 (fun H locs q9 hW hS => ?_)
  refine lv_astore_n (lv' := [(3, .ref q9), (0, .ref (ad 0)), (1, .int p0), (2, .ref (ad 170))]) hx hb dL_fund_12 rfl hl (by decide) rfl (fun ls hl => ?_)
  refine lv_iconst (v := 1) hx hb dL_fund_13 (by decide) ?_
  exact q_hret (rm := hRm rm 2) (P := ((L, ad, v, o), w)) hx hb hr hlocks hW hS (by show 0 + rm.cells ≤ rm.cells; omega) (by show 0 + rm.slots ≤ rm.slots; omega) dL_fund_14 ⟨rfl, rfl⟩

set_option maxHeartbeats 4000000 in
set_option maxRecDepth 100000 in
theorem h_fund_xIS (l : Launch) {G : GG} {L : List Nat} {ad : Nat → Nat} {v : Nat → Nat → Int32} {o : Nat → Nat → Option Nat} {w : Nat → Int64} (hr0 : 0 ∈ L) {rm : Room} {p0 : Int32} (hM : CtXi l G L ad v o w yX5_fund cX5_fund 2 .int rm [.ref (ad 0), .int p0] "java/lang/IllegalStateException") : CtH l G L ad v o w yL_fund cL_fund 4 [(0, 9, 12, 13), (0, 9, 15, 15)] (hRm rm 2) [.ref (ad 0), .int p0, .ref (ad 170)] (fun k P => k = 2 ∧ P = ((L, ad, v, o), w)) := by
  refine Met.ofWH (cc := cL_fund) (maxL := 4) (ret := some .int) (hh := [(0, 9, 12, 13), (0, 9, 15, 15)]) (by decide) rfl ?_
  intro p e s m args below meth c s₁ B hml hv9
  obtain ⟨rfl, ⟨hE, h0, hW⟩, hN⟩ := hv9
  have hx := B.exec; have hb := B.bytes; have hr := B.returns; have hts := hE.hts (args := ([.ref (ad 0), .int p0, .ref (ad 170)] : List Value).toArray); have hown : s.vm.findClass RL = some m.cls := findClass_of_methodNamed B.named; have hlocks := B.notSynchronized
  have htb := vx_table (x := yL_law) B (hts _ t_647)
  have hl := lv_entry ([.ref (ad 0), .int p0, .ref (ad 170)] : List Value) (n := 4) (Nat.le_of_ble_eq_true rfl)
  rw [lg_entry_eq]
  generalize (lg_sl ([.ref (ad 0), .int p0, .ref (ad 170)] : List Value) ++ List.replicate (4 - (lg_sl ([.ref (ad 0), .int p0, .ref (ad 170)] : List Value)).length) Slot.unset).toArray = ls at hl ⊢
  generalize hH : s.heap = H at hW ⊢
  have hS : va_S (Ab G.2.2.1) s.heap H [] := hH ▸ va_S.rf
  obtain ⟨locs, hlc⟩ : ∃ z : List Loc, z = [] := ⟨_, rfl⟩
  rw [← hlc] at hS ⊢
  have hl : lv_has ls 4 [(0, .ref (ad 0)), (1, .int p0), (2, .ref (ad 170))] := hl
  refine lv_aload_n hx hb dL_fund_0 rfl (lv_at hl 2 rfl) ?_
  refine lv_iconst (v := 0) hx hb dL_fund_1 (by decide) ?_
  refine lv_aload_n hx hb dL_fund_2 rfl (lv_at hl 0 rfl) ?_
  refine lv_iload_n hx hb dL_fund_3 rfl (lv_at hl 1 rfl) ?_
  refine q_xVc (As := [.int p0]) (rest := [.int 0, .ref (ad 170)]) (r := 0) hx hb hml hts hown hE h0 hW hS hM mw_X5_fund hr0 rfl k_6 t_648 ⟨Nat.le_refl _, Nat.le_refl _⟩ rfl hl.1 (Nat.le_of_ble_eq_true rfl) dL_fund_4 ⟨by show 0 + rm.cells ≤ rm.cells; omega, by show 0 + rm.slots ≤ rm.slots; omega⟩ [⟨0, 9, 12, 13⟩] ⟨0, 9, 15, 15⟩ [] htb (fun z hz => by
    rcases List.mem_cons.mp hz with rfl | hz
    · exact Or.inr ⟨by decide, xIA, hts _ t_311, hN.1⟩
    cases hz) (by decide) (by decide) t_312 t_391 (fun H locs q9 hW hS => ?_)
  refine lv_astore_n (lv' := [(3, .ref q9), (0, .ref (ad 0)), (1, .int p0), (2, .ref (ad 170))]) hx hb dL_fund_15 rfl hl (by decide) rfl (fun ls hl => ?_)
  refine lv_iconst (v := 2) hx hb dL_fund_16 (by decide) ?_
  exact q_hret (rm := hRm rm 2) (P := ((L, ad, v, o), w)) hx hb hr hlocks hW hS (by show 0 + rm.cells ≤ rm.cells; omega) (by show 0 + rm.slots ≤ rm.slots; omega) dL_fund_17 ⟨rfl, rfl⟩

set_option maxHeartbeats 4000000 in
set_option maxRecDepth 100000 in
theorem h_addLayer (l : Launch) {G : GG} {L : List Nat} {ad : Nat → Nat} {v : Nat → Nat → Int32} {o : Nat → Nat → Option Nat} {w : Nat → Int64} (hr0 : 0 ∈ L) {rm : Room} {p0 p1 p2 : Int32} {post : Int32 → PW → Prop} (hM : CtIw l G L ad v o w yX5_addLayer cX5_addLayer 4 .int rm [.ref (ad 0), .int p0, .int p1, .int p2] post) (hk : ∀ r P, post r P → 170 ∈ P.1 ∧ P.2.1 170 = ad 170) : CtH l G L ad v o w yL_addLayer cL_addLayer 6 [(0, 12, 15, 13), (0, 12, 19, 15)] (hRm rm 4) [.ref (ad 0), .int p0, .int p1, .int p2, .ref (ad 170)] (fun k P => k = 0 ∧ ∃ r1, post r1 P.1 ∧ P.2 = vp_updL w 0 r1.toInt64) := by
  refine Met.ofWH (cc := cL_addLayer) (maxL := 6) (ret := some .int) (hh := [(0, 12, 15, 13), (0, 12, 19, 15)]) (by decide) rfl ?_
  intro p e s m args below meth c s₁ B hml hv9
  obtain ⟨rfl, ⟨hE, h0, hW⟩, hN⟩ := hv9
  have hx := B.exec; have hb := B.bytes; have hr := B.returns; have hts := hE.hts (args := ([.ref (ad 0), .int p0, .int p1, .int p2, .ref (ad 170)] : List Value).toArray); have hown : s.vm.findClass RL = some m.cls := findClass_of_methodNamed B.named; have hlocks := B.notSynchronized
  have htb := vx_table (x := yL_law) B (hts _ t_657)
  have hl := lv_entry ([.ref (ad 0), .int p0, .int p1, .int p2, .ref (ad 170)] : List Value) (n := 6) (Nat.le_of_ble_eq_true rfl)
  rw [lg_entry_eq]
  generalize (lg_sl ([.ref (ad 0), .int p0, .int p1, .int p2, .ref (ad 170)] : List Value) ++ List.replicate (6 - (lg_sl ([.ref (ad 0), .int p0, .int p1, .int p2, .ref (ad 170)] : List Value)).length) Slot.unset).toArray = ls at hl ⊢
  generalize hH : s.heap = H at hW ⊢
  have hS : va_S (Ab G.2.2.1) s.heap H [] := hH ▸ va_S.rf
  obtain ⟨locs, hlc⟩ : ∃ z : List Loc, z = [] := ⟨_, rfl⟩
  rw [← hlc] at hS ⊢
  have hl : lv_has ls 6 [(0, .ref (ad 0)), (1, .int p0), (2, .int p1), (3, .int p2), (4, .ref (ad 170))] := hl
  refine lv_aload hx hb dL_addLayer_0 (lv_at hl 4 rfl) ?_
  refine lv_iconst (v := 0) hx hb dL_addLayer_2 (by decide) ?_
  refine lv_aload_n hx hb dL_addLayer_3 rfl (lv_at hl 0 rfl) ?_
  refine lv_iload_n hx hb dL_addLayer_4 rfl (lv_at hl 1 rfl) ?_
  refine lv_iload_n hx hb dL_addLayer_5 rfl (lv_at hl 2 rfl) ?_
  refine lv_iload_n hx hb dL_addLayer_6 rfl (lv_at hl 3 rfl) ?_
  refine q_cViw (As := [.int p0, .int p1, .int p2]) (rest := [.int 0, .ref (ad 170)]) (r := 0) hx hb hml hts hown hE h0 hW hS hM mw_X5_addLayer hr0 rfl k_6 t_658 ⟨Nat.le_refl _, Nat.le_refl _⟩ rfl hl.1 (Nat.le_of_ble_eq_true rfl) dL_addLayer_7 ⟨by show 0 + rm.cells ≤ rm.cells; omega, by show 0 + rm.slots ≤ rm.slots; omega⟩ (fun r1 P1 H locs hp hW hS => ?_)
  obtain ⟨hk1, hk2⟩ := hk r1 P1 hp
  refine lv_i2l (v := r1.toInt64) hx hb dL_addLayer_10 rfl ?_
  refine q_last hx hb hW hS hk1 hk2.symm dL_addLayer_11 (fun H locs hW hS => ?_)
  refine lv_goto (tgt := 23) hx hb dL_addLayer_12 (by decide) ?_
  refine lv_iconst (v := 0) hx hb dL_addLayer_23 (by decide) ?_
  exact q_hret (rm := hRm rm 4) (P := (P1, vp_updL w 0 r1.toInt64)) hx hb hr hlocks hW hS (by show 0 + rm.cells ≤ rm.cells; omega) (by show 0 + rm.slots ≤ rm.slots; omega) dL_addLayer_24 ⟨rfl, r1, hp, rfl⟩

set_option maxHeartbeats 4000000 in
set_option maxRecDepth 100000 in
theorem h_addLayer_xIA (l : Launch) {G : GG} {L : List Nat} {ad : Nat → Nat} {v : Nat → Nat → Int32} {o : Nat → Nat → Option Nat} {w : Nat → Int64} (hr0 : 0 ∈ L) {rm : Room} {p0 p1 p2 : Int32} (hM : CtXi l G L ad v o w yX5_addLayer cX5_addLayer 4 .int rm [.ref (ad 0), .int p0, .int p1, .int p2] "java/lang/IllegalArgumentException") : CtH l G L ad v o w yL_addLayer cL_addLayer 6 [(0, 12, 15, 13), (0, 12, 19, 15)] (hRm rm 4) [.ref (ad 0), .int p0, .int p1, .int p2, .ref (ad 170)] (fun k P => k = 1 ∧ P = ((L, ad, v, o), w)) := by
  refine Met.ofWH (cc := cL_addLayer) (maxL := 6) (ret := some .int) (hh := [(0, 12, 15, 13), (0, 12, 19, 15)]) (by decide) rfl ?_
  intro p e s m args below meth c s₁ B hml hv9
  obtain ⟨rfl, ⟨hE, h0, hW⟩, hN⟩ := hv9
  have hx := B.exec; have hb := B.bytes; have hr := B.returns; have hts := hE.hts (args := ([.ref (ad 0), .int p0, .int p1, .int p2, .ref (ad 170)] : List Value).toArray); have hown : s.vm.findClass RL = some m.cls := findClass_of_methodNamed B.named; have hlocks := B.notSynchronized
  have htb := vx_table (x := yL_law) B (hts _ t_657)
  have hl := lv_entry ([.ref (ad 0), .int p0, .int p1, .int p2, .ref (ad 170)] : List Value) (n := 6) (Nat.le_of_ble_eq_true rfl)
  rw [lg_entry_eq]
  generalize (lg_sl ([.ref (ad 0), .int p0, .int p1, .int p2, .ref (ad 170)] : List Value) ++ List.replicate (6 - (lg_sl ([.ref (ad 0), .int p0, .int p1, .int p2, .ref (ad 170)] : List Value)).length) Slot.unset).toArray = ls at hl ⊢
  generalize hH : s.heap = H at hW ⊢
  have hS : va_S (Ab G.2.2.1) s.heap H [] := hH ▸ va_S.rf
  obtain ⟨locs, hlc⟩ : ∃ z : List Loc, z = [] := ⟨_, rfl⟩
  rw [← hlc] at hS ⊢
  have hl : lv_has ls 6 [(0, .ref (ad 0)), (1, .int p0), (2, .int p1), (3, .int p2), (4, .ref (ad 170))] := hl
  refine lv_aload hx hb dL_addLayer_0 (lv_at hl 4 rfl) ?_
  refine lv_iconst (v := 0) hx hb dL_addLayer_2 (by decide) ?_
  refine lv_aload_n hx hb dL_addLayer_3 rfl (lv_at hl 0 rfl) ?_
  refine lv_iload_n hx hb dL_addLayer_4 rfl (lv_at hl 1 rfl) ?_
  refine lv_iload_n hx hb dL_addLayer_5 rfl (lv_at hl 2 rfl) ?_
  refine lv_iload_n hx hb dL_addLayer_6 rfl (lv_at hl 3 rfl) ?_
  refine q_xVc (As := [.int p0, .int p1, .int p2]) (rest := [.int 0, .ref (ad 170)]) (r := 0) hx hb hml hts hown hE h0 hW hS hM mw_X5_addLayer hr0 rfl k_6 t_658 ⟨Nat.le_refl _, Nat.le_refl _⟩ rfl hl.1 (Nat.le_of_ble_eq_true rfl) dL_addLayer_7 ⟨by show 0 + rm.cells ≤ rm.cells; omega, by show 0 + rm.slots ≤ rm.slots; omega⟩ [] ⟨0, 12, 15, 13⟩ [⟨0, 12, 19, 15⟩] htb (fun z hz => by cases hz) (by decide) (by decide) t_311 t_323 (fun H locs q9 hW hS => ?_)
  refine lv_astore (lv' := [(5, .ref q9), (0, .ref (ad 0)), (1, .int p0), (2, .int p1), (3, .int p2), (4, .ref (ad 170))]) hx hb dL_addLayer_15 hl (by decide) rfl (fun ls hl => ?_)
  refine lv_iconst (v := 1) hx hb dL_addLayer_17 (by decide) ?_
  exact q_hret (rm := hRm rm 4) (P := ((L, ad, v, o), w)) hx hb hr hlocks hW hS (by show 0 + rm.cells ≤ rm.cells; omega) (by show 0 + rm.slots ≤ rm.slots; omega) dL_addLayer_18 ⟨rfl, rfl⟩

set_option maxHeartbeats 4000000 in
set_option maxRecDepth 100000 in
theorem h_addLayer_xIS (l : Launch) {G : GG} {L : List Nat} {ad : Nat → Nat} {v : Nat → Nat → Int32} {o : Nat → Nat → Option Nat} {w : Nat → Int64} (hr0 : 0 ∈ L) {rm : Room} {p0 p1 p2 : Int32} (hM : CtXi l G L ad v o w yX5_addLayer cX5_addLayer 4 .int rm [.ref (ad 0), .int p0, .int p1, .int p2] "java/lang/IllegalStateException") : CtH l G L ad v o w yL_addLayer cL_addLayer 6 [(0, 12, 15, 13), (0, 12, 19, 15)] (hRm rm 4) [.ref (ad 0), .int p0, .int p1, .int p2, .ref (ad 170)] (fun k P => k = 2 ∧ P = ((L, ad, v, o), w)) := by
  refine Met.ofWH (cc := cL_addLayer) (maxL := 6) (ret := some .int) (hh := [(0, 12, 15, 13), (0, 12, 19, 15)]) (by decide) rfl ?_
  intro p e s m args below meth c s₁ B hml hv9
  obtain ⟨rfl, ⟨hE, h0, hW⟩, hN⟩ := hv9
  have hx := B.exec; have hb := B.bytes; have hr := B.returns; have hts := hE.hts (args := ([.ref (ad 0), .int p0, .int p1, .int p2, .ref (ad 170)] : List Value).toArray); have hown : s.vm.findClass RL = some m.cls := findClass_of_methodNamed B.named; have hlocks := B.notSynchronized
  have htb := vx_table (x := yL_law) B (hts _ t_657)
  have hl := lv_entry ([.ref (ad 0), .int p0, .int p1, .int p2, .ref (ad 170)] : List Value) (n := 6) (Nat.le_of_ble_eq_true rfl)
  rw [lg_entry_eq]
  generalize (lg_sl ([.ref (ad 0), .int p0, .int p1, .int p2, .ref (ad 170)] : List Value) ++ List.replicate (6 - (lg_sl ([.ref (ad 0), .int p0, .int p1, .int p2, .ref (ad 170)] : List Value)).length) Slot.unset).toArray = ls at hl ⊢
  generalize hH : s.heap = H at hW ⊢
  have hS : va_S (Ab G.2.2.1) s.heap H [] := hH ▸ va_S.rf
  obtain ⟨locs, hlc⟩ : ∃ z : List Loc, z = [] := ⟨_, rfl⟩
  rw [← hlc] at hS ⊢
  have hl : lv_has ls 6 [(0, .ref (ad 0)), (1, .int p0), (2, .int p1), (3, .int p2), (4, .ref (ad 170))] := hl
  refine lv_aload hx hb dL_addLayer_0 (lv_at hl 4 rfl) ?_
  refine lv_iconst (v := 0) hx hb dL_addLayer_2 (by decide) ?_
  refine lv_aload_n hx hb dL_addLayer_3 rfl (lv_at hl 0 rfl) ?_
  refine lv_iload_n hx hb dL_addLayer_4 rfl (lv_at hl 1 rfl) ?_
  refine lv_iload_n hx hb dL_addLayer_5 rfl (lv_at hl 2 rfl) ?_
  refine lv_iload_n hx hb dL_addLayer_6 rfl (lv_at hl 3 rfl) ?_
  refine q_xVc (As := [.int p0, .int p1, .int p2]) (rest := [.int 0, .ref (ad 170)]) (r := 0) hx hb hml hts hown hE h0 hW hS hM mw_X5_addLayer hr0 rfl k_6 t_658 ⟨Nat.le_refl _, Nat.le_refl _⟩ rfl hl.1 (Nat.le_of_ble_eq_true rfl) dL_addLayer_7 ⟨by show 0 + rm.cells ≤ rm.cells; omega, by show 0 + rm.slots ≤ rm.slots; omega⟩ [⟨0, 12, 15, 13⟩] ⟨0, 12, 19, 15⟩ [] htb (fun z hz => by
    rcases List.mem_cons.mp hz with rfl | hz
    · exact Or.inr ⟨by decide, xIA, hts _ t_311, hN.1⟩
    cases hz) (by decide) (by decide) t_312 t_391 (fun H locs q9 hW hS => ?_)
  refine lv_astore (lv' := [(5, .ref q9), (0, .ref (ad 0)), (1, .int p0), (2, .int p1), (3, .int p2), (4, .ref (ad 170))]) hx hb dL_addLayer_19 hl (by decide) rfl (fun ls hl => ?_)
  refine lv_iconst (v := 2) hx hb dL_addLayer_21 (by decide) ?_
  exact q_hret (rm := hRm rm 4) (P := ((L, ad, v, o), w)) hx hb hr hlocks hW hS (by show 0 + rm.cells ≤ rm.cells; omega) (by show 0 + rm.slots ≤ rm.slots; omega) dL_addLayer_22 ⟨rfl, rfl⟩

set_option maxHeartbeats 4000000 in
set_option maxRecDepth 100000 in
theorem h_layer (l : Launch) {G : GG} {L : List Nat} {ad : Nat → Nat} {v : Nat → Nat → Int32} {o : Nat → Nat → Option Nat} {w : Nat → Int64} (hr0 : 0 ∈ L) {rm : Room} {p0 p1 : Int32} {post : Int32 → PW → Prop} (hM : CtIw l G L ad v o w yX5_layer cX5_layer 3 .int rm [.ref (ad 0), .int p0, .int p1] post) (hk : ∀ r P, post r P → 170 ∈ P.1 ∧ P.2.1 170 = ad 170) : CtH l G L ad v o w yL_layer cL_layer 5 [(0, 10, 13, 21)] (hRm rm 3) [.ref (ad 0), .int p0, .int p1, .ref (ad 170)] (fun k P => k = 0 ∧ ∃ r1, post r1 P.1 ∧ P.2 = vp_updL w 0 r1.toInt64) := by
  refine Met.ofWH (cc := cL_layer) (maxL := 5) (ret := some .int) (hh := [(0, 10, 13, 21)]) (by decide) rfl ?_
  intro p e s m args below meth c s₁ B hml hv9
  obtain ⟨rfl, ⟨hE, h0, hW⟩, hN⟩ := hv9
  have hx := B.exec; have hb := B.bytes; have hr := B.returns; have hts := hE.hts (args := ([.ref (ad 0), .int p0, .int p1, .ref (ad 170)] : List Value).toArray); have hown : s.vm.findClass RL = some m.cls := findClass_of_methodNamed B.named; have hlocks := B.notSynchronized
  have htb := vx_table (x := yL_law) B (hts _ t_692)
  have hl := lv_entry ([.ref (ad 0), .int p0, .int p1, .ref (ad 170)] : List Value) (n := 5) (Nat.le_of_ble_eq_true rfl)
  rw [lg_entry_eq]
  generalize (lg_sl ([.ref (ad 0), .int p0, .int p1, .ref (ad 170)] : List Value) ++ List.replicate (5 - (lg_sl ([.ref (ad 0), .int p0, .int p1, .ref (ad 170)] : List Value)).length) Slot.unset).toArray = ls at hl ⊢
  generalize hH : s.heap = H at hW ⊢
  have hS : va_S (Ab G.2.2.1) s.heap H [] := hH ▸ va_S.rf
  obtain ⟨locs, hlc⟩ : ∃ z : List Loc, z = [] := ⟨_, rfl⟩
  rw [← hlc] at hS ⊢
  have hl : lv_has ls 5 [(0, .ref (ad 0)), (1, .int p0), (2, .int p1), (3, .ref (ad 170))] := hl
  refine lv_aload_n hx hb dL_layer_0 rfl (lv_at hl 3 rfl) ?_
  refine lv_iconst (v := 0) hx hb dL_layer_1 (by decide) ?_
  refine lv_aload_n hx hb dL_layer_2 rfl (lv_at hl 0 rfl) ?_
  refine lv_iload_n hx hb dL_layer_3 rfl (lv_at hl 1 rfl) ?_
  refine lv_iload_n hx hb dL_layer_4 rfl (lv_at hl 2 rfl) ?_
  refine q_cViw (As := [.int p0, .int p1]) (rest := [.int 0, .ref (ad 170)]) (r := 0) hx hb hml hts hown hE h0 hW hS hM mw_X5_layer hr0 rfl k_6 t_693 ⟨Nat.le_refl _, Nat.le_refl _⟩ rfl hl.1 (Nat.le_of_ble_eq_true rfl) dL_layer_5 ⟨by show 0 + rm.cells ≤ rm.cells; omega, by show 0 + rm.slots ≤ rm.slots; omega⟩ (fun r1 P1 H locs hp hW hS => ?_)
  obtain ⟨hk1, hk2⟩ := hk r1 P1 hp
  refine lv_i2l (v := r1.toInt64) hx hb dL_layer_8 rfl ?_
  refine q_last hx hb hW hS hk1 hk2.symm dL_layer_9 (fun H locs hW hS => ?_)
  refine lv_goto (tgt := 17) hx hb dL_layer_10 (by decide) ?_
  refine lv_iconst (v := 0) hx hb dL_layer_17 (by decide) ?_
  exact q_hret (rm := hRm rm 3) (P := (P1, vp_updL w 0 r1.toInt64)) hx hb hr hlocks hW hS (by show 0 + rm.cells ≤ rm.cells; omega) (by show 0 + rm.slots ≤ rm.slots; omega) dL_layer_18 ⟨rfl, r1, hp, rfl⟩

set_option maxHeartbeats 4000000 in
set_option maxRecDepth 100000 in
theorem h_layer_xIO (l : Launch) {G : GG} {L : List Nat} {ad : Nat → Nat} {v : Nat → Nat → Int32} {o : Nat → Nat → Option Nat} {w : Nat → Int64} (hr0 : 0 ∈ L) {rm : Room} {p0 p1 : Int32} (hM : CtXi l G L ad v o w yX5_layer cX5_layer 3 .int rm [.ref (ad 0), .int p0, .int p1] "java/lang/IndexOutOfBoundsException") : CtH l G L ad v o w yL_layer cL_layer 5 [(0, 10, 13, 21)] (hRm rm 3) [.ref (ad 0), .int p0, .int p1, .ref (ad 170)] (fun k P => k = 1 ∧ P = ((L, ad, v, o), w)) := by
  refine Met.ofWH (cc := cL_layer) (maxL := 5) (ret := some .int) (hh := [(0, 10, 13, 21)]) (by decide) rfl ?_
  intro p e s m args below meth c s₁ B hml hv9
  obtain ⟨rfl, ⟨hE, h0, hW⟩, hN⟩ := hv9
  have hx := B.exec; have hb := B.bytes; have hr := B.returns; have hts := hE.hts (args := ([.ref (ad 0), .int p0, .int p1, .ref (ad 170)] : List Value).toArray); have hown : s.vm.findClass RL = some m.cls := findClass_of_methodNamed B.named; have hlocks := B.notSynchronized
  have htb := vx_table (x := yL_law) B (hts _ t_692)
  have hl := lv_entry ([.ref (ad 0), .int p0, .int p1, .ref (ad 170)] : List Value) (n := 5) (Nat.le_of_ble_eq_true rfl)
  rw [lg_entry_eq]
  generalize (lg_sl ([.ref (ad 0), .int p0, .int p1, .ref (ad 170)] : List Value) ++ List.replicate (5 - (lg_sl ([.ref (ad 0), .int p0, .int p1, .ref (ad 170)] : List Value)).length) Slot.unset).toArray = ls at hl ⊢
  generalize hH : s.heap = H at hW ⊢
  have hS : va_S (Ab G.2.2.1) s.heap H [] := hH ▸ va_S.rf
  obtain ⟨locs, hlc⟩ : ∃ z : List Loc, z = [] := ⟨_, rfl⟩
  rw [← hlc] at hS ⊢
  have hl : lv_has ls 5 [(0, .ref (ad 0)), (1, .int p0), (2, .int p1), (3, .ref (ad 170))] := hl
  refine lv_aload_n hx hb dL_layer_0 rfl (lv_at hl 3 rfl) ?_
  refine lv_iconst (v := 0) hx hb dL_layer_1 (by decide) ?_
  refine lv_aload_n hx hb dL_layer_2 rfl (lv_at hl 0 rfl) ?_
  refine lv_iload_n hx hb dL_layer_3 rfl (lv_at hl 1 rfl) ?_
  refine lv_iload_n hx hb dL_layer_4 rfl (lv_at hl 2 rfl) ?_
  refine q_xVc (As := [.int p0, .int p1]) (rest := [.int 0, .ref (ad 170)]) (r := 0) hx hb hml hts hown hE h0 hW hS hM mw_X5_layer hr0 rfl k_6 t_693 ⟨Nat.le_refl _, Nat.le_refl _⟩ rfl hl.1 (Nat.le_of_ble_eq_true rfl) dL_layer_5 ⟨by show 0 + rm.cells ≤ rm.cells; omega, by show 0 + rm.slots ≤ rm.slots; omega⟩ [] ⟨0, 10, 13, 21⟩ [] htb (fun z hz => by cases hz) (by decide) (by decide) t_505 t_516 (fun H locs q9 hW hS => ?_)
  refine lv_astore (lv' := [(4, .ref q9), (0, .ref (ad 0)), (1, .int p0), (2, .int p1), (3, .ref (ad 170))]) hx hb dL_layer_13 hl (by decide) rfl (fun ls hl => ?_)
  refine lv_iconst (v := 1) hx hb dL_layer_15 (by decide) ?_
  exact q_hret (rm := hRm rm 3) (P := ((L, ad, v, o), w)) hx hb hr hlocks hW hS (by show 0 + rm.cells ≤ rm.cells; omega) (by show 0 + rm.slots ≤ rm.slots; omega) dL_layer_16 ⟨rfl, rfl⟩

set_option maxHeartbeats 4000000 in
set_option maxRecDepth 100000 in
theorem h_count (l : Launch) {G : GG} {L : List Nat} {ad : Nat → Nat} {v : Nat → Nat → Int32} {o : Nat → Nat → Option Nat} {w : Nat → Int64} (hr0 : 0 ∈ L) {rm : Room} {p0 : Int32} {post : Int32 → PW → Prop} (hM : CtIw l G L ad v o w yX5_count cX5_count 2 .int rm [.ref (ad 0), .int p0] post) (hk : ∀ r P, post r P → 170 ∈ P.1 ∧ P.2.1 170 = ad 170) : CtH l G L ad v o w yL_count cL_count 4 [(0, 9, 12, 21)] (hRm rm 2) [.ref (ad 0), .int p0, .ref (ad 170)] (fun k P => k = 0 ∧ ∃ r1, post r1 P.1 ∧ P.2 = vp_updL w 0 r1.toInt64) := by
  refine Met.ofWH (cc := cL_count) (maxL := 4) (ret := some .int) (hh := [(0, 9, 12, 21)]) (by decide) rfl ?_
  intro p e s m args below meth c s₁ B hml hv9
  obtain ⟨rfl, ⟨hE, h0, hW⟩, hN⟩ := hv9
  have hx := B.exec; have hb := B.bytes; have hr := B.returns; have hts := hE.hts (args := ([.ref (ad 0), .int p0, .ref (ad 170)] : List Value).toArray); have hown : s.vm.findClass RL = some m.cls := findClass_of_methodNamed B.named; have hlocks := B.notSynchronized
  have htb := vx_table (x := yL_law) B (hts _ t_700)
  have hl := lv_entry ([.ref (ad 0), .int p0, .ref (ad 170)] : List Value) (n := 4) (Nat.le_of_ble_eq_true rfl)
  rw [lg_entry_eq]
  generalize (lg_sl ([.ref (ad 0), .int p0, .ref (ad 170)] : List Value) ++ List.replicate (4 - (lg_sl ([.ref (ad 0), .int p0, .ref (ad 170)] : List Value)).length) Slot.unset).toArray = ls at hl ⊢
  generalize hH : s.heap = H at hW ⊢
  have hS : va_S (Ab G.2.2.1) s.heap H [] := hH ▸ va_S.rf
  obtain ⟨locs, hlc⟩ : ∃ z : List Loc, z = [] := ⟨_, rfl⟩
  rw [← hlc] at hS ⊢
  have hl : lv_has ls 4 [(0, .ref (ad 0)), (1, .int p0), (2, .ref (ad 170))] := hl
  refine lv_aload_n hx hb dL_count_0 rfl (lv_at hl 2 rfl) ?_
  refine lv_iconst (v := 0) hx hb dL_count_1 (by decide) ?_
  refine lv_aload_n hx hb dL_count_2 rfl (lv_at hl 0 rfl) ?_
  refine lv_iload_n hx hb dL_count_3 rfl (lv_at hl 1 rfl) ?_
  refine q_cViw (As := [.int p0]) (rest := [.int 0, .ref (ad 170)]) (r := 0) hx hb hml hts hown hE h0 hW hS hM mw_X5_count hr0 rfl k_6 t_701 ⟨Nat.le_refl _, Nat.le_refl _⟩ rfl hl.1 (Nat.le_of_ble_eq_true rfl) dL_count_4 ⟨by show 0 + rm.cells ≤ rm.cells; omega, by show 0 + rm.slots ≤ rm.slots; omega⟩ (fun r1 P1 H locs hp hW hS => ?_)
  obtain ⟨hk1, hk2⟩ := hk r1 P1 hp
  refine lv_i2l (v := r1.toInt64) hx hb dL_count_7 rfl ?_
  refine q_last hx hb hW hS hk1 hk2.symm dL_count_8 (fun H locs hW hS => ?_)
  refine lv_goto (tgt := 15) hx hb dL_count_9 (by decide) ?_
  refine lv_iconst (v := 0) hx hb dL_count_15 (by decide) ?_
  exact q_hret (rm := hRm rm 2) (P := (P1, vp_updL w 0 r1.toInt64)) hx hb hr hlocks hW hS (by show 0 + rm.cells ≤ rm.cells; omega) (by show 0 + rm.slots ≤ rm.slots; omega) dL_count_16 ⟨rfl, r1, hp, rfl⟩

set_option maxHeartbeats 4000000 in
set_option maxRecDepth 100000 in
theorem h_count_xIO (l : Launch) {G : GG} {L : List Nat} {ad : Nat → Nat} {v : Nat → Nat → Int32} {o : Nat → Nat → Option Nat} {w : Nat → Int64} (hr0 : 0 ∈ L) {rm : Room} {p0 : Int32} (hM : CtXi l G L ad v o w yX5_count cX5_count 2 .int rm [.ref (ad 0), .int p0] "java/lang/IndexOutOfBoundsException") : CtH l G L ad v o w yL_count cL_count 4 [(0, 9, 12, 21)] (hRm rm 2) [.ref (ad 0), .int p0, .ref (ad 170)] (fun k P => k = 1 ∧ P = ((L, ad, v, o), w)) := by
  refine Met.ofWH (cc := cL_count) (maxL := 4) (ret := some .int) (hh := [(0, 9, 12, 21)]) (by decide) rfl ?_
  intro p e s m args below meth c s₁ B hml hv9
  obtain ⟨rfl, ⟨hE, h0, hW⟩, hN⟩ := hv9
  have hx := B.exec; have hb := B.bytes; have hr := B.returns; have hts := hE.hts (args := ([.ref (ad 0), .int p0, .ref (ad 170)] : List Value).toArray); have hown : s.vm.findClass RL = some m.cls := findClass_of_methodNamed B.named; have hlocks := B.notSynchronized
  have htb := vx_table (x := yL_law) B (hts _ t_700)
  have hl := lv_entry ([.ref (ad 0), .int p0, .ref (ad 170)] : List Value) (n := 4) (Nat.le_of_ble_eq_true rfl)
  rw [lg_entry_eq]
  generalize (lg_sl ([.ref (ad 0), .int p0, .ref (ad 170)] : List Value) ++ List.replicate (4 - (lg_sl ([.ref (ad 0), .int p0, .ref (ad 170)] : List Value)).length) Slot.unset).toArray = ls at hl ⊢
  generalize hH : s.heap = H at hW ⊢
  have hS : va_S (Ab G.2.2.1) s.heap H [] := hH ▸ va_S.rf
  obtain ⟨locs, hlc⟩ : ∃ z : List Loc, z = [] := ⟨_, rfl⟩
  rw [← hlc] at hS ⊢
  have hl : lv_has ls 4 [(0, .ref (ad 0)), (1, .int p0), (2, .ref (ad 170))] := hl
  refine lv_aload_n hx hb dL_count_0 rfl (lv_at hl 2 rfl) ?_
  refine lv_iconst (v := 0) hx hb dL_count_1 (by decide) ?_
  refine lv_aload_n hx hb dL_count_2 rfl (lv_at hl 0 rfl) ?_
  refine lv_iload_n hx hb dL_count_3 rfl (lv_at hl 1 rfl) ?_
  refine q_xVc (As := [.int p0]) (rest := [.int 0, .ref (ad 170)]) (r := 0) hx hb hml hts hown hE h0 hW hS hM mw_X5_count hr0 rfl k_6 t_701 ⟨Nat.le_refl _, Nat.le_refl _⟩ rfl hl.1 (Nat.le_of_ble_eq_true rfl) dL_count_4 ⟨by show 0 + rm.cells ≤ rm.cells; omega, by show 0 + rm.slots ≤ rm.slots; omega⟩ [] ⟨0, 9, 12, 21⟩ [] htb (fun z hz => by cases hz) (by decide) (by decide) t_505 t_516 (fun H locs q9 hW hS => ?_)
  refine lv_astore_n (lv' := [(3, .ref q9), (0, .ref (ad 0)), (1, .int p0), (2, .ref (ad 170))]) hx hb dL_count_12 rfl hl (by decide) rfl (fun ls hl => ?_)
  refine lv_iconst (v := 1) hx hb dL_count_13 (by decide) ?_
  exact q_hret (rm := hRm rm 2) (P := ((L, ad, v, o), w)) hx hb hr hlocks hW hS (by show 0 + rm.cells ≤ rm.cells; omega) (by show 0 + rm.slots ≤ rm.slots; omega) dL_count_14 ⟨rfl, rfl⟩

set_option maxHeartbeats 4000000 in
set_option maxRecDepth 100000 in
theorem h_storm (l : Launch) {G : GG} {L : List Nat} {ad : Nat → Nat} {v : Nat → Nat → Int32} {o : Nat → Nat → Option Nat} {w : Nat → Int64} (hr0 : 0 ∈ L) {rm : Room} {p0 p1 p2 p3 p4 p5 p6 : Int32} {post : Int32 → PW → Prop} (hM : CtIw l G L ad v o w yX5_storm cX5_storm 9 .int rm [.ref (ad 0), .int p0, .int p1, .int p2, .int p3, .int p4, .int p5, .int p6] post) (hk : ∀ r P, post r P → 170 ∈ P.1 ∧ P.2.1 170 = ad 170) : CtH l G L ad v o w yL_storm cL_storm 10 [(0, 20, 23, 13), (0, 20, 27, 15)] (hRm rm 9) [.ref (ad 0), .int p0, .int p1, .int p2, .int p3, .int p4, .int p5, .int p6, .ref (ad 170)] (fun k P => k = 0 ∧ ∃ r1, post r1 P.1 ∧ P.2 = vp_updL w 0 r1.toInt64) := by
  refine Met.ofWH (cc := cL_storm) (maxL := 10) (ret := some .int) (hh := [(0, 20, 23, 13), (0, 20, 27, 15)]) (by decide) rfl ?_
  intro p e s m args below meth c s₁ B hml hv9
  obtain ⟨rfl, ⟨hE, h0, hW⟩, hN⟩ := hv9
  have hx := B.exec; have hb := B.bytes; have hr := B.returns; have hts := hE.hts (args := ([.ref (ad 0), .int p0, .int p1, .int p2, .int p3, .int p4, .int p5, .int p6, .ref (ad 170)] : List Value).toArray); have hown : s.vm.findClass RL = some m.cls := findClass_of_methodNamed B.named; have hlocks := B.notSynchronized
  have htb := vx_table (x := yL_law) B (hts _ t_707)
  have hl := lv_entry ([.ref (ad 0), .int p0, .int p1, .int p2, .int p3, .int p4, .int p5, .int p6, .ref (ad 170)] : List Value) (n := 10) (Nat.le_of_ble_eq_true rfl)
  rw [lg_entry_eq]
  generalize (lg_sl ([.ref (ad 0), .int p0, .int p1, .int p2, .int p3, .int p4, .int p5, .int p6, .ref (ad 170)] : List Value) ++ List.replicate (10 - (lg_sl ([.ref (ad 0), .int p0, .int p1, .int p2, .int p3, .int p4, .int p5, .int p6, .ref (ad 170)] : List Value)).length) Slot.unset).toArray = ls at hl ⊢
  generalize hH : s.heap = H at hW ⊢
  have hS : va_S (Ab G.2.2.1) s.heap H [] := hH ▸ va_S.rf
  obtain ⟨locs, hlc⟩ : ∃ z : List Loc, z = [] := ⟨_, rfl⟩
  rw [← hlc] at hS ⊢
  have hl : lv_has ls 10 [(0, .ref (ad 0)), (1, .int p0), (2, .int p1), (3, .int p2), (4, .int p3), (5, .int p4), (6, .int p5), (7, .int p6), (8, .ref (ad 170))] := hl
  refine lv_aload hx hb dL_storm_0 (lv_at hl 8 rfl) ?_
  refine lv_iconst (v := 0) hx hb dL_storm_2 (by decide) ?_
  refine lv_aload_n hx hb dL_storm_3 rfl (lv_at hl 0 rfl) ?_
  refine lv_iload_n hx hb dL_storm_4 rfl (lv_at hl 1 rfl) ?_
  refine lv_iload_n hx hb dL_storm_5 rfl (lv_at hl 2 rfl) ?_
  refine lv_iload_n hx hb dL_storm_6 rfl (lv_at hl 3 rfl) ?_
  refine lv_iload hx hb dL_storm_7 (lv_at hl 4 rfl) ?_
  refine lv_iload hx hb dL_storm_9 (lv_at hl 5 rfl) ?_
  refine lv_iload hx hb dL_storm_11 (lv_at hl 6 rfl) ?_
  refine lv_iload hx hb dL_storm_13 (lv_at hl 7 rfl) ?_
  refine q_cViw (As := [.int p0, .int p1, .int p2, .int p3, .int p4, .int p5, .int p6]) (rest := [.int 0, .ref (ad 170)]) (r := 0) hx hb hml hts hown hE h0 hW hS hM mw_X5_storm hr0 rfl k_6 t_708 ⟨Nat.le_refl _, Nat.le_refl _⟩ rfl hl.1 (Nat.le_of_ble_eq_true rfl) dL_storm_15 ⟨by show 0 + rm.cells ≤ rm.cells; omega, by show 0 + rm.slots ≤ rm.slots; omega⟩ (fun r1 P1 H locs hp hW hS => ?_)
  obtain ⟨hk1, hk2⟩ := hk r1 P1 hp
  refine lv_i2l (v := r1.toInt64) hx hb dL_storm_18 rfl ?_
  refine q_last hx hb hW hS hk1 hk2.symm dL_storm_19 (fun H locs hW hS => ?_)
  refine lv_goto (tgt := 31) hx hb dL_storm_20 (by decide) ?_
  refine lv_iconst (v := 0) hx hb dL_storm_31 (by decide) ?_
  exact q_hret (rm := hRm rm 9) (P := (P1, vp_updL w 0 r1.toInt64)) hx hb hr hlocks hW hS (by show 0 + rm.cells ≤ rm.cells; omega) (by show 0 + rm.slots ≤ rm.slots; omega) dL_storm_32 ⟨rfl, r1, hp, rfl⟩

set_option maxHeartbeats 4000000 in
set_option maxRecDepth 100000 in
theorem h_storm_xIA (l : Launch) {G : GG} {L : List Nat} {ad : Nat → Nat} {v : Nat → Nat → Int32} {o : Nat → Nat → Option Nat} {w : Nat → Int64} (hr0 : 0 ∈ L) {rm : Room} {p0 p1 p2 p3 p4 p5 p6 : Int32} (hM : CtXi l G L ad v o w yX5_storm cX5_storm 9 .int rm [.ref (ad 0), .int p0, .int p1, .int p2, .int p3, .int p4, .int p5, .int p6] "java/lang/IllegalArgumentException") : CtH l G L ad v o w yL_storm cL_storm 10 [(0, 20, 23, 13), (0, 20, 27, 15)] (hRm rm 9) [.ref (ad 0), .int p0, .int p1, .int p2, .int p3, .int p4, .int p5, .int p6, .ref (ad 170)] (fun k P => k = 1 ∧ P = ((L, ad, v, o), w)) := by
  refine Met.ofWH (cc := cL_storm) (maxL := 10) (ret := some .int) (hh := [(0, 20, 23, 13), (0, 20, 27, 15)]) (by decide) rfl ?_
  intro p e s m args below meth c s₁ B hml hv9
  obtain ⟨rfl, ⟨hE, h0, hW⟩, hN⟩ := hv9
  have hx := B.exec; have hb := B.bytes; have hr := B.returns; have hts := hE.hts (args := ([.ref (ad 0), .int p0, .int p1, .int p2, .int p3, .int p4, .int p5, .int p6, .ref (ad 170)] : List Value).toArray); have hown : s.vm.findClass RL = some m.cls := findClass_of_methodNamed B.named; have hlocks := B.notSynchronized
  have htb := vx_table (x := yL_law) B (hts _ t_707)
  have hl := lv_entry ([.ref (ad 0), .int p0, .int p1, .int p2, .int p3, .int p4, .int p5, .int p6, .ref (ad 170)] : List Value) (n := 10) (Nat.le_of_ble_eq_true rfl)
  rw [lg_entry_eq]
  generalize (lg_sl ([.ref (ad 0), .int p0, .int p1, .int p2, .int p3, .int p4, .int p5, .int p6, .ref (ad 170)] : List Value) ++ List.replicate (10 - (lg_sl ([.ref (ad 0), .int p0, .int p1, .int p2, .int p3, .int p4, .int p5, .int p6, .ref (ad 170)] : List Value)).length) Slot.unset).toArray = ls at hl ⊢
  generalize hH : s.heap = H at hW ⊢
  have hS : va_S (Ab G.2.2.1) s.heap H [] := hH ▸ va_S.rf
  obtain ⟨locs, hlc⟩ : ∃ z : List Loc, z = [] := ⟨_, rfl⟩
  rw [← hlc] at hS ⊢
  have hl : lv_has ls 10 [(0, .ref (ad 0)), (1, .int p0), (2, .int p1), (3, .int p2), (4, .int p3), (5, .int p4), (6, .int p5), (7, .int p6), (8, .ref (ad 170))] := hl
  refine lv_aload hx hb dL_storm_0 (lv_at hl 8 rfl) ?_
  refine lv_iconst (v := 0) hx hb dL_storm_2 (by decide) ?_
  refine lv_aload_n hx hb dL_storm_3 rfl (lv_at hl 0 rfl) ?_
  refine lv_iload_n hx hb dL_storm_4 rfl (lv_at hl 1 rfl) ?_
  refine lv_iload_n hx hb dL_storm_5 rfl (lv_at hl 2 rfl) ?_
  refine lv_iload_n hx hb dL_storm_6 rfl (lv_at hl 3 rfl) ?_
  refine lv_iload hx hb dL_storm_7 (lv_at hl 4 rfl) ?_
  refine lv_iload hx hb dL_storm_9 (lv_at hl 5 rfl) ?_
  refine lv_iload hx hb dL_storm_11 (lv_at hl 6 rfl) ?_
  refine lv_iload hx hb dL_storm_13 (lv_at hl 7 rfl) ?_
  refine q_xVc (As := [.int p0, .int p1, .int p2, .int p3, .int p4, .int p5, .int p6]) (rest := [.int 0, .ref (ad 170)]) (r := 0) hx hb hml hts hown hE h0 hW hS hM mw_X5_storm hr0 rfl k_6 t_708 ⟨Nat.le_refl _, Nat.le_refl _⟩ rfl hl.1 (Nat.le_of_ble_eq_true rfl) dL_storm_15 ⟨by show 0 + rm.cells ≤ rm.cells; omega, by show 0 + rm.slots ≤ rm.slots; omega⟩ [] ⟨0, 20, 23, 13⟩ [⟨0, 20, 27, 15⟩] htb (fun z hz => by cases hz) (by decide) (by decide) t_311 t_323 (fun H locs q9 hW hS => ?_)
  refine lv_astore (lv' := [(9, .ref q9), (0, .ref (ad 0)), (1, .int p0), (2, .int p1), (3, .int p2), (4, .int p3), (5, .int p4), (6, .int p5), (7, .int p6), (8, .ref (ad 170))]) hx hb dL_storm_23 hl (by decide) rfl (fun ls hl => ?_)
  refine lv_iconst (v := 1) hx hb dL_storm_25 (by decide) ?_
  exact q_hret (rm := hRm rm 9) (P := ((L, ad, v, o), w)) hx hb hr hlocks hW hS (by show 0 + rm.cells ≤ rm.cells; omega) (by show 0 + rm.slots ≤ rm.slots; omega) dL_storm_26 ⟨rfl, rfl⟩

set_option maxHeartbeats 4000000 in
set_option maxRecDepth 100000 in
theorem h_storm_xIS (l : Launch) {G : GG} {L : List Nat} {ad : Nat → Nat} {v : Nat → Nat → Int32} {o : Nat → Nat → Option Nat} {w : Nat → Int64} (hr0 : 0 ∈ L) {rm : Room} {p0 p1 p2 p3 p4 p5 p6 : Int32} (hM : CtXi l G L ad v o w yX5_storm cX5_storm 9 .int rm [.ref (ad 0), .int p0, .int p1, .int p2, .int p3, .int p4, .int p5, .int p6] "java/lang/IllegalStateException") : CtH l G L ad v o w yL_storm cL_storm 10 [(0, 20, 23, 13), (0, 20, 27, 15)] (hRm rm 9) [.ref (ad 0), .int p0, .int p1, .int p2, .int p3, .int p4, .int p5, .int p6, .ref (ad 170)] (fun k P => k = 2 ∧ P = ((L, ad, v, o), w)) := by
  refine Met.ofWH (cc := cL_storm) (maxL := 10) (ret := some .int) (hh := [(0, 20, 23, 13), (0, 20, 27, 15)]) (by decide) rfl ?_
  intro p e s m args below meth c s₁ B hml hv9
  obtain ⟨rfl, ⟨hE, h0, hW⟩, hN⟩ := hv9
  have hx := B.exec; have hb := B.bytes; have hr := B.returns; have hts := hE.hts (args := ([.ref (ad 0), .int p0, .int p1, .int p2, .int p3, .int p4, .int p5, .int p6, .ref (ad 170)] : List Value).toArray); have hown : s.vm.findClass RL = some m.cls := findClass_of_methodNamed B.named; have hlocks := B.notSynchronized
  have htb := vx_table (x := yL_law) B (hts _ t_707)
  have hl := lv_entry ([.ref (ad 0), .int p0, .int p1, .int p2, .int p3, .int p4, .int p5, .int p6, .ref (ad 170)] : List Value) (n := 10) (Nat.le_of_ble_eq_true rfl)
  rw [lg_entry_eq]
  generalize (lg_sl ([.ref (ad 0), .int p0, .int p1, .int p2, .int p3, .int p4, .int p5, .int p6, .ref (ad 170)] : List Value) ++ List.replicate (10 - (lg_sl ([.ref (ad 0), .int p0, .int p1, .int p2, .int p3, .int p4, .int p5, .int p6, .ref (ad 170)] : List Value)).length) Slot.unset).toArray = ls at hl ⊢
  generalize hH : s.heap = H at hW ⊢
  have hS : va_S (Ab G.2.2.1) s.heap H [] := hH ▸ va_S.rf
  obtain ⟨locs, hlc⟩ : ∃ z : List Loc, z = [] := ⟨_, rfl⟩
  rw [← hlc] at hS ⊢
  have hl : lv_has ls 10 [(0, .ref (ad 0)), (1, .int p0), (2, .int p1), (3, .int p2), (4, .int p3), (5, .int p4), (6, .int p5), (7, .int p6), (8, .ref (ad 170))] := hl
  refine lv_aload hx hb dL_storm_0 (lv_at hl 8 rfl) ?_
  refine lv_iconst (v := 0) hx hb dL_storm_2 (by decide) ?_
  refine lv_aload_n hx hb dL_storm_3 rfl (lv_at hl 0 rfl) ?_
  refine lv_iload_n hx hb dL_storm_4 rfl (lv_at hl 1 rfl) ?_
  refine lv_iload_n hx hb dL_storm_5 rfl (lv_at hl 2 rfl) ?_
  refine lv_iload_n hx hb dL_storm_6 rfl (lv_at hl 3 rfl) ?_
  refine lv_iload hx hb dL_storm_7 (lv_at hl 4 rfl) ?_
  refine lv_iload hx hb dL_storm_9 (lv_at hl 5 rfl) ?_
  refine lv_iload hx hb dL_storm_11 (lv_at hl 6 rfl) ?_
  refine lv_iload hx hb dL_storm_13 (lv_at hl 7 rfl) ?_
  refine q_xVc (As := [.int p0, .int p1, .int p2, .int p3, .int p4, .int p5, .int p6]) (rest := [.int 0, .ref (ad 170)]) (r := 0) hx hb hml hts hown hE h0 hW hS hM mw_X5_storm hr0 rfl k_6 t_708 ⟨Nat.le_refl _, Nat.le_refl _⟩ rfl hl.1 (Nat.le_of_ble_eq_true rfl) dL_storm_15 ⟨by show 0 + rm.cells ≤ rm.cells; omega, by show 0 + rm.slots ≤ rm.slots; omega⟩ [⟨0, 20, 23, 13⟩] ⟨0, 20, 27, 15⟩ [] htb (fun z hz => by
    rcases List.mem_cons.mp hz with rfl | hz
    · exact Or.inr ⟨by decide, xIA, hts _ t_311, hN.1⟩
    cases hz) (by decide) (by decide) t_312 t_391 (fun H locs q9 hW hS => ?_)
  refine lv_astore (lv' := [(9, .ref q9), (0, .ref (ad 0)), (1, .int p0), (2, .int p1), (3, .int p2), (4, .int p3), (5, .int p4), (6, .int p5), (7, .int p6), (8, .ref (ad 170))]) hx hb dL_storm_27 hl (by decide) rfl (fun ls hl => ?_)
  refine lv_iconst (v := 2) hx hb dL_storm_29 (by decide) ?_
  exact q_hret (rm := hRm rm 9) (P := ((L, ad, v, o), w)) hx hb hr hlocks hW hS (by show 0 + rm.cells ≤ rm.cells; omega) (by show 0 + rm.slots ≤ rm.slots; omega) dL_storm_30 ⟨rfl, rfl⟩

set_option maxHeartbeats 4000000 in
set_option maxRecDepth 100000 in
theorem h_told (l : Launch) {G : GG} {L : List Nat} {ad : Nat → Nat} {v : Nat → Nat → Int32} {o : Nat → Nat → Option Nat} {w : Nat → Int64} (hr0 : 0 ∈ L) {rm : Room} {p0 p1 : Int32} {post : Int32 → PW → Prop} (hM : CtIw l G L ad v o w yX5_told cX5_told 3 .int rm [.ref (ad 0), .int p0, .int p1] post) (hk : ∀ r P, post r P → 170 ∈ P.1 ∧ P.2.1 170 = ad 170) : CtH l G L ad v o w yL_told cL_told 5 [(0, 10, 13, 21)] (hRm rm 3) [.ref (ad 0), .int p0, .int p1, .ref (ad 170)] (fun k P => k = 0 ∧ ∃ r1, post r1 P.1 ∧ P.2 = vp_updL w 0 r1.toInt64) := by
  refine Met.ofWH (cc := cL_told) (maxL := 5) (ret := some .int) (hh := [(0, 10, 13, 21)]) (by decide) rfl ?_
  intro p e s m args below meth c s₁ B hml hv9
  obtain ⟨rfl, ⟨hE, h0, hW⟩, hN⟩ := hv9
  have hx := B.exec; have hb := B.bytes; have hr := B.returns; have hts := hE.hts (args := ([.ref (ad 0), .int p0, .int p1, .ref (ad 170)] : List Value).toArray); have hown : s.vm.findClass RL = some m.cls := findClass_of_methodNamed B.named; have hlocks := B.notSynchronized
  have htb := vx_table (x := yL_law) B (hts _ t_816)
  have hl := lv_entry ([.ref (ad 0), .int p0, .int p1, .ref (ad 170)] : List Value) (n := 5) (Nat.le_of_ble_eq_true rfl)
  rw [lg_entry_eq]
  generalize (lg_sl ([.ref (ad 0), .int p0, .int p1, .ref (ad 170)] : List Value) ++ List.replicate (5 - (lg_sl ([.ref (ad 0), .int p0, .int p1, .ref (ad 170)] : List Value)).length) Slot.unset).toArray = ls at hl ⊢
  generalize hH : s.heap = H at hW ⊢
  have hS : va_S (Ab G.2.2.1) s.heap H [] := hH ▸ va_S.rf
  obtain ⟨locs, hlc⟩ : ∃ z : List Loc, z = [] := ⟨_, rfl⟩
  rw [← hlc] at hS ⊢
  have hl : lv_has ls 5 [(0, .ref (ad 0)), (1, .int p0), (2, .int p1), (3, .ref (ad 170))] := hl
  refine lv_aload_n hx hb dL_told_0 rfl (lv_at hl 3 rfl) ?_
  refine lv_iconst (v := 0) hx hb dL_told_1 (by decide) ?_
  refine lv_aload_n hx hb dL_told_2 rfl (lv_at hl 0 rfl) ?_
  refine lv_iload_n hx hb dL_told_3 rfl (lv_at hl 1 rfl) ?_
  refine lv_iload_n hx hb dL_told_4 rfl (lv_at hl 2 rfl) ?_
  refine q_cViw (As := [.int p0, .int p1]) (rest := [.int 0, .ref (ad 170)]) (r := 0) hx hb hml hts hown hE h0 hW hS hM mw_X5_told hr0 rfl k_6 t_817 ⟨Nat.le_refl _, Nat.le_refl _⟩ rfl hl.1 (Nat.le_of_ble_eq_true rfl) dL_told_5 ⟨by show 0 + rm.cells ≤ rm.cells; omega, by show 0 + rm.slots ≤ rm.slots; omega⟩ (fun r1 P1 H locs hp hW hS => ?_)
  obtain ⟨hk1, hk2⟩ := hk r1 P1 hp
  refine lv_i2l (v := r1.toInt64) hx hb dL_told_8 rfl ?_
  refine q_last hx hb hW hS hk1 hk2.symm dL_told_9 (fun H locs hW hS => ?_)
  refine lv_goto (tgt := 17) hx hb dL_told_10 (by decide) ?_
  refine lv_iconst (v := 0) hx hb dL_told_17 (by decide) ?_
  exact q_hret (rm := hRm rm 3) (P := (P1, vp_updL w 0 r1.toInt64)) hx hb hr hlocks hW hS (by show 0 + rm.cells ≤ rm.cells; omega) (by show 0 + rm.slots ≤ rm.slots; omega) dL_told_18 ⟨rfl, r1, hp, rfl⟩

set_option maxHeartbeats 4000000 in
set_option maxRecDepth 100000 in
theorem h_told_xIO (l : Launch) {G : GG} {L : List Nat} {ad : Nat → Nat} {v : Nat → Nat → Int32} {o : Nat → Nat → Option Nat} {w : Nat → Int64} (hr0 : 0 ∈ L) {rm : Room} {p0 p1 : Int32} (hM : CtXi l G L ad v o w yX5_told cX5_told 3 .int rm [.ref (ad 0), .int p0, .int p1] "java/lang/IndexOutOfBoundsException") : CtH l G L ad v o w yL_told cL_told 5 [(0, 10, 13, 21)] (hRm rm 3) [.ref (ad 0), .int p0, .int p1, .ref (ad 170)] (fun k P => k = 1 ∧ P = ((L, ad, v, o), w)) := by
  refine Met.ofWH (cc := cL_told) (maxL := 5) (ret := some .int) (hh := [(0, 10, 13, 21)]) (by decide) rfl ?_
  intro p e s m args below meth c s₁ B hml hv9
  obtain ⟨rfl, ⟨hE, h0, hW⟩, hN⟩ := hv9
  have hx := B.exec; have hb := B.bytes; have hr := B.returns; have hts := hE.hts (args := ([.ref (ad 0), .int p0, .int p1, .ref (ad 170)] : List Value).toArray); have hown : s.vm.findClass RL = some m.cls := findClass_of_methodNamed B.named; have hlocks := B.notSynchronized
  have htb := vx_table (x := yL_law) B (hts _ t_816)
  have hl := lv_entry ([.ref (ad 0), .int p0, .int p1, .ref (ad 170)] : List Value) (n := 5) (Nat.le_of_ble_eq_true rfl)
  rw [lg_entry_eq]
  generalize (lg_sl ([.ref (ad 0), .int p0, .int p1, .ref (ad 170)] : List Value) ++ List.replicate (5 - (lg_sl ([.ref (ad 0), .int p0, .int p1, .ref (ad 170)] : List Value)).length) Slot.unset).toArray = ls at hl ⊢
  generalize hH : s.heap = H at hW ⊢
  have hS : va_S (Ab G.2.2.1) s.heap H [] := hH ▸ va_S.rf
  obtain ⟨locs, hlc⟩ : ∃ z : List Loc, z = [] := ⟨_, rfl⟩
  rw [← hlc] at hS ⊢
  have hl : lv_has ls 5 [(0, .ref (ad 0)), (1, .int p0), (2, .int p1), (3, .ref (ad 170))] := hl
  refine lv_aload_n hx hb dL_told_0 rfl (lv_at hl 3 rfl) ?_
  refine lv_iconst (v := 0) hx hb dL_told_1 (by decide) ?_
  refine lv_aload_n hx hb dL_told_2 rfl (lv_at hl 0 rfl) ?_
  refine lv_iload_n hx hb dL_told_3 rfl (lv_at hl 1 rfl) ?_
  refine lv_iload_n hx hb dL_told_4 rfl (lv_at hl 2 rfl) ?_
  refine q_xVc (As := [.int p0, .int p1]) (rest := [.int 0, .ref (ad 170)]) (r := 0) hx hb hml hts hown hE h0 hW hS hM mw_X5_told hr0 rfl k_6 t_817 ⟨Nat.le_refl _, Nat.le_refl _⟩ rfl hl.1 (Nat.le_of_ble_eq_true rfl) dL_told_5 ⟨by show 0 + rm.cells ≤ rm.cells; omega, by show 0 + rm.slots ≤ rm.slots; omega⟩ [] ⟨0, 10, 13, 21⟩ [] htb (fun z hz => by cases hz) (by decide) (by decide) t_505 t_516 (fun H locs q9 hW hS => ?_)
  refine lv_astore (lv' := [(4, .ref q9), (0, .ref (ad 0)), (1, .int p0), (2, .int p1), (3, .ref (ad 170))]) hx hb dL_told_13 hl (by decide) rfl (fun ls hl => ?_)
  refine lv_iconst (v := 1) hx hb dL_told_15 (by decide) ?_
  exact q_hret (rm := hRm rm 3) (P := ((L, ad, v, o), w)) hx hb hr hlocks hW hS (by show 0 + rm.cells ≤ rm.cells; omega) (by show 0 + rm.slots ≤ rm.slots; omega) dL_told_16 ⟨rfl, rfl⟩

set_option maxHeartbeats 4000000 in
set_option maxRecDepth 100000 in
theorem h_wouldBe (l : Launch) {G : GG} {L : List Nat} {ad : Nat → Nat} {v : Nat → Nat → Int32} {o : Nat → Nat → Option Nat} {w : Nat → Int64} (hr0 : 0 ∈ L) {rm : Room} {p0 p1 p2 p3 p4 p5 p6 p7 : Int32} {post : Int32 → PW → Prop} (hM : CtIw l G L ad v o w yX5_wouldBe cX5_wouldBe 10 .int rm [.ref (ad 0), .int p0, .int p1, .int p2, .int p3, .int p4, .int p5, .int p6, .int p7] post) (hk : ∀ r P, post r P → 170 ∈ P.1 ∧ P.2.1 170 = ad 170) : CtH l G L ad v o w yL_wouldBe cL_wouldBe 11 [(0, 22, 25, 13), (0, 22, 29, 21)] (hRm rm 10) [.ref (ad 0), .int p0, .int p1, .int p2, .int p3, .int p4, .int p5, .int p6, .int p7, .ref (ad 170)] (fun k P => k = 0 ∧ ∃ r1, post r1 P.1 ∧ P.2 = vp_updL w 0 r1.toInt64) := by
  refine Met.ofWH (cc := cL_wouldBe) (maxL := 11) (ret := some .int) (hh := [(0, 22, 25, 13), (0, 22, 29, 21)]) (by decide) rfl ?_
  intro p e s m args below meth c s₁ B hml hv9
  obtain ⟨rfl, ⟨hE, h0, hW⟩, hN⟩ := hv9
  have hx := B.exec; have hb := B.bytes; have hr := B.returns; have hts := hE.hts (args := ([.ref (ad 0), .int p0, .int p1, .int p2, .int p3, .int p4, .int p5, .int p6, .int p7, .ref (ad 170)] : List Value).toArray); have hown : s.vm.findClass RL = some m.cls := findClass_of_methodNamed B.named; have hlocks := B.notSynchronized
  have htb := vx_table (x := yL_law) B (hts _ t_824)
  have hl := lv_entry ([.ref (ad 0), .int p0, .int p1, .int p2, .int p3, .int p4, .int p5, .int p6, .int p7, .ref (ad 170)] : List Value) (n := 11) (Nat.le_of_ble_eq_true rfl)
  rw [lg_entry_eq]
  generalize (lg_sl ([.ref (ad 0), .int p0, .int p1, .int p2, .int p3, .int p4, .int p5, .int p6, .int p7, .ref (ad 170)] : List Value) ++ List.replicate (11 - (lg_sl ([.ref (ad 0), .int p0, .int p1, .int p2, .int p3, .int p4, .int p5, .int p6, .int p7, .ref (ad 170)] : List Value)).length) Slot.unset).toArray = ls at hl ⊢
  generalize hH : s.heap = H at hW ⊢
  have hS : va_S (Ab G.2.2.1) s.heap H [] := hH ▸ va_S.rf
  obtain ⟨locs, hlc⟩ : ∃ z : List Loc, z = [] := ⟨_, rfl⟩
  rw [← hlc] at hS ⊢
  have hl : lv_has ls 11 [(0, .ref (ad 0)), (1, .int p0), (2, .int p1), (3, .int p2), (4, .int p3), (5, .int p4), (6, .int p5), (7, .int p6), (8, .int p7), (9, .ref (ad 170))] := hl
  refine lv_aload hx hb dL_wouldBe_0 (lv_at hl 9 rfl) ?_
  refine lv_iconst (v := 0) hx hb dL_wouldBe_2 (by decide) ?_
  refine lv_aload_n hx hb dL_wouldBe_3 rfl (lv_at hl 0 rfl) ?_
  refine lv_iload_n hx hb dL_wouldBe_4 rfl (lv_at hl 1 rfl) ?_
  refine lv_iload_n hx hb dL_wouldBe_5 rfl (lv_at hl 2 rfl) ?_
  refine lv_iload_n hx hb dL_wouldBe_6 rfl (lv_at hl 3 rfl) ?_
  refine lv_iload hx hb dL_wouldBe_7 (lv_at hl 4 rfl) ?_
  refine lv_iload hx hb dL_wouldBe_9 (lv_at hl 5 rfl) ?_
  refine lv_iload hx hb dL_wouldBe_11 (lv_at hl 6 rfl) ?_
  refine lv_iload hx hb dL_wouldBe_13 (lv_at hl 7 rfl) ?_
  refine lv_iload hx hb dL_wouldBe_15 (lv_at hl 8 rfl) ?_
  refine q_cViw (As := [.int p0, .int p1, .int p2, .int p3, .int p4, .int p5, .int p6, .int p7]) (rest := [.int 0, .ref (ad 170)]) (r := 0) hx hb hml hts hown hE h0 hW hS hM mw_X5_wouldBe hr0 rfl k_6 t_825 ⟨Nat.le_refl _, Nat.le_refl _⟩ rfl hl.1 (Nat.le_of_ble_eq_true rfl) dL_wouldBe_17 ⟨by show 0 + rm.cells ≤ rm.cells; omega, by show 0 + rm.slots ≤ rm.slots; omega⟩ (fun r1 P1 H locs hp hW hS => ?_)
  obtain ⟨hk1, hk2⟩ := hk r1 P1 hp
  refine lv_i2l (v := r1.toInt64) hx hb dL_wouldBe_20 rfl ?_
  refine q_last hx hb hW hS hk1 hk2.symm dL_wouldBe_21 (fun H locs hW hS => ?_)
  refine lv_goto (tgt := 33) hx hb dL_wouldBe_22 (by decide) ?_
  refine lv_iconst (v := 0) hx hb dL_wouldBe_33 (by decide) ?_
  exact q_hret (rm := hRm rm 10) (P := (P1, vp_updL w 0 r1.toInt64)) hx hb hr hlocks hW hS (by show 0 + rm.cells ≤ rm.cells; omega) (by show 0 + rm.slots ≤ rm.slots; omega) dL_wouldBe_34 ⟨rfl, r1, hp, rfl⟩

set_option maxHeartbeats 4000000 in
set_option maxRecDepth 100000 in
theorem h_wouldBe_xIA (l : Launch) {G : GG} {L : List Nat} {ad : Nat → Nat} {v : Nat → Nat → Int32} {o : Nat → Nat → Option Nat} {w : Nat → Int64} (hr0 : 0 ∈ L) {rm : Room} {p0 p1 p2 p3 p4 p5 p6 p7 : Int32} (hM : CtXi l G L ad v o w yX5_wouldBe cX5_wouldBe 10 .int rm [.ref (ad 0), .int p0, .int p1, .int p2, .int p3, .int p4, .int p5, .int p6, .int p7] "java/lang/IllegalArgumentException") : CtH l G L ad v o w yL_wouldBe cL_wouldBe 11 [(0, 22, 25, 13), (0, 22, 29, 21)] (hRm rm 10) [.ref (ad 0), .int p0, .int p1, .int p2, .int p3, .int p4, .int p5, .int p6, .int p7, .ref (ad 170)] (fun k P => k = 1 ∧ P = ((L, ad, v, o), w)) := by
  refine Met.ofWH (cc := cL_wouldBe) (maxL := 11) (ret := some .int) (hh := [(0, 22, 25, 13), (0, 22, 29, 21)]) (by decide) rfl ?_
  intro p e s m args below meth c s₁ B hml hv9
  obtain ⟨rfl, ⟨hE, h0, hW⟩, hN⟩ := hv9
  have hx := B.exec; have hb := B.bytes; have hr := B.returns; have hts := hE.hts (args := ([.ref (ad 0), .int p0, .int p1, .int p2, .int p3, .int p4, .int p5, .int p6, .int p7, .ref (ad 170)] : List Value).toArray); have hown : s.vm.findClass RL = some m.cls := findClass_of_methodNamed B.named; have hlocks := B.notSynchronized
  have htb := vx_table (x := yL_law) B (hts _ t_824)
  have hl := lv_entry ([.ref (ad 0), .int p0, .int p1, .int p2, .int p3, .int p4, .int p5, .int p6, .int p7, .ref (ad 170)] : List Value) (n := 11) (Nat.le_of_ble_eq_true rfl)
  rw [lg_entry_eq]
  generalize (lg_sl ([.ref (ad 0), .int p0, .int p1, .int p2, .int p3, .int p4, .int p5, .int p6, .int p7, .ref (ad 170)] : List Value) ++ List.replicate (11 - (lg_sl ([.ref (ad 0), .int p0, .int p1, .int p2, .int p3, .int p4, .int p5, .int p6, .int p7, .ref (ad 170)] : List Value)).length) Slot.unset).toArray = ls at hl ⊢
  generalize hH : s.heap = H at hW ⊢
  have hS : va_S (Ab G.2.2.1) s.heap H [] := hH ▸ va_S.rf
  obtain ⟨locs, hlc⟩ : ∃ z : List Loc, z = [] := ⟨_, rfl⟩
  rw [← hlc] at hS ⊢
  have hl : lv_has ls 11 [(0, .ref (ad 0)), (1, .int p0), (2, .int p1), (3, .int p2), (4, .int p3), (5, .int p4), (6, .int p5), (7, .int p6), (8, .int p7), (9, .ref (ad 170))] := hl
  refine lv_aload hx hb dL_wouldBe_0 (lv_at hl 9 rfl) ?_
  refine lv_iconst (v := 0) hx hb dL_wouldBe_2 (by decide) ?_
  refine lv_aload_n hx hb dL_wouldBe_3 rfl (lv_at hl 0 rfl) ?_
  refine lv_iload_n hx hb dL_wouldBe_4 rfl (lv_at hl 1 rfl) ?_
  refine lv_iload_n hx hb dL_wouldBe_5 rfl (lv_at hl 2 rfl) ?_
  refine lv_iload_n hx hb dL_wouldBe_6 rfl (lv_at hl 3 rfl) ?_
  refine lv_iload hx hb dL_wouldBe_7 (lv_at hl 4 rfl) ?_
  refine lv_iload hx hb dL_wouldBe_9 (lv_at hl 5 rfl) ?_
  refine lv_iload hx hb dL_wouldBe_11 (lv_at hl 6 rfl) ?_
  refine lv_iload hx hb dL_wouldBe_13 (lv_at hl 7 rfl) ?_
  refine lv_iload hx hb dL_wouldBe_15 (lv_at hl 8 rfl) ?_
  refine q_xVc (As := [.int p0, .int p1, .int p2, .int p3, .int p4, .int p5, .int p6, .int p7]) (rest := [.int 0, .ref (ad 170)]) (r := 0) hx hb hml hts hown hE h0 hW hS hM mw_X5_wouldBe hr0 rfl k_6 t_825 ⟨Nat.le_refl _, Nat.le_refl _⟩ rfl hl.1 (Nat.le_of_ble_eq_true rfl) dL_wouldBe_17 ⟨by show 0 + rm.cells ≤ rm.cells; omega, by show 0 + rm.slots ≤ rm.slots; omega⟩ [] ⟨0, 22, 25, 13⟩ [⟨0, 22, 29, 21⟩] htb (fun z hz => by cases hz) (by decide) (by decide) t_311 t_323 (fun H locs q9 hW hS => ?_)
  refine lv_astore (lv' := [(10, .ref q9), (0, .ref (ad 0)), (1, .int p0), (2, .int p1), (3, .int p2), (4, .int p3), (5, .int p4), (6, .int p5), (7, .int p6), (8, .int p7), (9, .ref (ad 170))]) hx hb dL_wouldBe_25 hl (by decide) rfl (fun ls hl => ?_)
  refine lv_iconst (v := 1) hx hb dL_wouldBe_27 (by decide) ?_
  exact q_hret (rm := hRm rm 10) (P := ((L, ad, v, o), w)) hx hb hr hlocks hW hS (by show 0 + rm.cells ≤ rm.cells; omega) (by show 0 + rm.slots ≤ rm.slots; omega) dL_wouldBe_28 ⟨rfl, rfl⟩

set_option maxHeartbeats 4000000 in
set_option maxRecDepth 100000 in
theorem h_wouldBe_xIO (l : Launch) {G : GG} {L : List Nat} {ad : Nat → Nat} {v : Nat → Nat → Int32} {o : Nat → Nat → Option Nat} {w : Nat → Int64} (hr0 : 0 ∈ L) {rm : Room} {p0 p1 p2 p3 p4 p5 p6 p7 : Int32} (hM : CtXi l G L ad v o w yX5_wouldBe cX5_wouldBe 10 .int rm [.ref (ad 0), .int p0, .int p1, .int p2, .int p3, .int p4, .int p5, .int p6, .int p7] "java/lang/IndexOutOfBoundsException") : CtH l G L ad v o w yL_wouldBe cL_wouldBe 11 [(0, 22, 25, 13), (0, 22, 29, 21)] (hRm rm 10) [.ref (ad 0), .int p0, .int p1, .int p2, .int p3, .int p4, .int p5, .int p6, .int p7, .ref (ad 170)] (fun k P => k = 2 ∧ P = ((L, ad, v, o), w)) := by
  refine Met.ofWH (cc := cL_wouldBe) (maxL := 11) (ret := some .int) (hh := [(0, 22, 25, 13), (0, 22, 29, 21)]) (by decide) rfl ?_
  intro p e s m args below meth c s₁ B hml hv9
  obtain ⟨rfl, ⟨hE, h0, hW⟩, hN⟩ := hv9
  have hx := B.exec; have hb := B.bytes; have hr := B.returns; have hts := hE.hts (args := ([.ref (ad 0), .int p0, .int p1, .int p2, .int p3, .int p4, .int p5, .int p6, .int p7, .ref (ad 170)] : List Value).toArray); have hown : s.vm.findClass RL = some m.cls := findClass_of_methodNamed B.named; have hlocks := B.notSynchronized
  have htb := vx_table (x := yL_law) B (hts _ t_824)
  have hl := lv_entry ([.ref (ad 0), .int p0, .int p1, .int p2, .int p3, .int p4, .int p5, .int p6, .int p7, .ref (ad 170)] : List Value) (n := 11) (Nat.le_of_ble_eq_true rfl)
  rw [lg_entry_eq]
  generalize (lg_sl ([.ref (ad 0), .int p0, .int p1, .int p2, .int p3, .int p4, .int p5, .int p6, .int p7, .ref (ad 170)] : List Value) ++ List.replicate (11 - (lg_sl ([.ref (ad 0), .int p0, .int p1, .int p2, .int p3, .int p4, .int p5, .int p6, .int p7, .ref (ad 170)] : List Value)).length) Slot.unset).toArray = ls at hl ⊢
  generalize hH : s.heap = H at hW ⊢
  have hS : va_S (Ab G.2.2.1) s.heap H [] := hH ▸ va_S.rf
  obtain ⟨locs, hlc⟩ : ∃ z : List Loc, z = [] := ⟨_, rfl⟩
  rw [← hlc] at hS ⊢
  have hl : lv_has ls 11 [(0, .ref (ad 0)), (1, .int p0), (2, .int p1), (3, .int p2), (4, .int p3), (5, .int p4), (6, .int p5), (7, .int p6), (8, .int p7), (9, .ref (ad 170))] := hl
  refine lv_aload hx hb dL_wouldBe_0 (lv_at hl 9 rfl) ?_
  refine lv_iconst (v := 0) hx hb dL_wouldBe_2 (by decide) ?_
  refine lv_aload_n hx hb dL_wouldBe_3 rfl (lv_at hl 0 rfl) ?_
  refine lv_iload_n hx hb dL_wouldBe_4 rfl (lv_at hl 1 rfl) ?_
  refine lv_iload_n hx hb dL_wouldBe_5 rfl (lv_at hl 2 rfl) ?_
  refine lv_iload_n hx hb dL_wouldBe_6 rfl (lv_at hl 3 rfl) ?_
  refine lv_iload hx hb dL_wouldBe_7 (lv_at hl 4 rfl) ?_
  refine lv_iload hx hb dL_wouldBe_9 (lv_at hl 5 rfl) ?_
  refine lv_iload hx hb dL_wouldBe_11 (lv_at hl 6 rfl) ?_
  refine lv_iload hx hb dL_wouldBe_13 (lv_at hl 7 rfl) ?_
  refine lv_iload hx hb dL_wouldBe_15 (lv_at hl 8 rfl) ?_
  refine q_xVc (As := [.int p0, .int p1, .int p2, .int p3, .int p4, .int p5, .int p6, .int p7]) (rest := [.int 0, .ref (ad 170)]) (r := 0) hx hb hml hts hown hE h0 hW hS hM mw_X5_wouldBe hr0 rfl k_6 t_825 ⟨Nat.le_refl _, Nat.le_refl _⟩ rfl hl.1 (Nat.le_of_ble_eq_true rfl) dL_wouldBe_17 ⟨by show 0 + rm.cells ≤ rm.cells; omega, by show 0 + rm.slots ≤ rm.slots; omega⟩ [⟨0, 22, 25, 13⟩] ⟨0, 22, 29, 21⟩ [] htb (fun z hz => by
    rcases List.mem_cons.mp hz with rfl | hz
    · exact Or.inr ⟨by decide, xIA, hts _ t_311, hN.2.2.2⟩
    cases hz) (by decide) (by decide) t_505 t_516 (fun H locs q9 hW hS => ?_)
  refine lv_astore (lv' := [(10, .ref q9), (0, .ref (ad 0)), (1, .int p0), (2, .int p1), (3, .int p2), (4, .int p3), (5, .int p4), (6, .int p5), (7, .int p6), (8, .int p7), (9, .ref (ad 170))]) hx hb dL_wouldBe_29 hl (by decide) rfl (fun ls hl => ?_)
  refine lv_iconst (v := 2) hx hb dL_wouldBe_31 (by decide) ?_
  exact q_hret (rm := hRm rm 10) (P := ((L, ad, v, o), w)) hx hb hr hlocks hW hS (by show 0 + rm.cells ≤ rm.cells; omega) (by show 0 + rm.slots ≤ rm.slots; omega) dL_wouldBe_32 ⟨rfl, rfl⟩

set_option maxHeartbeats 4000000 in
set_option maxRecDepth 100000 in
theorem h_worst (l : Launch) {G : GG} {L : List Nat} {ad : Nat → Nat} {v : Nat → Nat → Int32} {o : Nat → Nat → Option Nat} {w : Nat → Int64} (hr0 : 0 ∈ L) {rm : Room} {p0 p1 : Int32} {post : Int32 → PW → Prop} (hM : CtIw l G L ad v o w yX5_worst cX5_worst 7 .int rm [.ref (ad 0), .int p0, .int p1] post) (hk : ∀ r P, post r P → 170 ∈ P.1 ∧ P.2.1 170 = ad 170) : CtH l G L ad v o w yL_worst cL_worst 5 [(0, 10, 13, 13)] (hRm rm 7) [.ref (ad 0), .int p0, .int p1, .ref (ad 170)] (fun k P => k = 0 ∧ ∃ r1, post r1 P.1 ∧ P.2 = vp_updL w 0 r1.toInt64) := by
  refine Met.ofWH (cc := cL_worst) (maxL := 5) (ret := some .int) (hh := [(0, 10, 13, 13)]) (by decide) rfl ?_
  intro p e s m args below meth c s₁ B hml hv9
  obtain ⟨rfl, ⟨hE, h0, hW⟩, hN⟩ := hv9
  have hx := B.exec; have hb := B.bytes; have hr := B.returns; have hts := hE.hts (args := ([.ref (ad 0), .int p0, .int p1, .ref (ad 170)] : List Value).toArray); have hown : s.vm.findClass RL = some m.cls := findClass_of_methodNamed B.named; have hlocks := B.notSynchronized
  have htb := vx_table (x := yL_law) B (hts _ t_831)
  have hl := lv_entry ([.ref (ad 0), .int p0, .int p1, .ref (ad 170)] : List Value) (n := 5) (Nat.le_of_ble_eq_true rfl)
  rw [lg_entry_eq]
  generalize (lg_sl ([.ref (ad 0), .int p0, .int p1, .ref (ad 170)] : List Value) ++ List.replicate (5 - (lg_sl ([.ref (ad 0), .int p0, .int p1, .ref (ad 170)] : List Value)).length) Slot.unset).toArray = ls at hl ⊢
  generalize hH : s.heap = H at hW ⊢
  have hS : va_S (Ab G.2.2.1) s.heap H [] := hH ▸ va_S.rf
  obtain ⟨locs, hlc⟩ : ∃ z : List Loc, z = [] := ⟨_, rfl⟩
  rw [← hlc] at hS ⊢
  have hl : lv_has ls 5 [(0, .ref (ad 0)), (1, .int p0), (2, .int p1), (3, .ref (ad 170))] := hl
  refine lv_aload_n hx hb dL_worst_0 rfl (lv_at hl 3 rfl) ?_
  refine lv_iconst (v := 0) hx hb dL_worst_1 (by decide) ?_
  refine lv_aload_n hx hb dL_worst_2 rfl (lv_at hl 0 rfl) ?_
  refine lv_iload_n hx hb dL_worst_3 rfl (lv_at hl 1 rfl) ?_
  refine lv_iload_n hx hb dL_worst_4 rfl (lv_at hl 2 rfl) ?_
  refine q_cViw (As := [.int p0, .int p1]) (rest := [.int 0, .ref (ad 170)]) (r := 0) hx hb hml hts hown hE h0 hW hS hM mw_X5_worst hr0 rfl k_6 t_832 ⟨Nat.le_refl _, Nat.le_refl _⟩ rfl hl.1 (Nat.le_of_ble_eq_true rfl) dL_worst_5 ⟨by show 0 + rm.cells ≤ rm.cells; omega, by show 0 + rm.slots ≤ rm.slots; omega⟩ (fun r1 P1 H locs hp hW hS => ?_)
  obtain ⟨hk1, hk2⟩ := hk r1 P1 hp
  refine lv_i2l (v := r1.toInt64) hx hb dL_worst_8 rfl ?_
  refine q_last hx hb hW hS hk1 hk2.symm dL_worst_9 (fun H locs hW hS => ?_)
  refine lv_goto (tgt := 17) hx hb dL_worst_10 (by decide) ?_
  refine lv_iconst (v := 0) hx hb dL_worst_17 (by decide) ?_
  exact q_hret (rm := hRm rm 7) (P := (P1, vp_updL w 0 r1.toInt64)) hx hb hr hlocks hW hS (by show 0 + rm.cells ≤ rm.cells; omega) (by show 0 + rm.slots ≤ rm.slots; omega) dL_worst_18 ⟨rfl, r1, hp, rfl⟩

set_option maxHeartbeats 4000000 in
set_option maxRecDepth 100000 in
theorem h_worst_xIA (l : Launch) {G : GG} {L : List Nat} {ad : Nat → Nat} {v : Nat → Nat → Int32} {o : Nat → Nat → Option Nat} {w : Nat → Int64} (hr0 : 0 ∈ L) {rm : Room} {p0 p1 : Int32} (hM : CtXi l G L ad v o w yX5_worst cX5_worst 7 .int rm [.ref (ad 0), .int p0, .int p1] "java/lang/IllegalArgumentException") : CtH l G L ad v o w yL_worst cL_worst 5 [(0, 10, 13, 13)] (hRm rm 7) [.ref (ad 0), .int p0, .int p1, .ref (ad 170)] (fun k P => k = 1 ∧ P = ((L, ad, v, o), w)) := by
  refine Met.ofWH (cc := cL_worst) (maxL := 5) (ret := some .int) (hh := [(0, 10, 13, 13)]) (by decide) rfl ?_
  intro p e s m args below meth c s₁ B hml hv9
  obtain ⟨rfl, ⟨hE, h0, hW⟩, hN⟩ := hv9
  have hx := B.exec; have hb := B.bytes; have hr := B.returns; have hts := hE.hts (args := ([.ref (ad 0), .int p0, .int p1, .ref (ad 170)] : List Value).toArray); have hown : s.vm.findClass RL = some m.cls := findClass_of_methodNamed B.named; have hlocks := B.notSynchronized
  have htb := vx_table (x := yL_law) B (hts _ t_831)
  have hl := lv_entry ([.ref (ad 0), .int p0, .int p1, .ref (ad 170)] : List Value) (n := 5) (Nat.le_of_ble_eq_true rfl)
  rw [lg_entry_eq]
  generalize (lg_sl ([.ref (ad 0), .int p0, .int p1, .ref (ad 170)] : List Value) ++ List.replicate (5 - (lg_sl ([.ref (ad 0), .int p0, .int p1, .ref (ad 170)] : List Value)).length) Slot.unset).toArray = ls at hl ⊢
  generalize hH : s.heap = H at hW ⊢
  have hS : va_S (Ab G.2.2.1) s.heap H [] := hH ▸ va_S.rf
  obtain ⟨locs, hlc⟩ : ∃ z : List Loc, z = [] := ⟨_, rfl⟩
  rw [← hlc] at hS ⊢
  have hl : lv_has ls 5 [(0, .ref (ad 0)), (1, .int p0), (2, .int p1), (3, .ref (ad 170))] := hl
  refine lv_aload_n hx hb dL_worst_0 rfl (lv_at hl 3 rfl) ?_
  refine lv_iconst (v := 0) hx hb dL_worst_1 (by decide) ?_
  refine lv_aload_n hx hb dL_worst_2 rfl (lv_at hl 0 rfl) ?_
  refine lv_iload_n hx hb dL_worst_3 rfl (lv_at hl 1 rfl) ?_
  refine lv_iload_n hx hb dL_worst_4 rfl (lv_at hl 2 rfl) ?_
  refine q_xVc (As := [.int p0, .int p1]) (rest := [.int 0, .ref (ad 170)]) (r := 0) hx hb hml hts hown hE h0 hW hS hM mw_X5_worst hr0 rfl k_6 t_832 ⟨Nat.le_refl _, Nat.le_refl _⟩ rfl hl.1 (Nat.le_of_ble_eq_true rfl) dL_worst_5 ⟨by show 0 + rm.cells ≤ rm.cells; omega, by show 0 + rm.slots ≤ rm.slots; omega⟩ [] ⟨0, 10, 13, 13⟩ [] htb (fun z hz => by cases hz) (by decide) (by decide) t_311 t_323 (fun H locs q9 hW hS => ?_)
  refine lv_astore (lv' := [(4, .ref q9), (0, .ref (ad 0)), (1, .int p0), (2, .int p1), (3, .ref (ad 170))]) hx hb dL_worst_13 hl (by decide) rfl (fun ls hl => ?_)
  refine lv_iconst (v := 1) hx hb dL_worst_15 (by decide) ?_
  exact q_hret (rm := hRm rm 7) (P := ((L, ad, v, o), w)) hx hb hr hlocks hW hS (by show 0 + rm.cells ≤ rm.cells; omega) (by show 0 + rm.slots ≤ rm.slots; omega) dL_worst_16 ⟨rfl, rfl⟩

set_option maxHeartbeats 4000000 in
set_option maxRecDepth 100000 in
theorem h_advise (l : Launch) {G : GG} {L : List Nat} {ad : Nat → Nat} {v : Nat → Nat → Int32} {o : Nat → Nat → Option Nat} {w : Nat → Int64} (hr0 : 0 ∈ L) {rm : Room} {p0 p1 p2 : Int32} {post : Int32 → PW → Prop} (hM : CtIw l G L ad v o w yX5_advise cX5_advise 10 .int rm [.ref (ad 0), .int p0, .int p1, .int p2] post) (hk : ∀ r P, post r P → 170 ∈ P.1 ∧ P.2.1 170 = ad 170) : CtH l G L ad v o w yL_advise cL_advise 6 [(0, 12, 15, 13)] (hRm rm 10) [.ref (ad 0), .int p0, .int p1, .int p2, .ref (ad 170)] (fun k P => k = 0 ∧ ∃ r1, post r1 P.1 ∧ P.2 = vp_updL w 0 r1.toInt64) := by
  refine Met.ofWH (cc := cL_advise) (maxL := 6) (ret := some .int) (hh := [(0, 12, 15, 13)]) (by decide) rfl ?_
  intro p e s m args below meth c s₁ B hml hv9
  obtain ⟨rfl, ⟨hE, h0, hW⟩, hN⟩ := hv9
  have hx := B.exec; have hb := B.bytes; have hr := B.returns; have hts := hE.hts (args := ([.ref (ad 0), .int p0, .int p1, .int p2, .ref (ad 170)] : List Value).toArray); have hown : s.vm.findClass RL = some m.cls := findClass_of_methodNamed B.named; have hlocks := B.notSynchronized
  have htb := vx_table (x := yL_law) B (hts _ t_841)
  have hl := lv_entry ([.ref (ad 0), .int p0, .int p1, .int p2, .ref (ad 170)] : List Value) (n := 6) (Nat.le_of_ble_eq_true rfl)
  rw [lg_entry_eq]
  generalize (lg_sl ([.ref (ad 0), .int p0, .int p1, .int p2, .ref (ad 170)] : List Value) ++ List.replicate (6 - (lg_sl ([.ref (ad 0), .int p0, .int p1, .int p2, .ref (ad 170)] : List Value)).length) Slot.unset).toArray = ls at hl ⊢
  generalize hH : s.heap = H at hW ⊢
  have hS : va_S (Ab G.2.2.1) s.heap H [] := hH ▸ va_S.rf
  obtain ⟨locs, hlc⟩ : ∃ z : List Loc, z = [] := ⟨_, rfl⟩
  rw [← hlc] at hS ⊢
  have hl : lv_has ls 6 [(0, .ref (ad 0)), (1, .int p0), (2, .int p1), (3, .int p2), (4, .ref (ad 170))] := hl
  refine lv_aload hx hb dL_advise_0 (lv_at hl 4 rfl) ?_
  refine lv_iconst (v := 0) hx hb dL_advise_2 (by decide) ?_
  refine lv_aload_n hx hb dL_advise_3 rfl (lv_at hl 0 rfl) ?_
  refine lv_iload_n hx hb dL_advise_4 rfl (lv_at hl 1 rfl) ?_
  refine lv_iload_n hx hb dL_advise_5 rfl (lv_at hl 2 rfl) ?_
  refine lv_iload_n hx hb dL_advise_6 rfl (lv_at hl 3 rfl) ?_
  refine q_cViw (As := [.int p0, .int p1, .int p2]) (rest := [.int 0, .ref (ad 170)]) (r := 0) hx hb hml hts hown hE h0 hW hS hM mw_X5_advise hr0 rfl k_6 t_842 ⟨Nat.le_refl _, Nat.le_refl _⟩ rfl hl.1 (Nat.le_of_ble_eq_true rfl) dL_advise_7 ⟨by show 0 + rm.cells ≤ rm.cells; omega, by show 0 + rm.slots ≤ rm.slots; omega⟩ (fun r1 P1 H locs hp hW hS => ?_)
  obtain ⟨hk1, hk2⟩ := hk r1 P1 hp
  refine lv_i2l (v := r1.toInt64) hx hb dL_advise_10 rfl ?_
  refine q_last hx hb hW hS hk1 hk2.symm dL_advise_11 (fun H locs hW hS => ?_)
  refine lv_goto (tgt := 19) hx hb dL_advise_12 (by decide) ?_
  refine lv_iconst (v := 0) hx hb dL_advise_19 (by decide) ?_
  exact q_hret (rm := hRm rm 10) (P := (P1, vp_updL w 0 r1.toInt64)) hx hb hr hlocks hW hS (by show 0 + rm.cells ≤ rm.cells; omega) (by show 0 + rm.slots ≤ rm.slots; omega) dL_advise_20 ⟨rfl, r1, hp, rfl⟩

set_option maxHeartbeats 4000000 in
set_option maxRecDepth 100000 in
theorem h_advise_xIA (l : Launch) {G : GG} {L : List Nat} {ad : Nat → Nat} {v : Nat → Nat → Int32} {o : Nat → Nat → Option Nat} {w : Nat → Int64} (hr0 : 0 ∈ L) {rm : Room} {p0 p1 p2 : Int32} (hM : CtXi l G L ad v o w yX5_advise cX5_advise 10 .int rm [.ref (ad 0), .int p0, .int p1, .int p2] "java/lang/IllegalArgumentException") : CtH l G L ad v o w yL_advise cL_advise 6 [(0, 12, 15, 13)] (hRm rm 10) [.ref (ad 0), .int p0, .int p1, .int p2, .ref (ad 170)] (fun k P => k = 1 ∧ P = ((L, ad, v, o), w)) := by
  refine Met.ofWH (cc := cL_advise) (maxL := 6) (ret := some .int) (hh := [(0, 12, 15, 13)]) (by decide) rfl ?_
  intro p e s m args below meth c s₁ B hml hv9
  obtain ⟨rfl, ⟨hE, h0, hW⟩, hN⟩ := hv9
  have hx := B.exec; have hb := B.bytes; have hr := B.returns; have hts := hE.hts (args := ([.ref (ad 0), .int p0, .int p1, .int p2, .ref (ad 170)] : List Value).toArray); have hown : s.vm.findClass RL = some m.cls := findClass_of_methodNamed B.named; have hlocks := B.notSynchronized
  have htb := vx_table (x := yL_law) B (hts _ t_841)
  have hl := lv_entry ([.ref (ad 0), .int p0, .int p1, .int p2, .ref (ad 170)] : List Value) (n := 6) (Nat.le_of_ble_eq_true rfl)
  rw [lg_entry_eq]
  generalize (lg_sl ([.ref (ad 0), .int p0, .int p1, .int p2, .ref (ad 170)] : List Value) ++ List.replicate (6 - (lg_sl ([.ref (ad 0), .int p0, .int p1, .int p2, .ref (ad 170)] : List Value)).length) Slot.unset).toArray = ls at hl ⊢
  generalize hH : s.heap = H at hW ⊢
  have hS : va_S (Ab G.2.2.1) s.heap H [] := hH ▸ va_S.rf
  obtain ⟨locs, hlc⟩ : ∃ z : List Loc, z = [] := ⟨_, rfl⟩
  rw [← hlc] at hS ⊢
  have hl : lv_has ls 6 [(0, .ref (ad 0)), (1, .int p0), (2, .int p1), (3, .int p2), (4, .ref (ad 170))] := hl
  refine lv_aload hx hb dL_advise_0 (lv_at hl 4 rfl) ?_
  refine lv_iconst (v := 0) hx hb dL_advise_2 (by decide) ?_
  refine lv_aload_n hx hb dL_advise_3 rfl (lv_at hl 0 rfl) ?_
  refine lv_iload_n hx hb dL_advise_4 rfl (lv_at hl 1 rfl) ?_
  refine lv_iload_n hx hb dL_advise_5 rfl (lv_at hl 2 rfl) ?_
  refine lv_iload_n hx hb dL_advise_6 rfl (lv_at hl 3 rfl) ?_
  refine q_xVc (As := [.int p0, .int p1, .int p2]) (rest := [.int 0, .ref (ad 170)]) (r := 0) hx hb hml hts hown hE h0 hW hS hM mw_X5_advise hr0 rfl k_6 t_842 ⟨Nat.le_refl _, Nat.le_refl _⟩ rfl hl.1 (Nat.le_of_ble_eq_true rfl) dL_advise_7 ⟨by show 0 + rm.cells ≤ rm.cells; omega, by show 0 + rm.slots ≤ rm.slots; omega⟩ [] ⟨0, 12, 15, 13⟩ [] htb (fun z hz => by cases hz) (by decide) (by decide) t_311 t_323 (fun H locs q9 hW hS => ?_)
  refine lv_astore (lv' := [(5, .ref q9), (0, .ref (ad 0)), (1, .int p0), (2, .int p1), (3, .int p2), (4, .ref (ad 170))]) hx hb dL_advise_15 hl (by decide) rfl (fun ls hl => ?_)
  refine lv_iconst (v := 1) hx hb dL_advise_17 (by decide) ?_
  exact q_hret (rm := hRm rm 10) (P := ((L, ad, v, o), w)) hx hb hr hlocks hW hS (by show 0 + rm.cells ≤ rm.cells; omega) (by show 0 + rm.slots ≤ rm.slots; omega) dL_advise_18 ⟨rfl, rfl⟩
