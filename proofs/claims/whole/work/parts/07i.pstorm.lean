/-! the class: storms, public -/
set_option maxHeartbeats 4000000 in
set_option maxRecDepth 100000 in
theorem c_X5_storm (l : Launch) {G : GG} {L : List Nat} {ad : Nat → Nat} {v : Nat → Nat → Int32} {o : Nat → Nat → Option Nat} {w : Nat → Int64} {ng nh nl ns : Nat} {ow gx gy gw gd : Nat → Nat} (hI : PI G.2.2.2 L ad v o ng nh nl ns ow gx gy gw gd) (hr180 : 180 ∉ L) {sx sy dx dy rad : Int} {F : Int32} {st : Nat} (hs1 : -20 ≤ sx) (hs2 : sx ≤ 39) (hs3 : -20 ≤ sy) (hs4 : sy ≤ 39) (hs5 : -3 ≤ dx) (hs6 : dx ≤ 3) (hs7 : -3 ≤ dy) (hs8 : dy ≤ 3) (hs9 : 0 ≤ rad) (hs10 : rad ≤ 5) (hs11 : st ≤ 30) (k1 : fSto (iI sx) (iI sy) (iI dx) (iI dy) (iI rad) F (nI st) = 1) (h30 : ns < 30) : CtI l G L ad v o w yX5_storm cX5_storm 9 .int ({ frames := 6, cells := 1, slots := 7, locals := 146 }) [.ref (ad 0), .int (iI sx), .int (iI sy), .int (iI dx), .int (iI dy), .int (iI rad), .int F, .int (nI st)] (fun r u => r = uTake (uTry (sPut v (iI sx) (iI sy) (iI dx) (iI dy) (iI rad) F (nI st)) ow gx gy gw gd ng nh nl sx sy dx dy rad F st) ng nl ns 12 3 ∧ u = uTake (uTry (sPut v (iI sx) (iI sy) (iI dx) (iI dy) (iI rad) F (nI st)) ow gx gy gw gd ng nh nl sx sy dx dy rad F st) ng nl ns) := by
  have hb6 := hI.g6; have hb12 := hI.h12; have hbl := hI.l6; have hbs := hI.s30
  refine q_ofI (by decide) (Nat.le_of_ble_eq_true rfl) ?_
  intro p e s m below meth c hx hb hr hml hts hown hlocks hE h0 hW hS ls hl
  generalize hH : s.heap = H at hW
  have hS : va_S (Ab G.2.2.1) s.heap H [] := hH ▸ hS
  obtain ⟨locs, hlc⟩ : ∃ z : List Loc, z = [] := ⟨_, rfl⟩
  rw [← hlc] at hS ⊢
  have hl : lv_has ls 9 [(0, .ref (ad 0)), (1, .int (iI sx)), (2, .int (iI sy)), (3, .int (iI dx)), (4, .int (iI dy)), (5, .int (iI rad)), (6, .int F), (7, .int (nI st))] := hl
  refine q_new hx hb hts hown h0 hW hS 180 hr180 rfl k_4 t_712 t_713 t_68 (by intro j hj; match j, hj with | 0, _ => rfl | 1, _ => rfl | 2, _ => rfl | 3, _ => rfl | 4, _ => rfl | 5, _ => rfl | 6, _ => rfl) (by first | decide | omega | (dsimp only; omega)) (by first | decide | omega | (dsimp only; omega)) dX5_storm_0 (fun ad1 H q9 had hW hS => ?_)
  have hI := hI.new (r := 180) (a := z32) (b := nOp) (by decide) had
  have hF : offR 180 (up1 v 180 z32) v := off_new
  generalize ho9 : up1 o 180 nOp = o1 at hW hI
  have hl : lv_has ls 9 [(0, .ref (ad1 0)), (1, .int (iI sx)), (2, .int (iI sy)), (3, .int (iI dx)), (4, .int (iI dy)), (5, .int (iI rad)), (6, .int F), (7, .int (nI st))] := by subst had; exact hl
  refine lv_dup hx hb dX5_storm_3 rfl ?_
  refine lv_iload_n hx hb dX5_storm_4 rfl (lv_at hl 1 rfl) ?_
  refine lv_iload_n hx hb dX5_storm_5 rfl (lv_at hl 2 rfl) ?_
  refine lv_iload_n hx hb dX5_storm_6 rfl (lv_at hl 3 rfl) ?_
  refine lv_iload hx hb dX5_storm_7 (lv_at hl 4 rfl) ?_
  refine lv_iload hx hb dX5_storm_9 (lv_at hl 5 rfl) ?_
  refine lv_iload hx hb dX5_storm_11 (lv_at hl 6 rfl) ?_
  refine lv_iload hx hb dX5_storm_13 (lv_at hl 7 rfl) ?_
  refine q_cIE (As := [.int (iI sx), .int (iI sy), .int (iI dx), .int (iI dy), .int (iI rad), .int F, .int (nI st)]) (rest := [.ref (ad1 180)]) (r := 180) hx hb hml hts hown hE h0 hW hS (c_X3_init l (r := 180) (List.mem_append_right _ (List.mem_singleton.mpr rfl)) rfl (iI sx) (iI sy) (iI dx) (iI dy) (iI rad) F (nI st)) mw_X3_init t_714 ⟨Nat.le_of_ble_eq_true rfl, Nat.le_of_ble_eq_true rfl⟩ rfl hl.1 (Nat.le_of_ble_eq_true rfl) dX5_storm_15 ⟨(by first | decide | omega | (dsimp only; omega)), (by first | decide | omega | (dsimp only; omega))⟩ ⟨rfl, rfl⟩ (fun H locs hW hS => ?_)
  have hI : PI G.2.2.2 (L ++ [180]) ad1 (sPut v (iI sx) (iI sy) (iI dx) (iI dy) (iI rad) F (nI st)) o1 ng nh nl ns ow gx gy gw gd := hI.put
  have hW : WD G (L ++ [180]) ad1 (sPut v (iI sx) (iI sy) (iI dx) (iI dy) (iI rad) F (nI st)) o1 w s H := hW
  refine lv_astore (lv' := [(8, .ref (ad1 180)), (0, .ref (ad1 0)), (1, .int (iI sx)), (2, .int (iI sy)), (3, .int (iI dx)), (4, .int (iI dy)), (5, .int (iI rad)), (6, .int F), (7, .int (nI st))]) hx hb dX5_storm_18 hl (by decide) rfl (fun ls hl => ?_)
  refine lv_aload hx hb dX5_storm_20 (lv_at hl 0 rfl) ?_
  refine q_cSvE (As := [.ref (ad1 180)]) (rest := []) hx hb hml hts hown hE h0 hW hS (c_X5_checkStorm l (List.mem_append_right _ (List.mem_singleton.mpr rfl)) k1) mw_X5_checkStorm t_747 ⟨Nat.le_of_ble_eq_true rfl, Nat.le_of_ble_eq_true rfl⟩ rfl hl.1 (Nat.le_of_ble_eq_true rfl) dX5_storm_22 ⟨(by first | decide | omega | (dsimp only; omega)), (by first | decide | omega | (dsimp only; omega))⟩ ⟨rfl, rfl⟩ (fun H locs hW hS => ?_)
  refine lv_aload_n hx hb dX5_storm_25 rfl (lv_at hl 1 rfl) ?_
  refine q_get hx hb hts hown hW (r := 0) (hI.c 0 (by decide)) rfl k_6 7 (by decide) rfl t_144 (x := (nI ns)) hI.eS dX5_storm_26 ?_
  refine lv_bipush (v := 30) hx hb dX5_storm_29 (by decide) ?_
  refine lv_icmp_lt (tgt := 44) hx hb dX5_storm_31 (by decide) (fun c_31 => ?_) (fun c_31 => ?_)
  · skip
    have hT : SI (sPut v (iI sx) (iI sy) (iI dx) (iI dy) (iI rad) F (nI st)) sx sy dx dy rad F st := SI_put ⟨hs1, hs2, hs3, hs4, hs5, hs6, hs7, hs8, hs9, hs10, hs11⟩
    refine lv_aload_n hx hb dX5_storm_44 rfl (lv_at hl 1 rfl) ?_
    refine lv_aload hx hb dX5_storm_45 (lv_at hl 0 rfl) ?_
    refine q_cVvE (As := [.ref (ad1 180)]) (rest := []) (r := 0) hx hb hml hts hown hE h0 hW hS (c_X5_tryStorm l hI (List.mem_append_right _ (List.mem_singleton.mpr rfl)) hT) mw_X5_tryStorm (hI.c 0 (by decide)) rfl k_6 t_757 ⟨Nat.le_of_ble_eq_true rfl, Nat.le_of_ble_eq_true rfl⟩ rfl hl.1 (Nat.le_of_ble_eq_true rfl) dX5_storm_47 ⟨(by first | decide | omega | (dsimp only; omega)), (by first | decide | omega | (dsimp only; omega))⟩ ⟨rfl, rfl⟩ (fun H locs hW hS => ?_)
    have hI := hI.kp (kp_uTry (ow := ow) (gx := gx) (gy := gy) (gw := gw) (gd := gd) (ng := ng) (nh := nh) (nl := nl) (sx := sx) (sy := sy) (dx := dx) (dy := dy) (rad := rad) (F := F) (st := st))
    refine lv_aload_n hx hb dX5_storm_50 rfl (lv_at hl 1 rfl) ?_
    refine q_cVvE (As := []) (rest := []) (r := 0) hx hb hml hts hown hE h0 hW hS (c_X5_takeTrialOver l hI h30) mw_X5_takeTrialOver (hI.c 0 (by decide)) rfl k_6 t_809 ⟨Nat.le_of_ble_eq_true rfl, Nat.le_of_ble_eq_true rfl⟩ rfl hl.1 (Nat.le_of_ble_eq_true rfl) dX5_storm_51 ⟨(by first | decide | omega | (dsimp only; omega)), (by first | decide | omega | (dsimp only; omega))⟩ ⟨rfl, rfl⟩ (fun H locs hW hS => ?_)
    refine lv_aload_n hx hb dX5_storm_54 rfl (lv_at hl 1 rfl) ?_
    refine q_getr hx hb hts hown hW (r := 0) (hI.c 0 (by decide)) rfl k_6 5 (by decide) rfl t_142 (a := ad1 6) (hI.o0 5 (by decide)) dX5_storm_55 ?_
    refine q_getr hx hb hts hown hW (r := 6) (hI.c 6 (by decide)) rfl k_5 5 (by decide) rfl t_122 (a := ad1 12) (hI.o6 5 (by decide)) dX5_storm_58 ?_
    refine lv_iconst (v := 3) hx hb dX5_storm_61 (by decide) ?_
    refine q_iald hx hb hW (r := 12) (hI.c 12 (by decide)) rfl 3 rfl (by decide) (by decide) (x := ((uTake (uTry (sPut v (iI sx) (iI sy) (iI dx) (iI dy) (iI rad) F (nI st)) ow gx gy gw gd ng nh nl sx sy dx dy rad F st) ng nl ns) 12 3)) rfl dX5_storm_62 ?_
    have hW := hW.forget hr180 had ho9 (fun _ _ => rfl)
    exact q_iret hx hb hr hlocks hW hS (by first | decide | omega | (dsimp only; omega)) (by first | decide | omega | (dsimp only; omega)) dX5_storm_63 (⟨rfl, rfl⟩)
  · skip
    exact absurd (nI_lt (b := 30) h30 (by decide)) c_31

set_option maxHeartbeats 4000000 in
set_option maxRecDepth 100000 in
theorem c_X5_wouldBe (l : Launch) {G : GG} {L : List Nat} {ad : Nat → Nat} {v : Nat → Nat → Int32} {o : Nat → Nat → Option Nat} {w : Nat → Int64} {ng nh nl ns : Nat} {ow gx gy gw gd : Nat → Nat} (hI : PI G.2.2.2 L ad v o ng nh nl ns ow gx gy gw gd) (hr180 : 180 ∉ L) {sx sy dx dy rad : Int} {F : Int32} {st : Nat} (hs1 : -20 ≤ sx) (hs2 : sx ≤ 39) (hs3 : -20 ≤ sy) (hs4 : sy ≤ 39) (hs5 : -3 ≤ dx) (hs6 : dx ≤ 3) (hs7 : -3 ≤ dy) (hs8 : dy ≤ 3) (hs9 : 0 ≤ rad) (hs10 : rad ≤ 5) (hs11 : st ≤ 30) (k1 : fSto (iI sx) (iI sy) (iI dx) (iI dy) (iI rad) F (nI st) = 1) {what : Nat} (hw9 : what < 6) : CtI l G L ad v o w yX5_wouldBe cX5_wouldBe 10 .int ({ frames := 6, cells := 1, slots := 7, locals := 146 }) [.ref (ad 0), .int (iI sx), .int (iI sy), .int (iI dx), .int (iI dy), .int (iI rad), .int F, .int (nI st), .int (nI what)] (fun r u => r = uTry (sPut v (iI sx) (iI sy) (iI dx) (iI dy) (iI rad) F (nI st)) ow gx gy gw gd ng nh nl sx sy dx dy rad F st 12 what ∧ u = uTry (sPut v (iI sx) (iI sy) (iI dx) (iI dy) (iI rad) F (nI st)) ow gx gy gw gd ng nh nl sx sy dx dy rad F st) := by
  have hb6 := hI.g6; have hb12 := hI.h12; have hbl := hI.l6; have hbs := hI.s30
  refine q_ofI (by decide) (Nat.le_of_ble_eq_true rfl) ?_
  intro p e s m below meth c hx hb hr hml hts hown hlocks hE h0 hW hS ls hl
  generalize hH : s.heap = H at hW
  have hS : va_S (Ab G.2.2.1) s.heap H [] := hH ▸ hS
  obtain ⟨locs, hlc⟩ : ∃ z : List Loc, z = [] := ⟨_, rfl⟩
  rw [← hlc] at hS ⊢
  have hl : lv_has ls 10 [(0, .ref (ad 0)), (1, .int (iI sx)), (2, .int (iI sy)), (3, .int (iI dx)), (4, .int (iI dy)), (5, .int (iI rad)), (6, .int F), (7, .int (nI st)), (8, .int (nI what))] := hl
  refine q_new hx hb hts hown h0 hW hS 180 hr180 rfl k_4 t_712 t_713 t_68 (by intro j hj; match j, hj with | 0, _ => rfl | 1, _ => rfl | 2, _ => rfl | 3, _ => rfl | 4, _ => rfl | 5, _ => rfl | 6, _ => rfl) (by first | decide | omega | (dsimp only; omega)) (by first | decide | omega | (dsimp only; omega)) dX5_wouldBe_0 (fun ad1 H q9 had hW hS => ?_)
  have hI := hI.new (r := 180) (a := z32) (b := nOp) (by decide) had
  have hF : offR 180 (up1 v 180 z32) v := off_new
  generalize ho9 : up1 o 180 nOp = o1 at hW hI
  have hl : lv_has ls 10 [(0, .ref (ad1 0)), (1, .int (iI sx)), (2, .int (iI sy)), (3, .int (iI dx)), (4, .int (iI dy)), (5, .int (iI rad)), (6, .int F), (7, .int (nI st)), (8, .int (nI what))] := by subst had; exact hl
  refine lv_dup hx hb dX5_wouldBe_3 rfl ?_
  refine lv_iload_n hx hb dX5_wouldBe_4 rfl (lv_at hl 1 rfl) ?_
  refine lv_iload_n hx hb dX5_wouldBe_5 rfl (lv_at hl 2 rfl) ?_
  refine lv_iload_n hx hb dX5_wouldBe_6 rfl (lv_at hl 3 rfl) ?_
  refine lv_iload hx hb dX5_wouldBe_7 (lv_at hl 4 rfl) ?_
  refine lv_iload hx hb dX5_wouldBe_9 (lv_at hl 5 rfl) ?_
  refine lv_iload hx hb dX5_wouldBe_11 (lv_at hl 6 rfl) ?_
  refine lv_iload hx hb dX5_wouldBe_13 (lv_at hl 7 rfl) ?_
  refine q_cIE (As := [.int (iI sx), .int (iI sy), .int (iI dx), .int (iI dy), .int (iI rad), .int F, .int (nI st)]) (rest := [.ref (ad1 180)]) (r := 180) hx hb hml hts hown hE h0 hW hS (c_X3_init l (r := 180) (List.mem_append_right _ (List.mem_singleton.mpr rfl)) rfl (iI sx) (iI sy) (iI dx) (iI dy) (iI rad) F (nI st)) mw_X3_init t_714 ⟨Nat.le_of_ble_eq_true rfl, Nat.le_of_ble_eq_true rfl⟩ rfl hl.1 (Nat.le_of_ble_eq_true rfl) dX5_wouldBe_15 ⟨(by first | decide | omega | (dsimp only; omega)), (by first | decide | omega | (dsimp only; omega))⟩ ⟨rfl, rfl⟩ (fun H locs hW hS => ?_)
  have hI : PI G.2.2.2 (L ++ [180]) ad1 (sPut v (iI sx) (iI sy) (iI dx) (iI dy) (iI rad) F (nI st)) o1 ng nh nl ns ow gx gy gw gd := hI.put
  have hW : WD G (L ++ [180]) ad1 (sPut v (iI sx) (iI sy) (iI dx) (iI dy) (iI rad) F (nI st)) o1 w s H := hW
  refine lv_astore (lv' := [(9, .ref (ad1 180)), (0, .ref (ad1 0)), (1, .int (iI sx)), (2, .int (iI sy)), (3, .int (iI dx)), (4, .int (iI dy)), (5, .int (iI rad)), (6, .int F), (7, .int (nI st)), (8, .int (nI what))]) hx hb dX5_wouldBe_18 hl (by decide) rfl (fun ls hl => ?_)
  refine lv_aload hx hb dX5_wouldBe_20 (lv_at hl 0 rfl) ?_
  refine q_cSvE (As := [.ref (ad1 180)]) (rest := []) hx hb hml hts hown hE h0 hW hS (c_X5_checkStorm l (List.mem_append_right _ (List.mem_singleton.mpr rfl)) k1) mw_X5_checkStorm t_747 ⟨Nat.le_of_ble_eq_true rfl, Nat.le_of_ble_eq_true rfl⟩ rfl hl.1 (Nat.le_of_ble_eq_true rfl) dX5_wouldBe_22 ⟨(by first | decide | omega | (dsimp only; omega)), (by first | decide | omega | (dsimp only; omega))⟩ ⟨rfl, rfl⟩ (fun H locs hW hS => ?_)
  refine lv_iload hx hb dX5_wouldBe_25 (lv_at hl 9 rfl) ?_
  refine lv_bipush (v := 6) hx hb dX5_wouldBe_27 (by decide) ?_
  refine q_cSvE (As := [.int (nI what), .int 6]) (rest := []) hx hb hml hts hown hE h0 hW hS (c_X5_checkWhat l (n := 6) hw9 (by decide)) mw_X5_checkWhat t_626 ⟨Nat.le_of_ble_eq_true rfl, Nat.le_of_ble_eq_true rfl⟩ rfl hl.1 (Nat.le_of_ble_eq_true rfl) dX5_wouldBe_29 ⟨(by first | decide | omega | (dsimp only; omega)), (by first | decide | omega | (dsimp only; omega))⟩ ⟨rfl, rfl⟩ (fun H locs hW hS => ?_)
  have hT : SI (sPut v (iI sx) (iI sy) (iI dx) (iI dy) (iI rad) F (nI st)) sx sy dx dy rad F st := SI_put ⟨hs1, hs2, hs3, hs4, hs5, hs6, hs7, hs8, hs9, hs10, hs11⟩
  refine lv_aload_n hx hb dX5_wouldBe_32 rfl (lv_at hl 1 rfl) ?_
  refine lv_aload hx hb dX5_wouldBe_33 (lv_at hl 0 rfl) ?_
  refine q_cVvE (As := [.ref (ad1 180)]) (rest := []) (r := 0) hx hb hml hts hown hE h0 hW hS (c_X5_tryStorm l hI (List.mem_append_right _ (List.mem_singleton.mpr rfl)) hT) mw_X5_tryStorm (hI.c 0 (by decide)) rfl k_6 t_757 ⟨Nat.le_of_ble_eq_true rfl, Nat.le_of_ble_eq_true rfl⟩ rfl hl.1 (Nat.le_of_ble_eq_true rfl) dX5_wouldBe_35 ⟨(by first | decide | omega | (dsimp only; omega)), (by first | decide | omega | (dsimp only; omega))⟩ ⟨rfl, rfl⟩ (fun H locs hW hS => ?_)
  refine lv_aload_n hx hb dX5_wouldBe_38 rfl (lv_at hl 1 rfl) ?_
  refine q_getr hx hb hts hown hW (r := 0) (hI.c 0 (by decide)) rfl k_6 5 (by decide) rfl t_142 (a := ad1 6) (hI.o0 5 (by decide)) dX5_wouldBe_39 ?_
  refine q_getr hx hb hts hown hW (r := 6) (hI.c 6 (by decide)) rfl k_5 5 (by decide) rfl t_122 (a := ad1 12) (hI.o6 5 (by decide)) dX5_wouldBe_42 ?_
  refine lv_iload hx hb dX5_wouldBe_45 (lv_at hl 9 rfl) ?_
  refine q_iald hx hb hW (r := 12) (hI.c 12 (by decide)) rfl what rfl (show _ < 6 by omega) (by decide) (x := ((uTry (sPut v (iI sx) (iI sy) (iI dx) (iI dy) (iI rad) F (nI st)) ow gx gy gw gd ng nh nl sx sy dx dy rad F st) 12 what)) rfl dX5_wouldBe_47 ?_
  have hW := hW.forget hr180 had ho9 (fun _ _ => rfl)
  exact q_iret hx hb hr hlocks hW hS (by first | decide | omega | (dsimp only; omega)) (by first | decide | omega | (dsimp only; omega)) dX5_wouldBe_48 (⟨rfl, rfl⟩)

set_option maxHeartbeats 4000000 in
set_option maxRecDepth 100000 in
theorem c_X5_westStorm (l : Launch) {G : GG} {L : List Nat} {ad : Nat → Nat} {v : Nat → Nat → Int32} {o : Nat → Nat → Option Nat} {w : Nat → Int64} (hr180 : 180 ∉ L) {a b c0 : Int32} : CtRw l G L ad v o w yX5_westStorm cX5_westStorm 3 (.object "HailPool$Storm") ({ frames := 2, cells := 1, slots := 7, locals := 39 }) [.int a, .int b, .int c0] (fun ra P => ∃ q, ra = q ∧ P = (L ++ [180], upA ad 180 q, sPut v 0 a 2 0 b c0 12, up1 o 180 nOp)) := by
  refine Met.ofW (cc := cX5_westStorm) (maxL := 3) (ret := (some (.object "HailPool$Storm"))) (by decide) rfl ?_
  intro p e s m args below meth c s₁ B hml hv
  obtain ⟨rfl, hE, h0, hW⟩ := hv
  have hx := B.exec; have hb := B.bytes; have hr := B.returns; have hts := hE.hts (args := ([.int a, .int b, .int c0] : List Value).toArray); have hown : s.vm.findClass RX5 = some m.cls := findClass_of_methodNamed B.named; have hlocks := B.notSynchronized
  have hl := lv_entry ([.int a, .int b, .int c0] : List Value) (n := 3) (Nat.le_of_ble_eq_true rfl)
  rw [lg_entry_eq]
  generalize (lg_sl ([.int a, .int b, .int c0] : List Value) ++ List.replicate (3 - (lg_sl ([.int a, .int b, .int c0] : List Value)).length) Slot.unset).toArray = ls at hl ⊢
  generalize hH : s.heap = H at hW ⊢
  have hS : va_S (Ab G.2.2.1) s.heap H [] := hH ▸ va_S.rf
  obtain ⟨locs, hlc⟩ : ∃ z : List Loc, z = [] := ⟨_, rfl⟩
  rw [← hlc] at hS ⊢
  have hl : lv_has ls 3 [(0, .int a), (1, .int b), (2, .int c0)] := hl
  refine q_new hx hb hts hown h0 hW hS 180 hr180 rfl k_4 t_712 t_713 t_68 (by intro j hj; match j, hj with | 0, _ => rfl | 1, _ => rfl | 2, _ => rfl | 3, _ => rfl | 4, _ => rfl | 5, _ => rfl | 6, _ => rfl) (by first | decide | omega | (dsimp only; omega)) (by first | decide | omega | (dsimp only; omega)) dX5_westStorm_0 (fun ad1 H q9 had hW hS => ?_)
  generalize ho9 : up1 o 180 nOp = o1 at hW
  have hl : lv_has ls 3 [(0, .int a), (1, .int b), (2, .int c0)] := hl
  refine lv_dup hx hb dX5_westStorm_3 rfl ?_
  refine lv_iconst (v := 0) hx hb dX5_westStorm_4 (by decide) ?_
  refine lv_iload_n hx hb dX5_westStorm_5 rfl (lv_at hl 0 rfl) ?_
  refine lv_iconst (v := 2) hx hb dX5_westStorm_6 (by decide) ?_
  refine lv_iconst (v := 0) hx hb dX5_westStorm_7 (by decide) ?_
  refine lv_iload_n hx hb dX5_westStorm_8 rfl (lv_at hl 1 rfl) ?_
  refine lv_iload_n hx hb dX5_westStorm_9 rfl (lv_at hl 2 rfl) ?_
  refine lv_bipush (v := 12) hx hb dX5_westStorm_10 (by decide) ?_
  refine q_cIE (As := [.int 0, .int a, .int 2, .int 0, .int b, .int c0, .int 12]) (rest := [.ref (ad1 180)]) (r := 180) hx hb hml hts hown hE h0 hW hS (c_X3_init l (r := 180) (List.mem_append_right _ (List.mem_singleton.mpr rfl)) rfl 0 a 2 0 b c0 12) mw_X3_init t_714 ⟨Nat.le_of_ble_eq_true rfl, Nat.le_of_ble_eq_true rfl⟩ rfl hl.1 (Nat.le_of_ble_eq_true rfl) dX5_westStorm_12 ⟨(by first | decide | omega | (dsimp only; omega)), (by first | decide | omega | (dsimp only; omega))⟩ ⟨rfl, rfl⟩ (fun H locs hW hS => ?_)
  exact q_aretw hx hb hr (Or.inl ⟨_, rfl⟩) hlocks hW hS (by first | decide | omega | (dsimp only; omega)) (by first | decide | omega | (dsimp only; omega)) dX5_westStorm_15 (⟨q9, by rw [had, upA_s], by rw [had, ← ho9]; rfl⟩)

set_option maxHeartbeats 4000000 in
set_option maxRecDepth 100000 in
theorem c_X5_worst (l : Launch) {G : GG} {L : List Nat} {ad : Nat → Nat} {v : Nat → Nat → Int32} {o : Nat → Nat → Option Nat} {w : Nat → Int64} {ng nh nl ns : Nat} {ow gx gy gw gd : Nat → Nat} (hI : PI G.2.2.2 L ad v o ng nh nl ns ow gx gy gw gd) (hr180 : 180 ∉ L) {rad : Int} {F : Int32} (r1 : 0 ≤ rad) (r2 : rad ≤ 5) (k1 : fIn (iI rad) 0 5 = 1) (k2 : fIn F 1 20 = 1) : CtI l G L ad v o w yX5_worst cX5_worst 7 .int ({ frames := 6, cells := 1, slots := 7, locals := 146 }) [.ref (ad 0), .int (iI rad), .int F] (fun r u => r = (itr (cWo ow gx gy gw gd ng nh nl rad F) 20 (sPut v 0 0 2 0 (iI rad) F 12, 0, -1)).2.2 ∧ u = (itr (cWo ow gx gy gw gd ng nh nl rad F) 20 (sPut v 0 0 2 0 (iI rad) F 12, 0, -1)).1) := by
  have hb6 := hI.g6; have hb12 := hI.h12; have hbl := hI.l6; have hbs := hI.s30
  refine q_ofI (by decide) (Nat.le_of_ble_eq_true rfl) ?_
  intro p e s m below meth c hx hb hr hml hts hown hlocks hE h0 hW hS ls hl
  generalize hH : s.heap = H at hW
  have hS : va_S (Ab G.2.2.1) s.heap H [] := hH ▸ hS
  obtain ⟨locs, hlc⟩ : ∃ z : List Loc, z = [] := ⟨_, rfl⟩
  rw [← hlc] at hS ⊢
  have hl : lv_has ls 7 [(0, .ref (ad 0)), (1, .int (iI rad)), (2, .int F)] := hl
  refine lv_iconst (v := 0) hx hb dX5_worst_0 (by decide) ?_
  refine lv_iload_n hx hb dX5_worst_1 rfl (lv_at hl 1 rfl) ?_
  refine lv_iload_n hx hb dX5_worst_2 rfl (lv_at hl 2 rfl) ?_
  refine q_cSrw (As := [.int 0, .int (iI rad), .int F]) (rest := []) hx hb hml hts hown hE h0 hW hS (c_X5_westStorm l hr180) mw_X5_westStorm t_836 ⟨Nat.le_of_ble_eq_true rfl, Nat.le_of_ble_eq_true rfl⟩ rfl hl.1 (Nat.le_of_ble_eq_true rfl) dX5_worst_3 ⟨(by first | decide | omega | (dsimp only; omega)), (by first | decide | omega | (dsimp only; omega))⟩ (fun ra P H locs hp hW hS => ?_)
  obtain ⟨q9, hq9, hP9⟩ := hp
  subst hP9
  subst ra
  obtain ⟨ad1, had⟩ : ∃ z, z = upA ad 180 q9 := ⟨_, rfl⟩
  have hW : WD G (L ++ [180]) (upA ad 180 q9) (sPut v 0 0 2 0 (iI rad) F 12) (up1 o 180 nOp) w s H := hW
  rw [← had] at hW
  have hI := hI.new (r := 180) (a := z32) (b := nOp) (by decide) had
  have hI : PI G.2.2.2 (L ++ [180]) ad1 (sPut v 0 0 2 0 (iI rad) F 12) (up1 o 180 nOp) ng nh nl ns ow gx gy gw gd := hI.put
  generalize ho9 : up1 o 180 nOp = o1 at hW hI
  have hq9 : q9 = ad1 180 := by rw [had, upA_s]
  rw [hq9]
  have hl : lv_has ls 7 [(0, .ref (ad1 0)), (1, .int (iI rad)), (2, .int F)] := by subst had; exact hl
  refine lv_astore_n (lv' := [(3, .ref (ad1 180)), (0, .ref (ad1 0)), (1, .int (iI rad)), (2, .int F)]) hx hb dX5_worst_6 rfl hl (by decide) rfl (fun ls hl => ?_)
  refine lv_aload_n hx hb dX5_worst_7 rfl (lv_at hl 0 rfl) ?_
  refine q_cSvE (As := [.ref (ad1 180)]) (rest := []) hx hb hml hts hown hE h0 hW hS (c_X5_checkStorm l (List.mem_append_right _ (List.mem_singleton.mpr rfl)) (show fSto 0 0 2 0 (iI rad) F 12 = 1 from (fSto_of (by decide) (by decide) (by decide) (by decide) k1 k2 (by decide)))) mw_X5_checkStorm t_747 ⟨Nat.le_of_ble_eq_true rfl, Nat.le_of_ble_eq_true rfl⟩ rfl hl.1 (Nat.le_of_ble_eq_true rfl) dX5_worst_8 ⟨(by first | decide | omega | (dsimp only; omega)), (by first | decide | omega | (dsimp only; omega))⟩ ⟨rfl, rfl⟩ (fun H locs hW hS => ?_)
  refine lv_iconst (v := (-1)) hx hb dX5_worst_11 (by decide) ?_
  refine lv_istore (lv' := [(4, .int (-1)), (3, .ref (ad1 180)), (0, .ref (ad1 0)), (1, .int (iI rad)), (2, .int F)]) hx hb dX5_worst_12 hl (by decide) rfl (fun ls hl => ?_)
  refine lv_iconst (v := 0) hx hb dX5_worst_14 (by decide) ?_
  refine lv_istore (lv' := [(5, .int 0), (4, .int (-1)), (3, .ref (ad1 180)), (0, .ref (ad1 0)), (1, .int (iI rad)), (2, .int F)]) hx hb dX5_worst_15 hl (by decide) rfl (fun ls hl => ?_)
  refine lv_iconst (v := 0) hx hb dX5_worst_17 (by decide) ?_
  refine lv_istore (lv' := [(6, .int 0), (5, .int 0), (4, .int (-1)), (3, .ref (ad1 180)), (0, .ref (ad1 0)), (1, .int (iI rad)), (2, .int F)]) hx hb dX5_worst_18 hl (by decide) rfl (fun ls hl => ?_)
  suffices LP_20 : ∀ (n_20 i : Nat) (x4_20 : Int32) (x5_20 : Int32) (x6_20 : Int32)  (u_20 : Nat → Nat → Int32) (H : Heap) (locs : List Loc) (ls : Array Slot), 20 + 1 ≤ i + n_20 → i ≤ 20 → (itr (cWo ow gx gy gw gd ng nh nl rad F) i (sPut v 0 0 2 0 (iI rad) F 12, 0, -1)).2.2 = x4_20 → (itr (cWo ow gx gy gw gd ng nh nl rad F) i (sPut v 0 0 2 0 (iI rad) F 12, 0, -1)).2.1 = x5_20 → nI i = x6_20 → (itr (cWo ow gx gy gw gd ng nh nl rad F) i (sPut v 0 0 2 0 (iI rad) F 12, 0, -1)).1 = u_20 → WD G (L ++ [180]) ad1 u_20 o1 w s H → va_S (Ab G.2.2.1) s.heap H locs → lv_has ls 7 [(6, .int x6_20), (5, .int x5_20), (4, .int x4_20), (3, .ref (ad1 180)), (0, .ref (ad1 0))] → W p l e ({ frames := 6, cells := 1, slots := 7, locals := 146 } : Room) s m ([.ref (ad 0), .int (iI rad), .int F] : List Value).toArray below meth c H locs (0 + 1) (0 + 7) (MQ below (va_Qi (fun r u => r = (itr (cWo ow gx gy gw gd ng nh nl rad F) 20 (sPut v 0 0 2 0 (iI rad) F 12, 0, -1)).2.2 ∧ u = (itr (cWo ow gx gy gw gd ng nh nl rad F) 20 (sPut v 0 0 2 0 (iI rad) F 12, 0, -1)).1) (fun u t => WD G L ad u o w t t.heap) (Ab G.2.2.1)) ([.ref (ad 0), .int (iI rad), .int F] : List Value).toArray s ({ frames := 6, cells := 1, slots := 7, locals := 146 } : Room).cells ({ frames := 6, cells := 1, slots := 7, locals := 146 } : Room).slots (Ab G.2.2.1)) (F0 m 20 ls []) from LP_20 (20 + 1) 0 _ _ _   _ H locs ls (by omega) (by omega) (by rfl) (by rfl) (by rfl) (by rfl)  hW hS (lv_sub hl [0, 1, 2, 3, 4] rfl)
  intro n_20
  induction n_20 with
  | zero => intro i x4_20 x5_20 x6_20  u_20 H locs ls h1 h2; exact absurd h1 (by omega)
  | succ n_20 ih_20 =>
    intro i x4_20 x5_20 x6_20  u_20 H locs ls hn_20 hi_20 ex4_20 ex5_20 ex6_20 eu_20  hW hS hl
    subst ex4_20
    subst ex5_20
    subst ex6_20
    subst eu_20
    have hI : PI G.2.2.2 (L ++ [180]) ad1 ((itr (cWo ow gx gy gw gd ng nh nl rad F) i (sPut v 0 0 2 0 (iI rad) F 12, 0, -1)).1) o1 ng nh nl ns ow gx gy gw gd := hI.kY (kY_cWos (t := (sPut v 0 0 2 0 (iI rad) F 12, 0, -1)))
    refine lv_iload hx hb dX5_worst_20 (lv_at hl 0 rfl) ?_
    refine lv_bipush (v := 20) hx hb dX5_worst_22 (by decide) ?_
    refine lv_icmp_ge (tgt := 73) hx hb dX5_worst_24 (by decide) (fun c_24 => ?_) (fun c_24 => ?_)
    · skip
      have hq_20 := (ge_i (n := 20) (by omega) hi_20 c_24).symm
      subst hq_20
      refine lv_iload hx hb dX5_worst_73 (lv_at hl 2 rfl) ?_
      have hW := hW.forget hr180 had ho9 (fun _ _ => rfl)
      exact q_iret hx hb hr hlocks hW hS (by first | decide | omega | (dsimp only; omega)) (by first | decide | omega | (dsimp only; omega)) dX5_worst_75 (⟨rfl, rfl⟩)
    · skip
      have hlt_20 := lt_i (n := 20) (by omega) hi_20 c_24
      refine lv_aload_n hx hb dX5_worst_27 rfl (lv_at hl 3 rfl) ?_
      refine lv_iload hx hb dX5_worst_28 (lv_at hl 0 rfl) ?_
      refine q_put hx hb hts hown hW hS (r := 180) (List.mem_append_right _ (List.mem_singleton.mpr rfl)) rfl k_4 1 (by decide) rfl t_721 rfl (t := .int) (by decide +kernel) rfl rfl dX5_worst_30 (fun H locs hW hS => ?_)
      have hI : PI G.2.2.2 (L ++ [180]) ad1 (up2 ((itr (cWo ow gx gy gw gd ng nh nl rad F) i (sPut v 0 0 2 0 (iI rad) F 12, 0, -1)).1) 180 1 (nI i)) o1 ng nh nl ns ow gx gy gw gd := hI.kY keepY_up
      have hT : SI (up2 ((itr (cWo ow gx gy gw gd ng nh nl rad F) i (sPut v 0 0 2 0 (iI rad) F 12, 0, -1)).1) 180 1 (nI i)) 0 (i : Int) 2 0 rad F 12 := SI.kY (v := sPut v 0 0 2 0 (iI rad) F 12) (sy := 0) ⟨⟨rfl, rfl, rfl, rfl, rfl, rfl, rfl⟩, ⟨by decide, by decide, by decide, by decide, by decide, by decide, by decide, by decide, r1, r2, by decide⟩⟩ (keepY_up.tr (kY_cWos (t := (sPut v 0 0 2 0 (iI rad) F 12, 0, -1)))) (up2_s.trans (iI_n i).symm) (by omega) (by omega)
      refine lv_aload_n hx hb dX5_worst_33 rfl (lv_at hl 4 rfl) ?_
      refine lv_aload_n hx hb dX5_worst_34 rfl (lv_at hl 3 rfl) ?_
      refine q_cVvE (As := [.ref (ad1 180)]) (rest := []) (r := 0) hx hb hml hts hown hE h0 hW hS (c_X5_tryStorm l hI (List.mem_append_right _ (List.mem_singleton.mpr rfl)) hT) mw_X5_tryStorm (hI.c 0 (by decide)) rfl k_6 t_757 ⟨Nat.le_of_ble_eq_true rfl, Nat.le_of_ble_eq_true rfl⟩ rfl hl.1 (Nat.le_of_ble_eq_true rfl) dX5_worst_35 ⟨(by first | decide | omega | (dsimp only; omega)), (by first | decide | omega | (dsimp only; omega))⟩ ⟨rfl, rfl⟩ (fun H locs hW hS => ?_)
      refine lv_aload_n hx hb dX5_worst_38 rfl (lv_at hl 4 rfl) ?_
      refine q_getr hx hb hts hown hW (r := 0) (hI.c 0 (by decide)) rfl k_6 5 (by decide) rfl t_142 (a := ad1 6) (hI.o0 5 (by decide)) dX5_worst_39 ?_
      refine q_getr hx hb hts hown hW (r := 6) (hI.c 6 (by decide)) rfl k_5 5 (by decide) rfl t_122 (a := ad1 12) (hI.o6 5 (by decide)) dX5_worst_42 ?_
      refine lv_iconst (v := 3) hx hb dX5_worst_45 (by decide) ?_
      refine q_iald hx hb hW (r := 12) (hI.c 12 (by decide)) rfl 3 rfl (by decide) (by decide) (x := ((uTry (up2 ((itr (cWo ow gx gy gw gd ng nh nl rad F) i (sPut v 0 0 2 0 (iI rad) F 12, 0, -1)).1) 180 1 (nI i)) ow gx gy gw gd ng nh nl 0 (i : Int) 2 0 rad F 12) 12 3)) rfl dX5_worst_46 ?_
      refine lv_iload hx hb dX5_worst_47 (lv_at hl 1 rfl) ?_
      refine lv_icmp_le (tgt := 67) hx hb dX5_worst_49 (by decide) (fun c_49 => ?_) (fun c_49 => ?_)
      · skip
        refine lv_iinc (v := (nI (i + 1))) (lv' := [(6, .int (nI (i + 1))), (5, .int ((itr (cWo ow gx gy gw gd ng nh nl rad F) i (sPut v 0 0 2 0 (iI rad) F 12, 0, -1)).2.1)), (4, .int ((itr (cWo ow gx gy gw gd ng nh nl rad F) i (sPut v 0 0 2 0 (iI rad) F 12, 0, -1)).2.2)), (3, .ref (ad1 180)), (0, .ref (ad1 0))]) hx hb dX5_worst_67 hl (k := 0) rfl (inc_nI _) (by decide) rfl (fun ls hl => ?_)
        refine lv_goto (tgt := 20) hx hb dX5_worst_70 (by decide) ?_
        exact ih_20 (i + 1) _ _ _   _ H locs ls (by omega) (by omega) (by rw [itr_s]; first | exact congrArg (fun z => z.2.2) (cWo_0 c_49) | exact congrArg (fun z => z.2.2) (cWo_1 c_49)) (by rw [itr_s]; first | exact congrArg (fun z => z.2.1) (cWo_0 c_49) | exact congrArg (fun z => z.2.1) (cWo_1 c_49)) (by rfl) (by rw [itr_s]; first | exact congrArg (fun z => z.1) (cWo_0 c_49) | exact congrArg (fun z => z.1) (cWo_1 c_49))  hW hS (lv_sub hl [0, 1, 2, 3, 4] rfl)
      · skip
        refine lv_aload_n hx hb dX5_worst_52 rfl (lv_at hl 4 rfl) ?_
        refine q_getr hx hb hts hown hW (r := 0) (hI.c 0 (by decide)) rfl k_6 5 (by decide) rfl t_142 (a := ad1 6) (hI.o0 5 (by decide)) dX5_worst_53 ?_
        refine q_getr hx hb hts hown hW (r := 6) (hI.c 6 (by decide)) rfl k_5 5 (by decide) rfl t_122 (a := ad1 12) (hI.o6 5 (by decide)) dX5_worst_56 ?_
        refine lv_iconst (v := 3) hx hb dX5_worst_59 (by decide) ?_
        refine q_iald hx hb hW (r := 12) (hI.c 12 (by decide)) rfl 3 rfl (by decide) (by decide) (x := ((uTry (up2 ((itr (cWo ow gx gy gw gd ng nh nl rad F) i (sPut v 0 0 2 0 (iI rad) F 12, 0, -1)).1) 180 1 (nI i)) ow gx gy gw gd ng nh nl 0 (i : Int) 2 0 rad F 12) 12 3)) rfl dX5_worst_60 ?_
        refine lv_istore (lv' := [(5, .int ((uTry (up2 ((itr (cWo ow gx gy gw gd ng nh nl rad F) i (sPut v 0 0 2 0 (iI rad) F 12, 0, -1)).1) 180 1 (nI i)) ow gx gy gw gd ng nh nl 0 (i : Int) 2 0 rad F 12) 12 3)), (6, .int (nI i)), (4, .int ((itr (cWo ow gx gy gw gd ng nh nl rad F) i (sPut v 0 0 2 0 (iI rad) F 12, 0, -1)).2.2)), (3, .ref (ad1 180)), (0, .ref (ad1 0))]) hx hb dX5_worst_61 hl (by decide) rfl (fun ls hl => ?_)
        refine lv_iload hx hb dX5_worst_63 (lv_at hl 1 rfl) ?_
        refine lv_istore (lv' := [(4, .int (nI i)), (5, .int ((uTry (up2 ((itr (cWo ow gx gy gw gd ng nh nl rad F) i (sPut v 0 0 2 0 (iI rad) F 12, 0, -1)).1) 180 1 (nI i)) ow gx gy gw gd ng nh nl 0 (i : Int) 2 0 rad F 12) 12 3)), (6, .int (nI i)), (3, .ref (ad1 180)), (0, .ref (ad1 0))]) hx hb dX5_worst_65 hl (by decide) rfl (fun ls hl => ?_)
        refine lv_iinc (v := (nI (i + 1))) (lv' := [(6, .int (nI (i + 1))), (4, .int (nI i)), (5, .int ((uTry (up2 ((itr (cWo ow gx gy gw gd ng nh nl rad F) i (sPut v 0 0 2 0 (iI rad) F 12, 0, -1)).1) 180 1 (nI i)) ow gx gy gw gd ng nh nl 0 (i : Int) 2 0 rad F 12) 12 3)), (3, .ref (ad1 180)), (0, .ref (ad1 0))]) hx hb dX5_worst_67 hl (k := 2) rfl (inc_nI _) (by decide) rfl (fun ls hl => ?_)
        refine lv_goto (tgt := 20) hx hb dX5_worst_70 (by decide) ?_
        exact ih_20 (i + 1) _ _ _   _ H locs ls (by omega) (by omega) (by rw [itr_s]; first | exact congrArg (fun z => z.2.2) (cWo_0 c_49) | exact congrArg (fun z => z.2.2) (cWo_1 c_49)) (by rw [itr_s]; first | exact congrArg (fun z => z.2.1) (cWo_0 c_49) | exact congrArg (fun z => z.2.1) (cWo_1 c_49)) (by rfl) (by rw [itr_s]; first | exact congrArg (fun z => z.1) (cWo_0 c_49) | exact congrArg (fun z => z.1) (cWo_1 c_49))  hW hS (lv_sub hl [0, 2, 1, 3, 4] rfl)

set_option maxHeartbeats 4000000 in
set_option maxRecDepth 100000 in
theorem c_X5_advise (l : Launch) {G : GG} {L : List Nat} {ad : Nat → Nat} {v : Nat → Nat → Int32} {o : Nat → Nat → Option Nat} {w : Nat → Int64} {ng nh nl ns : Nat} {ow gx gy gw gd : Nat → Nat} (hI : PI G.2.2.2 L ad v o ng nh nl ns ow gx gy gw gd) (hr180 : 180 ∉ L) {y : Nat} (y9 : y < 20) (k0 : fIn (nI y) 0 19 = 1) {rad : Int} {F : Int32} (r1 : 0 ≤ rad) (r2 : rad ≤ 5) (k1 : fIn (iI rad) 0 5 = 1) (k2 : fIn F 1 20 = 1) : CtI l G L ad v o w yX5_advise cX5_advise 10 .int ({ frames := 7, cells := 1, slots := 7, locals := 169 }) [.ref (ad 0), .int (nI y), .int (iI rad), .int F] (fun r u => r = (itr (cAd ow gx gy gw gd nh y rad F) nh ((uBlow (sPut v 0 (nI y) 2 0 (iI rad) F 12) ow gx gy gw gd nh 0 (y : Int) 2 0 rad F 12), (uBlow (sPut v 0 (nI y) 2 0 (iI rad) F 12) ow gx gy gw gd nh 0 (y : Int) 2 0 rad F 12) 12 2, -1)).2.2 ∧ u = (itr (cAd ow gx gy gw gd nh y rad F) nh ((uBlow (sPut v 0 (nI y) 2 0 (iI rad) F 12) ow gx gy gw gd nh 0 (y : Int) 2 0 rad F 12), (uBlow (sPut v 0 (nI y) 2 0 (iI rad) F 12) ow gx gy gw gd nh 0 (y : Int) 2 0 rad F 12) 12 2, -1)).1) := by
  have hb6 := hI.g6; have hb12 := hI.h12; have hbl := hI.l6; have hbs := hI.s30
  refine q_ofI (by decide) (Nat.le_of_ble_eq_true rfl) ?_
  intro p e s m below meth c hx hb hr hml hts hown hlocks hE h0 hW hS ls hl
  generalize hH : s.heap = H at hW
  have hS : va_S (Ab G.2.2.1) s.heap H [] := hH ▸ hS
  obtain ⟨locs, hlc⟩ : ∃ z : List Loc, z = [] := ⟨_, rfl⟩
  rw [← hlc] at hS ⊢
  have hl : lv_has ls 10 [(0, .ref (ad 0)), (1, .int (nI y)), (2, .int (iI rad)), (3, .int F)] := hl
  refine lv_iload_n hx hb dX5_advise_0 rfl (lv_at hl 1 rfl) ?_
  refine lv_iconst (v := 0) hx hb dX5_advise_1 (by decide) ?_
  refine lv_bipush (v := 19) hx hb dX5_advise_2 (by decide) ?_
  refine q_cSiE (As := [.int (nI y), .int 0, .int 19]) (rest := []) hx hb hml hts hown hE h0 hW hS (c_X5_isIn l (nI y) 0 19) mw_X5_isIn t_318 ⟨Nat.le_of_ble_eq_true rfl, Nat.le_of_ble_eq_true rfl⟩ rfl hl.1 (Nat.le_of_ble_eq_true rfl) dX5_advise_4 ⟨Nat.zero_le _, Nat.zero_le _⟩ ⟨rfl, rfl⟩ (fun H locs hW hS => ?_)
  refine lv_if_ne (tgt := 20) hx hb dX5_advise_7 (by decide) (fun c_7 => ?_) (fun c_7 => ?_)
  · skip
    refine lv_iload_n hx hb dX5_advise_20 rfl (lv_at hl 1 rfl) ?_
    refine lv_iload_n hx hb dX5_advise_21 rfl (lv_at hl 2 rfl) ?_
    refine lv_iload_n hx hb dX5_advise_22 rfl (lv_at hl 3 rfl) ?_
    refine q_cSrw (As := [.int (nI y), .int (iI rad), .int F]) (rest := []) hx hb hml hts hown hE h0 hW hS (c_X5_westStorm l hr180) mw_X5_westStorm t_836 ⟨Nat.le_of_ble_eq_true rfl, Nat.le_of_ble_eq_true rfl⟩ rfl hl.1 (Nat.le_of_ble_eq_true rfl) dX5_advise_23 ⟨(by first | decide | omega | (dsimp only; omega)), (by first | decide | omega | (dsimp only; omega))⟩ (fun ra P H locs hp hW hS => ?_)
    obtain ⟨q9, hq9, hP9⟩ := hp
    subst hP9
    subst ra
    obtain ⟨ad1, had⟩ : ∃ z, z = upA ad 180 q9 := ⟨_, rfl⟩
    have hW : WD G (L ++ [180]) (upA ad 180 q9) (sPut v 0 (nI y) 2 0 (iI rad) F 12) (up1 o 180 nOp) w s H := hW
    rw [← had] at hW
    have hI := hI.new (r := 180) (a := z32) (b := nOp) (by decide) had
    have hI : PI G.2.2.2 (L ++ [180]) ad1 (sPut v 0 (nI y) 2 0 (iI rad) F 12) (up1 o 180 nOp) ng nh nl ns ow gx gy gw gd := hI.put
    generalize ho9 : up1 o 180 nOp = o1 at hW hI
    have hq9 : q9 = ad1 180 := by rw [had, upA_s]
    rw [hq9]
    have hl : lv_has ls 10 [(0, .ref (ad1 0)), (1, .int (nI y)), (2, .int (iI rad)), (3, .int F)] := by subst had; exact hl
    refine lv_astore (lv' := [(4, .ref (ad1 180)), (0, .ref (ad1 0)), (1, .int (nI y)), (2, .int (iI rad)), (3, .int F)]) hx hb dX5_advise_26 hl (by decide) rfl (fun ls hl => ?_)
    refine lv_aload hx hb dX5_advise_28 (lv_at hl 0 rfl) ?_
    refine q_cSvE (As := [.ref (ad1 180)]) (rest := []) hx hb hml hts hown hE h0 hW hS (c_X5_checkStorm l (List.mem_append_right _ (List.mem_singleton.mpr rfl)) (show fSto 0 (nI y) 2 0 (iI rad) F 12 = 1 from (fSto_of (by decide) (fIn_y y9) (by decide) (by decide) k1 k2 (by decide)))) mw_X5_checkStorm t_747 ⟨Nat.le_of_ble_eq_true rfl, Nat.le_of_ble_eq_true rfl⟩ rfl hl.1 (Nat.le_of_ble_eq_true rfl) dX5_advise_30 ⟨(by first | decide | omega | (dsimp only; omega)), (by first | decide | omega | (dsimp only; omega))⟩ ⟨rfl, rfl⟩ (fun H locs hW hS => ?_)
    have hT : SI (sPut v 0 (nI y) 2 0 (iI rad) F 12) 0 (y : Int) 2 0 rad F 12 := ⟨⟨rfl, (iI_n y).symm, rfl, rfl, rfl, rfl, rfl⟩, ⟨by decide, by decide, by omega, by omega, by decide, by decide, by decide, by decide, r1, r2, by decide⟩⟩
    refine lv_iconst (v := (-1)) hx hb dX5_advise_33 (by decide) ?_
    refine lv_istore (lv' := [(5, .int (-1)), (4, .ref (ad1 180)), (0, .ref (ad1 0)), (1, .int (nI y)), (2, .int (iI rad)), (3, .int F)]) hx hb dX5_advise_34 hl (by decide) rfl (fun ls hl => ?_)
    refine lv_aload_n hx hb dX5_advise_36 rfl (lv_at hl 2 rfl) ?_
    refine lv_aload hx hb dX5_advise_37 (lv_at hl 1 rfl) ?_
    refine q_cViE (As := [.ref (ad1 180)]) (rest := []) (r := 0) hx hb hml hts hown hE h0 hW hS (c_X5_damageOf l hI (List.mem_append_right _ (List.mem_singleton.mpr rfl)) hT) mw_X5_damageOf (hI.c 0 (by decide)) rfl k_6 t_847 ⟨Nat.le_of_ble_eq_true rfl, Nat.le_of_ble_eq_true rfl⟩ rfl hl.1 (Nat.le_of_ble_eq_true rfl) dX5_advise_39 ⟨(by first | decide | omega | (dsimp only; omega)), (by first | decide | omega | (dsimp only; omega))⟩ ⟨rfl, rfl⟩ (fun H locs hW hS => ?_)
    have hI : PI G.2.2.2 (L ++ [180]) ad1 ((uBlow (sPut v 0 (nI y) 2 0 (iI rad) F 12) ow gx gy gw gd nh 0 (y : Int) 2 0 rad F 12)) o1 ng nh nl ns ow gx gy gw gd := hI.kp kp_uBlow
    have hT : SI ((uBlow (sPut v 0 (nI y) 2 0 (iI rad) F 12) ow gx gy gw gd nh 0 (y : Int) 2 0 rad F 12)) 0 (y : Int) 2 0 rad F 12 := hT.kp kp_uBlow
    refine lv_istore (lv' := [(6, .int (uBlow (sPut v 0 (nI y) 2 0 (iI rad) F 12) ow gx gy gw gd nh 0 (y : Int) 2 0 rad F 12 12 2)), (5, .int (-1)), (4, .ref (ad1 180)), (0, .ref (ad1 0)), (1, .int (nI y)), (2, .int (iI rad)), (3, .int F)]) hx hb dX5_advise_42 hl (by decide) rfl (fun ls hl => ?_)
    refine lv_iconst (v := 0) hx hb dX5_advise_44 (by decide) ?_
    refine lv_istore (lv' := [(7, .int 0), (6, .int (uBlow (sPut v 0 (nI y) 2 0 (iI rad) F 12) ow gx gy gw gd nh 0 (y : Int) 2 0 rad F 12 12 2)), (5, .int (-1)), (4, .ref (ad1 180)), (0, .ref (ad1 0)), (1, .int (nI y)), (2, .int (iI rad)), (3, .int F)]) hx hb dX5_advise_45 hl (by decide) rfl (fun ls hl => ?_)
    suffices LP_47 : ∀ (n_47 i : Nat) (x5_47 : Int32) (x6_47 : Int32) (x7_47 : Int32)  (u_47 : Nat → Nat → Int32) (H : Heap) (locs : List Loc) (ls : Array Slot), nh + 1 ≤ i + n_47 → i ≤ nh → (itr (cAd ow gx gy gw gd nh y rad F) i ((uBlow (sPut v 0 (nI y) 2 0 (iI rad) F 12) ow gx gy gw gd nh 0 (y : Int) 2 0 rad F 12), (uBlow (sPut v 0 (nI y) 2 0 (iI rad) F 12) ow gx gy gw gd nh 0 (y : Int) 2 0 rad F 12) 12 2, -1)).2.2 = x5_47 → (itr (cAd ow gx gy gw gd nh y rad F) i ((uBlow (sPut v 0 (nI y) 2 0 (iI rad) F 12) ow gx gy gw gd nh 0 (y : Int) 2 0 rad F 12), (uBlow (sPut v 0 (nI y) 2 0 (iI rad) F 12) ow gx gy gw gd nh 0 (y : Int) 2 0 rad F 12) 12 2, -1)).2.1 = x6_47 → nI i = x7_47 → (itr (cAd ow gx gy gw gd nh y rad F) i ((uBlow (sPut v 0 (nI y) 2 0 (iI rad) F 12) ow gx gy gw gd nh 0 (y : Int) 2 0 rad F 12), (uBlow (sPut v 0 (nI y) 2 0 (iI rad) F 12) ow gx gy gw gd nh 0 (y : Int) 2 0 rad F 12) 12 2, -1)).1 = u_47 → WD G (L ++ [180]) ad1 u_47 o1 w s H → va_S (Ab G.2.2.1) s.heap H locs → lv_has ls 10 [(7, .int x7_47), (6, .int x6_47), (5, .int x5_47), (4, .ref (ad1 180)), (0, .ref (ad1 0))] → W p l e ({ frames := 7, cells := 1, slots := 7, locals := 169 } : Room) s m ([.ref (ad 0), .int (nI y), .int (iI rad), .int F] : List Value).toArray below meth c H locs (0 + 1) (0 + 7) (MQ below (va_Qi (fun r u => r = (itr (cAd ow gx gy gw gd nh y rad F) nh ((uBlow (sPut v 0 (nI y) 2 0 (iI rad) F 12) ow gx gy gw gd nh 0 (y : Int) 2 0 rad F 12), (uBlow (sPut v 0 (nI y) 2 0 (iI rad) F 12) ow gx gy gw gd nh 0 (y : Int) 2 0 rad F 12) 12 2, -1)).2.2 ∧ u = (itr (cAd ow gx gy gw gd nh y rad F) nh ((uBlow (sPut v 0 (nI y) 2 0 (iI rad) F 12) ow gx gy gw gd nh 0 (y : Int) 2 0 rad F 12), (uBlow (sPut v 0 (nI y) 2 0 (iI rad) F 12) ow gx gy gw gd nh 0 (y : Int) 2 0 rad F 12) 12 2, -1)).1) (fun u t => WD G L ad u o w t t.heap) (Ab G.2.2.1)) ([.ref (ad 0), .int (nI y), .int (iI rad), .int F] : List Value).toArray s ({ frames := 7, cells := 1, slots := 7, locals := 169 } : Room).cells ({ frames := 7, cells := 1, slots := 7, locals := 169 } : Room).slots (Ab G.2.2.1)) (F0 m 47 ls []) from LP_47 (nh + 1) 0 _ _ _   _ H locs ls (by omega) (by omega) (by rfl) (by rfl) (by rfl) (by rfl)  hW hS (lv_sub hl [0, 1, 2, 3, 4] rfl)
    intro n_47
    induction n_47 with
    | zero => intro i x5_47 x6_47 x7_47  u_47 H locs ls h1 h2; exact absurd h1 (by omega)
    | succ n_47 ih_47 =>
      intro i x5_47 x6_47 x7_47  u_47 H locs ls hn_47 hi_47 ex5_47 ex6_47 ex7_47 eu_47  hW hS hl
      subst ex5_47
      subst ex6_47
      subst ex7_47
      subst eu_47
      have hI : PI G.2.2.2 (L ++ [180]) ad1 ((itr (cAd ow gx gy gw gd nh y rad F) i ((uBlow (sPut v 0 (nI y) 2 0 (iI rad) F 12) ow gx gy gw gd nh 0 (y : Int) 2 0 rad F 12), (uBlow (sPut v 0 (nI y) 2 0 (iI rad) F 12) ow gx gy gw gd nh 0 (y : Int) 2 0 rad F 12) 12 2, -1)).1) o1 ng nh nl ns ow gx gy gw gd := hI.kp (kp_cAds (t := ((uBlow (sPut v 0 (nI y) 2 0 (iI rad) F 12) ow gx gy gw gd nh 0 (y : Int) 2 0 rad F 12), (uBlow (sPut v 0 (nI y) 2 0 (iI rad) F 12) ow gx gy gw gd nh 0 (y : Int) 2 0 rad F 12) 12 2, -1)) (by omega))
      have hT : SI ((itr (cAd ow gx gy gw gd nh y rad F) i ((uBlow (sPut v 0 (nI y) 2 0 (iI rad) F 12) ow gx gy gw gd nh 0 (y : Int) 2 0 rad F 12), (uBlow (sPut v 0 (nI y) 2 0 (iI rad) F 12) ow gx gy gw gd nh 0 (y : Int) 2 0 rad F 12) 12 2, -1)).1) 0 (y : Int) 2 0 rad F 12 := hT.kp (kp_cAds (t := ((uBlow (sPut v 0 (nI y) 2 0 (iI rad) F 12) ow gx gy gw gd nh 0 (y : Int) 2 0 rad F 12), (uBlow (sPut v 0 (nI y) 2 0 (iI rad) F 12) ow gx gy gw gd nh 0 (y : Int) 2 0 rad F 12) 12 2, -1)) (by omega))
      refine lv_iload hx hb dX5_advise_47 (lv_at hl 0 rfl) ?_
      refine lv_aload_n hx hb dX5_advise_49 rfl (lv_at hl 4 rfl) ?_
      refine q_getr hx hb hts hown hW (r := 0) (hI.c 0 (by decide)) rfl k_6 1 (by decide) rfl t_138 (a := ad1 2) (hI.o0 1 (by decide)) dX5_advise_50 ?_
      refine q_cFiE (As := []) (rest := [.int (nI i)]) (r := 2) hx hb hml hts hown hE h0 hW hS hE.2.1 (c_size l hI.lh) t_178 t_176 t_174 t_49 (by decide) (by decide +kernel) (hI.c 2 (by decide)) rfl k_0 t_170 ⟨Nat.le_of_ble_eq_true rfl, Nat.le_of_ble_eq_true rfl⟩ rfl hl.1 (Nat.le_of_ble_eq_true rfl) dX5_advise_53 ⟨by decide, by decide⟩ ⟨rfl, rfl⟩ (fun H locs hW hS => ?_)
      refine lv_icmp_ge (tgt := 119) hx hb dX5_advise_58 (by decide) (fun c_58 => ?_) (fun c_58 => ?_)
      · skip
        have hq_47 := (ge_i (n := nh) (by omega) hi_47 c_58).symm
        subst hq_47
        refine lv_iload hx hb dX5_advise_119 (lv_at hl 2 rfl) ?_
        have hW := hW.forget hr180 had ho9 (fun _ _ => rfl)
        exact q_iret hx hb hr hlocks hW hS (by first | decide | omega | (dsimp only; omega)) (by first | decide | omega | (dsimp only; omega)) dX5_advise_121 (⟨rfl, rfl⟩)
      · skip
        have hlt_47 := lt_i (n := nh) (by omega) hi_47 c_58
        refine lv_aload_n hx hb dX5_advise_61 rfl (lv_at hl 4 rfl) ?_
        refine q_getr hx hb hts hown hW (r := 0) (hI.c 0 (by decide)) rfl k_6 1 (by decide) rfl t_138 (a := ad1 2) (hI.o0 1 (by decide)) dX5_advise_62 ?_
        refine lv_iload hx hb dX5_advise_65 (lv_at hl 0 rfl) ?_
        refine q_cFrE (n := 1) (As := [.int (nI i)]) (rest := []) (r := 2) hx hb hml hts hown hE h0 hW hS hE.2.2.1 (c_get l hI.lh (i := i) hlt_47) t_191 t_189 t_187 t_49 (by decide) (by decide +kernel) (hI.c 2 (by decide)) rfl k_0 t_184 ⟨Nat.le_of_ble_eq_true rfl, Nat.le_of_ble_eq_true rfl⟩ rfl hl.1 (Nat.le_of_ble_eq_true rfl) dX5_advise_67 ⟨by decide, by decide⟩ ⟨rfl, rfl⟩ (fun H locs hW hS => ?_)
        refine q_castS hx hb hts hown hW (r := (60 + i)) (hI.mh hlt_47) (hI.kh hlt_47) k_2 t_207 dX5_advise_72 ?_
        refine lv_astore (lv' := [(8, .ref (ad1 (60 + i))), (7, .int (nI i)), (6, .int ((itr (cAd ow gx gy gw gd nh y rad F) i ((uBlow (sPut v 0 (nI y) 2 0 (iI rad) F 12) ow gx gy gw gd nh 0 (y : Int) 2 0 rad F 12), (uBlow (sPut v 0 (nI y) 2 0 (iI rad) F 12) ow gx gy gw gd nh 0 (y : Int) 2 0 rad F 12) 12 2, -1)).2.1)), (5, .int ((itr (cAd ow gx gy gw gd nh y rad F) i ((uBlow (sPut v 0 (nI y) 2 0 (iI rad) F 12) ow gx gy gw gd nh 0 (y : Int) 2 0 rad F 12), (uBlow (sPut v 0 (nI y) 2 0 (iI rad) F 12) ow gx gy gw gd nh 0 (y : Int) 2 0 rad F 12) 12 2, -1)).2.2)), (4, .ref (ad1 180)), (0, .ref (ad1 0))]) hx hb dX5_advise_75 hl (by decide) rfl (fun ls hl => ?_)
        refine lv_aload hx hb dX5_advise_77 (lv_at hl 0 rfl) ?_
        refine q_get hx hb hts hown hW (r := (60 + i)) (hI.mh hlt_47) (hI.kh hlt_47) k_2 7 (by decide) rfl t_566 (x := (((itr (cAd ow gx gy gw gd nh y rad F) i ((uBlow (sPut v 0 (nI y) 2 0 (iI rad) F 12) ow gx gy gw gd nh 0 (y : Int) 2 0 rad F 12), (uBlow (sPut v 0 (nI y) 2 0 (iI rad) F 12) ow gx gy gw gd nh 0 (y : Int) 2 0 rad F 12) 12 2, -1)).1) (60 + i) 7)) rfl dX5_advise_79 ?_
        refine lv_if_eq (tgt := 88) hx hb dX5_advise_82 (by decide) (fun c_82 => ?_) (fun c_82 => ?_)
        · skip
          refine lv_aload_n hx hb dX5_advise_88 rfl (lv_at hl 5 rfl) ?_
          refine lv_aload hx hb dX5_advise_89 (lv_at hl 0 rfl) ?_
          refine lv_aload hx hb dX5_advise_91 (lv_at hl 4 rfl) ?_
          refine q_cViE (As := [.ref (ad1 (60 + i)), .ref (ad1 180)]) (rest := []) (r := 0) hx hb hml hts hown hE h0 hW hS (c_X5_damageWithNet l hI hlt_47 (List.mem_append_right _ (List.mem_singleton.mpr rfl)) hT) mw_X5_damageWithNet (hI.c 0 (by decide)) rfl k_6 t_851 ⟨Nat.le_of_ble_eq_true rfl, Nat.le_of_ble_eq_true rfl⟩ rfl hl.1 (Nat.le_of_ble_eq_true rfl) dX5_advise_93 ⟨(by first | decide | omega | (dsimp only; omega)), (by first | decide | omega | (dsimp only; omega))⟩ ⟨rfl, rfl⟩ (fun H locs hW hS => ?_)
          refine lv_istore (lv' := [(9, .int (dNet ((itr (cAd ow gx gy gw gd nh y rad F) i ((uBlow (sPut v 0 (nI y) 2 0 (iI rad) F 12) ow gx gy gw gd nh 0 (y : Int) 2 0 rad F 12), (uBlow (sPut v 0 (nI y) 2 0 (iI rad) F 12) ow gx gy gw gd nh 0 (y : Int) 2 0 rad F 12) 12 2, -1)).1) ow gx gy gw gd nh i 0 (y : Int) 2 0 rad F 12)), (8, .ref (ad1 (60 + i))), (7, .int (nI i)), (6, .int ((itr (cAd ow gx gy gw gd nh y rad F) i ((uBlow (sPut v 0 (nI y) 2 0 (iI rad) F 12) ow gx gy gw gd nh 0 (y : Int) 2 0 rad F 12), (uBlow (sPut v 0 (nI y) 2 0 (iI rad) F 12) ow gx gy gw gd nh 0 (y : Int) 2 0 rad F 12) 12 2, -1)).2.1)), (5, .int ((itr (cAd ow gx gy gw gd nh y rad F) i ((uBlow (sPut v 0 (nI y) 2 0 (iI rad) F 12) ow gx gy gw gd nh 0 (y : Int) 2 0 rad F 12), (uBlow (sPut v 0 (nI y) 2 0 (iI rad) F 12) ow gx gy gw gd nh 0 (y : Int) 2 0 rad F 12) 12 2, -1)).2.2)), (4, .ref (ad1 180)), (0, .ref (ad1 0))]) hx hb dX5_advise_96 hl (by decide) rfl (fun ls hl => ?_)
          refine lv_iload hx hb dX5_advise_98 (lv_at hl 0 rfl) ?_
          refine lv_iload hx hb dX5_advise_100 (lv_at hl 3 rfl) ?_
          refine lv_icmp_ge (tgt := 113) hx hb dX5_advise_102 (by decide) (fun c_102 => ?_) (fun c_102 => ?_)
          · skip
            refine lv_iinc (v := (nI (i + 1))) (lv' := [(7, .int (nI (i + 1))), (9, .int (dNet ((itr (cAd ow gx gy gw gd nh y rad F) i ((uBlow (sPut v 0 (nI y) 2 0 (iI rad) F 12) ow gx gy gw gd nh 0 (y : Int) 2 0 rad F 12), (uBlow (sPut v 0 (nI y) 2 0 (iI rad) F 12) ow gx gy gw gd nh 0 (y : Int) 2 0 rad F 12) 12 2, -1)).1) ow gx gy gw gd nh i 0 (y : Int) 2 0 rad F 12)), (8, .ref (ad1 (60 + i))), (6, .int ((itr (cAd ow gx gy gw gd nh y rad F) i ((uBlow (sPut v 0 (nI y) 2 0 (iI rad) F 12) ow gx gy gw gd nh 0 (y : Int) 2 0 rad F 12), (uBlow (sPut v 0 (nI y) 2 0 (iI rad) F 12) ow gx gy gw gd nh 0 (y : Int) 2 0 rad F 12) 12 2, -1)).2.1)), (5, .int ((itr (cAd ow gx gy gw gd nh y rad F) i ((uBlow (sPut v 0 (nI y) 2 0 (iI rad) F 12) ow gx gy gw gd nh 0 (y : Int) 2 0 rad F 12), (uBlow (sPut v 0 (nI y) 2 0 (iI rad) F 12) ow gx gy gw gd nh 0 (y : Int) 2 0 rad F 12) 12 2, -1)).2.2)), (4, .ref (ad1 180)), (0, .ref (ad1 0))]) hx hb dX5_advise_113 hl (k := 2) rfl (inc_nI _) (by decide) rfl (fun ls hl => ?_)
            refine lv_goto (tgt := 47) hx hb dX5_advise_116 (by decide) ?_
            exact ih_47 (i + 1) _ _ _   _ H locs ls (by omega) (by omega) (by rw [itr_s]; first | exact congrArg (fun z => z.2.2) (cAd_0 c_82 c_102) | exact congrArg (fun z => z.2.2) (cAd_1 c_82 c_102) | exact congrArg (fun z => z.2.2) (cAd_n c_82)) (by rw [itr_s]; first | exact congrArg (fun z => z.2.1) (cAd_0 c_82 c_102) | exact congrArg (fun z => z.2.1) (cAd_1 c_82 c_102) | exact congrArg (fun z => z.2.1) (cAd_n c_82)) (by rfl) (by rw [itr_s]; first | exact congrArg (fun z => z.1) (cAd_0 c_82 c_102) | exact congrArg (fun z => z.1) (cAd_1 c_82 c_102) | exact congrArg (fun z => z.1) (cAd_n c_82))  hW hS (lv_sub hl [0, 3, 4, 5, 6] rfl)
          · skip
            refine lv_iload hx hb dX5_advise_105 (lv_at hl 0 rfl) ?_
            refine lv_istore (lv' := [(6, .int (dNet ((itr (cAd ow gx gy gw gd nh y rad F) i ((uBlow (sPut v 0 (nI y) 2 0 (iI rad) F 12) ow gx gy gw gd nh 0 (y : Int) 2 0 rad F 12), (uBlow (sPut v 0 (nI y) 2 0 (iI rad) F 12) ow gx gy gw gd nh 0 (y : Int) 2 0 rad F 12) 12 2, -1)).1) ow gx gy gw gd nh i 0 (y : Int) 2 0 rad F 12)), (9, .int (dNet ((itr (cAd ow gx gy gw gd nh y rad F) i ((uBlow (sPut v 0 (nI y) 2 0 (iI rad) F 12) ow gx gy gw gd nh 0 (y : Int) 2 0 rad F 12), (uBlow (sPut v 0 (nI y) 2 0 (iI rad) F 12) ow gx gy gw gd nh 0 (y : Int) 2 0 rad F 12) 12 2, -1)).1) ow gx gy gw gd nh i 0 (y : Int) 2 0 rad F 12)), (8, .ref (ad1 (60 + i))), (7, .int (nI i)), (5, .int ((itr (cAd ow gx gy gw gd nh y rad F) i ((uBlow (sPut v 0 (nI y) 2 0 (iI rad) F 12) ow gx gy gw gd nh 0 (y : Int) 2 0 rad F 12), (uBlow (sPut v 0 (nI y) 2 0 (iI rad) F 12) ow gx gy gw gd nh 0 (y : Int) 2 0 rad F 12) 12 2, -1)).2.2)), (4, .ref (ad1 180)), (0, .ref (ad1 0))]) hx hb dX5_advise_107 hl (by decide) rfl (fun ls hl => ?_)
            refine lv_iload hx hb dX5_advise_109 (lv_at hl 3 rfl) ?_
            refine lv_istore (lv' := [(5, .int (nI i)), (6, .int (dNet ((itr (cAd ow gx gy gw gd nh y rad F) i ((uBlow (sPut v 0 (nI y) 2 0 (iI rad) F 12) ow gx gy gw gd nh 0 (y : Int) 2 0 rad F 12), (uBlow (sPut v 0 (nI y) 2 0 (iI rad) F 12) ow gx gy gw gd nh 0 (y : Int) 2 0 rad F 12) 12 2, -1)).1) ow gx gy gw gd nh i 0 (y : Int) 2 0 rad F 12)), (9, .int (dNet ((itr (cAd ow gx gy gw gd nh y rad F) i ((uBlow (sPut v 0 (nI y) 2 0 (iI rad) F 12) ow gx gy gw gd nh 0 (y : Int) 2 0 rad F 12), (uBlow (sPut v 0 (nI y) 2 0 (iI rad) F 12) ow gx gy gw gd nh 0 (y : Int) 2 0 rad F 12) 12 2, -1)).1) ow gx gy gw gd nh i 0 (y : Int) 2 0 rad F 12)), (8, .ref (ad1 (60 + i))), (7, .int (nI i)), (4, .ref (ad1 180)), (0, .ref (ad1 0))]) hx hb dX5_advise_111 hl (by decide) rfl (fun ls hl => ?_)
            refine lv_iinc (v := (nI (i + 1))) (lv' := [(7, .int (nI (i + 1))), (5, .int (nI i)), (6, .int (dNet ((itr (cAd ow gx gy gw gd nh y rad F) i ((uBlow (sPut v 0 (nI y) 2 0 (iI rad) F 12) ow gx gy gw gd nh 0 (y : Int) 2 0 rad F 12), (uBlow (sPut v 0 (nI y) 2 0 (iI rad) F 12) ow gx gy gw gd nh 0 (y : Int) 2 0 rad F 12) 12 2, -1)).1) ow gx gy gw gd nh i 0 (y : Int) 2 0 rad F 12)), (9, .int (dNet ((itr (cAd ow gx gy gw gd nh y rad F) i ((uBlow (sPut v 0 (nI y) 2 0 (iI rad) F 12) ow gx gy gw gd nh 0 (y : Int) 2 0 rad F 12), (uBlow (sPut v 0 (nI y) 2 0 (iI rad) F 12) ow gx gy gw gd nh 0 (y : Int) 2 0 rad F 12) 12 2, -1)).1) ow gx gy gw gd nh i 0 (y : Int) 2 0 rad F 12)), (8, .ref (ad1 (60 + i))), (4, .ref (ad1 180)), (0, .ref (ad1 0))]) hx hb dX5_advise_113 hl (k := 4) rfl (inc_nI _) (by decide) rfl (fun ls hl => ?_)
            refine lv_goto (tgt := 47) hx hb dX5_advise_116 (by decide) ?_
            exact ih_47 (i + 1) _ _ _   _ H locs ls (by omega) (by omega) (by rw [itr_s]; first | exact congrArg (fun z => z.2.2) (cAd_0 c_82 c_102) | exact congrArg (fun z => z.2.2) (cAd_1 c_82 c_102) | exact congrArg (fun z => z.2.2) (cAd_n c_82)) (by rw [itr_s]; first | exact congrArg (fun z => z.2.1) (cAd_0 c_82 c_102) | exact congrArg (fun z => z.2.1) (cAd_1 c_82 c_102) | exact congrArg (fun z => z.2.1) (cAd_n c_82)) (by rfl) (by rw [itr_s]; first | exact congrArg (fun z => z.1) (cAd_0 c_82 c_102) | exact congrArg (fun z => z.1) (cAd_1 c_82 c_102) | exact congrArg (fun z => z.1) (cAd_n c_82))  hW hS (lv_sub hl [0, 2, 1, 5, 6] rfl)
        · skip
          refine lv_goto (tgt := 113) hx hb dX5_advise_85 (by decide) ?_
          refine lv_iinc (v := (nI (i + 1))) (lv' := [(7, .int (nI (i + 1))), (8, .ref (ad1 (60 + i))), (6, .int ((itr (cAd ow gx gy gw gd nh y rad F) i ((uBlow (sPut v 0 (nI y) 2 0 (iI rad) F 12) ow gx gy gw gd nh 0 (y : Int) 2 0 rad F 12), (uBlow (sPut v 0 (nI y) 2 0 (iI rad) F 12) ow gx gy gw gd nh 0 (y : Int) 2 0 rad F 12) 12 2, -1)).2.1)), (5, .int ((itr (cAd ow gx gy gw gd nh y rad F) i ((uBlow (sPut v 0 (nI y) 2 0 (iI rad) F 12) ow gx gy gw gd nh 0 (y : Int) 2 0 rad F 12), (uBlow (sPut v 0 (nI y) 2 0 (iI rad) F 12) ow gx gy gw gd nh 0 (y : Int) 2 0 rad F 12) 12 2, -1)).2.2)), (4, .ref (ad1 180)), (0, .ref (ad1 0))]) hx hb dX5_advise_113 hl (k := 1) rfl (inc_nI _) (by decide) rfl (fun ls hl => ?_)
          refine lv_goto (tgt := 47) hx hb dX5_advise_116 (by decide) ?_
          exact ih_47 (i + 1) _ _ _   _ H locs ls (by omega) (by omega) (by rw [itr_s]; first | exact congrArg (fun z => z.2.2) (cAd_0 c_82 c_102) | exact congrArg (fun z => z.2.2) (cAd_1 c_82 c_102) | exact congrArg (fun z => z.2.2) (cAd_n c_82)) (by rw [itr_s]; first | exact congrArg (fun z => z.2.1) (cAd_0 c_82 c_102) | exact congrArg (fun z => z.2.1) (cAd_1 c_82 c_102) | exact congrArg (fun z => z.2.1) (cAd_n c_82)) (by rfl) (by rw [itr_s]; first | exact congrArg (fun z => z.1) (cAd_0 c_82 c_102) | exact congrArg (fun z => z.1) (cAd_1 c_82 c_102) | exact congrArg (fun z => z.1) (cAd_n c_82))  hW hS (lv_sub hl [0, 2, 3, 4, 5] rfl)
  · skip
    exact absurd (k0.symm.trans c_7) (by decide)

set_option maxHeartbeats 4000000 in
set_option maxRecDepth 100000 in
theorem x_X5_worst_1a (l : Launch) (hst9 : l.stackTraces = false) {G : GG} {L : List Nat} {ad : Nat → Nat} {v : Nat → Nat → Int32} {o : Nat → Nat → Option Nat} {w : Nat → Int64} {ng nh nl ns : Nat} {ow gx gy gw gd : Nat → Nat} (hI : PI G.2.2.2 L ad v o ng nh nl ns ow gx gy gw gd) (hr180 : 180 ∉ L) {a b : Int32} (k1 : fIn a 0 5 = 0) : CtXi l G L ad v o w yX5_worst cX5_worst 7 .int ({ frames := 7, cells := 2, slots := 13, locals := 102 }) [.ref (ad 0), .int a, .int b] "java/lang/IllegalArgumentException" := by
  have hb6 := hI.g6; have hb12 := hI.h12; have hbl := hI.l6; have hbs := hI.s30
  refine vx_ofW (cc := cX5_worst) (maxL := 7) (ret := (some .int)) (by decide) rfl ?_
  intro p e s m args below meth c s₁ B hml hnt hv
  obtain ⟨rfl, hE, h0, hW⟩ := hv
  have hx := B.exec; have hb := B.bytes; have hts := hE.hts (args := ([.ref (ad 0), .int a, .int b] : List Value).toArray); have hown : s.vm.findClass RX5 = some m.cls := findClass_of_methodNamed B.named; have hlocks := B.notSynchronized
  have hl := lv_entry ([.ref (ad 0), .int a, .int b] : List Value) (n := 7) (Nat.le_of_ble_eq_true rfl)
  rw [lg_entry_eq]
  generalize (lg_sl ([.ref (ad 0), .int a, .int b] : List Value) ++ List.replicate (7 - (lg_sl ([.ref (ad 0), .int a, .int b] : List Value)).length) Slot.unset).toArray = ls at hl ⊢
  generalize hH : s.heap = H at hW ⊢
  have hS : va_S (Ab G.2.2.1) s.heap H [] := hH ▸ va_S.rf
  obtain ⟨locs, hlc⟩ : ∃ z : List Loc, z = [] := ⟨_, rfl⟩
  rw [← hlc] at hS ⊢
  have hl : lv_has ls 7 [(0, .ref (ad 0)), (1, .int a), (2, .int b)] := hl
  refine lv_iconst (v := 0) hx hb dX5_worst_0 (by decide) ?_
  refine lv_iload_n hx hb dX5_worst_1 rfl (lv_at hl 1 rfl) ?_
  refine lv_iload_n hx hb dX5_worst_2 rfl (lv_at hl 2 rfl) ?_
  refine q_cSrw (As := [.int 0, .int a, .int b]) (rest := []) hx hb hml hts hown hE h0 hW hS (c_X5_westStorm l hr180) mw_X5_westStorm t_836 ⟨Nat.le_of_ble_eq_true rfl, Nat.le_of_ble_eq_true rfl⟩ rfl hl.1 (Nat.le_of_ble_eq_true rfl) dX5_worst_3 ⟨(by first | decide | omega | (dsimp only; omega)), (by first | decide | omega | (dsimp only; omega))⟩ (fun ra P H locs hp hW hS => ?_)
  obtain ⟨q9, hq9, hP9⟩ := hp
  subst hP9
  subst ra
  obtain ⟨ad1, had⟩ : ∃ z, z = upA ad 180 q9 := ⟨_, rfl⟩
  have hW : WD G (L ++ [180]) (upA ad 180 q9) (sPut v 0 0 2 0 a b 12) (up1 o 180 nOp) w s H := hW
  rw [← had] at hW
  have hI := hI.new (r := 180) (a := z32) (b := nOp) (by decide) had
  have hI : PI G.2.2.2 (L ++ [180]) ad1 (sPut v 0 0 2 0 a b 12) (up1 o 180 nOp) ng nh nl ns ow gx gy gw gd := hI.put
  generalize ho9 : up1 o 180 nOp = o1 at hW hI
  have hq9 : q9 = ad1 180 := by rw [had, upA_s]
  rw [hq9]
  have hl : lv_has ls 7 [(0, .ref (ad1 0)), (1, .int a), (2, .int b)] := by subst had; exact hl
  refine lv_astore_n (lv' := [(3, .ref (ad1 180)), (0, .ref (ad1 0)), (1, .int a), (2, .int b)]) hx hb dX5_worst_6 rfl hl (by decide) rfl (fun ls hl => ?_)
  refine lv_aload_n hx hb dX5_worst_7 rfl (lv_at hl 0 rfl) ?_
  exact q_xS (As := [.ref (ad1 180)]) (rest := []) hx hb hml hts hown hE h0 hW hS hnt hlocks (x_X5_checkStorm l hst9 (List.mem_append_right _ (List.mem_singleton.mpr rfl)) (show fSto 0 0 2 0 a b 12 = 0 from (fSto_0 (Or.inr (Or.inr (Or.inr (Or.inr (Or.inl k1)))))).symm)) mw_X5_checkStorm t_747 ⟨Nat.le_of_ble_eq_true rfl, Nat.le_of_ble_eq_true rfl⟩ rfl hl.1 (Nat.le_of_ble_eq_true rfl) dX5_worst_8 ⟨(by first | decide | omega | (dsimp only; omega)), (by first | decide | omega | (dsimp only; omega))⟩ (by first | decide | omega | (dsimp only; omega)) (by first | decide | omega | (dsimp only; omega)) (fun _ h => h.forget hr180 had ho9 (fun r q => sPut_o q))

set_option maxHeartbeats 4000000 in
set_option maxRecDepth 100000 in
theorem x_X5_worst_1b (l : Launch) (hst9 : l.stackTraces = false) {G : GG} {L : List Nat} {ad : Nat → Nat} {v : Nat → Nat → Int32} {o : Nat → Nat → Option Nat} {w : Nat → Int64} {ng nh nl ns : Nat} {ow gx gy gw gd : Nat → Nat} (hI : PI G.2.2.2 L ad v o ng nh nl ns ow gx gy gw gd) (hr180 : 180 ∉ L) {a b : Int32} (k1 : fIn a 0 5 = 1) (k2 : fIn b 1 20 = 0) : CtXi l G L ad v o w yX5_worst cX5_worst 7 .int ({ frames := 7, cells := 2, slots := 13, locals := 102 }) [.ref (ad 0), .int a, .int b] "java/lang/IllegalArgumentException" := by
  have hb6 := hI.g6; have hb12 := hI.h12; have hbl := hI.l6; have hbs := hI.s30
  refine vx_ofW (cc := cX5_worst) (maxL := 7) (ret := (some .int)) (by decide) rfl ?_
  intro p e s m args below meth c s₁ B hml hnt hv
  obtain ⟨rfl, hE, h0, hW⟩ := hv
  have hx := B.exec; have hb := B.bytes; have hts := hE.hts (args := ([.ref (ad 0), .int a, .int b] : List Value).toArray); have hown : s.vm.findClass RX5 = some m.cls := findClass_of_methodNamed B.named; have hlocks := B.notSynchronized
  have hl := lv_entry ([.ref (ad 0), .int a, .int b] : List Value) (n := 7) (Nat.le_of_ble_eq_true rfl)
  rw [lg_entry_eq]
  generalize (lg_sl ([.ref (ad 0), .int a, .int b] : List Value) ++ List.replicate (7 - (lg_sl ([.ref (ad 0), .int a, .int b] : List Value)).length) Slot.unset).toArray = ls at hl ⊢
  generalize hH : s.heap = H at hW ⊢
  have hS : va_S (Ab G.2.2.1) s.heap H [] := hH ▸ va_S.rf
  obtain ⟨locs, hlc⟩ : ∃ z : List Loc, z = [] := ⟨_, rfl⟩
  rw [← hlc] at hS ⊢
  have hl : lv_has ls 7 [(0, .ref (ad 0)), (1, .int a), (2, .int b)] := hl
  refine lv_iconst (v := 0) hx hb dX5_worst_0 (by decide) ?_
  refine lv_iload_n hx hb dX5_worst_1 rfl (lv_at hl 1 rfl) ?_
  refine lv_iload_n hx hb dX5_worst_2 rfl (lv_at hl 2 rfl) ?_
  refine q_cSrw (As := [.int 0, .int a, .int b]) (rest := []) hx hb hml hts hown hE h0 hW hS (c_X5_westStorm l hr180) mw_X5_westStorm t_836 ⟨Nat.le_of_ble_eq_true rfl, Nat.le_of_ble_eq_true rfl⟩ rfl hl.1 (Nat.le_of_ble_eq_true rfl) dX5_worst_3 ⟨(by first | decide | omega | (dsimp only; omega)), (by first | decide | omega | (dsimp only; omega))⟩ (fun ra P H locs hp hW hS => ?_)
  obtain ⟨q9, hq9, hP9⟩ := hp
  subst hP9
  subst ra
  obtain ⟨ad1, had⟩ : ∃ z, z = upA ad 180 q9 := ⟨_, rfl⟩
  have hW : WD G (L ++ [180]) (upA ad 180 q9) (sPut v 0 0 2 0 a b 12) (up1 o 180 nOp) w s H := hW
  rw [← had] at hW
  have hI := hI.new (r := 180) (a := z32) (b := nOp) (by decide) had
  have hI : PI G.2.2.2 (L ++ [180]) ad1 (sPut v 0 0 2 0 a b 12) (up1 o 180 nOp) ng nh nl ns ow gx gy gw gd := hI.put
  generalize ho9 : up1 o 180 nOp = o1 at hW hI
  have hq9 : q9 = ad1 180 := by rw [had, upA_s]
  rw [hq9]
  have hl : lv_has ls 7 [(0, .ref (ad1 0)), (1, .int a), (2, .int b)] := by subst had; exact hl
  refine lv_astore_n (lv' := [(3, .ref (ad1 180)), (0, .ref (ad1 0)), (1, .int a), (2, .int b)]) hx hb dX5_worst_6 rfl hl (by decide) rfl (fun ls hl => ?_)
  refine lv_aload_n hx hb dX5_worst_7 rfl (lv_at hl 0 rfl) ?_
  exact q_xS (As := [.ref (ad1 180)]) (rest := []) hx hb hml hts hown hE h0 hW hS hnt hlocks (x_X5_checkStorm l hst9 (List.mem_append_right _ (List.mem_singleton.mpr rfl)) (show fSto 0 0 2 0 a b 12 = 0 from (fSto_0 (Or.inr (Or.inr (Or.inr (Or.inr (Or.inr (Or.inl k2))))))).symm)) mw_X5_checkStorm t_747 ⟨Nat.le_of_ble_eq_true rfl, Nat.le_of_ble_eq_true rfl⟩ rfl hl.1 (Nat.le_of_ble_eq_true rfl) dX5_worst_8 ⟨(by first | decide | omega | (dsimp only; omega)), (by first | decide | omega | (dsimp only; omega))⟩ (by first | decide | omega | (dsimp only; omega)) (by first | decide | omega | (dsimp only; omega)) (fun _ h => h.forget hr180 had ho9 (fun r q => sPut_o q))

set_option maxHeartbeats 4000000 in
set_option maxRecDepth 100000 in
theorem x_X5_advise_1a (l : Launch) (hst9 : l.stackTraces = false) {G : GG} {L : List Nat} {ad : Nat → Nat} {v : Nat → Nat → Int32} {o : Nat → Nat → Option Nat} {w : Nat → Int64} {ng nh nl ns : Nat} {ow gx gy gw gd : Nat → Nat} (hI : PI G.2.2.2 L ad v o ng nh nl ns ow gx gy gw gd) {a b c0 : Int32} (k1 : fIn a 0 19 = 0) : CtXi l G L ad v o w yX5_advise cX5_advise 10 .int ({ frames := 6, cells := 1, slots := 6, locals := 82 }) [.ref (ad 0), .int a, .int b, .int c0] "java/lang/IllegalArgumentException" := by
  have hb6 := hI.g6; have hb12 := hI.h12; have hbl := hI.l6; have hbs := hI.s30
  refine vx_ofW (cc := cX5_advise) (maxL := 10) (ret := (some .int)) (by decide) rfl ?_
  intro p e s m args below meth c s₁ B hml hnt hv
  obtain ⟨rfl, hE, h0, hW⟩ := hv
  have hx := B.exec; have hb := B.bytes; have hts := hE.hts (args := ([.ref (ad 0), .int a, .int b, .int c0] : List Value).toArray); have hown : s.vm.findClass RX5 = some m.cls := findClass_of_methodNamed B.named; have hlocks := B.notSynchronized
  have hl := lv_entry ([.ref (ad 0), .int a, .int b, .int c0] : List Value) (n := 10) (Nat.le_of_ble_eq_true rfl)
  rw [lg_entry_eq]
  generalize (lg_sl ([.ref (ad 0), .int a, .int b, .int c0] : List Value) ++ List.replicate (10 - (lg_sl ([.ref (ad 0), .int a, .int b, .int c0] : List Value)).length) Slot.unset).toArray = ls at hl ⊢
  generalize hH : s.heap = H at hW ⊢
  have hS : va_S (Ab G.2.2.1) s.heap H [] := hH ▸ va_S.rf
  obtain ⟨locs, hlc⟩ : ∃ z : List Loc, z = [] := ⟨_, rfl⟩
  rw [← hlc] at hS ⊢
  have hl : lv_has ls 10 [(0, .ref (ad 0)), (1, .int a), (2, .int b), (3, .int c0)] := hl
  refine lv_iload_n hx hb dX5_advise_0 rfl (lv_at hl 1 rfl) ?_
  refine lv_iconst (v := 0) hx hb dX5_advise_1 (by decide) ?_
  refine lv_bipush (v := 19) hx hb dX5_advise_2 (by decide) ?_
  refine q_cSiE (As := [.int a, .int 0, .int 19]) (rest := []) hx hb hml hts hown hE h0 hW hS (c_X5_isIn l a 0 19) mw_X5_isIn t_318 ⟨Nat.le_of_ble_eq_true rfl, Nat.le_of_ble_eq_true rfl⟩ rfl hl.1 (Nat.le_of_ble_eq_true rfl) dX5_advise_4 ⟨Nat.zero_le _, Nat.zero_le _⟩ ⟨rfl, rfl⟩ (fun H locs hW hS => ?_)
  refine lv_if_ne (tgt := 20) hx hb dX5_advise_7 (by decide) (fun c_7 => ?_) (fun c_7 => ?_)
  · skip
    exact absurd k1 c_7
  · skip
    exact q_throw hx hb hst9 hml hl.1 hts hown hE hnt hlocks (by decide) t_321 t_56 (is := 232) (text := "y is not 0 to 19") (by decide) xa_47 xg_47 hW hS dX5_advise_10 dX5_advise_13 dX5_advise_14 dX5_advise_16 dX5_advise_19 (Nat.le_of_ble_eq_true rfl) (Nat.le_of_ble_eq_true rfl) (by first | decide | omega | (dsimp only; omega)) (by first | decide | omega | (dsimp only; omega)) (by first | decide | omega | (dsimp only; omega)) (by first | decide | omega | (dsimp only; omega)) (fun _ h => h)

set_option maxHeartbeats 4000000 in
set_option maxRecDepth 100000 in
theorem x_X5_advise_1b (l : Launch) (hst9 : l.stackTraces = false) {G : GG} {L : List Nat} {ad : Nat → Nat} {v : Nat → Nat → Int32} {o : Nat → Nat → Option Nat} {w : Nat → Int64} {ng nh nl ns : Nat} {ow gx gy gw gd : Nat → Nat} (hI : PI G.2.2.2 L ad v o ng nh nl ns ow gx gy gw gd) (hr180 : 180 ∉ L) {a b c0 : Int32} (k1 : fIn a 0 19 = 1) (k2 : fIn b 0 5 = 0) : CtXi l G L ad v o w yX5_advise cX5_advise 10 .int ({ frames := 7, cells := 2, slots := 13, locals := 102 }) [.ref (ad 0), .int a, .int b, .int c0] "java/lang/IllegalArgumentException" := by
  have hb6 := hI.g6; have hb12 := hI.h12; have hbl := hI.l6; have hbs := hI.s30
  refine vx_ofW (cc := cX5_advise) (maxL := 10) (ret := (some .int)) (by decide) rfl ?_
  intro p e s m args below meth c s₁ B hml hnt hv
  obtain ⟨rfl, hE, h0, hW⟩ := hv
  have hx := B.exec; have hb := B.bytes; have hts := hE.hts (args := ([.ref (ad 0), .int a, .int b, .int c0] : List Value).toArray); have hown : s.vm.findClass RX5 = some m.cls := findClass_of_methodNamed B.named; have hlocks := B.notSynchronized
  have hl := lv_entry ([.ref (ad 0), .int a, .int b, .int c0] : List Value) (n := 10) (Nat.le_of_ble_eq_true rfl)
  rw [lg_entry_eq]
  generalize (lg_sl ([.ref (ad 0), .int a, .int b, .int c0] : List Value) ++ List.replicate (10 - (lg_sl ([.ref (ad 0), .int a, .int b, .int c0] : List Value)).length) Slot.unset).toArray = ls at hl ⊢
  generalize hH : s.heap = H at hW ⊢
  have hS : va_S (Ab G.2.2.1) s.heap H [] := hH ▸ va_S.rf
  obtain ⟨locs, hlc⟩ : ∃ z : List Loc, z = [] := ⟨_, rfl⟩
  rw [← hlc] at hS ⊢
  have hl : lv_has ls 10 [(0, .ref (ad 0)), (1, .int a), (2, .int b), (3, .int c0)] := hl
  refine lv_iload_n hx hb dX5_advise_0 rfl (lv_at hl 1 rfl) ?_
  refine lv_iconst (v := 0) hx hb dX5_advise_1 (by decide) ?_
  refine lv_bipush (v := 19) hx hb dX5_advise_2 (by decide) ?_
  refine q_cSiE (As := [.int a, .int 0, .int 19]) (rest := []) hx hb hml hts hown hE h0 hW hS (c_X5_isIn l a 0 19) mw_X5_isIn t_318 ⟨Nat.le_of_ble_eq_true rfl, Nat.le_of_ble_eq_true rfl⟩ rfl hl.1 (Nat.le_of_ble_eq_true rfl) dX5_advise_4 ⟨Nat.zero_le _, Nat.zero_le _⟩ ⟨rfl, rfl⟩ (fun H locs hW hS => ?_)
  refine lv_if_ne (tgt := 20) hx hb dX5_advise_7 (by decide) (fun c_7 => ?_) (fun c_7 => ?_)
  · skip
    refine lv_iload_n hx hb dX5_advise_20 rfl (lv_at hl 1 rfl) ?_
    refine lv_iload_n hx hb dX5_advise_21 rfl (lv_at hl 2 rfl) ?_
    refine lv_iload_n hx hb dX5_advise_22 rfl (lv_at hl 3 rfl) ?_
    refine q_cSrw (As := [.int a, .int b, .int c0]) (rest := []) hx hb hml hts hown hE h0 hW hS (c_X5_westStorm l hr180) mw_X5_westStorm t_836 ⟨Nat.le_of_ble_eq_true rfl, Nat.le_of_ble_eq_true rfl⟩ rfl hl.1 (Nat.le_of_ble_eq_true rfl) dX5_advise_23 ⟨(by first | decide | omega | (dsimp only; omega)), (by first | decide | omega | (dsimp only; omega))⟩ (fun ra P H locs hp hW hS => ?_)
    obtain ⟨q9, hq9, hP9⟩ := hp
    subst hP9
    subst ra
    obtain ⟨ad1, had⟩ : ∃ z, z = upA ad 180 q9 := ⟨_, rfl⟩
    have hW : WD G (L ++ [180]) (upA ad 180 q9) (sPut v 0 a 2 0 b c0 12) (up1 o 180 nOp) w s H := hW
    rw [← had] at hW
    have hI := hI.new (r := 180) (a := z32) (b := nOp) (by decide) had
    have hI : PI G.2.2.2 (L ++ [180]) ad1 (sPut v 0 a 2 0 b c0 12) (up1 o 180 nOp) ng nh nl ns ow gx gy gw gd := hI.put
    generalize ho9 : up1 o 180 nOp = o1 at hW hI
    have hq9 : q9 = ad1 180 := by rw [had, upA_s]
    rw [hq9]
    have hl : lv_has ls 10 [(0, .ref (ad1 0)), (1, .int a), (2, .int b), (3, .int c0)] := by subst had; exact hl
    refine lv_astore (lv' := [(4, .ref (ad1 180)), (0, .ref (ad1 0)), (1, .int a), (2, .int b), (3, .int c0)]) hx hb dX5_advise_26 hl (by decide) rfl (fun ls hl => ?_)
    refine lv_aload hx hb dX5_advise_28 (lv_at hl 0 rfl) ?_
    exact q_xS (As := [.ref (ad1 180)]) (rest := []) hx hb hml hts hown hE h0 hW hS hnt hlocks (x_X5_checkStorm l hst9 (List.mem_append_right _ (List.mem_singleton.mpr rfl)) (show fSto 0 a 2 0 b c0 12 = 0 from (fSto_0 (Or.inr (Or.inr (Or.inr (Or.inr (Or.inl k2)))))).symm)) mw_X5_checkStorm t_747 ⟨Nat.le_of_ble_eq_true rfl, Nat.le_of_ble_eq_true rfl⟩ rfl hl.1 (Nat.le_of_ble_eq_true rfl) dX5_advise_30 ⟨(by first | decide | omega | (dsimp only; omega)), (by first | decide | omega | (dsimp only; omega))⟩ (by first | decide | omega | (dsimp only; omega)) (by first | decide | omega | (dsimp only; omega)) (fun _ h => h.forget hr180 had ho9 (fun r q => sPut_o q))
  · skip
    exact absurd (k1.symm.trans c_7) (by decide)

set_option maxHeartbeats 4000000 in
set_option maxRecDepth 100000 in
theorem x_X5_advise_1c (l : Launch) (hst9 : l.stackTraces = false) {G : GG} {L : List Nat} {ad : Nat → Nat} {v : Nat → Nat → Int32} {o : Nat → Nat → Option Nat} {w : Nat → Int64} {ng nh nl ns : Nat} {ow gx gy gw gd : Nat → Nat} (hI : PI G.2.2.2 L ad v o ng nh nl ns ow gx gy gw gd) (hr180 : 180 ∉ L) {a b c0 : Int32} (k1 : fIn a 0 19 = 1) (k2 : fIn b 0 5 = 1) (k3 : fIn c0 1 20 = 0) : CtXi l G L ad v o w yX5_advise cX5_advise 10 .int ({ frames := 7, cells := 2, slots := 13, locals := 102 }) [.ref (ad 0), .int a, .int b, .int c0] "java/lang/IllegalArgumentException" := by
  have hb6 := hI.g6; have hb12 := hI.h12; have hbl := hI.l6; have hbs := hI.s30
  refine vx_ofW (cc := cX5_advise) (maxL := 10) (ret := (some .int)) (by decide) rfl ?_
  intro p e s m args below meth c s₁ B hml hnt hv
  obtain ⟨rfl, hE, h0, hW⟩ := hv
  have hx := B.exec; have hb := B.bytes; have hts := hE.hts (args := ([.ref (ad 0), .int a, .int b, .int c0] : List Value).toArray); have hown : s.vm.findClass RX5 = some m.cls := findClass_of_methodNamed B.named; have hlocks := B.notSynchronized
  have hl := lv_entry ([.ref (ad 0), .int a, .int b, .int c0] : List Value) (n := 10) (Nat.le_of_ble_eq_true rfl)
  rw [lg_entry_eq]
  generalize (lg_sl ([.ref (ad 0), .int a, .int b, .int c0] : List Value) ++ List.replicate (10 - (lg_sl ([.ref (ad 0), .int a, .int b, .int c0] : List Value)).length) Slot.unset).toArray = ls at hl ⊢
  generalize hH : s.heap = H at hW ⊢
  have hS : va_S (Ab G.2.2.1) s.heap H [] := hH ▸ va_S.rf
  obtain ⟨locs, hlc⟩ : ∃ z : List Loc, z = [] := ⟨_, rfl⟩
  rw [← hlc] at hS ⊢
  have hl : lv_has ls 10 [(0, .ref (ad 0)), (1, .int a), (2, .int b), (3, .int c0)] := hl
  refine lv_iload_n hx hb dX5_advise_0 rfl (lv_at hl 1 rfl) ?_
  refine lv_iconst (v := 0) hx hb dX5_advise_1 (by decide) ?_
  refine lv_bipush (v := 19) hx hb dX5_advise_2 (by decide) ?_
  refine q_cSiE (As := [.int a, .int 0, .int 19]) (rest := []) hx hb hml hts hown hE h0 hW hS (c_X5_isIn l a 0 19) mw_X5_isIn t_318 ⟨Nat.le_of_ble_eq_true rfl, Nat.le_of_ble_eq_true rfl⟩ rfl hl.1 (Nat.le_of_ble_eq_true rfl) dX5_advise_4 ⟨Nat.zero_le _, Nat.zero_le _⟩ ⟨rfl, rfl⟩ (fun H locs hW hS => ?_)
  refine lv_if_ne (tgt := 20) hx hb dX5_advise_7 (by decide) (fun c_7 => ?_) (fun c_7 => ?_)
  · skip
    refine lv_iload_n hx hb dX5_advise_20 rfl (lv_at hl 1 rfl) ?_
    refine lv_iload_n hx hb dX5_advise_21 rfl (lv_at hl 2 rfl) ?_
    refine lv_iload_n hx hb dX5_advise_22 rfl (lv_at hl 3 rfl) ?_
    refine q_cSrw (As := [.int a, .int b, .int c0]) (rest := []) hx hb hml hts hown hE h0 hW hS (c_X5_westStorm l hr180) mw_X5_westStorm t_836 ⟨Nat.le_of_ble_eq_true rfl, Nat.le_of_ble_eq_true rfl⟩ rfl hl.1 (Nat.le_of_ble_eq_true rfl) dX5_advise_23 ⟨(by first | decide | omega | (dsimp only; omega)), (by first | decide | omega | (dsimp only; omega))⟩ (fun ra P H locs hp hW hS => ?_)
    obtain ⟨q9, hq9, hP9⟩ := hp
    subst hP9
    subst ra
    obtain ⟨ad1, had⟩ : ∃ z, z = upA ad 180 q9 := ⟨_, rfl⟩
    have hW : WD G (L ++ [180]) (upA ad 180 q9) (sPut v 0 a 2 0 b c0 12) (up1 o 180 nOp) w s H := hW
    rw [← had] at hW
    have hI := hI.new (r := 180) (a := z32) (b := nOp) (by decide) had
    have hI : PI G.2.2.2 (L ++ [180]) ad1 (sPut v 0 a 2 0 b c0 12) (up1 o 180 nOp) ng nh nl ns ow gx gy gw gd := hI.put
    generalize ho9 : up1 o 180 nOp = o1 at hW hI
    have hq9 : q9 = ad1 180 := by rw [had, upA_s]
    rw [hq9]
    have hl : lv_has ls 10 [(0, .ref (ad1 0)), (1, .int a), (2, .int b), (3, .int c0)] := by subst had; exact hl
    refine lv_astore (lv' := [(4, .ref (ad1 180)), (0, .ref (ad1 0)), (1, .int a), (2, .int b), (3, .int c0)]) hx hb dX5_advise_26 hl (by decide) rfl (fun ls hl => ?_)
    refine lv_aload hx hb dX5_advise_28 (lv_at hl 0 rfl) ?_
    exact q_xS (As := [.ref (ad1 180)]) (rest := []) hx hb hml hts hown hE h0 hW hS hnt hlocks (x_X5_checkStorm l hst9 (List.mem_append_right _ (List.mem_singleton.mpr rfl)) (show fSto 0 a 2 0 b c0 12 = 0 from (fSto_0 (Or.inr (Or.inr (Or.inr (Or.inr (Or.inr (Or.inl k3))))))).symm)) mw_X5_checkStorm t_747 ⟨Nat.le_of_ble_eq_true rfl, Nat.le_of_ble_eq_true rfl⟩ rfl hl.1 (Nat.le_of_ble_eq_true rfl) dX5_advise_30 ⟨(by first | decide | omega | (dsimp only; omega)), (by first | decide | omega | (dsimp only; omega))⟩ (by first | decide | omega | (dsimp only; omega)) (by first | decide | omega | (dsimp only; omega)) (fun _ h => h.forget hr180 had ho9 (fun r q => sPut_o q))
  · skip
    exact absurd (k1.symm.trans c_7) (by decide)
