/-! the class: what changes its state -/
set_option maxHeartbeats 4000000 in
set_option maxRecDepth 100000 in
theorem c_X5_checkGrower (l : Launch) {G : GG} {L : List Nat} {ad : Nat → Nat} {v : Nat → Nat → Int32} {o : Nat → Nat → Option Nat} {w : Nat → Int64} {ng nh nl ns : Nat} {ow gx gy gw gd : Nat → Nat} (hI : PI G.2.2.2 L ad v o ng nh nl ns ow gx gy gw gd) {g : Nat} (hg : g < ng) : CtV l G L ad v o w yX5_checkGrower cX5_checkGrower 2 ({ frames := 1, cells := 0, slots := 0, locals := 22 }) [.ref (ad 0), .int (nI g)] (fun u => u = v) := by
  have hb6 := hI.g6; have hb12 := hI.h12; have hbl := hI.l6; have hbs := hI.s30; have hck := fIn_nat hg (by omega)
  refine q_ofV (by decide) (Nat.le_of_ble_eq_true rfl) ?_
  intro p e s m below meth c hx hb hr hml hts hown hlocks hE h0 hW hS hin ls hl
  generalize hH : s.heap = H at hW
  have hS : va_S (Ab G.2.2.1) s.heap H [] := hH ▸ hS
  obtain ⟨locs, hlc⟩ : ∃ z : List Loc, z = [] := ⟨_, rfl⟩
  rw [← hlc] at hS ⊢
  have hl : lv_has ls 2 [(0, .ref (ad 0)), (1, .int (nI g))] := hl
  refine lv_iload_n hx hb dX5_checkGrower_0 rfl (lv_at hl 1 rfl) ?_
  refine lv_iconst (v := 0) hx hb dX5_checkGrower_1 (by decide) ?_
  refine lv_aload_n hx hb dX5_checkGrower_2 rfl (lv_at hl 0 rfl) ?_
  refine q_getr hx hb hts hown hW (r := 0) (hI.c 0 (by decide)) rfl k_6 0 (by decide) rfl t_137 (a := ad 1) (hI.o0 0 (by decide)) dX5_checkGrower_3 ?_
  refine q_cFiE (As := []) (rest := [.int 0, .int (nI g)]) (r := 1) hx hb hml hts hown hE h0 hW hS hE.2.1 (c_size l hI.lg) t_178 t_176 t_174 t_49 (by decide) (by decide +kernel) (hI.c 1 (by decide)) rfl k_0 t_170 ⟨Nat.le_of_ble_eq_true rfl, Nat.le_of_ble_eq_true rfl⟩ rfl hl.1 (Nat.le_of_ble_eq_true rfl) dX5_checkGrower_6 ⟨Nat.zero_le _, Nat.zero_le _⟩ ⟨rfl, rfl⟩ (fun H locs hW hS => ?_)
  refine lv_iconst (v := 1) hx hb dX5_checkGrower_11 (by decide) ?_
  refine lv_isub hx hb dX5_checkGrower_12 ?_
  refine q_cSiE (As := [.int (nI g), .int 0, .int ((nI ng) - 1)]) (rest := []) hx hb hml hts hown hE h0 hW hS (c_X5_isIn l (nI g) 0 ((nI ng) - 1)) mw_X5_isIn t_318 ⟨Nat.le_of_ble_eq_true rfl, Nat.le_of_ble_eq_true rfl⟩ rfl hl.1 (Nat.le_of_ble_eq_true rfl) dX5_checkGrower_13 ⟨Nat.zero_le _, Nat.zero_le _⟩ ⟨rfl, rfl⟩ (fun H locs hW hS => ?_)
  refine lv_if_ne (tgt := 30) hx hb dX5_checkGrower_16 (by decide) (fun c_16 => ?_) (fun c_16 => ?_)
  · skip
    exact q_vret hx hb hr hlocks hW hS (Nat.le_refl _) (Nat.le_refl _) dX5_checkGrower_30 (rfl)
  · skip
    exact absurd (hck.symm.trans c_16) (by decide)

set_option maxHeartbeats 4000000 in
set_option maxRecDepth 100000 in
theorem c_X5_checkHouse (l : Launch) {G : GG} {L : List Nat} {ad : Nat → Nat} {v : Nat → Nat → Int32} {o : Nat → Nat → Option Nat} {w : Nat → Int64} {ng nh nl ns : Nat} {ow gx gy gw gd : Nat → Nat} (hI : PI G.2.2.2 L ad v o ng nh nl ns ow gx gy gw gd) {h : Nat} (hh : h < nh) : CtV l G L ad v o w yX5_checkHouse cX5_checkHouse 2 ({ frames := 1, cells := 0, slots := 0, locals := 22 }) [.ref (ad 0), .int (nI h)] (fun u => u = v) := by
  have hb6 := hI.g6; have hb12 := hI.h12; have hbl := hI.l6; have hbs := hI.s30; have hck := fIn_nat hh (by omega)
  refine q_ofV (by decide) (Nat.le_of_ble_eq_true rfl) ?_
  intro p e s m below meth c hx hb hr hml hts hown hlocks hE h0 hW hS hin ls hl
  generalize hH : s.heap = H at hW
  have hS : va_S (Ab G.2.2.1) s.heap H [] := hH ▸ hS
  obtain ⟨locs, hlc⟩ : ∃ z : List Loc, z = [] := ⟨_, rfl⟩
  rw [← hlc] at hS ⊢
  have hl : lv_has ls 2 [(0, .ref (ad 0)), (1, .int (nI h))] := hl
  refine lv_iload_n hx hb dX5_checkHouse_0 rfl (lv_at hl 1 rfl) ?_
  refine lv_iconst (v := 0) hx hb dX5_checkHouse_1 (by decide) ?_
  refine lv_aload_n hx hb dX5_checkHouse_2 rfl (lv_at hl 0 rfl) ?_
  refine q_getr hx hb hts hown hW (r := 0) (hI.c 0 (by decide)) rfl k_6 1 (by decide) rfl t_138 (a := ad 2) (hI.o0 1 (by decide)) dX5_checkHouse_3 ?_
  refine q_cFiE (As := []) (rest := [.int 0, .int (nI h)]) (r := 2) hx hb hml hts hown hE h0 hW hS hE.2.1 (c_size l hI.lh) t_178 t_176 t_174 t_49 (by decide) (by decide +kernel) (hI.c 2 (by decide)) rfl k_0 t_170 ⟨Nat.le_of_ble_eq_true rfl, Nat.le_of_ble_eq_true rfl⟩ rfl hl.1 (Nat.le_of_ble_eq_true rfl) dX5_checkHouse_6 ⟨Nat.zero_le _, Nat.zero_le _⟩ ⟨rfl, rfl⟩ (fun H locs hW hS => ?_)
  refine lv_iconst (v := 1) hx hb dX5_checkHouse_11 (by decide) ?_
  refine lv_isub hx hb dX5_checkHouse_12 ?_
  refine q_cSiE (As := [.int (nI h), .int 0, .int ((nI nh) - 1)]) (rest := []) hx hb hml hts hown hE h0 hW hS (c_X5_isIn l (nI h) 0 ((nI nh) - 1)) mw_X5_isIn t_318 ⟨Nat.le_of_ble_eq_true rfl, Nat.le_of_ble_eq_true rfl⟩ rfl hl.1 (Nat.le_of_ble_eq_true rfl) dX5_checkHouse_13 ⟨Nat.zero_le _, Nat.zero_le _⟩ ⟨rfl, rfl⟩ (fun H locs hW hS => ?_)
  refine lv_if_ne (tgt := 30) hx hb dX5_checkHouse_16 (by decide) (fun c_16 => ?_) (fun c_16 => ?_)
  · skip
    exact q_vret hx hb hr hlocks hW hS (Nat.le_refl _) (Nat.le_refl _) dX5_checkHouse_30 (rfl)
  · skip
    exact absurd (hck.symm.trans c_16) (by decide)

set_option maxHeartbeats 4000000 in
set_option maxRecDepth 100000 in
theorem c_X5_checkWhat (l : Launch) {G : GG} {L : List Nat} {ad : Nat → Nat} {v : Nat → Nat → Int32} {o : Nat → Nat → Option Nat} {w : Nat → Int64} {i n : Nat} (hi9 : i < n) (hn9 : n < 2 ^ 31) : CtV l G L ad v o w yX5_checkWhat cX5_checkWhat 2 ({ frames := 1, cells := 0, slots := 0, locals := 22 }) [.int (nI i), .int (nI n)] (fun u => u = v) := by
  have hck := fIn_nat hi9 hn9
  refine q_ofV (by decide) (Nat.le_of_ble_eq_true rfl) ?_
  intro p e s m below meth c hx hb hr hml hts hown hlocks hE h0 hW hS hin ls hl
  generalize hH : s.heap = H at hW
  have hS : va_S (Ab G.2.2.1) s.heap H [] := hH ▸ hS
  obtain ⟨locs, hlc⟩ : ∃ z : List Loc, z = [] := ⟨_, rfl⟩
  rw [← hlc] at hS ⊢
  have hl : lv_has ls 2 [(0, .int (nI i)), (1, .int (nI n))] := hl
  refine lv_iload_n hx hb dX5_checkWhat_0 rfl (lv_at hl 0 rfl) ?_
  refine lv_iconst (v := 0) hx hb dX5_checkWhat_1 (by decide) ?_
  refine lv_iload_n hx hb dX5_checkWhat_2 rfl (lv_at hl 1 rfl) ?_
  refine lv_iconst (v := 1) hx hb dX5_checkWhat_3 (by decide) ?_
  refine lv_isub hx hb dX5_checkWhat_4 ?_
  refine q_cSiE (As := [.int (nI i), .int 0, .int ((nI n) - 1)]) (rest := []) hx hb hml hts hown hE h0 hW hS (c_X5_isIn l (nI i) 0 ((nI n) - 1)) mw_X5_isIn t_318 ⟨Nat.le_of_ble_eq_true rfl, Nat.le_of_ble_eq_true rfl⟩ rfl hl.1 (Nat.le_of_ble_eq_true rfl) dX5_checkWhat_5 ⟨Nat.zero_le _, Nat.zero_le _⟩ ⟨rfl, rfl⟩ (fun H locs hW hS => ?_)
  refine lv_if_ne (tgt := 22) hx hb dX5_checkWhat_8 (by decide) (fun c_8 => ?_) (fun c_8 => ?_)
  · skip
    exact q_vret hx hb hr hlocks hW hS (Nat.le_refl _) (Nat.le_refl _) dX5_checkWhat_22 (rfl)
  · skip
    exact absurd (hck.symm.trans c_8) (by decide)

set_option maxHeartbeats 4000000 in
set_option maxRecDepth 100000 in
theorem c_X5_makeWhole (l : Launch) {G : GG} {L : List Nat} {ad : Nat → Nat} {v : Nat → Nat → Int32} {o : Nat → Nat → Option Nat} {w : Nat → Int64} {ng nh nl ns : Nat} {ow gx gy gw gd : Nat → Nat} (hI : PI G.2.2.2 L ad v o ng nh nl ns ow gx gy gw gd) {h : Nat} (hh : h < nh) : CtV l G L ad v o w yX5_makeWhole cX5_makeWhole 4 ({ frames := 1, cells := 0, slots := 0, locals := 21 }) [.ref (ad 0), .ref (ad (60 + h))] (fun u => u = mkW v gx gy gw gd h) := by
  have hb6 := hI.g6; have hb12 := hI.h12; have hbl := hI.l6; have hbs := hI.s30; have hgeo := (hI.hs h hh).1
  refine q_ofV (by decide) (Nat.le_of_ble_eq_true rfl) ?_
  intro p e s m below meth c hx hb hr hml hts hown hlocks hE h0 hW hS hin ls hl
  generalize hH : s.heap = H at hW
  have hS : va_S (Ab G.2.2.1) s.heap H [] := hH ▸ hS
  obtain ⟨locs, hlc⟩ : ∃ z : List Loc, z = [] := ⟨_, rfl⟩
  rw [← hlc] at hS ⊢
  have hl : lv_has ls 4 [(0, .ref (ad 0)), (1, .ref (ad (60 + h)))] := hl
  refine lv_aload_n hx hb dX5_makeWhole_0 rfl (lv_at hl 1 rfl) ?_
  refine q_get hx hb hts hown hW (r := (60 + h)) (hI.mh hh) (hI.kh hh) k_2 2 (by decide) rfl t_555 (x := (nI (gy h))) (hI.eY hh) dX5_makeWhole_1 ?_
  refine lv_istore_n (lv' := [(2, .int (nI (gy h))), (0, .ref (ad 0)), (1, .ref (ad (60 + h)))]) hx hb dX5_makeWhole_4 rfl hl (by decide) rfl (fun ls hl => ?_)
  suffices LP_5 : ∀ (n_5 a : Nat) (x2_5 : Int32)  (u_5 : Nat → Nat → Int32) (H : Heap) (locs : List Loc) (ls : Array Slot), gd h + 1 ≤ a + n_5 → a ≤ gd h → nI (gy h + a) = x2_5 → itr (fun i u => itr (fun j u => up2 u 4 ((gy h + i) * 20 + (gx h + j)) 0) (gw h) u) a v = u_5 → WD G L ad u_5 o w s H → va_S (Ab G.2.2.1) s.heap H locs → lv_has ls 4 [(2, .int x2_5), (0, .ref (ad 0)), (1, .ref (ad (60 + h)))] → W p l e ({ frames := 1, cells := 0, slots := 0, locals := 21 } : Room) s m ([.ref (ad 0), .ref (ad (60 + h))] : List Value).toArray below meth c H locs 0 0 (MQ below (va_Qv (fun u => u = mkW v gx gy gw gd h) (fun u t => WD G L ad u o w t t.heap) (Ab G.2.2.1)) ([.ref (ad 0), .ref (ad (60 + h))] : List Value).toArray s ({ frames := 1, cells := 0, slots := 0, locals := 21 } : Room).cells ({ frames := 1, cells := 0, slots := 0, locals := 21 } : Room).slots (Ab G.2.2.1)) (F0 m 5 ls []) from LP_5 (gd h + 1) 0 _   _ H locs ls (by omega) (by omega) (by rfl) (by rfl)  hW hS (lv_sub hl [0, 1, 2] rfl)
  intro n_5
  induction n_5 with
  | zero => intro a x2_5  u_5 H locs ls h1 h2; exact absurd h1 (by omega)
  | succ n_5 ih_5 =>
    intro a x2_5  u_5 H locs ls hn_5 hi_5 ex2_5 eu_5  hW hS hl
    subst ex2_5
    subst eu_5
    have hI : PI G.2.2.2 L ad (itr (fun i u => itr (fun j u => up2 u 4 ((gy h + i) * 20 + (gx h + j)) 0) (gw h) u) a v) o ng nh nl ns ow gx gy gw gd := hI.kp (kp_itr (fun _ _ _ => kp_itr (fun _ _ _ => kp_up (by unfold depC dep; omega))))
    refine lv_iload_n hx hb dX5_makeWhole_5 rfl (lv_at hl 0 rfl) ?_
    refine lv_aload_n hx hb dX5_makeWhole_6 rfl (lv_at hl 2 rfl) ?_
    refine q_get hx hb hts hown hW (r := (60 + h)) (hI.mh hh) (hI.kh hh) k_2 2 (by decide) rfl t_555 (x := (nI (gy h))) (hI.eY hh) dX5_makeWhole_7 ?_
    refine lv_aload_n hx hb dX5_makeWhole_10 rfl (lv_at hl 2 rfl) ?_
    refine q_get hx hb hts hown hW (r := (60 + h)) (hI.mh hh) (hI.kh hh) k_2 4 (by decide) rfl t_559 (x := (nI (gd h))) (hI.eD hh) dX5_makeWhole_11 ?_
    refine lv_iadd hx hb dX5_makeWhole_14 ?_
    refine lv_icmp_ge (tgt := 59) hx hb dX5_makeWhole_15 (by decide) (fun c_15 => ?_) (fun c_15 => ?_)
    · skip
      have hq_5 := (ge_off (Y := (gy h)) (D := (gd h)) (by omega) hi_5 c_15).symm
      subst hq_5
      exact q_vret hx hb hr hlocks hW hS (Nat.le_refl _) (Nat.le_refl _) dX5_makeWhole_59 (rfl)
    · skip
      have hlt_5 := lt_off (Y := (gy h)) (D := (gd h)) (by omega) hi_5 c_15
      refine lv_aload_n hx hb dX5_makeWhole_18 rfl (lv_at hl 2 rfl) ?_
      refine q_get hx hb hts hown hW (r := (60 + h)) (hI.mh hh) (hI.kh hh) k_2 1 (by decide) rfl t_553 (x := (nI (gx h))) (hI.eX hh) dX5_makeWhole_19 ?_
      refine lv_istore_n (lv' := [(3, .int (nI (gx h))), (2, .int (nI (gy h + a))), (0, .ref (ad 0)), (1, .ref (ad (60 + h)))]) hx hb dX5_makeWhole_22 rfl hl (by decide) rfl (fun ls hl => ?_)
      suffices LP_23 : ∀ (n_23 b : Nat) (x3_23 : Int32)  (u_23 : Nat → Nat → Int32) (H : Heap) (locs : List Loc) (ls : Array Slot), gw h + 1 ≤ b + n_23 → b ≤ gw h → nI (gx h + b) = x3_23 → itr (fun j u => up2 u 4 ((gy h + a) * 20 + (gx h + j)) 0) b (itr (fun i u => itr (fun j u => up2 u 4 ((gy h + i) * 20 + (gx h + j)) 0) (gw h) u) a v) = u_23 → WD G L ad u_23 o w s H → va_S (Ab G.2.2.1) s.heap H locs → lv_has ls 4 [(3, .int x3_23), (2, .int (nI (gy h + a))), (0, .ref (ad 0)), (1, .ref (ad (60 + h)))] → W p l e ({ frames := 1, cells := 0, slots := 0, locals := 21 } : Room) s m ([.ref (ad 0), .ref (ad (60 + h))] : List Value).toArray below meth c H locs 0 0 (MQ below (va_Qv (fun u => u = mkW v gx gy gw gd h) (fun u t => WD G L ad u o w t t.heap) (Ab G.2.2.1)) ([.ref (ad 0), .ref (ad (60 + h))] : List Value).toArray s ({ frames := 1, cells := 0, slots := 0, locals := 21 } : Room).cells ({ frames := 1, cells := 0, slots := 0, locals := 21 } : Room).slots (Ab G.2.2.1)) (F0 m 23 ls []) from LP_23 (gw h + 1) 0 _   _ H locs ls (by omega) (by omega) (by rfl) (by rfl)  hW hS (lv_sub hl [0, 1, 2, 3] rfl)
      intro n_23
      induction n_23 with
      | zero => intro b x3_23  u_23 H locs ls h1 h2; exact absurd h1 (by omega)
      | succ n_23 ih_23 =>
        intro b x3_23  u_23 H locs ls hn_23 hi_23 ex3_23 eu_23  hW hS hl
        subst ex3_23
        subst eu_23
        have hI : PI G.2.2.2 L ad (itr (fun j u => up2 u 4 ((gy h + a) * 20 + (gx h + j)) 0) b (itr (fun i u => itr (fun j u => up2 u 4 ((gy h + i) * 20 + (gx h + j)) 0) (gw h) u) a v)) o ng nh nl ns ow gx gy gw gd := hI.kp (kp_itr (fun _ _ _ => kp_up (by unfold depC dep; omega)))
        refine lv_iload_n hx hb dX5_makeWhole_23 rfl (lv_at hl 0 rfl) ?_
        refine lv_aload_n hx hb dX5_makeWhole_24 rfl (lv_at hl 3 rfl) ?_
        refine q_get hx hb hts hown hW (r := (60 + h)) (hI.mh hh) (hI.kh hh) k_2 1 (by decide) rfl t_553 (x := (nI (gx h))) (hI.eX hh) dX5_makeWhole_25 ?_
        refine lv_aload_n hx hb dX5_makeWhole_28 rfl (lv_at hl 3 rfl) ?_
        refine q_get hx hb hts hown hW (r := (60 + h)) (hI.mh hh) (hI.kh hh) k_2 3 (by decide) rfl t_557 (x := (nI (gw h))) (hI.eW hh) dX5_makeWhole_29 ?_
        refine lv_iadd hx hb dX5_makeWhole_32 ?_
        refine lv_icmp_ge (tgt := 53) hx hb dX5_makeWhole_33 (by decide) (fun c_33 => ?_) (fun c_33 => ?_)
        · skip
          have hq_23 := (ge_off (Y := (gx h)) (D := (gw h)) (by omega) hi_23 c_33).symm
          subst hq_23
          refine lv_iinc (v := (nI ((gy h + a) + 1))) (lv' := [(2, .int (nI ((gy h + a) + 1))), (3, .int (nI (gx h + (gw h)))), (0, .ref (ad 0)), (1, .ref (ad (60 + h)))]) hx hb dX5_makeWhole_53 hl (k := 1) rfl (inc_nI _) (by decide) rfl (fun ls hl => ?_)
          refine lv_goto (tgt := 5) hx hb dX5_makeWhole_56 (by decide) ?_
          exact ih_5 (a + 1) _   _ H locs ls (by omega) (by omega) (by rfl) (by rfl)  hW hS (lv_sub hl [0, 2, 3] rfl)
        · skip
          have hlt_23 := lt_off (Y := (gx h)) (D := (gw h)) (by omega) hi_23 c_33
          refine lv_aload_n hx hb dX5_makeWhole_36 rfl (lv_at hl 2 rfl) ?_
          refine q_getr hx hb hts hown hW (r := 0) (hI.c 0 (by decide)) rfl k_6 3 (by decide) rfl t_140 (a := ad 4) (hI.o0 3 (by decide)) dX5_makeWhole_37 ?_
          refine lv_iload_n hx hb dX5_makeWhole_40 rfl (lv_at hl 0 rfl) ?_
          refine lv_iload_n hx hb dX5_makeWhole_41 rfl (lv_at hl 1 rfl) ?_
          refine q_cSiE (As := [.int (nI (gx h + b)), .int (nI (gy h + a))]) (rest := [.ref (ad 4)]) hx hb hml hts hown hE h0 hW hS (c_X5_cellAt l (gx h + b) (gy h + a)) mw_X5_cellAt t_252 ⟨Nat.le_of_ble_eq_true rfl, Nat.le_of_ble_eq_true rfl⟩ rfl hl.1 (Nat.le_of_ble_eq_true rfl) dX5_makeWhole_42 ⟨Nat.zero_le _, Nat.zero_le _⟩ ⟨rfl, rfl⟩ (fun H locs hW hS => ?_)
          refine lv_iconst (v := 0) hx hb dX5_makeWhole_45 (by decide) ?_
          refine q_iast hx hb hW hS (r := 4) (hI.c 4 (by decide)) rfl ((gy h + a) * 20 + (gx h + b)) rfl (show _ < 400 by omega) (by decide) dX5_makeWhole_46 (fun H locs hW hS => ?_)
          have hI : PI G.2.2.2 L ad (up2 (itr (fun j u => up2 u 4 ((gy h + a) * 20 + (gx h + j)) 0) b (itr (fun i u => itr (fun j u => up2 u 4 ((gy h + i) * 20 + (gx h + j)) 0) (gw h) u) a v)) 4 ((gy h + a) * 20 + (gx h + b)) 0) o ng nh nl ns ow gx gy gw gd := hI.kp (kp_up (by unfold depC dep; omega))
          generalize hv1 : (up2 (itr (fun j u => up2 u 4 ((gy h + a) * 20 + (gx h + j)) 0) b (itr (fun i u => itr (fun j u => up2 u 4 ((gy h + i) * 20 + (gx h + j)) 0) (gw h) u) a v)) 4 ((gy h + a) * 20 + (gx h + b)) 0) = v1 at hW hI
          refine lv_iinc (v := (nI ((gx h + b) + 1))) (lv' := [(3, .int (nI ((gx h + b) + 1))), (2, .int (nI (gy h + a))), (0, .ref (ad 0)), (1, .ref (ad (60 + h)))]) hx hb dX5_makeWhole_47 hl (k := 0) rfl (inc_nI _) (by decide) rfl (fun ls hl => ?_)
          refine lv_goto (tgt := 23) hx hb dX5_makeWhole_50 (by decide) ?_
          subst hv1
          exact ih_23 (b + 1) _   _ H locs ls (by omega) (by omega) (by rfl) (by rfl)  hW hS (lv_sub hl [0, 1, 2, 3] rfl)

set_option maxHeartbeats 4000000 in
set_option maxRecDepth 100000 in
theorem c_X5_takePremium (l : Launch) {G : GG} {L : List Nat} {ad : Nat → Nat} {v : Nat → Nat → Int32} {o : Nat → Nat → Option Nat} {w : Nat → Int64} {ng nh nl ns : Nat} {ow gx gy gw gd : Nat → Nat} (hI : PI G.2.2.2 L ad v o ng nh nl ns ow gx gy gw gd) {g : Nat} (hg : g < ng) : CtI l G L ad v o w yX5_takePremium cX5_takePremium 4 .int ({ frames := 5, cells := 0, slots := 0, locals := 123 }) [.ref (ad 0), .int (nI g)] (fun r u => r = pPre v nh g ∧ u = uPre v nh g) := by
  have hb6 := hI.g6; have hb12 := hI.h12; have hbl := hI.l6; have hbs := hI.s30
  refine q_ofI (by decide) (Nat.le_of_ble_eq_true rfl) ?_
  intro p e s m below meth c hx hb hr hml hts hown hlocks hE h0 hW hS ls hl
  generalize hH : s.heap = H at hW
  have hS : va_S (Ab G.2.2.1) s.heap H [] := hH ▸ hS
  obtain ⟨locs, hlc⟩ : ∃ z : List Loc, z = [] := ⟨_, rfl⟩
  rw [← hlc] at hS ⊢
  have hl : lv_has ls 4 [(0, .ref (ad 0)), (1, .int (nI g))] := hl
  refine lv_aload_n hx hb dX5_takePremium_0 rfl (lv_at hl 0 rfl) ?_
  refine q_getr hx hb hts hown hW (r := 0) (hI.c 0 (by decide)) rfl k_6 0 (by decide) rfl t_137 (a := ad 1) (hI.o0 0 (by decide)) dX5_takePremium_1 ?_
  refine lv_iload_n hx hb dX5_takePremium_4 rfl (lv_at hl 1 rfl) ?_
  refine q_cFrE (n := 1) (As := [.int (nI g)]) (rest := []) (r := 1) hx hb hml hts hown hE h0 hW hS hE.2.2.1 (c_get l hI.lg (i := g) hg) t_191 t_189 t_187 t_49 (by decide) (by decide +kernel) (hI.c 1 (by decide)) rfl k_0 t_184 ⟨Nat.le_of_ble_eq_true rfl, Nat.le_of_ble_eq_true rfl⟩ rfl hl.1 (Nat.le_of_ble_eq_true rfl) dX5_takePremium_5 ⟨Nat.zero_le _, Nat.zero_le _⟩ ⟨rfl, rfl⟩ (fun H locs hW hS => ?_)
  refine q_castS hx hb hts hown hW (r := (50 + g)) (hI.mg hg) (hI.kg hg) k_1 t_202 dX5_takePremium_10 ?_
  refine lv_astore_n (lv' := [(2, .ref (ad (50 + g))), (0, .ref (ad 0)), (1, .int (nI g))]) hx hb dX5_takePremium_13 rfl hl (by decide) rfl (fun ls hl => ?_)
  refine lv_aload_n hx hb dX5_takePremium_14 rfl (lv_at hl 0 rfl) ?_
  refine lv_aload_n hx hb dX5_takePremium_15 rfl (lv_at hl 1 rfl) ?_
  refine lv_iload_n hx hb dX5_takePremium_16 rfl (lv_at hl 2 rfl) ?_
  refine q_cViE (As := [.int (nI g)]) (rest := [.ref (ad (50 + g))]) (r := 0) hx hb hml hts hown hE h0 hW hS (c_X5_valuesOfGrower l hI) mw_X5_valuesOfGrower (hI.c 0 (by decide)) rfl k_6 t_203 ⟨Nat.le_of_ble_eq_true rfl, Nat.le_of_ble_eq_true rfl⟩ rfl hl.1 (Nat.le_of_ble_eq_true rfl) dX5_takePremium_17 ⟨Nat.zero_le _, Nat.zero_le _⟩ ⟨rfl, rfl⟩ (fun H locs hW hS => ?_)
  refine q_cViE (As := [.int (gVals v nh (nI g))]) (rest := []) (r := (50 + g)) hx hb hml hts hown hE h0 hW hS (c_X0_premiumFor l hI hg (gVals v nh (nI g))) mw_X0_premiumFor (hI.mg hg) (hI.kg hg) k_1 t_212 ⟨Nat.le_of_ble_eq_true rfl, Nat.le_of_ble_eq_true rfl⟩ rfl hl.1 (Nat.le_of_ble_eq_true rfl) dX5_takePremium_20 ⟨Nat.zero_le _, Nat.zero_le _⟩ ⟨rfl, rfl⟩ (fun H locs hW hS => ?_)
  refine lv_istore_n (lv' := [(3, .int (fPrem v (50 + g) (gVals v nh (nI g)))), (2, .ref (ad (50 + g))), (0, .ref (ad 0)), (1, .int (nI g))]) hx hb dX5_takePremium_23 rfl hl (by decide) rfl (fun ls hl => ?_)
  refine lv_aload_n hx hb dX5_takePremium_24 rfl (lv_at hl 1 rfl) ?_
  refine lv_dup hx hb dX5_takePremium_25 rfl ?_
  refine q_get hx hb hts hown hW (r := (50 + g)) (hI.mg hg) (hI.kg hg) k_1 0 (by decide) rfl t_411 (x := (v (50 + g) 0)) rfl dX5_takePremium_26 ?_
  refine lv_iload_n hx hb dX5_takePremium_29 rfl (lv_at hl 0 rfl) ?_
  refine lv_isub hx hb dX5_takePremium_30 ?_
  refine q_put hx hb hts hown hW hS (r := (50 + g)) (hI.mg hg) (hI.kg hg) k_1 0 (by decide) rfl t_411 rfl (t := .int) (by decide +kernel) rfl rfl dX5_takePremium_31 (fun H locs hW hS => ?_)
  have hI : PI G.2.2.2 L ad (up2 v (50 + g) 0 ((v (50 + g) 0) - (fPrem v (50 + g) (gVals v nh (nI g))))) o ng nh nl ns ow gx gy gw gd := hI.kp (kp_up (by unfold depC dep; omega))
  generalize hv1 : (up2 v (50 + g) 0 ((v (50 + g) 0) - (fPrem v (50 + g) (gVals v nh (nI g))))) = v1 at hW hI
  refine lv_aload_n hx hb dX5_takePremium_34 rfl (lv_at hl 2 rfl) ?_
  refine lv_dup hx hb dX5_takePremium_35 rfl ?_
  refine q_get hx hb hts hown hW (r := 0) (hI.c 0 (by decide)) rfl k_6 6 (by decide) rfl t_143 (x := (v1 0 6)) rfl dX5_takePremium_36 ?_
  refine lv_iload_n hx hb dX5_takePremium_39 rfl (lv_at hl 0 rfl) ?_
  refine lv_iadd hx hb dX5_takePremium_40 ?_
  refine q_put hx hb hts hown hW hS (r := 0) (hI.c 0 (by decide)) rfl k_6 6 (by decide) rfl t_143 rfl (t := .int) (by decide +kernel) rfl rfl dX5_takePremium_41 (fun H locs hW hS => ?_)
  have hI : PI G.2.2.2 L ad (up2 v1 0 6 ((v1 0 6) + (fPrem v (50 + g) (gVals v nh (nI g))))) o ng nh nl ns ow gx gy gw gd := hI.kp (kp_up (by unfold depC dep; omega))
  generalize hv2 : (up2 v1 0 6 ((v1 0 6) + (fPrem v (50 + g) (gVals v nh (nI g))))) = v2 at hW hI
  refine lv_aload_n hx hb dX5_takePremium_44 rfl (lv_at hl 1 rfl) ?_
  refine q_cVvE (As := []) (rest := []) (r := (50 + g)) hx hb hml hts hown hE h0 hW hS (c_X0_changeFactor l hI hg) mw_X0_changeFactor (hI.mg hg) (hI.kg hg) k_1 t_219 ⟨Nat.le_of_ble_eq_true rfl, Nat.le_of_ble_eq_true rfl⟩ rfl hl.1 (Nat.le_of_ble_eq_true rfl) dX5_takePremium_45 ⟨Nat.zero_le _, Nat.zero_le _⟩ ⟨rfl, rfl⟩ (fun H locs hW hS => ?_)
  generalize hv3 : (fChg v2 (50 + g)) = v3 at hW
  refine lv_iload_n hx hb dX5_takePremium_48 rfl (lv_at hl 0 rfl) ?_
  subst hv3
  subst hv2
  subst hv1
  exact q_iret hx hb hr hlocks hW hS (Nat.le_refl _) (Nat.le_refl _) dX5_takePremium_49 (⟨rfl, rfl⟩)

set_option maxHeartbeats 4000000 in
set_option maxRecDepth 100000 in
theorem c_X5_payDebts (l : Launch) {G : GG} {L : List Nat} {ad : Nat → Nat} {v : Nat → Nat → Int32} {o : Nat → Nat → Option Nat} {w : Nat → Int64} {ng nh nl ns : Nat} {ow gx gy gw gd : Nat → Nat} (hI : PI G.2.2.2 L ad v o ng nh nl ns ow gx gy gw gd) : CtV l G L ad v o w yX5_payDebts cX5_payDebts 4 ({ frames := 4, cells := 0, slots := 0, locals := 100 }) [.ref (ad 0)] (fun u => u = uDebts v ng) := by
  have hb6 := hI.g6; have hb12 := hI.h12; have hbl := hI.l6; have hbs := hI.s30
  refine q_ofV (by decide) (Nat.le_of_ble_eq_true rfl) ?_
  intro p e s m below meth c hx hb hr hml hts hown hlocks hE h0 hW hS hin ls hl
  generalize hH : s.heap = H at hW
  have hS : va_S (Ab G.2.2.1) s.heap H [] := hH ▸ hS
  obtain ⟨locs, hlc⟩ : ∃ z : List Loc, z = [] := ⟨_, rfl⟩
  rw [← hlc] at hS ⊢
  have hl : lv_has ls 4 [(0, .ref (ad 0))] := hl
  refine lv_iconst (v := 0) hx hb dX5_payDebts_0 (by decide) ?_
  refine lv_istore_n (lv' := [(1, .int 0), (0, .ref (ad 0))]) hx hb dX5_payDebts_1 rfl hl (by decide) rfl (fun ls hl => ?_)
  suffices LP_2 : ∀ (n_2 i : Nat) (x1_2 : Int32)  (u_2 : Nat → Nat → Int32) (H : Heap) (locs : List Loc) (ls : Array Slot), ng + 1 ≤ i + n_2 → i ≤ ng → nI i = x1_2 → itr (fun g u => uDebt u g) i v = u_2 → WD G L ad u_2 o w s H → va_S (Ab G.2.2.1) s.heap H locs → lv_has ls 4 [(1, .int x1_2), (0, .ref (ad 0))] → W p l e ({ frames := 4, cells := 0, slots := 0, locals := 100 } : Room) s m ([.ref (ad 0)] : List Value).toArray below meth c H locs 0 0 (MQ below (va_Qv (fun u => u = uDebts v ng) (fun u t => WD G L ad u o w t t.heap) (Ab G.2.2.1)) ([.ref (ad 0)] : List Value).toArray s ({ frames := 4, cells := 0, slots := 0, locals := 100 } : Room).cells ({ frames := 4, cells := 0, slots := 0, locals := 100 } : Room).slots (Ab G.2.2.1)) (F0 m 2 ls []) from LP_2 (ng + 1) 0 _   _ H locs ls (by omega) (by omega) (by rfl) (by rfl)  hW hS (lv_sub hl [0, 1] rfl)
  intro n_2
  induction n_2 with
  | zero => intro i x1_2  u_2 H locs ls h1 h2; exact absurd h1 (by omega)
  | succ n_2 ih_2 =>
    intro i x1_2  u_2 H locs ls hn_2 hi_2 ex1_2 eu_2  hW hS hl
    subst ex1_2
    subst eu_2
    have hI : PI G.2.2.2 L ad (itr (fun g u => uDebt u g) i v) o ng nh nl ns ow gx gy gw gd := hI.kp (kp_itr (fun _ _ _ => kp_uDebt (by omega)))
    refine lv_iload_n hx hb dX5_payDebts_2 rfl (lv_at hl 0 rfl) ?_
    refine lv_aload_n hx hb dX5_payDebts_3 rfl (lv_at hl 1 rfl) ?_
    refine q_getr hx hb hts hown hW (r := 0) (hI.c 0 (by decide)) rfl k_6 0 (by decide) rfl t_137 (a := ad 1) (hI.o0 0 (by decide)) dX5_payDebts_4 ?_
    refine q_cFiE (As := []) (rest := [.int (nI i)]) (r := 1) hx hb hml hts hown hE h0 hW hS hE.2.1 (c_size l hI.lg) t_178 t_176 t_174 t_49 (by decide) (by decide +kernel) (hI.c 1 (by decide)) rfl k_0 t_170 ⟨Nat.le_of_ble_eq_true rfl, Nat.le_of_ble_eq_true rfl⟩ rfl hl.1 (Nat.le_of_ble_eq_true rfl) dX5_payDebts_7 ⟨Nat.zero_le _, Nat.zero_le _⟩ ⟨rfl, rfl⟩ (fun H locs hW hS => ?_)
    refine lv_icmp_ge (tgt := 77) hx hb dX5_payDebts_12 (by decide) (fun c_12 => ?_) (fun c_12 => ?_)
    · skip
      have hq_2 := (ge_i (n := ng) (by omega) hi_2 c_12).symm
      subst hq_2
      exact q_vret hx hb hr hlocks hW hS (Nat.le_refl _) (Nat.le_refl _) dX5_payDebts_77 (rfl)
    · skip
      have hlt_2 := lt_i (n := ng) (by omega) hi_2 c_12
      refine lv_aload_n hx hb dX5_payDebts_15 rfl (lv_at hl 1 rfl) ?_
      refine q_getr hx hb hts hown hW (r := 0) (hI.c 0 (by decide)) rfl k_6 0 (by decide) rfl t_137 (a := ad 1) (hI.o0 0 (by decide)) dX5_payDebts_16 ?_
      refine lv_iload_n hx hb dX5_payDebts_19 rfl (lv_at hl 0 rfl) ?_
      refine q_cFrE (n := 1) (As := [.int (nI i)]) (rest := []) (r := 1) hx hb hml hts hown hE h0 hW hS hE.2.2.1 (c_get l hI.lg (i := i) hlt_2) t_191 t_189 t_187 t_49 (by decide) (by decide +kernel) (hI.c 1 (by decide)) rfl k_0 t_184 ⟨Nat.le_of_ble_eq_true rfl, Nat.le_of_ble_eq_true rfl⟩ rfl hl.1 (Nat.le_of_ble_eq_true rfl) dX5_payDebts_20 ⟨Nat.zero_le _, Nat.zero_le _⟩ ⟨rfl, rfl⟩ (fun H locs hW hS => ?_)
      refine q_castS hx hb hts hown hW (r := (50 + i)) (hI.mg hlt_2) (hI.kg hlt_2) k_1 t_202 dX5_payDebts_25 ?_
      refine lv_astore_n (lv' := [(2, .ref (ad (50 + i))), (1, .int (nI i)), (0, .ref (ad 0))]) hx hb dX5_payDebts_28 rfl hl (by decide) rfl (fun ls hl => ?_)
      refine lv_aload_n hx hb dX5_payDebts_29 rfl (lv_at hl 0 rfl) ?_
      refine q_get hx hb hts hown hW (r := (50 + i)) (hI.mg hlt_2) (hI.kg hlt_2) k_1 7 (by decide) rfl t_424 (x := ((itr (fun g u => uDebt u g) i v) (50 + i) 7)) rfl dX5_payDebts_30 ?_
      refine lv_aload_n hx hb dX5_payDebts_33 rfl (lv_at hl 2 rfl) ?_
      refine q_get hx hb hts hown hW (r := 0) (hI.c 0 (by decide)) rfl k_6 6 (by decide) rfl t_143 (x := ((itr (fun g u => uDebt u g) i v) 0 6)) rfl dX5_payDebts_34 ?_
      refine q_min hx hb hml hl.1 hts hown m_min t_230 (Nat.le_of_ble_eq_true rfl) (Nat.le_of_ble_eq_true rfl) (Nat.zero_le _) (Nat.zero_le _) dX5_payDebts_37 ?_
      refine lv_istore_n (lv' := [(3, .int (imin ((itr (fun g u => uDebt u g) i v) (50 + i) 7) ((itr (fun g u => uDebt u g) i v) 0 6))), (2, .ref (ad (50 + i))), (1, .int (nI i)), (0, .ref (ad 0))]) hx hb dX5_payDebts_40 rfl hl (by decide) rfl (fun ls hl => ?_)
      refine lv_aload_n hx hb dX5_payDebts_41 rfl (lv_at hl 3 rfl) ?_
      refine lv_dup hx hb dX5_payDebts_42 rfl ?_
      refine q_get hx hb hts hown hW (r := 0) (hI.c 0 (by decide)) rfl k_6 6 (by decide) rfl t_143 (x := ((itr (fun g u => uDebt u g) i v) 0 6)) rfl dX5_payDebts_43 ?_
      refine lv_iload_n hx hb dX5_payDebts_46 rfl (lv_at hl 0 rfl) ?_
      refine lv_isub hx hb dX5_payDebts_47 ?_
      refine q_put hx hb hts hown hW hS (r := 0) (hI.c 0 (by decide)) rfl k_6 6 (by decide) rfl t_143 rfl (t := .int) (by decide +kernel) rfl rfl dX5_payDebts_48 (fun H locs hW hS => ?_)
      have hI : PI G.2.2.2 L ad (up2 (itr (fun g u => uDebt u g) i v) 0 6 (((itr (fun g u => uDebt u g) i v) 0 6) - (imin ((itr (fun g u => uDebt u g) i v) (50 + i) 7) ((itr (fun g u => uDebt u g) i v) 0 6)))) o ng nh nl ns ow gx gy gw gd := hI.kp (kp_up (by unfold depC dep; omega))
      generalize hv1 : (up2 (itr (fun g u => uDebt u g) i v) 0 6 (((itr (fun g u => uDebt u g) i v) 0 6) - (imin ((itr (fun g u => uDebt u g) i v) (50 + i) 7) ((itr (fun g u => uDebt u g) i v) 0 6)))) = v1 at hW hI
      refine lv_aload_n hx hb dX5_payDebts_51 rfl (lv_at hl 1 rfl) ?_
      refine lv_dup hx hb dX5_payDebts_52 rfl ?_
      refine q_get hx hb hts hown hW (r := (50 + i)) (hI.mg hlt_2) (hI.kg hlt_2) k_1 0 (by decide) rfl t_411 (x := (v1 (50 + i) 0)) rfl dX5_payDebts_53 ?_
      refine lv_iload_n hx hb dX5_payDebts_56 rfl (lv_at hl 0 rfl) ?_
      refine lv_iadd hx hb dX5_payDebts_57 ?_
      refine q_put hx hb hts hown hW hS (r := (50 + i)) (hI.mg hlt_2) (hI.kg hlt_2) k_1 0 (by decide) rfl t_411 rfl (t := .int) (by decide +kernel) rfl rfl dX5_payDebts_58 (fun H locs hW hS => ?_)
      have hI : PI G.2.2.2 L ad (up2 v1 (50 + i) 0 ((v1 (50 + i) 0) + (imin ((itr (fun g u => uDebt u g) i v) (50 + i) 7) ((itr (fun g u => uDebt u g) i v) 0 6)))) o ng nh nl ns ow gx gy gw gd := hI.kp (kp_up (by unfold depC dep; omega))
      generalize hv2 : (up2 v1 (50 + i) 0 ((v1 (50 + i) 0) + (imin ((itr (fun g u => uDebt u g) i v) (50 + i) 7) ((itr (fun g u => uDebt u g) i v) 0 6)))) = v2 at hW hI
      refine lv_aload_n hx hb dX5_payDebts_61 rfl (lv_at hl 1 rfl) ?_
      refine lv_dup hx hb dX5_payDebts_62 rfl ?_
      refine q_get hx hb hts hown hW (r := (50 + i)) (hI.mg hlt_2) (hI.kg hlt_2) k_1 7 (by decide) rfl t_424 (x := (v2 (50 + i) 7)) rfl dX5_payDebts_63 ?_
      refine lv_iload_n hx hb dX5_payDebts_66 rfl (lv_at hl 0 rfl) ?_
      refine lv_isub hx hb dX5_payDebts_67 ?_
      refine q_put hx hb hts hown hW hS (r := (50 + i)) (hI.mg hlt_2) (hI.kg hlt_2) k_1 7 (by decide) rfl t_424 rfl (t := .int) (by decide +kernel) rfl rfl dX5_payDebts_68 (fun H locs hW hS => ?_)
      have hI : PI G.2.2.2 L ad (up2 v2 (50 + i) 7 ((v2 (50 + i) 7) - (imin ((itr (fun g u => uDebt u g) i v) (50 + i) 7) ((itr (fun g u => uDebt u g) i v) 0 6)))) o ng nh nl ns ow gx gy gw gd := hI.kp (kp_up (by unfold depC dep; omega))
      generalize hv3 : (up2 v2 (50 + i) 7 ((v2 (50 + i) 7) - (imin ((itr (fun g u => uDebt u g) i v) (50 + i) 7) ((itr (fun g u => uDebt u g) i v) 0 6)))) = v3 at hW hI
      refine lv_iinc (v := (nI (i + 1))) (lv' := [(1, .int (nI (i + 1))), (3, .int (imin ((itr (fun g u => uDebt u g) i v) (50 + i) 7) ((itr (fun g u => uDebt u g) i v) 0 6))), (2, .ref (ad (50 + i))), (0, .ref (ad 0))]) hx hb dX5_payDebts_71 hl (k := 2) rfl (inc_nI _) (by decide) rfl (fun ls hl => ?_)
      refine lv_goto (tgt := 2) hx hb dX5_payDebts_74 (by decide) ?_
      subst hv3
      subst hv2
      subst hv1
      exact ih_2 (i + 1) _   _ H locs ls (by omega) (by omega) (by rfl) (by rfl)  hW hS (lv_sub hl [0, 3] rfl)

set_option maxHeartbeats 4000000 in
set_option maxRecDepth 100000 in
theorem c_X5_beginYear (l : Launch) {G : GG} {L : List Nat} {ad : Nat → Nat} {v : Nat → Nat → Int32} {o : Nat → Nat → Option Nat} {w : Nat → Int64} {ng nh nl ns : Nat} {ow gx gy gw gd : Nat → Nat} (hI : PI G.2.2.2 L ad v o ng nh nl ns ow gx gy gw gd) : CtV l G L ad v o w yX5_beginYear cX5_beginYear 3 ({ frames := 4, cells := 0, slots := 0, locals := 100 }) [.ref (ad 0)] (fun u => u = uYear v ng nl) := by
  have hb6 := hI.g6; have hb12 := hI.h12; have hbl := hI.l6; have hbs := hI.s30
  refine q_ofV (by decide) (Nat.le_of_ble_eq_true rfl) ?_
  intro p e s m below meth c hx hb hr hml hts hown hlocks hE h0 hW hS hin ls hl
  generalize hH : s.heap = H at hW
  have hS : va_S (Ab G.2.2.1) s.heap H [] := hH ▸ hS
  obtain ⟨locs, hlc⟩ : ∃ z : List Loc, z = [] := ⟨_, rfl⟩
  rw [← hlc] at hS ⊢
  have hl : lv_has ls 3 [(0, .ref (ad 0))] := hl
  refine lv_iconst (v := 0) hx hb dX5_beginYear_0 (by decide) ?_
  refine lv_istore_n (lv' := [(1, .int 0), (0, .ref (ad 0))]) hx hb dX5_beginYear_1 rfl hl (by decide) rfl (fun ls hl => ?_)
  suffices LP_2 : ∀ (n_2 i : Nat) (x1_2 : Int32)  (u_2 : Nat → Nat → Int32) (H : Heap) (locs : List Loc) (ls : Array Slot), ng + 1 ≤ i + n_2 → i ≤ ng → nI i = x1_2 → itr (fun g u => up2 u (50 + g) 6 0) i v = u_2 → WD G L ad u_2 o w s H → va_S (Ab G.2.2.1) s.heap H locs → lv_has ls 3 [(1, .int x1_2), (0, .ref (ad 0))] → W p l e ({ frames := 4, cells := 0, slots := 0, locals := 100 } : Room) s m ([.ref (ad 0)] : List Value).toArray below meth c H locs 0 0 (MQ below (va_Qv (fun u => u = uYear v ng nl) (fun u t => WD G L ad u o w t t.heap) (Ab G.2.2.1)) ([.ref (ad 0)] : List Value).toArray s ({ frames := 4, cells := 0, slots := 0, locals := 100 } : Room).cells ({ frames := 4, cells := 0, slots := 0, locals := 100 } : Room).slots (Ab G.2.2.1)) (F0 m 2 ls []) from LP_2 (ng + 1) 0 _   _ H locs ls (by omega) (by omega) (by rfl) (by rfl)  hW hS (lv_sub hl [0, 1] rfl)
  intro n_2
  induction n_2 with
  | zero => intro i x1_2  u_2 H locs ls h1 h2; exact absurd h1 (by omega)
  | succ n_2 ih_2 =>
    intro i x1_2  u_2 H locs ls hn_2 hi_2 ex1_2 eu_2  hW hS hl
    subst ex1_2
    subst eu_2
    have hI : PI G.2.2.2 L ad (itr (fun g u => up2 u (50 + g) 6 0) i v) o ng nh nl ns ow gx gy gw gd := hI.kp (kp_itr (fun _ _ _ => kp_up (by unfold depC dep; omega)))
    refine lv_iload_n hx hb dX5_beginYear_2 rfl (lv_at hl 0 rfl) ?_
    refine lv_aload_n hx hb dX5_beginYear_3 rfl (lv_at hl 1 rfl) ?_
    refine q_getr hx hb hts hown hW (r := 0) (hI.c 0 (by decide)) rfl k_6 0 (by decide) rfl t_137 (a := ad 1) (hI.o0 0 (by decide)) dX5_beginYear_4 ?_
    refine q_cFiE (As := []) (rest := [.int (nI i)]) (r := 1) hx hb hml hts hown hE h0 hW hS hE.2.1 (c_size l hI.lg) t_178 t_176 t_174 t_49 (by decide) (by decide +kernel) (hI.c 1 (by decide)) rfl k_0 t_170 ⟨Nat.le_of_ble_eq_true rfl, Nat.le_of_ble_eq_true rfl⟩ rfl hl.1 (Nat.le_of_ble_eq_true rfl) dX5_beginYear_7 ⟨Nat.zero_le _, Nat.zero_le _⟩ ⟨rfl, rfl⟩ (fun H locs hW hS => ?_)
    refine lv_icmp_ge (tgt := 38) hx hb dX5_beginYear_12 (by decide) (fun c_12 => ?_) (fun c_12 => ?_)
    · skip
      have hq_2 := (ge_i (n := ng) (by omega) hi_2 c_12).symm
      subst hq_2
      refine lv_iconst (v := 0) hx hb dX5_beginYear_38 (by decide) ?_
      refine lv_istore_n (lv' := [(1, .int 0), (0, .ref (ad 0))]) hx hb dX5_beginYear_39 rfl hl (by decide) rfl (fun ls hl => ?_)
      suffices LP_40 : ∀ (n_40 i : Nat) (x1_40 : Int32)  (u_40 : Nat → Nat → Int32) (H : Heap) (locs : List Loc) (ls : Array Slot), nl + 1 ≤ i + n_40 → i ≤ nl → nI i = x1_40 → itr (fun k u => up2 u (80 + k) 3 (2 * u (80 + k) 1)) i (itr (fun g u => up2 u (50 + g) 6 0) ng v) = u_40 → WD G L ad u_40 o w s H → va_S (Ab G.2.2.1) s.heap H locs → lv_has ls 3 [(1, .int x1_40), (0, .ref (ad 0))] → W p l e ({ frames := 4, cells := 0, slots := 0, locals := 100 } : Room) s m ([.ref (ad 0)] : List Value).toArray below meth c H locs 0 0 (MQ below (va_Qv (fun u => u = uYear v ng nl) (fun u t => WD G L ad u o w t t.heap) (Ab G.2.2.1)) ([.ref (ad 0)] : List Value).toArray s ({ frames := 4, cells := 0, slots := 0, locals := 100 } : Room).cells ({ frames := 4, cells := 0, slots := 0, locals := 100 } : Room).slots (Ab G.2.2.1)) (F0 m 40 ls []) from LP_40 (nl + 1) 0 _   _ H locs ls (by omega) (by omega) (by rfl) (by rfl)  hW hS (lv_sub hl [0, 1] rfl)
      intro n_40
      induction n_40 with
      | zero => intro i x1_40  u_40 H locs ls h1 h2; exact absurd h1 (by omega)
      | succ n_40 ih_40 =>
        intro i x1_40  u_40 H locs ls hn_40 hi_40 ex1_40 eu_40  hW hS hl
        subst ex1_40
        subst eu_40
        have hI : PI G.2.2.2 L ad (itr (fun k u => up2 u (80 + k) 3 (2 * u (80 + k) 1)) i (itr (fun g u => up2 u (50 + g) 6 0) ng v)) o ng nh nl ns ow gx gy gw gd := hI.kp (kp_itr (fun _ _ _ => kp_up (by unfold depC dep; omega)))
        refine lv_iload_n hx hb dX5_beginYear_40 rfl (lv_at hl 0 rfl) ?_
        refine lv_aload_n hx hb dX5_beginYear_41 rfl (lv_at hl 1 rfl) ?_
        refine q_getr hx hb hts hown hW (r := 0) (hI.c 0 (by decide)) rfl k_6 2 (by decide) rfl t_139 (a := ad 3) (hI.o0 2 (by decide)) dX5_beginYear_42 ?_
        refine q_cFiE (As := []) (rest := [.int (nI i)]) (r := 3) hx hb hml hts hown hE h0 hW hS hE.2.1 (c_size l hI.ll) t_178 t_176 t_174 t_49 (by decide) (by decide +kernel) (hI.c 3 (by decide)) rfl k_0 t_170 ⟨Nat.le_of_ble_eq_true rfl, Nat.le_of_ble_eq_true rfl⟩ rfl hl.1 (Nat.le_of_ble_eq_true rfl) dX5_beginYear_45 ⟨Nat.zero_le _, Nat.zero_le _⟩ ⟨rfl, rfl⟩ (fun H locs hW hS => ?_)
        refine lv_icmp_ge (tgt := 83) hx hb dX5_beginYear_50 (by decide) (fun c_50 => ?_) (fun c_50 => ?_)
        · skip
          have hq_40 := (ge_i (n := nl) (by omega) hi_40 c_50).symm
          subst hq_40
          refine lv_aload_n hx hb dX5_beginYear_83 rfl (lv_at hl 1 rfl) ?_
          refine lv_iconst (v := 0) hx hb dX5_beginYear_84 (by decide) ?_
          refine q_put hx hb hts hown hW hS (r := 0) (hI.c 0 (by decide)) rfl k_6 7 (by decide) rfl t_144 rfl (t := .int) (by decide +kernel) rfl rfl dX5_beginYear_85 (fun H locs hW hS => ?_)
          generalize hv1 : (up2 (itr (fun k u => up2 u (80 + k) 3 (2 * u (80 + k) 1)) nl (itr (fun g u => up2 u (50 + g) 6 0) ng v)) 0 7 0) = v1 at hW
          subst hv1
          exact q_vret hx hb hr hlocks hW hS (Nat.le_refl _) (Nat.le_refl _) dX5_beginYear_88 (rfl)
        · skip
          have hlt_40 := lt_i (n := nl) (by omega) hi_40 c_50
          refine lv_aload_n hx hb dX5_beginYear_53 rfl (lv_at hl 1 rfl) ?_
          refine q_getr hx hb hts hown hW (r := 0) (hI.c 0 (by decide)) rfl k_6 2 (by decide) rfl t_139 (a := ad 3) (hI.o0 2 (by decide)) dX5_beginYear_54 ?_
          refine lv_iload_n hx hb dX5_beginYear_57 rfl (lv_at hl 0 rfl) ?_
          refine q_cFrE (n := 1) (As := [.int (nI i)]) (rest := []) (r := 3) hx hb hml hts hown hE h0 hW hS hE.2.2.1 (c_get l hI.ll (i := i) hlt_40) t_191 t_189 t_187 t_49 (by decide) (by decide +kernel) (hI.c 3 (by decide)) rfl k_0 t_184 ⟨Nat.le_of_ble_eq_true rfl, Nat.le_of_ble_eq_true rfl⟩ rfl hl.1 (Nat.le_of_ble_eq_true rfl) dX5_beginYear_58 ⟨Nat.zero_le _, Nat.zero_le _⟩ ⟨rfl, rfl⟩ (fun H locs hW hS => ?_)
          refine q_castS hx hb hts hown hW (r := (80 + i)) (hI.ml hlt_40) (hI.kl hlt_40) k_3 t_235 dX5_beginYear_63 ?_
          refine lv_astore_n (lv' := [(2, .ref (ad (80 + i))), (1, .int (nI i)), (0, .ref (ad 0))]) hx hb dX5_beginYear_66 rfl hl (by decide) rfl (fun ls hl => ?_)
          refine lv_aload_n hx hb dX5_beginYear_67 rfl (lv_at hl 0 rfl) ?_
          refine lv_iconst (v := 2) hx hb dX5_beginYear_68 (by decide) ?_
          refine lv_aload_n hx hb dX5_beginYear_69 rfl (lv_at hl 0 rfl) ?_
          refine q_get hx hb hts hown hW (r := (80 + i)) (hI.ml hlt_40) (hI.kl hlt_40) k_3 1 (by decide) rfl t_673 (x := ((itr (fun k u => up2 u (80 + k) 3 (2 * u (80 + k) 1)) i (itr (fun g u => up2 u (50 + g) 6 0) ng v)) (80 + i) 1)) rfl dX5_beginYear_70 ?_
          refine lv_imul hx hb dX5_beginYear_73 ?_
          refine q_put hx hb hts hown hW hS (r := (80 + i)) (hI.ml hlt_40) (hI.kl hlt_40) k_3 3 (by decide) rfl t_677 rfl (t := .int) (by decide +kernel) rfl rfl dX5_beginYear_74 (fun H locs hW hS => ?_)
          have hI : PI G.2.2.2 L ad (up2 (itr (fun k u => up2 u (80 + k) 3 (2 * u (80 + k) 1)) i (itr (fun g u => up2 u (50 + g) 6 0) ng v)) (80 + i) 3 (2 * ((itr (fun k u => up2 u (80 + k) 3 (2 * u (80 + k) 1)) i (itr (fun g u => up2 u (50 + g) 6 0) ng v)) (80 + i) 1))) o ng nh nl ns ow gx gy gw gd := hI.kp (kp_up (by unfold depC dep; omega))
          generalize hv2 : (up2 (itr (fun k u => up2 u (80 + k) 3 (2 * u (80 + k) 1)) i (itr (fun g u => up2 u (50 + g) 6 0) ng v)) (80 + i) 3 (2 * ((itr (fun k u => up2 u (80 + k) 3 (2 * u (80 + k) 1)) i (itr (fun g u => up2 u (50 + g) 6 0) ng v)) (80 + i) 1))) = v2 at hW hI
          refine lv_iinc (v := (nI (i + 1))) (lv' := [(1, .int (nI (i + 1))), (2, .ref (ad (80 + i))), (0, .ref (ad 0))]) hx hb dX5_beginYear_77 hl (k := 1) rfl (inc_nI _) (by decide) rfl (fun ls hl => ?_)
          refine lv_goto (tgt := 40) hx hb dX5_beginYear_80 (by decide) ?_
          subst hv2
          exact ih_40 (i + 1) _   _ H locs ls (by omega) (by omega) (by rfl) (by rfl)  hW hS (lv_sub hl [0, 2] rfl)
    · skip
      have hlt_2 := lt_i (n := ng) (by omega) hi_2 c_12
      refine lv_aload_n hx hb dX5_beginYear_15 rfl (lv_at hl 1 rfl) ?_
      refine q_getr hx hb hts hown hW (r := 0) (hI.c 0 (by decide)) rfl k_6 0 (by decide) rfl t_137 (a := ad 1) (hI.o0 0 (by decide)) dX5_beginYear_16 ?_
      refine lv_iload_n hx hb dX5_beginYear_19 rfl (lv_at hl 0 rfl) ?_
      refine q_cFrE (n := 1) (As := [.int (nI i)]) (rest := []) (r := 1) hx hb hml hts hown hE h0 hW hS hE.2.2.1 (c_get l hI.lg (i := i) hlt_2) t_191 t_189 t_187 t_49 (by decide) (by decide +kernel) (hI.c 1 (by decide)) rfl k_0 t_184 ⟨Nat.le_of_ble_eq_true rfl, Nat.le_of_ble_eq_true rfl⟩ rfl hl.1 (Nat.le_of_ble_eq_true rfl) dX5_beginYear_20 ⟨Nat.zero_le _, Nat.zero_le _⟩ ⟨rfl, rfl⟩ (fun H locs hW hS => ?_)
      refine q_castS hx hb hts hown hW (r := (50 + i)) (hI.mg hlt_2) (hI.kg hlt_2) k_1 t_202 dX5_beginYear_25 ?_
      refine lv_iconst (v := 0) hx hb dX5_beginYear_28 (by decide) ?_
      refine q_put hx hb hts hown hW hS (r := (50 + i)) (hI.mg hlt_2) (hI.kg hlt_2) k_1 6 (by decide) rfl t_423 rfl (t := .int) (by decide +kernel) rfl rfl dX5_beginYear_29 (fun H locs hW hS => ?_)
      have hI : PI G.2.2.2 L ad (up2 (itr (fun g u => up2 u (50 + g) 6 0) i v) (50 + i) 6 0) o ng nh nl ns ow gx gy gw gd := hI.kp (kp_up (by unfold depC dep; omega))
      generalize hv3 : (up2 (itr (fun g u => up2 u (50 + g) 6 0) i v) (50 + i) 6 0) = v3 at hW hI
      refine lv_iinc (v := (nI (i + 1))) (lv' := [(1, .int (nI (i + 1))), (0, .ref (ad 0))]) hx hb dX5_beginYear_32 hl (k := 0) rfl (inc_nI _) (by decide) rfl (fun ls hl => ?_)
      refine lv_goto (tgt := 2) hx hb dX5_beginYear_35 (by decide) ?_
      subst hv3
      exact ih_2 (i + 1) _   _ H locs ls (by omega) (by omega) (by rfl) (by rfl)  hW hS (lv_sub hl [0, 1] rfl)

set_option maxHeartbeats 4000000 in
set_option maxRecDepth 100000 in
theorem c_X5_endYear (l : Launch) {G : GG} {L : List Nat} {ad : Nat → Nat} {v : Nat → Nat → Int32} {o : Nat → Nat → Option Nat} {w : Nat → Int64} {ng nh nl ns : Nat} {ow gx gy gw gd : Nat → Nat} (hI : PI G.2.2.2 L ad v o ng nh nl ns ow gx gy gw gd) : CtI l G L ad v o w yX5_endYear cX5_endYear 3 .int ({ frames := 6, cells := 0, slots := 0, locals := 146 }) [.ref (ad 0)] (fun r u => r = pYear v nh ng ∧ u = uEnd v nh ng nl) := by
  have hb6 := hI.g6; have hb12 := hI.h12; have hbl := hI.l6; have hbs := hI.s30
  refine q_ofI (by decide) (Nat.le_of_ble_eq_true rfl) ?_
  intro p e s m below meth c hx hb hr hml hts hown hlocks hE h0 hW hS ls hl
  generalize hH : s.heap = H at hW
  have hS : va_S (Ab G.2.2.1) s.heap H [] := hH ▸ hS
  obtain ⟨locs, hlc⟩ : ∃ z : List Loc, z = [] := ⟨_, rfl⟩
  rw [← hlc] at hS ⊢
  have hl : lv_has ls 3 [(0, .ref (ad 0))] := hl
  refine lv_iconst (v := 0) hx hb dX5_endYear_0 (by decide) ?_
  refine lv_istore_n (lv' := [(1, .int 0), (0, .ref (ad 0))]) hx hb dX5_endYear_1 rfl hl (by decide) rfl (fun ls hl => ?_)
  refine lv_iconst (v := 0) hx hb dX5_endYear_2 (by decide) ?_
  refine lv_istore_n (lv' := [(2, .int 0), (1, .int 0), (0, .ref (ad 0))]) hx hb dX5_endYear_3 rfl hl (by decide) rfl (fun ls hl => ?_)
  suffices LP_4 : ∀ (n_4 i : Nat) (x1_4 : Int32) (x2_4 : Int32)  (u_4 : Nat → Nat → Int32) (H : Heap) (locs : List Loc) (ls : Array Slot), ng + 1 ≤ i + n_4 → i ≤ ng → sumI (fun g => pPre (itr (fun g u => uPre u nh g) g v) nh g) i = x1_4 → nI i = x2_4 → itr (fun g u => uPre u nh g) i v = u_4 → WD G L ad u_4 o w s H → va_S (Ab G.2.2.1) s.heap H locs → lv_has ls 3 [(2, .int x2_4), (1, .int x1_4), (0, .ref (ad 0))] → W p l e ({ frames := 6, cells := 0, slots := 0, locals := 146 } : Room) s m ([.ref (ad 0)] : List Value).toArray below meth c H locs 0 0 (MQ below (va_Qi (fun r u => r = pYear v nh ng ∧ u = uEnd v nh ng nl) (fun u t => WD G L ad u o w t t.heap) (Ab G.2.2.1)) ([.ref (ad 0)] : List Value).toArray s ({ frames := 6, cells := 0, slots := 0, locals := 146 } : Room).cells ({ frames := 6, cells := 0, slots := 0, locals := 146 } : Room).slots (Ab G.2.2.1)) (F0 m 4 ls []) from LP_4 (ng + 1) 0 _ _   _ H locs ls (by omega) (by omega) (by rfl) (by rfl) (by rfl)  hW hS (lv_sub hl [0, 1, 2] rfl)
  intro n_4
  induction n_4 with
  | zero => intro i x1_4 x2_4  u_4 H locs ls h1 h2; exact absurd h1 (by omega)
  | succ n_4 ih_4 =>
    intro i x1_4 x2_4  u_4 H locs ls hn_4 hi_4 ex1_4 ex2_4 eu_4  hW hS hl
    subst ex1_4
    subst ex2_4
    subst eu_4
    have hI : PI G.2.2.2 L ad (itr (fun g u => uPre u nh g) i v) o ng nh nl ns ow gx gy gw gd := hI.kp (kp_itr (fun _ _ _ => kp_uPre (by omega)))
    refine lv_iload_n hx hb dX5_endYear_4 rfl (lv_at hl 0 rfl) ?_
    refine lv_aload_n hx hb dX5_endYear_5 rfl (lv_at hl 2 rfl) ?_
    refine q_getr hx hb hts hown hW (r := 0) (hI.c 0 (by decide)) rfl k_6 0 (by decide) rfl t_137 (a := ad 1) (hI.o0 0 (by decide)) dX5_endYear_6 ?_
    refine q_cFiE (As := []) (rest := [.int (nI i)]) (r := 1) hx hb hml hts hown hE h0 hW hS hE.2.1 (c_size l hI.lg) t_178 t_176 t_174 t_49 (by decide) (by decide +kernel) (hI.c 1 (by decide)) rfl k_0 t_170 ⟨Nat.le_of_ble_eq_true rfl, Nat.le_of_ble_eq_true rfl⟩ rfl hl.1 (Nat.le_of_ble_eq_true rfl) dX5_endYear_9 ⟨Nat.zero_le _, Nat.zero_le _⟩ ⟨rfl, rfl⟩ (fun H locs hW hS => ?_)
    refine lv_icmp_ge (tgt := 31) hx hb dX5_endYear_14 (by decide) (fun c_14 => ?_) (fun c_14 => ?_)
    · skip
      have hq_4 := (ge_i (n := ng) (by omega) hi_4 c_14).symm
      subst hq_4
      refine lv_aload_n hx hb dX5_endYear_31 rfl (lv_at hl 2 rfl) ?_
      refine q_cVvE (As := []) (rest := []) (r := 0) hx hb hml hts hown hE h0 hW hS (c_X5_payDebts l hI) mw_X5_payDebts (hI.c 0 (by decide)) rfl k_6 t_226 ⟨Nat.le_of_ble_eq_true rfl, Nat.le_of_ble_eq_true rfl⟩ rfl hl.1 (Nat.le_of_ble_eq_true rfl) dX5_endYear_32 ⟨Nat.zero_le _, Nat.zero_le _⟩ ⟨rfl, rfl⟩ (fun H locs hW hS => ?_)
      have hI : PI G.2.2.2 L ad (uDebts (itr (fun g u => uPre u nh g) ng v) ng) o ng nh nl ns ow gx gy gw gd := hI.kp (kp_uDebts (by omega))
      generalize hv1 : (uDebts (itr (fun g u => uPre u nh g) ng v) ng) = v1 at hW hI
      refine lv_aload_n hx hb dX5_endYear_35 rfl (lv_at hl 2 rfl) ?_
      refine q_cVvE (As := []) (rest := []) (r := 0) hx hb hml hts hown hE h0 hW hS (c_X5_beginYear l hI) mw_X5_beginYear (hI.c 0 (by decide)) rfl k_6 t_231 ⟨Nat.le_of_ble_eq_true rfl, Nat.le_of_ble_eq_true rfl⟩ rfl hl.1 (Nat.le_of_ble_eq_true rfl) dX5_endYear_36 ⟨Nat.zero_le _, Nat.zero_le _⟩ ⟨rfl, rfl⟩ (fun H locs hW hS => ?_)
      generalize hv2 : (uYear v1 ng nl) = v2 at hW
      refine lv_aload_n hx hb dX5_endYear_39 rfl (lv_at hl 2 rfl) ?_
      refine lv_dup hx hb dX5_endYear_40 rfl ?_
      refine q_get hx hb hts hown hW (r := 0) (hI.c 0 (by decide)) rfl k_6 8 (by decide) rfl t_145 (x := (v2 0 8)) rfl dX5_endYear_41 ?_
      refine lv_iconst (v := 1) hx hb dX5_endYear_44 (by decide) ?_
      refine lv_iadd hx hb dX5_endYear_45 ?_
      refine q_put hx hb hts hown hW hS (r := 0) (hI.c 0 (by decide)) rfl k_6 8 (by decide) rfl t_145 rfl (t := .int) (by decide +kernel) rfl rfl dX5_endYear_46 (fun H locs hW hS => ?_)
      generalize hv3 : (up2 v2 0 8 ((v2 0 8) + 1)) = v3 at hW
      refine lv_iload_n hx hb dX5_endYear_49 rfl (lv_at hl 1 rfl) ?_
      subst hv3
      subst hv2
      subst hv1
      exact q_iret hx hb hr hlocks hW hS (Nat.le_refl _) (Nat.le_refl _) dX5_endYear_50 (⟨rfl, rfl⟩)
    · skip
      have hlt_4 := lt_i (n := ng) (by omega) hi_4 c_14
      refine lv_iload_n hx hb dX5_endYear_17 rfl (lv_at hl 1 rfl) ?_
      refine lv_aload_n hx hb dX5_endYear_18 rfl (lv_at hl 2 rfl) ?_
      refine lv_iload_n hx hb dX5_endYear_19 rfl (lv_at hl 0 rfl) ?_
      refine q_cViE (As := [.int (nI i)]) (rest := [.int (sumI (fun g => pPre (itr (fun g u => uPre u nh g) g v) nh g) i)]) (r := 0) hx hb hml hts hown hE h0 hW hS (c_X5_takePremium l hI hlt_4) mw_X5_takePremium (hI.c 0 (by decide)) rfl k_6 t_179 ⟨Nat.le_of_ble_eq_true rfl, Nat.le_of_ble_eq_true rfl⟩ rfl hl.1 (Nat.le_of_ble_eq_true rfl) dX5_endYear_20 ⟨Nat.zero_le _, Nat.zero_le _⟩ ⟨rfl, rfl⟩ (fun H locs hW hS => ?_)
      have hI : PI G.2.2.2 L ad (uPre (itr (fun g u => uPre u nh g) i v) nh i) o ng nh nl ns ow gx gy gw gd := hI.kp (kp_uPre (by omega))
      generalize hv4 : (uPre (itr (fun g u => uPre u nh g) i v) nh i) = v4 at hW hI
      refine lv_iadd hx hb dX5_endYear_23 ?_
      refine lv_istore_n (lv' := [(1, .int ((sumI (fun g => pPre (itr (fun g u => uPre u nh g) g v) nh g) i) + (pPre (itr (fun g u => uPre u nh g) i v) nh i))), (2, .int (nI i)), (0, .ref (ad 0))]) hx hb dX5_endYear_24 rfl hl (by decide) rfl (fun ls hl => ?_)
      refine lv_iinc (v := (nI (i + 1))) (lv' := [(2, .int (nI (i + 1))), (1, .int ((sumI (fun g => pPre (itr (fun g u => uPre u nh g) g v) nh g) i) + (pPre (itr (fun g u => uPre u nh g) i v) nh i))), (0, .ref (ad 0))]) hx hb dX5_endYear_25 hl (k := 1) rfl (inc_nI _) (by decide) rfl (fun ls hl => ?_)
      refine lv_goto (tgt := 4) hx hb dX5_endYear_28 (by decide) ?_
      subst hv4
      exact ih_4 (i + 1) _ _   _ H locs ls (by omega) (by omega) (by rfl) (by rfl) (by rfl)  hW hS (lv_sub hl [0, 1, 2] rfl)

set_option maxHeartbeats 4000000 in
set_option maxRecDepth 100000 in
theorem c_X4_begin (l : Launch) {G : GG} {L : List Nat} {ad : Nat → Nat} {v : Nat → Nat → Int32} {o : Nat → Nat → Option Nat} {w : Nat → Int64} {ng nh nl ns : Nat} {ow gx gy gw gd : Nat → Nat} (hI : PI G.2.2.2 L ad v o ng nh nl ns ow gx gy gw gd) : CtV l G L ad v o w yX4_begin cX4_begin 3 ({ frames := 1, cells := 0, slots := 0, locals := 30 }) [.ref (ad 6), .ref (ad 4)] (fun u => u = uBegin v) := by
  have hb6 := hI.g6; have hb12 := hI.h12; have hbl := hI.l6; have hbs := hI.s30
  refine q_ofV (by decide) (Nat.le_of_ble_eq_true rfl) ?_
  intro p e s m below meth c hx hb hr hml hts hown hlocks hE h0 hW hS hin ls hl
  generalize hH : s.heap = H at hW
  have hS : va_S (Ab G.2.2.1) s.heap H [] := hH ▸ hS
  obtain ⟨locs, hlc⟩ : ∃ z : List Loc, z = [] := ⟨_, rfl⟩
  rw [← hlc] at hS ⊢
  have hl : lv_has ls 3 [(0, .ref (ad 6)), (1, .ref (ad 4))] := hl
  refine lv_aload_n hx hb dX4_begin_0 rfl (lv_at hl 1 rfl) ?_
  refine lv_iconst (v := 0) hx hb dX4_begin_1 (by decide) ?_
  refine lv_aload_n hx hb dX4_begin_2 rfl (lv_at hl 0 rfl) ?_
  refine q_getr hx hb hts hown hW (r := 6) (hI.c 6 (by decide)) rfl k_5 0 (by decide) rfl t_111 (a := ad 7) (hI.o6 0 (by decide)) dX4_begin_3 ?_
  refine lv_iconst (v := 0) hx hb dX4_begin_6 (by decide) ?_
  refine lv_sipush (v := 400) hx hb dX4_begin_7 (by decide) ?_
  refine q_copy hx hb hml hl.1 hts hown m_copy t_769 hW hS (r0 := 4) (r1 := 7) (hI.c 4 (by decide)) (hI.c 7 (by decide)) rfl rfl 0 0 400 rfl rfl rfl (by decide) (by decide) (by decide) (by decide) (Nat.le_of_ble_eq_true rfl) (Nat.le_of_ble_eq_true rfl) dX4_begin_10 (fun H locs hW hS => ?_)
  refine lv_iconst (v := 0) hx hb dX4_begin_13 (by decide) ?_
  refine lv_istore_n (lv' := [(2, .int 0), (0, .ref (ad 6)), (1, .ref (ad 4))]) hx hb dX4_begin_14 rfl hl (by decide) rfl (fun ls hl => ?_)
  suffices LP_15 : ∀ (n_15 i : Nat) (x2_15 : Int32)  (u_15 : Nat → Nat → Int32) (H : Heap) (locs : List Loc) (ls : Array Slot), 6 + 1 ≤ i + n_15 → i ≤ 6 → nI i = x2_15 → itr (fun k u => up2 u 8 k 0) i (cpy2 v 4 7 0 0 400) = u_15 → WD G L ad u_15 o w s H → va_S (Ab G.2.2.1) s.heap H locs → lv_has ls 3 [(2, .int x2_15), (0, .ref (ad 6))] → W p l e ({ frames := 1, cells := 0, slots := 0, locals := 30 } : Room) s m ([.ref (ad 6), .ref (ad 4)] : List Value).toArray below meth c H locs 0 0 (MQ below (va_Qv (fun u => u = uBegin v) (fun u t => WD G L ad u o w t t.heap) (Ab G.2.2.1)) ([.ref (ad 6), .ref (ad 4)] : List Value).toArray s ({ frames := 1, cells := 0, slots := 0, locals := 30 } : Room).cells ({ frames := 1, cells := 0, slots := 0, locals := 30 } : Room).slots (Ab G.2.2.1)) (F0 m 15 ls []) from LP_15 (6 + 1) 0 _   _ H locs ls (by omega) (by omega) (by rfl) (by rfl)  hW hS (lv_sub hl [0, 1] rfl)
  intro n_15
  induction n_15 with
  | zero => intro i x2_15  u_15 H locs ls h1 h2; exact absurd h1 (by omega)
  | succ n_15 ih_15 =>
    intro i x2_15  u_15 H locs ls hn_15 hi_15 ex2_15 eu_15  hW hS hl
    subst ex2_15
    subst eu_15
    refine lv_iload_n hx hb dX4_begin_15 rfl (lv_at hl 0 rfl) ?_
    refine lv_bipush (v := 6) hx hb dX4_begin_16 (by decide) ?_
    refine lv_icmp_ge (tgt := 34) hx hb dX4_begin_18 (by decide) (fun c_18 => ?_) (fun c_18 => ?_)
    · skip
      have hq_15 := (ge_i (n := 6) (by omega) hi_15 c_18).symm
      subst hq_15
      refine lv_iconst (v := 0) hx hb dX4_begin_34 (by decide) ?_
      refine lv_istore_n (lv' := [(2, .int 0), (0, .ref (ad 6))]) hx hb dX4_begin_35 rfl hl (by decide) rfl (fun ls hl => ?_)
      suffices LP_36 : ∀ (n_36 i : Nat) (x2_36 : Int32)  (u_36 : Nat → Nat → Int32) (H : Heap) (locs : List Loc) (ls : Array Slot), 6 + 1 ≤ i + n_36 → i ≤ 6 → nI i = x2_36 → itr (fun k u => up2 u 12 k 0) i (itr (fun k u => up2 u 8 k 0) 6 (cpy2 v 4 7 0 0 400)) = u_36 → WD G L ad u_36 o w s H → va_S (Ab G.2.2.1) s.heap H locs → lv_has ls 3 [(2, .int x2_36), (0, .ref (ad 6))] → W p l e ({ frames := 1, cells := 0, slots := 0, locals := 30 } : Room) s m ([.ref (ad 6), .ref (ad 4)] : List Value).toArray below meth c H locs 0 0 (MQ below (va_Qv (fun u => u = uBegin v) (fun u t => WD G L ad u o w t t.heap) (Ab G.2.2.1)) ([.ref (ad 6), .ref (ad 4)] : List Value).toArray s ({ frames := 1, cells := 0, slots := 0, locals := 30 } : Room).cells ({ frames := 1, cells := 0, slots := 0, locals := 30 } : Room).slots (Ab G.2.2.1)) (F0 m 36 ls []) from LP_36 (6 + 1) 0 _   _ H locs ls (by omega) (by omega) (by rfl) (by rfl)  hW hS (lv_sub hl [0, 1] rfl)
      intro n_36
      induction n_36 with
      | zero => intro i x2_36  u_36 H locs ls h1 h2; exact absurd h1 (by omega)
      | succ n_36 ih_36 =>
        intro i x2_36  u_36 H locs ls hn_36 hi_36 ex2_36 eu_36  hW hS hl
        subst ex2_36
        subst eu_36
        refine lv_iload_n hx hb dX4_begin_36 rfl (lv_at hl 0 rfl) ?_
        refine lv_bipush (v := 6) hx hb dX4_begin_37 (by decide) ?_
        refine lv_icmp_ge (tgt := 55) hx hb dX4_begin_39 (by decide) (fun c_39 => ?_) (fun c_39 => ?_)
        · skip
          have hq_36 := (ge_i (n := 6) (by omega) hi_36 c_39).symm
          subst hq_36
          exact q_vret hx hb hr hlocks hW hS (Nat.le_refl _) (Nat.le_refl _) dX4_begin_55 (rfl)
        · skip
          have hlt_36 := lt_i (n := 6) (by omega) hi_36 c_39
          refine lv_aload_n hx hb dX4_begin_42 rfl (lv_at hl 1 rfl) ?_
          refine q_getr hx hb hts hown hW (r := 6) (hI.c 6 (by decide)) rfl k_5 5 (by decide) rfl t_121 (a := ad 12) (hI.o6 5 (by decide)) dX4_begin_43 ?_
          refine lv_iload_n hx hb dX4_begin_46 rfl (lv_at hl 0 rfl) ?_
          refine lv_iconst (v := 0) hx hb dX4_begin_47 (by decide) ?_
          refine q_iast hx hb hW hS (r := 12) (hI.c 12 (by decide)) rfl i rfl (show _ < 6 by omega) (by decide) dX4_begin_48 (fun H locs hW hS => ?_)
          generalize hv1 : (up2 (itr (fun k u => up2 u 12 k 0) i (itr (fun k u => up2 u 8 k 0) 6 (cpy2 v 4 7 0 0 400))) 12 i 0) = v1 at hW
          refine lv_iinc (v := (nI (i + 1))) (lv' := [(2, .int (nI (i + 1))), (0, .ref (ad 6))]) hx hb dX4_begin_49 hl (k := 0) rfl (inc_nI _) (by decide) rfl (fun ls hl => ?_)
          refine lv_goto (tgt := 36) hx hb dX4_begin_52 (by decide) ?_
          subst hv1
          exact ih_36 (i + 1) _   _ H locs ls (by omega) (by omega) (by rfl) (by rfl)  hW hS (lv_sub hl [0, 1] rfl)
    · skip
      have hlt_15 := lt_i (n := 6) (by omega) hi_15 c_18
      refine lv_aload_n hx hb dX4_begin_21 rfl (lv_at hl 1 rfl) ?_
      refine q_getr hx hb hts hown hW (r := 6) (hI.c 6 (by decide)) rfl k_5 1 (by decide) rfl t_113 (a := ad 8) (hI.o6 1 (by decide)) dX4_begin_22 ?_
      refine lv_iload_n hx hb dX4_begin_25 rfl (lv_at hl 0 rfl) ?_
      refine lv_iconst (v := 0) hx hb dX4_begin_26 (by decide) ?_
      refine q_iast hx hb hW hS (r := 8) (hI.c 8 (by decide)) rfl i rfl (show _ < 6 by omega) (by decide) dX4_begin_27 (fun H locs hW hS => ?_)
      generalize hv2 : (up2 (itr (fun k u => up2 u 8 k 0) i (cpy2 v 4 7 0 0 400)) 8 i 0) = v2 at hW
      refine lv_iinc (v := (nI (i + 1))) (lv' := [(2, .int (nI (i + 1))), (0, .ref (ad 6))]) hx hb dX4_begin_28 hl (k := 0) rfl (inc_nI _) (by decide) rfl (fun ls hl => ?_)
      refine lv_goto (tgt := 15) hx hb dX4_begin_31 (by decide) ?_
      subst hv2
      exact ih_15 (i + 1) _   _ H locs ls (by omega) (by omega) (by rfl) (by rfl)  hW hS (lv_sub hl [0, 1] rfl)

set_option maxHeartbeats 4000000 in
set_option maxRecDepth 100000 in
theorem c_X4_addDamage (l : Launch) {G : GG} {L : List Nat} {ad : Nat → Nat} {v : Nat → Nat → Int32} {o : Nat → Nat → Option Nat} {w : Nat → Int64} {ng nh nl ns : Nat} {ow gx gy gw gd : Nat → Nat} (hI : PI G.2.2.2 L ad v o ng nh nl ns ow gx gy gw gd) {g : Nat} (hg : g < 6) (x : Int32) : CtV l G L ad v o w yX4_addDamage cX4_addDamage 3 ({ frames := 0, cells := 0, slots := 0, locals := 0 }) [.ref (ad 6), .int (nI g), .int x] (fun u => u = uAdd v g x) := by
  have hb6 := hI.g6; have hb12 := hI.h12; have hbl := hI.l6; have hbs := hI.s30
  refine q_ofV (by decide) (Nat.le_of_ble_eq_true rfl) ?_
  intro p e s m below meth c hx hb hr hml hts hown hlocks hE h0 hW hS hin ls hl
  generalize hH : s.heap = H at hW
  have hS : va_S (Ab G.2.2.1) s.heap H [] := hH ▸ hS
  obtain ⟨locs, hlc⟩ : ∃ z : List Loc, z = [] := ⟨_, rfl⟩
  rw [← hlc] at hS ⊢
  have hl : lv_has ls 3 [(0, .ref (ad 6)), (1, .int (nI g)), (2, .int x)] := hl
  refine lv_aload_n hx hb dX4_addDamage_0 rfl (lv_at hl 0 rfl) ?_
  refine q_getr hx hb hts hown hW (r := 6) (hI.c 6 (by decide)) rfl k_5 1 (by decide) rfl t_113 (a := ad 8) (hI.o6 1 (by decide)) dX4_addDamage_1 ?_
  refine lv_iload_n hx hb dX4_addDamage_4 rfl (lv_at hl 1 rfl) ?_
  refine lv_dup2_11 hx hb dX4_addDamage_5 rfl rfl ?_
  refine q_iald hx hb hW (r := 8) (hI.c 8 (by decide)) rfl g rfl hg (by decide) (x := (v 8 g)) rfl dX4_addDamage_6 ?_
  refine lv_iload_n hx hb dX4_addDamage_7 rfl (lv_at hl 2 rfl) ?_
  refine lv_iadd hx hb dX4_addDamage_8 ?_
  refine q_iast hx hb hW hS (r := 8) (hI.c 8 (by decide)) rfl g rfl hg (by decide) dX4_addDamage_9 (fun H locs hW hS => ?_)
  generalize hv1 : (up2 v 8 g ((v 8 g) + x)) = v1 at hW
  refine lv_aload_n hx hb dX4_addDamage_10 rfl (lv_at hl 0 rfl) ?_
  refine q_getr hx hb hts hown hW (r := 6) (hI.c 6 (by decide)) rfl k_5 5 (by decide) rfl t_121 (a := ad 12) (hI.o6 5 (by decide)) dX4_addDamage_11 ?_
  refine lv_iconst (v := 2) hx hb dX4_addDamage_14 (by decide) ?_
  refine lv_dup2_11 hx hb dX4_addDamage_15 rfl rfl ?_
  refine q_iald hx hb hW (r := 12) (hI.c 12 (by decide)) rfl 2 rfl (by decide) (by decide) (x := (v1 12 2)) rfl dX4_addDamage_16 ?_
  refine lv_iload_n hx hb dX4_addDamage_17 rfl (lv_at hl 2 rfl) ?_
  refine lv_iadd hx hb dX4_addDamage_18 ?_
  refine q_iast hx hb hW hS (r := 12) (hI.c 12 (by decide)) rfl 2 rfl (by decide) (by decide) dX4_addDamage_19 (fun H locs hW hS => ?_)
  generalize hv2 : (up2 v1 12 2 ((v1 12 2) + x)) = v2 at hW
  subst hv2
  subst hv1
  exact q_vret hx hb hr hlocks hW hS (Nat.le_refl _) (Nat.le_refl _) dX4_addDamage_20 (rfl)

set_option maxHeartbeats 4000000 in
set_option maxRecDepth 100000 in
theorem c_X4_hitPane (l : Launch) {G : GG} {L : List Nat} {ad : Nat → Nat} {v : Nat → Nat → Int32} {o : Nat → Nat → Option Nat} {w : Nat → Int64} {ng nh nl ns : Nat} {ow gx gy gw gd : Nat → Nat} (hI : PI G.2.2.2 L ad v o ng nh nl ns ow gx gy gw gd) {h : Nat} (hh : h < nh) {q9 : Nat} (hc4 : q9 < 400) (x : Int32) : CtV l G L ad v o w yX4_hitPane cX4_hitPane 4 ({ frames := 1, cells := 0, slots := 0, locals := 22 }) [.ref (ad 6), .ref (ad (60 + h)), .int (nI q9), .int x] (fun u => u = uHit v ow h q9 x) := by
  have hb6 := hI.g6; have hb12 := hI.h12; have hbl := hI.l6; have hbs := hI.s30; have hgeo := (hI.hs h hh).1
  refine q_ofV (by decide) (Nat.le_of_ble_eq_true rfl) ?_
  intro p e s m below meth c hx hb hr hml hts hown hlocks hE h0 hW hS hin ls hl
  generalize hH : s.heap = H at hW
  have hS : va_S (Ab G.2.2.1) s.heap H [] := hH ▸ hS
  obtain ⟨locs, hlc⟩ : ∃ z : List Loc, z = [] := ⟨_, rfl⟩
  rw [← hlc] at hS ⊢
  have hl : lv_has ls 4 [(0, .ref (ad 6)), (1, .ref (ad (60 + h))), (2, .int (nI q9)), (3, .int x)] := hl
  refine lv_aload_n hx hb dX4_hitPane_0 rfl (lv_at hl 0 rfl) ?_
  refine q_getr hx hb hts hown hW (r := 6) (hI.c 6 (by decide)) rfl k_5 0 (by decide) rfl t_111 (a := ad 7) (hI.o6 0 (by decide)) dX4_hitPane_1 ?_
  refine lv_iload_n hx hb dX4_hitPane_4 rfl (lv_at hl 2 rfl) ?_
  refine q_iald hx hb hW (r := 7) (hI.c 7 (by decide)) rfl q9 rfl hc4 (by decide) (x := (v 7 q9)) rfl dX4_hitPane_5 ?_
  refine lv_if_ne (tgt := 49) hx hb dX4_hitPane_6 (by decide) (fun c_6 => ?_) (fun c_6 => ?_)
  · skip
    refine lv_aload_n hx hb dX4_hitPane_49 rfl (lv_at hl 0 rfl) ?_
    refine q_getr hx hb hts hown hW (r := 6) (hI.c 6 (by decide)) rfl k_5 0 (by decide) rfl t_111 (a := ad 7) (hI.o6 0 (by decide)) dX4_hitPane_50 ?_
    refine lv_iload_n hx hb dX4_hitPane_53 rfl (lv_at hl 2 rfl) ?_
    refine q_iald hx hb hW (r := 7) (hI.c 7 (by decide)) rfl q9 rfl hc4 (by decide) (x := (v 7 q9)) rfl dX4_hitPane_54 ?_
    refine lv_iconst (v := 1) hx hb dX4_hitPane_55 (by decide) ?_
    refine lv_icmp_ne (tgt := 103) hx hb dX4_hitPane_56 (by decide) (fun c_56 => ?_) (fun c_56 => ?_)
    · skip
      exact q_vret hx hb hr hlocks hW hS (Nat.le_refl _) (Nat.le_refl _) dX4_hitPane_103 (by unfold uHit; first | exact absurd ((by assumption : v 7 q9 = 0).symm.trans (by assumption : v 7 q9 = 1)) (by decide) | (rw [if_pos ⟨by assumption, Int32.not_le.mp (by assumption)⟩]; rfl) | (rw [if_neg (fun q => by first | exact absurd q.1 (by assumption) | exact absurd q.2 (Int32.not_lt.mpr (by assumption))), if_pos ⟨by assumption, Int32.not_le.mp (by assumption)⟩]; rfl) | (rw [if_neg (fun q => by first | exact absurd q.1 (by assumption) | exact absurd q.2 (Int32.not_lt.mpr (by assumption))), if_neg (fun q => by first | exact absurd q.1 (by assumption) | exact absurd q.2 (Int32.not_lt.mpr (by assumption)))]))
    · skip
      refine lv_iconst (v := 2) hx hb dX4_hitPane_59 (by decide) ?_
      refine lv_iload_n hx hb dX4_hitPane_60 rfl (lv_at hl 3 rfl) ?_
      refine lv_imul hx hb dX4_hitPane_61 ?_
      refine lv_aload_n hx hb dX4_hitPane_62 rfl (lv_at hl 1 rfl) ?_
      refine q_get hx hb hts hown hW (r := (60 + h)) (hI.mh hh) (hI.kh hh) k_2 5 (by decide) rfl t_561 (x := (v (60 + h) 5)) rfl dX4_hitPane_63 ?_
      refine lv_icmp_le (tgt := 103) hx hb dX4_hitPane_66 (by decide) (fun c_66 => ?_) (fun c_66 => ?_)
      · skip
        exact q_vret hx hb hr hlocks hW hS (Nat.le_refl _) (Nat.le_refl _) dX4_hitPane_103 (by unfold uHit; first | exact absurd ((by assumption : v 7 q9 = 0).symm.trans (by assumption : v 7 q9 = 1)) (by decide) | (rw [if_pos ⟨by assumption, Int32.not_le.mp (by assumption)⟩]; rfl) | (rw [if_neg (fun q => by first | exact absurd q.1 (by assumption) | exact absurd q.2 (Int32.not_lt.mpr (by assumption))), if_pos ⟨by assumption, Int32.not_le.mp (by assumption)⟩]; rfl) | (rw [if_neg (fun q => by first | exact absurd q.1 (by assumption) | exact absurd q.2 (Int32.not_lt.mpr (by assumption))), if_neg (fun q => by first | exact absurd q.1 (by assumption) | exact absurd q.2 (Int32.not_lt.mpr (by assumption)))]))
      · skip
        refine lv_aload_n hx hb dX4_hitPane_69 rfl (lv_at hl 0 rfl) ?_
        refine q_getr hx hb hts hown hW (r := 6) (hI.c 6 (by decide)) rfl k_5 0 (by decide) rfl t_111 (a := ad 7) (hI.o6 0 (by decide)) dX4_hitPane_70 ?_
        refine lv_iload_n hx hb dX4_hitPane_73 rfl (lv_at hl 2 rfl) ?_
        refine lv_iconst (v := 2) hx hb dX4_hitPane_74 (by decide) ?_
        refine q_iast hx hb hW hS (r := 7) (hI.c 7 (by decide)) rfl q9 rfl hc4 (by decide) dX4_hitPane_75 (fun H locs hW hS => ?_)
        have hI : PI G.2.2.2 L ad (up2 v 7 q9 2) o ng nh nl ns ow gx gy gw gd := hI.kp (kp_up (by unfold depC dep; omega))
        generalize hv1 : (up2 v 7 q9 2) = v1 at hW hI
        refine lv_aload_n hx hb dX4_hitPane_76 rfl (lv_at hl 0 rfl) ?_
        refine q_getr hx hb hts hown hW (r := 6) (hI.c 6 (by decide)) rfl k_5 5 (by decide) rfl t_121 (a := ad 12) (hI.o6 5 (by decide)) dX4_hitPane_77 ?_
        refine lv_iconst (v := 1) hx hb dX4_hitPane_80 (by decide) ?_
        refine lv_dup2_11 hx hb dX4_hitPane_81 rfl rfl ?_
        refine q_iald hx hb hW (r := 12) (hI.c 12 (by decide)) rfl 1 rfl (by decide) (by decide) (x := (v1 12 1)) rfl dX4_hitPane_82 ?_
        refine lv_iconst (v := 1) hx hb dX4_hitPane_83 (by decide) ?_
        refine lv_iadd hx hb dX4_hitPane_84 ?_
        refine q_iast hx hb hW hS (r := 12) (hI.c 12 (by decide)) rfl 1 rfl (by decide) (by decide) dX4_hitPane_85 (fun H locs hW hS => ?_)
        have hI : PI G.2.2.2 L ad (up2 v1 12 1 ((v1 12 1) + 1)) o ng nh nl ns ow gx gy gw gd := hI.kp (kp_up (by unfold depC dep; omega))
        generalize hv2 : (up2 v1 12 1 ((v1 12 1) + 1)) = v2 at hW hI
        refine lv_aload_n hx hb dX4_hitPane_86 rfl (lv_at hl 0 rfl) ?_
        refine lv_aload_n hx hb dX4_hitPane_87 rfl (lv_at hl 1 rfl) ?_
        refine q_get hx hb hts hown hW (r := (60 + h)) (hI.mh hh) (hI.kh hh) k_2 0 (by decide) rfl t_550 (x := (nI (ow h))) (hI.eO hh) dX4_hitPane_88 ?_
        refine lv_aload_n hx hb dX4_hitPane_91 rfl (lv_at hl 1 rfl) ?_
        refine q_get hx hb hts hown hW (r := (60 + h)) (hI.mh hh) (hI.kh hh) k_2 6 (by decide) rfl t_564 (x := (v2 (60 + h) 6)) rfl dX4_hitPane_92 ?_
        refine lv_aload_n hx hb dX4_hitPane_95 rfl (lv_at hl 1 rfl) ?_
        refine q_cViE (As := []) (rest := [.int (v2 (60 + h) 6), .int (nI (ow h)), .ref (ad 6)]) (r := (60 + h)) hx hb hml hts hown hE h0 hW hS (c_X1_lostByCrack l hI hh) mw_X1_lostByCrack (hI.mh hh) (hI.kh hh) k_2 t_782 ⟨Nat.le_of_ble_eq_true rfl, Nat.le_of_ble_eq_true rfl⟩ rfl hl.1 (Nat.le_of_ble_eq_true rfl) dX4_hitPane_96 ⟨Nat.zero_le _, Nat.zero_le _⟩ ⟨rfl, rfl⟩ (fun H locs hW hS => ?_)
        refine lv_isub hx hb dX4_hitPane_99 ?_
        refine q_cVvE (As := [.int (nI (ow h)), .int ((v2 (60 + h) 6) - (v2 (60 + h) 6 / 2))]) (rest := []) (r := 6) hx hb hml hts hown hE h0 hW hS (c_X4_addDamage l hI (g := (ow h)) (by omega) ((v2 (60 + h) 6) - (v2 (60 + h) 6 / 2))) mw_X4_addDamage (hI.c 6 (by decide)) rfl k_5 t_783 ⟨Nat.le_of_ble_eq_true rfl, Nat.le_of_ble_eq_true rfl⟩ rfl hl.1 (Nat.le_of_ble_eq_true rfl) dX4_hitPane_100 ⟨Nat.zero_le _, Nat.zero_le _⟩ ⟨rfl, rfl⟩ (fun H locs hW hS => ?_)
        have hI : PI G.2.2.2 L ad (uAdd v2 (ow h) ((v2 (60 + h) 6) - (v2 (60 + h) 6 / 2))) o ng nh nl ns ow gx gy gw gd := hI.kp kp_uAdd
        generalize hv3 : (uAdd v2 (ow h) ((v2 (60 + h) 6) - (v2 (60 + h) 6 / 2))) = v3 at hW hI
        subst hv3
        subst hv2
        subst hv1
        exact q_vret hx hb hr hlocks hW hS (Nat.le_refl _) (Nat.le_refl _) dX4_hitPane_103 (by unfold uHit; first | exact absurd ((by assumption : v 7 q9 = 0).symm.trans (by assumption : v 7 q9 = 1)) (by decide) | (rw [if_pos ⟨by assumption, Int32.not_le.mp (by assumption)⟩]; rfl) | (rw [if_neg (fun q => by first | exact absurd q.1 (by assumption) | exact absurd q.2 (Int32.not_lt.mpr (by assumption))), if_pos ⟨by assumption, Int32.not_le.mp (by assumption)⟩]; rfl) | (rw [if_neg (fun q => by first | exact absurd q.1 (by assumption) | exact absurd q.2 (Int32.not_lt.mpr (by assumption))), if_neg (fun q => by first | exact absurd q.1 (by assumption) | exact absurd q.2 (Int32.not_lt.mpr (by assumption)))]))
  · skip
    refine lv_iload_n hx hb dX4_hitPane_9 rfl (lv_at hl 3 rfl) ?_
    refine lv_aload_n hx hb dX4_hitPane_10 rfl (lv_at hl 1 rfl) ?_
    refine q_get hx hb hts hown hW (r := (60 + h)) (hI.mh hh) (hI.kh hh) k_2 5 (by decide) rfl t_561 (x := (v (60 + h) 5)) rfl dX4_hitPane_11 ?_
    refine lv_icmp_le (tgt := 49) hx hb dX4_hitPane_14 (by decide) (fun c_14 => ?_) (fun c_14 => ?_)
    · skip
      refine lv_aload_n hx hb dX4_hitPane_49 rfl (lv_at hl 0 rfl) ?_
      refine q_getr hx hb hts hown hW (r := 6) (hI.c 6 (by decide)) rfl k_5 0 (by decide) rfl t_111 (a := ad 7) (hI.o6 0 (by decide)) dX4_hitPane_50 ?_
      refine lv_iload_n hx hb dX4_hitPane_53 rfl (lv_at hl 2 rfl) ?_
      refine q_iald hx hb hW (r := 7) (hI.c 7 (by decide)) rfl q9 rfl hc4 (by decide) (x := (v 7 q9)) rfl dX4_hitPane_54 ?_
      refine lv_iconst (v := 1) hx hb dX4_hitPane_55 (by decide) ?_
      refine lv_icmp_ne (tgt := 103) hx hb dX4_hitPane_56 (by decide) (fun c_56 => ?_) (fun c_56 => ?_)
      · skip
        exact q_vret hx hb hr hlocks hW hS (Nat.le_refl _) (Nat.le_refl _) dX4_hitPane_103 (by unfold uHit; first | exact absurd ((by assumption : v 7 q9 = 0).symm.trans (by assumption : v 7 q9 = 1)) (by decide) | (rw [if_pos ⟨by assumption, Int32.not_le.mp (by assumption)⟩]; rfl) | (rw [if_neg (fun q => by first | exact absurd q.1 (by assumption) | exact absurd q.2 (Int32.not_lt.mpr (by assumption))), if_pos ⟨by assumption, Int32.not_le.mp (by assumption)⟩]; rfl) | (rw [if_neg (fun q => by first | exact absurd q.1 (by assumption) | exact absurd q.2 (Int32.not_lt.mpr (by assumption))), if_neg (fun q => by first | exact absurd q.1 (by assumption) | exact absurd q.2 (Int32.not_lt.mpr (by assumption)))]))
      · skip
        refine lv_iconst (v := 2) hx hb dX4_hitPane_59 (by decide) ?_
        refine lv_iload_n hx hb dX4_hitPane_60 rfl (lv_at hl 3 rfl) ?_
        refine lv_imul hx hb dX4_hitPane_61 ?_
        refine lv_aload_n hx hb dX4_hitPane_62 rfl (lv_at hl 1 rfl) ?_
        refine q_get hx hb hts hown hW (r := (60 + h)) (hI.mh hh) (hI.kh hh) k_2 5 (by decide) rfl t_561 (x := (v (60 + h) 5)) rfl dX4_hitPane_63 ?_
        refine lv_icmp_le (tgt := 103) hx hb dX4_hitPane_66 (by decide) (fun c_66 => ?_) (fun c_66 => ?_)
        · skip
          exact q_vret hx hb hr hlocks hW hS (Nat.le_refl _) (Nat.le_refl _) dX4_hitPane_103 (by unfold uHit; first | exact absurd ((by assumption : v 7 q9 = 0).symm.trans (by assumption : v 7 q9 = 1)) (by decide) | (rw [if_pos ⟨by assumption, Int32.not_le.mp (by assumption)⟩]; rfl) | (rw [if_neg (fun q => by first | exact absurd q.1 (by assumption) | exact absurd q.2 (Int32.not_lt.mpr (by assumption))), if_pos ⟨by assumption, Int32.not_le.mp (by assumption)⟩]; rfl) | (rw [if_neg (fun q => by first | exact absurd q.1 (by assumption) | exact absurd q.2 (Int32.not_lt.mpr (by assumption))), if_neg (fun q => by first | exact absurd q.1 (by assumption) | exact absurd q.2 (Int32.not_lt.mpr (by assumption)))]))
        · skip
          refine lv_aload_n hx hb dX4_hitPane_69 rfl (lv_at hl 0 rfl) ?_
          refine q_getr hx hb hts hown hW (r := 6) (hI.c 6 (by decide)) rfl k_5 0 (by decide) rfl t_111 (a := ad 7) (hI.o6 0 (by decide)) dX4_hitPane_70 ?_
          refine lv_iload_n hx hb dX4_hitPane_73 rfl (lv_at hl 2 rfl) ?_
          refine lv_iconst (v := 2) hx hb dX4_hitPane_74 (by decide) ?_
          refine q_iast hx hb hW hS (r := 7) (hI.c 7 (by decide)) rfl q9 rfl hc4 (by decide) dX4_hitPane_75 (fun H locs hW hS => ?_)
          have hI : PI G.2.2.2 L ad (up2 v 7 q9 2) o ng nh nl ns ow gx gy gw gd := hI.kp (kp_up (by unfold depC dep; omega))
          generalize hv4 : (up2 v 7 q9 2) = v4 at hW hI
          refine lv_aload_n hx hb dX4_hitPane_76 rfl (lv_at hl 0 rfl) ?_
          refine q_getr hx hb hts hown hW (r := 6) (hI.c 6 (by decide)) rfl k_5 5 (by decide) rfl t_121 (a := ad 12) (hI.o6 5 (by decide)) dX4_hitPane_77 ?_
          refine lv_iconst (v := 1) hx hb dX4_hitPane_80 (by decide) ?_
          refine lv_dup2_11 hx hb dX4_hitPane_81 rfl rfl ?_
          refine q_iald hx hb hW (r := 12) (hI.c 12 (by decide)) rfl 1 rfl (by decide) (by decide) (x := (v4 12 1)) rfl dX4_hitPane_82 ?_
          refine lv_iconst (v := 1) hx hb dX4_hitPane_83 (by decide) ?_
          refine lv_iadd hx hb dX4_hitPane_84 ?_
          refine q_iast hx hb hW hS (r := 12) (hI.c 12 (by decide)) rfl 1 rfl (by decide) (by decide) dX4_hitPane_85 (fun H locs hW hS => ?_)
          have hI : PI G.2.2.2 L ad (up2 v4 12 1 ((v4 12 1) + 1)) o ng nh nl ns ow gx gy gw gd := hI.kp (kp_up (by unfold depC dep; omega))
          generalize hv5 : (up2 v4 12 1 ((v4 12 1) + 1)) = v5 at hW hI
          refine lv_aload_n hx hb dX4_hitPane_86 rfl (lv_at hl 0 rfl) ?_
          refine lv_aload_n hx hb dX4_hitPane_87 rfl (lv_at hl 1 rfl) ?_
          refine q_get hx hb hts hown hW (r := (60 + h)) (hI.mh hh) (hI.kh hh) k_2 0 (by decide) rfl t_550 (x := (nI (ow h))) (hI.eO hh) dX4_hitPane_88 ?_
          refine lv_aload_n hx hb dX4_hitPane_91 rfl (lv_at hl 1 rfl) ?_
          refine q_get hx hb hts hown hW (r := (60 + h)) (hI.mh hh) (hI.kh hh) k_2 6 (by decide) rfl t_564 (x := (v5 (60 + h) 6)) rfl dX4_hitPane_92 ?_
          refine lv_aload_n hx hb dX4_hitPane_95 rfl (lv_at hl 1 rfl) ?_
          refine q_cViE (As := []) (rest := [.int (v5 (60 + h) 6), .int (nI (ow h)), .ref (ad 6)]) (r := (60 + h)) hx hb hml hts hown hE h0 hW hS (c_X1_lostByCrack l hI hh) mw_X1_lostByCrack (hI.mh hh) (hI.kh hh) k_2 t_782 ⟨Nat.le_of_ble_eq_true rfl, Nat.le_of_ble_eq_true rfl⟩ rfl hl.1 (Nat.le_of_ble_eq_true rfl) dX4_hitPane_96 ⟨Nat.zero_le _, Nat.zero_le _⟩ ⟨rfl, rfl⟩ (fun H locs hW hS => ?_)
          refine lv_isub hx hb dX4_hitPane_99 ?_
          refine q_cVvE (As := [.int (nI (ow h)), .int ((v5 (60 + h) 6) - (v5 (60 + h) 6 / 2))]) (rest := []) (r := 6) hx hb hml hts hown hE h0 hW hS (c_X4_addDamage l hI (g := (ow h)) (by omega) ((v5 (60 + h) 6) - (v5 (60 + h) 6 / 2))) mw_X4_addDamage (hI.c 6 (by decide)) rfl k_5 t_783 ⟨Nat.le_of_ble_eq_true rfl, Nat.le_of_ble_eq_true rfl⟩ rfl hl.1 (Nat.le_of_ble_eq_true rfl) dX4_hitPane_100 ⟨Nat.zero_le _, Nat.zero_le _⟩ ⟨rfl, rfl⟩ (fun H locs hW hS => ?_)
          have hI : PI G.2.2.2 L ad (uAdd v5 (ow h) ((v5 (60 + h) 6) - (v5 (60 + h) 6 / 2))) o ng nh nl ns ow gx gy gw gd := hI.kp kp_uAdd
          generalize hv6 : (uAdd v5 (ow h) ((v5 (60 + h) 6) - (v5 (60 + h) 6 / 2))) = v6 at hW hI
          subst hv6
          subst hv5
          subst hv4
          exact q_vret hx hb hr hlocks hW hS (Nat.le_refl _) (Nat.le_refl _) dX4_hitPane_103 (by unfold uHit; first | exact absurd ((by assumption : v 7 q9 = 0).symm.trans (by assumption : v 7 q9 = 1)) (by decide) | (rw [if_pos ⟨by assumption, Int32.not_le.mp (by assumption)⟩]; rfl) | (rw [if_neg (fun q => by first | exact absurd q.1 (by assumption) | exact absurd q.2 (Int32.not_lt.mpr (by assumption))), if_pos ⟨by assumption, Int32.not_le.mp (by assumption)⟩]; rfl) | (rw [if_neg (fun q => by first | exact absurd q.1 (by assumption) | exact absurd q.2 (Int32.not_lt.mpr (by assumption))), if_neg (fun q => by first | exact absurd q.1 (by assumption) | exact absurd q.2 (Int32.not_lt.mpr (by assumption)))]))
    · skip
      refine lv_aload_n hx hb dX4_hitPane_17 rfl (lv_at hl 0 rfl) ?_
      refine q_getr hx hb hts hown hW (r := 6) (hI.c 6 (by decide)) rfl k_5 0 (by decide) rfl t_111 (a := ad 7) (hI.o6 0 (by decide)) dX4_hitPane_18 ?_
      refine lv_iload_n hx hb dX4_hitPane_21 rfl (lv_at hl 2 rfl) ?_
      refine lv_iconst (v := 1) hx hb dX4_hitPane_22 (by decide) ?_
      refine q_iast hx hb hW hS (r := 7) (hI.c 7 (by decide)) rfl q9 rfl hc4 (by decide) dX4_hitPane_23 (fun H locs hW hS => ?_)
      have hI : PI G.2.2.2 L ad (up2 v 7 q9 1) o ng nh nl ns ow gx gy gw gd := hI.kp (kp_up (by unfold depC dep; omega))
      generalize hv7 : (up2 v 7 q9 1) = v7 at hW hI
      refine lv_aload_n hx hb dX4_hitPane_24 rfl (lv_at hl 0 rfl) ?_
      refine q_getr hx hb hts hown hW (r := 6) (hI.c 6 (by decide)) rfl k_5 5 (by decide) rfl t_121 (a := ad 12) (hI.o6 5 (by decide)) dX4_hitPane_25 ?_
      refine lv_iconst (v := 0) hx hb dX4_hitPane_28 (by decide) ?_
      refine lv_dup2_11 hx hb dX4_hitPane_29 rfl rfl ?_
      refine q_iald hx hb hW (r := 12) (hI.c 12 (by decide)) rfl 0 rfl (by decide) (by decide) (x := (v7 12 0)) rfl dX4_hitPane_30 ?_
      refine lv_iconst (v := 1) hx hb dX4_hitPane_31 (by decide) ?_
      refine lv_iadd hx hb dX4_hitPane_32 ?_
      refine q_iast hx hb hW hS (r := 12) (hI.c 12 (by decide)) rfl 0 rfl (by decide) (by decide) dX4_hitPane_33 (fun H locs hW hS => ?_)
      have hI : PI G.2.2.2 L ad (up2 v7 12 0 ((v7 12 0) + 1)) o ng nh nl ns ow gx gy gw gd := hI.kp (kp_up (by unfold depC dep; omega))
      generalize hv8 : (up2 v7 12 0 ((v7 12 0) + 1)) = v8 at hW hI
      refine lv_aload_n hx hb dX4_hitPane_34 rfl (lv_at hl 0 rfl) ?_
      refine lv_aload_n hx hb dX4_hitPane_35 rfl (lv_at hl 1 rfl) ?_
      refine q_get hx hb hts hown hW (r := (60 + h)) (hI.mh hh) (hI.kh hh) k_2 0 (by decide) rfl t_550 (x := (nI (ow h))) (hI.eO hh) dX4_hitPane_36 ?_
      refine lv_aload_n hx hb dX4_hitPane_39 rfl (lv_at hl 1 rfl) ?_
      refine q_cViE (As := []) (rest := [.int (nI (ow h)), .ref (ad 6)]) (r := (60 + h)) hx hb hml hts hown hE h0 hW hS (c_X1_lostByCrack l hI hh) mw_X1_lostByCrack (hI.mh hh) (hI.kh hh) k_2 t_782 ⟨Nat.le_of_ble_eq_true rfl, Nat.le_of_ble_eq_true rfl⟩ rfl hl.1 (Nat.le_of_ble_eq_true rfl) dX4_hitPane_40 ⟨Nat.zero_le _, Nat.zero_le _⟩ ⟨rfl, rfl⟩ (fun H locs hW hS => ?_)
      refine q_cVvE (As := [.int (nI (ow h)), .int (v8 (60 + h) 6 / 2)]) (rest := []) (r := 6) hx hb hml hts hown hE h0 hW hS (c_X4_addDamage l hI (g := (ow h)) (by omega) (v8 (60 + h) 6 / 2)) mw_X4_addDamage (hI.c 6 (by decide)) rfl k_5 t_783 ⟨Nat.le_of_ble_eq_true rfl, Nat.le_of_ble_eq_true rfl⟩ rfl hl.1 (Nat.le_of_ble_eq_true rfl) dX4_hitPane_43 ⟨Nat.zero_le _, Nat.zero_le _⟩ ⟨rfl, rfl⟩ (fun H locs hW hS => ?_)
      have hI : PI G.2.2.2 L ad (uAdd v8 (ow h) (v8 (60 + h) 6 / 2)) o ng nh nl ns ow gx gy gw gd := hI.kp kp_uAdd
      generalize hv9 : (uAdd v8 (ow h) (v8 (60 + h) 6 / 2)) = v9 at hW hI
      refine lv_goto (tgt := 103) hx hb dX4_hitPane_46 (by decide) ?_
      subst hv9
      subst hv8
      subst hv7
      exact q_vret hx hb hr hlocks hW hS (Nat.le_refl _) (Nat.le_refl _) dX4_hitPane_103 (by unfold uHit; first | exact absurd ((by assumption : v 7 q9 = 0).symm.trans (by assumption : v 7 q9 = 1)) (by decide) | (rw [if_pos ⟨by assumption, Int32.not_le.mp (by assumption)⟩]; rfl) | (rw [if_neg (fun q => by first | exact absurd q.1 (by assumption) | exact absurd q.2 (Int32.not_lt.mpr (by assumption))), if_pos ⟨by assumption, Int32.not_le.mp (by assumption)⟩]; rfl) | (rw [if_neg (fun q => by first | exact absurd q.1 (by assumption) | exact absurd q.2 (Int32.not_lt.mpr (by assumption))), if_neg (fun q => by first | exact absurd q.1 (by assumption) | exact absurd q.2 (Int32.not_lt.mpr (by assumption)))]))

set_option maxHeartbeats 4000000 in
set_option maxRecDepth 100000 in
theorem c_X5_hitHouse (l : Launch) {G : GG} {L : List Nat} {ad : Nat → Nat} {v : Nat → Nat → Int32} {o : Nat → Nat → Option Nat} {w : Nat → Int64} {ng nh nl ns : Nat} {ow gx gy gw gd : Nat → Nat} (hI : PI G.2.2.2 L ad v o ng nh nl ns ow gx gy gw gd) {h : Nat} (hh : h < nh) {X Y : Int} (hX1 : -1000 ≤ X) (hX2 : X ≤ 1000) (hY1 : -1000 ≤ Y) (hY2 : Y ≤ 1000) {sx sy dx dy rad : Int} {F : Int32} {st : Nat} (h180 : 180 ∈ L) (hT : SI v sx sy dx dy rad F st) : CtV l G L ad v o w yX5_hitHouse cX5_hitHouse 13 ({ frames := 2, cells := 0, slots := 0, locals := 45 }) [.ref (ad 0), .ref (ad (60 + h)), .ref (ad 180), .int (iI X), .int (iI Y)] (fun u => u = uHouse v ow gx gy gw gd rad F h X Y) := by
  have hb6 := hI.g6; have hb12 := hI.h12; have hbl := hI.l6; have hbs := hI.s30; have hgeo := (hI.hs h hh).1; have hst := hT.2; obtain ⟨a0, ha0⟩ : ∃ z : Nat, z = (Y - rad - (gy h : Int)).toNat := ⟨_, rfl⟩; obtain ⟨b0, hb0⟩ : ∃ z : Nat, z = (X - rad - (gx h : Int)).toNat := ⟨_, rfl⟩; obtain ⟨E, hE9⟩ : ∃ z : Int, z = min ((gx h : Int) + (gw h : Int) - 1) (X + rad) := ⟨_, rfl⟩; obtain ⟨S, hS9⟩ : ∃ z : Int, z = min ((gy h : Int) + (gd h : Int) - 1) (Y + rad) := ⟨_, rfl⟩
  refine q_ofV (by decide) (Nat.le_of_ble_eq_true rfl) ?_
  intro p e s m below meth c hx hb hr hml hts hown hlocks hE h0 hW hS hin ls hl
  generalize hH : s.heap = H at hW
  have hS : va_S (Ab G.2.2.1) s.heap H [] := hH ▸ hS
  obtain ⟨locs, hlc⟩ : ∃ z : List Loc, z = [] := ⟨_, rfl⟩
  rw [← hlc] at hS ⊢
  have hl : lv_has ls 13 [(0, .ref (ad 0)), (1, .ref (ad (60 + h))), (2, .ref (ad 180)), (3, .int (iI X)), (4, .int (iI Y))] := hl
  refine lv_aload_n hx hb dX5_hitHouse_0 rfl (lv_at hl 1 rfl) ?_
  refine q_get hx hb hts hown hW (r := (60 + h)) (hI.mh hh) (hI.kh hh) k_2 1 (by decide) rfl t_553 (x := (nI (gx h))) (hI.eX hh) dX5_hitHouse_1 ?_
  refine lv_iload_n hx hb dX5_hitHouse_4 rfl (lv_at hl 3 rfl) ?_
  refine lv_aload_n hx hb dX5_hitHouse_5 rfl (lv_at hl 2 rfl) ?_
  refine q_get hx hb hts hown hW (r := 180) h180 rfl k_4 4 (by decide) rfl t_727 (x := (iI rad)) hT.1.2.2.2.2.1 dX5_hitHouse_6 ?_
  refine lv_isub hx hb dX5_hitHouse_9 ?_
  refine q_max hx hb hml hl.1 hts hown m_max t_774 (Nat.le_of_ble_eq_true rfl) (Nat.le_of_ble_eq_true rfl) (Nat.zero_le _) (Nat.zero_le _) dX5_hitHouse_10 ?_
  refine lv_topi (fun xt et => ?_)
  obtain rfl : xt = nI (gx h + b0) := et.trans (by rw [hb0]; exact hh_lo (by omega) (by omega) (by omega))
  clear et
  refine lv_istore (lv' := [(5, .int (nI (gx h + b0))), (0, .ref (ad 0)), (1, .ref (ad (60 + h))), (2, .ref (ad 180)), (3, .int (iI X)), (4, .int (iI Y))]) hx hb dX5_hitHouse_13 hl (by decide) rfl (fun ls hl => ?_)
  refine lv_aload_n hx hb dX5_hitHouse_15 rfl (lv_at hl 2 rfl) ?_
  refine q_get hx hb hts hown hW (r := (60 + h)) (hI.mh hh) (hI.kh hh) k_2 1 (by decide) rfl t_553 (x := (nI (gx h))) (hI.eX hh) dX5_hitHouse_16 ?_
  refine lv_aload_n hx hb dX5_hitHouse_19 rfl (lv_at hl 2 rfl) ?_
  refine q_get hx hb hts hown hW (r := (60 + h)) (hI.mh hh) (hI.kh hh) k_2 3 (by decide) rfl t_557 (x := (nI (gw h))) (hI.eW hh) dX5_hitHouse_20 ?_
  refine lv_iadd hx hb dX5_hitHouse_23 ?_
  refine lv_iconst (v := 1) hx hb dX5_hitHouse_24 (by decide) ?_
  refine lv_isub hx hb dX5_hitHouse_25 ?_
  refine lv_iload_n hx hb dX5_hitHouse_26 rfl (lv_at hl 4 rfl) ?_
  refine lv_aload_n hx hb dX5_hitHouse_27 rfl (lv_at hl 3 rfl) ?_
  refine q_get hx hb hts hown hW (r := 180) h180 rfl k_4 4 (by decide) rfl t_727 (x := (iI rad)) hT.1.2.2.2.2.1 dX5_hitHouse_28 ?_
  refine lv_iadd hx hb dX5_hitHouse_31 ?_
  refine q_min hx hb hml hl.1 hts hown m_min t_230 (Nat.le_of_ble_eq_true rfl) (Nat.le_of_ble_eq_true rfl) (Nat.zero_le _) (Nat.zero_le _) dX5_hitHouse_32 ?_
  refine lv_topi (fun xt et => ?_)
  obtain rfl : xt = iI E := et.trans (by rw [hE9]; exact hh_hi (by omega) (by omega) (by omega) (by omega))
  clear et
  refine lv_istore (lv' := [(6, .int (iI E)), (5, .int (nI (gx h + b0))), (0, .ref (ad 0)), (1, .ref (ad (60 + h))), (2, .ref (ad 180)), (3, .int (iI X)), (4, .int (iI Y))]) hx hb dX5_hitHouse_35 hl (by decide) rfl (fun ls hl => ?_)
  refine lv_aload_n hx hb dX5_hitHouse_37 rfl (lv_at hl 3 rfl) ?_
  refine q_get hx hb hts hown hW (r := (60 + h)) (hI.mh hh) (hI.kh hh) k_2 2 (by decide) rfl t_555 (x := (nI (gy h))) (hI.eY hh) dX5_hitHouse_38 ?_
  refine lv_iload hx hb dX5_hitHouse_41 (lv_at hl 6 rfl) ?_
  refine lv_aload_n hx hb dX5_hitHouse_43 rfl (lv_at hl 4 rfl) ?_
  refine q_get hx hb hts hown hW (r := 180) h180 rfl k_4 4 (by decide) rfl t_727 (x := (iI rad)) hT.1.2.2.2.2.1 dX5_hitHouse_44 ?_
  refine lv_isub hx hb dX5_hitHouse_47 ?_
  refine q_max hx hb hml hl.1 hts hown m_max t_774 (Nat.le_of_ble_eq_true rfl) (Nat.le_of_ble_eq_true rfl) (Nat.zero_le _) (Nat.zero_le _) dX5_hitHouse_48 ?_
  refine lv_topi (fun xt et => ?_)
  obtain rfl : xt = nI (gy h + a0) := et.trans (by rw [ha0]; exact hh_lo (by omega) (by omega) (by omega))
  clear et
  refine lv_istore (lv' := [(7, .int (nI (gy h + a0))), (6, .int (iI E)), (5, .int (nI (gx h + b0))), (0, .ref (ad 0)), (1, .ref (ad (60 + h))), (2, .ref (ad 180)), (3, .int (iI X)), (4, .int (iI Y))]) hx hb dX5_hitHouse_51 hl (by decide) rfl (fun ls hl => ?_)
  refine lv_aload_n hx hb dX5_hitHouse_53 rfl (lv_at hl 4 rfl) ?_
  refine q_get hx hb hts hown hW (r := (60 + h)) (hI.mh hh) (hI.kh hh) k_2 2 (by decide) rfl t_555 (x := (nI (gy h))) (hI.eY hh) dX5_hitHouse_54 ?_
  refine lv_aload_n hx hb dX5_hitHouse_57 rfl (lv_at hl 4 rfl) ?_
  refine q_get hx hb hts hown hW (r := (60 + h)) (hI.mh hh) (hI.kh hh) k_2 4 (by decide) rfl t_559 (x := (nI (gd h))) (hI.eD hh) dX5_hitHouse_58 ?_
  refine lv_iadd hx hb dX5_hitHouse_61 ?_
  refine lv_iconst (v := 1) hx hb dX5_hitHouse_62 (by decide) ?_
  refine lv_isub hx hb dX5_hitHouse_63 ?_
  refine lv_iload hx hb dX5_hitHouse_64 (lv_at hl 7 rfl) ?_
  refine lv_aload_n hx hb dX5_hitHouse_66 rfl (lv_at hl 5 rfl) ?_
  refine q_get hx hb hts hown hW (r := 180) h180 rfl k_4 4 (by decide) rfl t_727 (x := (iI rad)) hT.1.2.2.2.2.1 dX5_hitHouse_67 ?_
  refine lv_iadd hx hb dX5_hitHouse_70 ?_
  refine q_min hx hb hml hl.1 hts hown m_min t_230 (Nat.le_of_ble_eq_true rfl) (Nat.le_of_ble_eq_true rfl) (Nat.zero_le _) (Nat.zero_le _) dX5_hitHouse_71 ?_
  refine lv_topi (fun xt et => ?_)
  obtain rfl : xt = iI S := et.trans (by rw [hS9]; exact hh_hi (by omega) (by omega) (by omega) (by omega))
  clear et
  refine lv_istore (lv' := [(8, .int (iI S)), (7, .int (nI (gy h + a0))), (6, .int (iI E)), (5, .int (nI (gx h + b0))), (0, .ref (ad 0)), (1, .ref (ad (60 + h))), (2, .ref (ad 180)), (3, .int (iI X)), (4, .int (iI Y))]) hx hb dX5_hitHouse_74 hl (by decide) rfl (fun ls hl => ?_)
  refine lv_aload_n hx hb dX5_hitHouse_76 rfl (lv_at hl 5 rfl) ?_
  refine q_get hx hb hts hown hW (r := (60 + h)) (hI.mh hh) (hI.kh hh) k_2 7 (by decide) rfl t_566 (x := (v (60 + h) 7)) rfl dX5_hitHouse_77 ?_
  refine lv_if_eq (tgt := 92) hx hb dX5_hitHouse_80 (by decide) (fun c_80 => ?_) (fun c_80 => ?_)
  · skip
    refine lv_aload_n hx hb dX5_hitHouse_92 rfl (lv_at hl 6 rfl) ?_
    refine q_get hx hb hts hown hW (r := 180) h180 rfl k_4 5 (by decide) rfl t_729 (x := F) hT.1.2.2.2.2.2.1 dX5_hitHouse_93 ?_
    refine lv_topi (fun xt et => ?_)
    obtain rfl : xt = fNet v F h := et.trans (by unfold fNet; first | rw [if_pos c_80] | rw [if_neg c_80])
    clear et
    refine lv_istore (lv' := [(9, .int (fNet v F h)), (8, .int (iI S)), (7, .int (nI (gy h + a0))), (6, .int (iI E)), (5, .int (nI (gx h + b0))), (0, .ref (ad 0)), (1, .ref (ad (60 + h))), (2, .ref (ad 180)), (3, .int (iI X)), (4, .int (iI Y))]) hx hb dX5_hitHouse_96 hl (by decide) rfl (fun ls hl => ?_)
    refine lv_iload hx hb dX5_hitHouse_98 (lv_at hl 2 rfl) ?_
    refine lv_istore (lv' := [(10, .int (nI (gy h + a0))), (9, .int (fNet v F h)), (8, .int (iI S)), (7, .int (nI (gy h + a0))), (6, .int (iI E)), (5, .int (nI (gx h + b0))), (0, .ref (ad 0)), (1, .ref (ad (60 + h))), (2, .ref (ad 180)), (3, .int (iI X)), (4, .int (iI Y))]) hx hb dX5_hitHouse_100 hl (by decide) rfl (fun ls hl => ?_)
    suffices LP_102 : ∀ (n_102 a : Nat) (x10_102 : Int32)  (u_102 : Nat → Nat → Int32) (H : Heap) (locs : List Loc) (ls : Array Slot), max a0 (gd h) + 1 ≤ a + n_102 → a ≤ max a0 (gd h) → nI (gy h + a) = x10_102 → itr (fun i u => itr (fun j u => uHail u ow gx gy rad (fNet v F h) h X Y i j) (gw h) u) (min a (gd h)) v = u_102 → a0 ≤ a → WD G L ad u_102 o w s H → va_S (Ab G.2.2.1) s.heap H locs → lv_has ls 13 [(10, .int x10_102), (9, .int (fNet v F h)), (8, .int (iI S)), (6, .int (iI E)), (5, .int (nI (gx h + b0))), (0, .ref (ad 0)), (1, .ref (ad (60 + h))), (2, .ref (ad 180)), (3, .int (iI X)), (4, .int (iI Y))] → W p l e ({ frames := 2, cells := 0, slots := 0, locals := 45 } : Room) s m ([.ref (ad 0), .ref (ad (60 + h)), .ref (ad 180), .int (iI X), .int (iI Y)] : List Value).toArray below meth c H locs 0 0 (MQ below (va_Qv (fun u => u = uHouse v ow gx gy gw gd rad F h X Y) (fun u t => WD G L ad u o w t t.heap) (Ab G.2.2.1)) ([.ref (ad 0), .ref (ad (60 + h)), .ref (ad 180), .int (iI X), .int (iI Y)] : List Value).toArray s ({ frames := 2, cells := 0, slots := 0, locals := 45 } : Room).cells ({ frames := 2, cells := 0, slots := 0, locals := 45 } : Room).slots (Ab G.2.2.1)) (F0 m 102 ls []) from LP_102 (max a0 (gd h) + 1) a0 _   _ H locs ls (by omega) (by omega) (by rfl) (by exact itr_skip (n := 0) (Nat.zero_le _) (fun i u h1 h2 => row_out (by omega))) (Nat.le_refl _) hW hS (lv_sub hl [0, 1, 2, 4, 5, 6, 7, 8, 9, 10] rfl)
    intro n_102
    induction n_102 with
    | zero => intro a x10_102  u_102 H locs ls h1 h2; exact absurd h1 (by omega)
    | succ n_102 ih_102 =>
      intro a x10_102  u_102 H locs ls hn_102 hi_102 ex10_102 eu_102 hy0_102 hW hS hl
      subst ex10_102
      subst eu_102
      have hI : PI G.2.2.2 L ad (itr (fun i u => itr (fun j u => uHail u ow gx gy rad (fNet v F h) h X Y i j) (gw h) u) (min a (gd h)) v) o ng nh nl ns ow gx gy gw gd := hI.kp (kp_itr (fun _ _ _ => kp_itr (fun _ _ _ => kp_uHail)))
      refine lv_iload hx hb dX5_hitHouse_102 (lv_at hl 0 rfl) ?_
      refine lv_iload hx hb dX5_hitHouse_104 (lv_at hl 2 rfl) ?_
      refine lv_icmp_gt (tgt := 174) hx hb dX5_hitHouse_106 (by decide) (fun c_106 => ?_) (fun c_106 => ?_)
      · skip
        have hs1 := (iI_lt_n (by omega) (by omega) (by omega)).mp c_106
        have hv9 : itr (fun i u => itr (fun j u => uHail u ow gx gy rad (fNet v F h) h X Y i j) (gw h) u) (min a (gd h)) v = itr (fun i u => itr (fun j u => uHail u ow gx gy rad (fNet v F h) h X Y i j) (gw h) u) (gd h) v := (itr_skip (Nat.min_le_right _ _) (fun i u h1 h2 => row_out (by omega))).symm
        rw [hv9] at hW hI
        exact q_vret hx hb hr hlocks hW hS (Nat.le_refl _) (Nat.le_refl _) dX5_hitHouse_174 (rfl)
      · skip
        have hs1 : ¬ (S < ((gy h + a : Nat) : Int)) := fun q => c_106 ((iI_lt_n (by omega) (by omega) (by omega)).mpr q)
        have ha9 : a < gd h := by omega
        rw [Nat.min_eq_left (by omega)] at hW hI
        refine lv_iload hx hb dX5_hitHouse_109 (lv_at hl 4 rfl) ?_
        refine lv_istore (lv' := [(11, .int (nI (gx h + b0))), (10, .int (nI (gy h + a))), (9, .int (fNet v F h)), (8, .int (iI S)), (6, .int (iI E)), (5, .int (nI (gx h + b0))), (0, .ref (ad 0)), (1, .ref (ad (60 + h))), (2, .ref (ad 180)), (3, .int (iI X)), (4, .int (iI Y))]) hx hb dX5_hitHouse_111 hl (by decide) rfl (fun ls hl => ?_)
        suffices LP_113 : ∀ (n_113 b : Nat) (x11_113 : Int32)  (u_113 : Nat → Nat → Int32) (H : Heap) (locs : List Loc) (ls : Array Slot), max b0 (gw h) + 1 ≤ b + n_113 → b ≤ max b0 (gw h) → nI (gx h + b) = x11_113 → itr (fun j u => uHail u ow gx gy rad (fNet v F h) h X Y a j) (min b (gw h)) (itr (fun i u => itr (fun j u => uHail u ow gx gy rad (fNet v F h) h X Y i j) (gw h) u) a v) = u_113 → b0 ≤ b → WD G L ad u_113 o w s H → va_S (Ab G.2.2.1) s.heap H locs → lv_has ls 13 [(11, .int x11_113), (10, .int (nI (gy h + a))), (9, .int (fNet v F h)), (8, .int (iI S)), (6, .int (iI E)), (5, .int (nI (gx h + b0))), (0, .ref (ad 0)), (1, .ref (ad (60 + h))), (2, .ref (ad 180)), (3, .int (iI X)), (4, .int (iI Y))] → W p l e ({ frames := 2, cells := 0, slots := 0, locals := 45 } : Room) s m ([.ref (ad 0), .ref (ad (60 + h)), .ref (ad 180), .int (iI X), .int (iI Y)] : List Value).toArray below meth c H locs 0 0 (MQ below (va_Qv (fun u => u = uHouse v ow gx gy gw gd rad F h X Y) (fun u t => WD G L ad u o w t t.heap) (Ab G.2.2.1)) ([.ref (ad 0), .ref (ad (60 + h)), .ref (ad 180), .int (iI X), .int (iI Y)] : List Value).toArray s ({ frames := 2, cells := 0, slots := 0, locals := 45 } : Room).cells ({ frames := 2, cells := 0, slots := 0, locals := 45 } : Room).slots (Ab G.2.2.1)) (F0 m 113 ls []) from LP_113 (max b0 (gw h) + 1) b0 _   _ H locs ls (by omega) (by omega) (by rfl) (by exact itr_skip (n := 0) (Nat.zero_le _) (fun i u h1 h2 => cell_out (by omega))) (Nat.le_refl _) hW hS (lv_sub hl [0, 1, 2, 3, 4, 5, 6, 7, 8, 9, 10] rfl)
        intro n_113
        induction n_113 with
        | zero => intro b x11_113  u_113 H locs ls h1 h2; exact absurd h1 (by omega)
        | succ n_113 ih_113 =>
          intro b x11_113  u_113 H locs ls hn_113 hi_113 ex11_113 eu_113 hy0_113 hW hS hl
          subst ex11_113
          subst eu_113
          have hI : PI G.2.2.2 L ad (itr (fun j u => uHail u ow gx gy rad (fNet v F h) h X Y a j) (min b (gw h)) (itr (fun i u => itr (fun j u => uHail u ow gx gy rad (fNet v F h) h X Y i j) (gw h) u) a v)) o ng nh nl ns ow gx gy gw gd := hI.kp (kp_itr (fun _ _ _ => kp_uHail))
          refine lv_iload hx hb dX5_hitHouse_113 (lv_at hl 0 rfl) ?_
          refine lv_iload hx hb dX5_hitHouse_115 (lv_at hl 4 rfl) ?_
          refine lv_icmp_gt (tgt := 168) hx hb dX5_hitHouse_117 (by decide) (fun c_117 => ?_) (fun c_117 => ?_)
          · skip
            have hs2 := (iI_lt_n (by omega) (by omega) (by omega)).mp c_117
            have hv9 : itr (fun j u => uHail u ow gx gy rad (fNet v F h) h X Y a j) (min b (gw h)) (itr (fun i u => itr (fun j u => uHail u ow gx gy rad (fNet v F h) h X Y i j) (gw h) u) a v) = itr (fun j u => uHail u ow gx gy rad (fNet v F h) h X Y a j) (gw h) (itr (fun i u => itr (fun j u => uHail u ow gx gy rad (fNet v F h) h X Y i j) (gw h) u) a v) := (itr_skip (Nat.min_le_right _ _) (fun i u h1 h2 => cell_out (by omega))).symm
            rw [hv9] at hW hI
            refine lv_iinc (v := (nI ((gy h + a) + 1))) (lv' := [(10, .int (nI ((gy h + a) + 1))), (11, .int (nI (gx h + b))), (9, .int (fNet v F h)), (8, .int (iI S)), (6, .int (iI E)), (5, .int (nI (gx h + b0))), (0, .ref (ad 0)), (1, .ref (ad (60 + h))), (2, .ref (ad 180)), (3, .int (iI X)), (4, .int (iI Y))]) hx hb dX5_hitHouse_168 hl (k := 1) rfl (inc_nI _) (by decide) rfl (fun ls hl => ?_)
            refine lv_goto (tgt := 102) hx hb dX5_hitHouse_171 (by decide) ?_
            exact ih_102 (a + 1) _   _ H locs ls (by omega) (by omega) (by rfl) (by rw [Nat.min_eq_left (by omega)]; rfl) (by omega) hW hS (lv_sub hl [0, 2, 3, 4, 5, 6, 7, 8, 9, 10] rfl)
          · skip
            have hs2 : ¬ (E < ((gx h + b : Nat) : Int)) := fun q => c_117 ((iI_lt_n (by omega) (by omega) (by omega)).mpr q)
            have hb9 : b < gw h := by omega
            rw [Nat.min_eq_left (by omega)] at hW hI
            refine lv_iload hx hb dX5_hitHouse_120 (lv_at hl 0 rfl) ?_
            refine lv_iload_n hx hb dX5_hitHouse_122 rfl (lv_at hl 9 rfl) ?_
            refine lv_isub hx hb dX5_hitHouse_123 ?_
            refine q_abs hx hb hml hl.1 hts hown m_abs t_775 (Nat.le_of_ble_eq_true rfl) (Nat.le_of_ble_eq_true rfl) (Nat.zero_le _) (Nat.zero_le _) dX5_hitHouse_124 ?_
            refine lv_iload hx hb dX5_hitHouse_127 (lv_at hl 1 rfl) ?_
            refine lv_iload hx hb dX5_hitHouse_129 (lv_at hl 10 rfl) ?_
            refine lv_isub hx hb dX5_hitHouse_131 ?_
            refine q_abs hx hb hml hl.1 hts hown m_abs t_775 (Nat.le_of_ble_eq_true rfl) (Nat.le_of_ble_eq_true rfl) (Nat.zero_le _) (Nat.zero_le _) dX5_hitHouse_132 ?_
            refine q_max hx hb hml hl.1 hts hown m_max t_774 (Nat.le_of_ble_eq_true rfl) (Nat.le_of_ble_eq_true rfl) (Nat.zero_le _) (Nat.zero_le _) dX5_hitHouse_135 ?_
            refine lv_topi (fun xt et => ?_)
            obtain rfl : xt = iI (far2 ((gx h : Int) + (b : Int)) ((gy h : Int) + (a : Int)) X Y) := et.trans (hh_far (x := gx h) (b := b) (y := gy h) (a := a) (by omega) (by omega) hX1 hX2 hY1 hY2)
            clear et
            refine lv_istore (lv' := [(12, .int (iI (far2 ((gx h : Int) + (b : Int)) ((gy h : Int) + (a : Int)) X Y))), (11, .int (nI (gx h + b))), (10, .int (nI (gy h + a))), (9, .int (fNet v F h)), (8, .int (iI S)), (6, .int (iI E)), (5, .int (nI (gx h + b0))), (0, .ref (ad 0)), (1, .ref (ad (60 + h))), (2, .ref (ad 180)), (3, .int (iI X)), (4, .int (iI Y))]) hx hb dX5_hitHouse_138 hl (by decide) rfl (fun ls hl => ?_)
            refine lv_aload_n hx hb dX5_hitHouse_140 rfl (lv_at hl 7 rfl) ?_
            refine q_getr hx hb hts hown hW (r := 0) (hI.c 0 (by decide)) rfl k_6 5 (by decide) rfl t_142 (a := ad 6) (hI.o0 5 (by decide)) dX5_hitHouse_141 ?_
            refine lv_aload_n hx hb dX5_hitHouse_144 rfl (lv_at hl 8 rfl) ?_
            refine lv_iload hx hb dX5_hitHouse_145 (lv_at hl 1 rfl) ?_
            refine lv_iload hx hb dX5_hitHouse_147 (lv_at hl 2 rfl) ?_
            refine q_cSiE (As := [.int (nI (gx h + b)), .int (nI (gy h + a))]) (rest := [.ref (ad (60 + h)), .ref (ad 6)]) hx hb hml hts hown hE h0 hW hS (c_X5_cellAt l (gx h + b) (gy h + a)) mw_X5_cellAt t_252 ⟨Nat.le_of_ble_eq_true rfl, Nat.le_of_ble_eq_true rfl⟩ rfl hl.1 (Nat.le_of_ble_eq_true rfl) dX5_hitHouse_149 ⟨Nat.zero_le _, Nat.zero_le _⟩ ⟨rfl, rfl⟩ (fun H locs hW hS => ?_)
            refine lv_iload hx hb dX5_hitHouse_152 (lv_at hl 3 rfl) ?_
            refine lv_iconst (v := 2) hx hb dX5_hitHouse_154 (by decide) ?_
            refine lv_iload hx hb dX5_hitHouse_155 (lv_at hl 0 rfl) ?_
            refine lv_imul hx hb dX5_hitHouse_157 ?_
            refine lv_isub hx hb dX5_hitHouse_158 ?_
            refine q_cVvE (As := [.ref (ad (60 + h)), .int (nI ((gy h + a) * 20 + (gx h + b))), .int ((fNet v F h) - (2 * (iI (far2 ((gx h : Int) + (b : Int)) ((gy h : Int) + (a : Int)) X Y))))]) (rest := []) (r := 6) hx hb hml hts hown hE h0 hW hS (c_X4_hitPane l hI hh (q9 := ((gy h + a) * 20 + (gx h + b))) (by omega) ((fNet v F h) - (2 * (iI (far2 ((gx h : Int) + (b : Int)) ((gy h : Int) + (a : Int)) X Y))))) mw_X4_hitPane (hI.c 6 (by decide)) rfl k_5 t_778 ⟨Nat.le_of_ble_eq_true rfl, Nat.le_of_ble_eq_true rfl⟩ rfl hl.1 (Nat.le_of_ble_eq_true rfl) dX5_hitHouse_159 ⟨Nat.zero_le _, Nat.zero_le _⟩ ⟨rfl, rfl⟩ (fun H locs hW hS => ?_)
            have hI : PI G.2.2.2 L ad (uHit (itr (fun j u => uHail u ow gx gy rad (fNet v F h) h X Y a j) b (itr (fun i u => itr (fun j u => uHail u ow gx gy rad (fNet v F h) h X Y i j) (gw h) u) a v)) ow h ((gy h + a) * 20 + (gx h + b)) ((fNet v F h) - (2 * (iI (far2 ((gx h : Int) + (b : Int)) ((gy h : Int) + (a : Int)) X Y))))) o ng nh nl ns ow gx gy gw gd := hI.kp kp_uHit
            generalize hv1 : (uHit (itr (fun j u => uHail u ow gx gy rad (fNet v F h) h X Y a j) b (itr (fun i u => itr (fun j u => uHail u ow gx gy rad (fNet v F h) h X Y i j) (gw h) u) a v)) ow h ((gy h + a) * 20 + (gx h + b)) ((fNet v F h) - (2 * (iI (far2 ((gx h : Int) + (b : Int)) ((gy h : Int) + (a : Int)) X Y))))) = v1 at hW hI
            refine lv_iinc (v := (nI ((gx h + b) + 1))) (lv' := [(11, .int (nI ((gx h + b) + 1))), (12, .int (iI (far2 ((gx h : Int) + (b : Int)) ((gy h : Int) + (a : Int)) X Y))), (10, .int (nI (gy h + a))), (9, .int (fNet v F h)), (8, .int (iI S)), (6, .int (iI E)), (5, .int (nI (gx h + b0))), (0, .ref (ad 0)), (1, .ref (ad (60 + h))), (2, .ref (ad 180)), (3, .int (iI X)), (4, .int (iI Y))]) hx hb dX5_hitHouse_162 hl (k := 1) rfl (inc_nI _) (by decide) rfl (fun ls hl => ?_)
            refine lv_goto (tgt := 113) hx hb dX5_hitHouse_165 (by decide) ?_
            subst hv1
            exact ih_113 (b + 1) _   _ H locs ls (by omega) (by omega) (by rfl) (by rw [Nat.min_eq_left (by omega), itr_s]; exact if_pos (far2_le.mpr ⟨⟨by omega, by omega⟩, ⟨by omega, by omega⟩⟩)) (by omega) hW hS (lv_sub hl [0, 2, 3, 4, 5, 6, 7, 8, 9, 10, 11] rfl)
  · skip
    refine lv_aload_n hx hb dX5_hitHouse_83 rfl (lv_at hl 6 rfl) ?_
    refine q_get hx hb hts hown hW (r := 180) h180 rfl k_4 5 (by decide) rfl t_729 (x := F) hT.1.2.2.2.2.2.1 dX5_hitHouse_84 ?_
    refine lv_iconst (v := 5) hx hb dX5_hitHouse_87 (by decide) ?_
    refine lv_isub hx hb dX5_hitHouse_88 ?_
    refine lv_goto (tgt := 96) hx hb dX5_hitHouse_89 (by decide) ?_
    refine lv_topi (fun xt et => ?_)
    obtain rfl : xt = fNet v F h := et.trans (by unfold fNet; first | rw [if_pos c_80] | rw [if_neg c_80])
    clear et
    refine lv_istore (lv' := [(9, .int (fNet v F h)), (8, .int (iI S)), (7, .int (nI (gy h + a0))), (6, .int (iI E)), (5, .int (nI (gx h + b0))), (0, .ref (ad 0)), (1, .ref (ad (60 + h))), (2, .ref (ad 180)), (3, .int (iI X)), (4, .int (iI Y))]) hx hb dX5_hitHouse_96 hl (by decide) rfl (fun ls hl => ?_)
    refine lv_iload hx hb dX5_hitHouse_98 (lv_at hl 2 rfl) ?_
    refine lv_istore (lv' := [(10, .int (nI (gy h + a0))), (9, .int (fNet v F h)), (8, .int (iI S)), (7, .int (nI (gy h + a0))), (6, .int (iI E)), (5, .int (nI (gx h + b0))), (0, .ref (ad 0)), (1, .ref (ad (60 + h))), (2, .ref (ad 180)), (3, .int (iI X)), (4, .int (iI Y))]) hx hb dX5_hitHouse_100 hl (by decide) rfl (fun ls hl => ?_)
    suffices LP_102 : ∀ (n_102 a : Nat) (x10_102 : Int32)  (u_102 : Nat → Nat → Int32) (H : Heap) (locs : List Loc) (ls : Array Slot), max a0 (gd h) + 1 ≤ a + n_102 → a ≤ max a0 (gd h) → nI (gy h + a) = x10_102 → itr (fun i u => itr (fun j u => uHail u ow gx gy rad (fNet v F h) h X Y i j) (gw h) u) (min a (gd h)) v = u_102 → a0 ≤ a → WD G L ad u_102 o w s H → va_S (Ab G.2.2.1) s.heap H locs → lv_has ls 13 [(10, .int x10_102), (9, .int (fNet v F h)), (8, .int (iI S)), (6, .int (iI E)), (5, .int (nI (gx h + b0))), (0, .ref (ad 0)), (1, .ref (ad (60 + h))), (2, .ref (ad 180)), (3, .int (iI X)), (4, .int (iI Y))] → W p l e ({ frames := 2, cells := 0, slots := 0, locals := 45 } : Room) s m ([.ref (ad 0), .ref (ad (60 + h)), .ref (ad 180), .int (iI X), .int (iI Y)] : List Value).toArray below meth c H locs 0 0 (MQ below (va_Qv (fun u => u = uHouse v ow gx gy gw gd rad F h X Y) (fun u t => WD G L ad u o w t t.heap) (Ab G.2.2.1)) ([.ref (ad 0), .ref (ad (60 + h)), .ref (ad 180), .int (iI X), .int (iI Y)] : List Value).toArray s ({ frames := 2, cells := 0, slots := 0, locals := 45 } : Room).cells ({ frames := 2, cells := 0, slots := 0, locals := 45 } : Room).slots (Ab G.2.2.1)) (F0 m 102 ls []) from LP_102 (max a0 (gd h) + 1) a0 _   _ H locs ls (by omega) (by omega) (by rfl) (by exact itr_skip (n := 0) (Nat.zero_le _) (fun i u h1 h2 => row_out (by omega))) (Nat.le_refl _) hW hS (lv_sub hl [0, 1, 2, 4, 5, 6, 7, 8, 9, 10] rfl)
    intro n_102
    induction n_102 with
    | zero => intro a x10_102  u_102 H locs ls h1 h2; exact absurd h1 (by omega)
    | succ n_102 ih_102 =>
      intro a x10_102  u_102 H locs ls hn_102 hi_102 ex10_102 eu_102 hy0_102 hW hS hl
      subst ex10_102
      subst eu_102
      have hI : PI G.2.2.2 L ad (itr (fun i u => itr (fun j u => uHail u ow gx gy rad (fNet v F h) h X Y i j) (gw h) u) (min a (gd h)) v) o ng nh nl ns ow gx gy gw gd := hI.kp (kp_itr (fun _ _ _ => kp_itr (fun _ _ _ => kp_uHail)))
      refine lv_iload hx hb dX5_hitHouse_102 (lv_at hl 0 rfl) ?_
      refine lv_iload hx hb dX5_hitHouse_104 (lv_at hl 2 rfl) ?_
      refine lv_icmp_gt (tgt := 174) hx hb dX5_hitHouse_106 (by decide) (fun c_106 => ?_) (fun c_106 => ?_)
      · skip
        have hs1 := (iI_lt_n (by omega) (by omega) (by omega)).mp c_106
        have hv9 : itr (fun i u => itr (fun j u => uHail u ow gx gy rad (fNet v F h) h X Y i j) (gw h) u) (min a (gd h)) v = itr (fun i u => itr (fun j u => uHail u ow gx gy rad (fNet v F h) h X Y i j) (gw h) u) (gd h) v := (itr_skip (Nat.min_le_right _ _) (fun i u h1 h2 => row_out (by omega))).symm
        rw [hv9] at hW hI
        exact q_vret hx hb hr hlocks hW hS (Nat.le_refl _) (Nat.le_refl _) dX5_hitHouse_174 (rfl)
      · skip
        have hs1 : ¬ (S < ((gy h + a : Nat) : Int)) := fun q => c_106 ((iI_lt_n (by omega) (by omega) (by omega)).mpr q)
        have ha9 : a < gd h := by omega
        rw [Nat.min_eq_left (by omega)] at hW hI
        refine lv_iload hx hb dX5_hitHouse_109 (lv_at hl 4 rfl) ?_
        refine lv_istore (lv' := [(11, .int (nI (gx h + b0))), (10, .int (nI (gy h + a))), (9, .int (fNet v F h)), (8, .int (iI S)), (6, .int (iI E)), (5, .int (nI (gx h + b0))), (0, .ref (ad 0)), (1, .ref (ad (60 + h))), (2, .ref (ad 180)), (3, .int (iI X)), (4, .int (iI Y))]) hx hb dX5_hitHouse_111 hl (by decide) rfl (fun ls hl => ?_)
        suffices LP_113 : ∀ (n_113 b : Nat) (x11_113 : Int32)  (u_113 : Nat → Nat → Int32) (H : Heap) (locs : List Loc) (ls : Array Slot), max b0 (gw h) + 1 ≤ b + n_113 → b ≤ max b0 (gw h) → nI (gx h + b) = x11_113 → itr (fun j u => uHail u ow gx gy rad (fNet v F h) h X Y a j) (min b (gw h)) (itr (fun i u => itr (fun j u => uHail u ow gx gy rad (fNet v F h) h X Y i j) (gw h) u) a v) = u_113 → b0 ≤ b → WD G L ad u_113 o w s H → va_S (Ab G.2.2.1) s.heap H locs → lv_has ls 13 [(11, .int x11_113), (10, .int (nI (gy h + a))), (9, .int (fNet v F h)), (8, .int (iI S)), (6, .int (iI E)), (5, .int (nI (gx h + b0))), (0, .ref (ad 0)), (1, .ref (ad (60 + h))), (2, .ref (ad 180)), (3, .int (iI X)), (4, .int (iI Y))] → W p l e ({ frames := 2, cells := 0, slots := 0, locals := 45 } : Room) s m ([.ref (ad 0), .ref (ad (60 + h)), .ref (ad 180), .int (iI X), .int (iI Y)] : List Value).toArray below meth c H locs 0 0 (MQ below (va_Qv (fun u => u = uHouse v ow gx gy gw gd rad F h X Y) (fun u t => WD G L ad u o w t t.heap) (Ab G.2.2.1)) ([.ref (ad 0), .ref (ad (60 + h)), .ref (ad 180), .int (iI X), .int (iI Y)] : List Value).toArray s ({ frames := 2, cells := 0, slots := 0, locals := 45 } : Room).cells ({ frames := 2, cells := 0, slots := 0, locals := 45 } : Room).slots (Ab G.2.2.1)) (F0 m 113 ls []) from LP_113 (max b0 (gw h) + 1) b0 _   _ H locs ls (by omega) (by omega) (by rfl) (by exact itr_skip (n := 0) (Nat.zero_le _) (fun i u h1 h2 => cell_out (by omega))) (Nat.le_refl _) hW hS (lv_sub hl [0, 1, 2, 3, 4, 5, 6, 7, 8, 9, 10] rfl)
        intro n_113
        induction n_113 with
        | zero => intro b x11_113  u_113 H locs ls h1 h2; exact absurd h1 (by omega)
        | succ n_113 ih_113 =>
          intro b x11_113  u_113 H locs ls hn_113 hi_113 ex11_113 eu_113 hy0_113 hW hS hl
          subst ex11_113
          subst eu_113
          have hI : PI G.2.2.2 L ad (itr (fun j u => uHail u ow gx gy rad (fNet v F h) h X Y a j) (min b (gw h)) (itr (fun i u => itr (fun j u => uHail u ow gx gy rad (fNet v F h) h X Y i j) (gw h) u) a v)) o ng nh nl ns ow gx gy gw gd := hI.kp (kp_itr (fun _ _ _ => kp_uHail))
          refine lv_iload hx hb dX5_hitHouse_113 (lv_at hl 0 rfl) ?_
          refine lv_iload hx hb dX5_hitHouse_115 (lv_at hl 4 rfl) ?_
          refine lv_icmp_gt (tgt := 168) hx hb dX5_hitHouse_117 (by decide) (fun c_117 => ?_) (fun c_117 => ?_)
          · skip
            have hs2 := (iI_lt_n (by omega) (by omega) (by omega)).mp c_117
            have hv9 : itr (fun j u => uHail u ow gx gy rad (fNet v F h) h X Y a j) (min b (gw h)) (itr (fun i u => itr (fun j u => uHail u ow gx gy rad (fNet v F h) h X Y i j) (gw h) u) a v) = itr (fun j u => uHail u ow gx gy rad (fNet v F h) h X Y a j) (gw h) (itr (fun i u => itr (fun j u => uHail u ow gx gy rad (fNet v F h) h X Y i j) (gw h) u) a v) := (itr_skip (Nat.min_le_right _ _) (fun i u h1 h2 => cell_out (by omega))).symm
            rw [hv9] at hW hI
            refine lv_iinc (v := (nI ((gy h + a) + 1))) (lv' := [(10, .int (nI ((gy h + a) + 1))), (11, .int (nI (gx h + b))), (9, .int (fNet v F h)), (8, .int (iI S)), (6, .int (iI E)), (5, .int (nI (gx h + b0))), (0, .ref (ad 0)), (1, .ref (ad (60 + h))), (2, .ref (ad 180)), (3, .int (iI X)), (4, .int (iI Y))]) hx hb dX5_hitHouse_168 hl (k := 1) rfl (inc_nI _) (by decide) rfl (fun ls hl => ?_)
            refine lv_goto (tgt := 102) hx hb dX5_hitHouse_171 (by decide) ?_
            exact ih_102 (a + 1) _   _ H locs ls (by omega) (by omega) (by rfl) (by rw [Nat.min_eq_left (by omega)]; rfl) (by omega) hW hS (lv_sub hl [0, 2, 3, 4, 5, 6, 7, 8, 9, 10] rfl)
          · skip
            have hs2 : ¬ (E < ((gx h + b : Nat) : Int)) := fun q => c_117 ((iI_lt_n (by omega) (by omega) (by omega)).mpr q)
            have hb9 : b < gw h := by omega
            rw [Nat.min_eq_left (by omega)] at hW hI
            refine lv_iload hx hb dX5_hitHouse_120 (lv_at hl 0 rfl) ?_
            refine lv_iload_n hx hb dX5_hitHouse_122 rfl (lv_at hl 9 rfl) ?_
            refine lv_isub hx hb dX5_hitHouse_123 ?_
            refine q_abs hx hb hml hl.1 hts hown m_abs t_775 (Nat.le_of_ble_eq_true rfl) (Nat.le_of_ble_eq_true rfl) (Nat.zero_le _) (Nat.zero_le _) dX5_hitHouse_124 ?_
            refine lv_iload hx hb dX5_hitHouse_127 (lv_at hl 1 rfl) ?_
            refine lv_iload hx hb dX5_hitHouse_129 (lv_at hl 10 rfl) ?_
            refine lv_isub hx hb dX5_hitHouse_131 ?_
            refine q_abs hx hb hml hl.1 hts hown m_abs t_775 (Nat.le_of_ble_eq_true rfl) (Nat.le_of_ble_eq_true rfl) (Nat.zero_le _) (Nat.zero_le _) dX5_hitHouse_132 ?_
            refine q_max hx hb hml hl.1 hts hown m_max t_774 (Nat.le_of_ble_eq_true rfl) (Nat.le_of_ble_eq_true rfl) (Nat.zero_le _) (Nat.zero_le _) dX5_hitHouse_135 ?_
            refine lv_topi (fun xt et => ?_)
            obtain rfl : xt = iI (far2 ((gx h : Int) + (b : Int)) ((gy h : Int) + (a : Int)) X Y) := et.trans (hh_far (x := gx h) (b := b) (y := gy h) (a := a) (by omega) (by omega) hX1 hX2 hY1 hY2)
            clear et
            refine lv_istore (lv' := [(12, .int (iI (far2 ((gx h : Int) + (b : Int)) ((gy h : Int) + (a : Int)) X Y))), (11, .int (nI (gx h + b))), (10, .int (nI (gy h + a))), (9, .int (fNet v F h)), (8, .int (iI S)), (6, .int (iI E)), (5, .int (nI (gx h + b0))), (0, .ref (ad 0)), (1, .ref (ad (60 + h))), (2, .ref (ad 180)), (3, .int (iI X)), (4, .int (iI Y))]) hx hb dX5_hitHouse_138 hl (by decide) rfl (fun ls hl => ?_)
            refine lv_aload_n hx hb dX5_hitHouse_140 rfl (lv_at hl 7 rfl) ?_
            refine q_getr hx hb hts hown hW (r := 0) (hI.c 0 (by decide)) rfl k_6 5 (by decide) rfl t_142 (a := ad 6) (hI.o0 5 (by decide)) dX5_hitHouse_141 ?_
            refine lv_aload_n hx hb dX5_hitHouse_144 rfl (lv_at hl 8 rfl) ?_
            refine lv_iload hx hb dX5_hitHouse_145 (lv_at hl 1 rfl) ?_
            refine lv_iload hx hb dX5_hitHouse_147 (lv_at hl 2 rfl) ?_
            refine q_cSiE (As := [.int (nI (gx h + b)), .int (nI (gy h + a))]) (rest := [.ref (ad (60 + h)), .ref (ad 6)]) hx hb hml hts hown hE h0 hW hS (c_X5_cellAt l (gx h + b) (gy h + a)) mw_X5_cellAt t_252 ⟨Nat.le_of_ble_eq_true rfl, Nat.le_of_ble_eq_true rfl⟩ rfl hl.1 (Nat.le_of_ble_eq_true rfl) dX5_hitHouse_149 ⟨Nat.zero_le _, Nat.zero_le _⟩ ⟨rfl, rfl⟩ (fun H locs hW hS => ?_)
            refine lv_iload hx hb dX5_hitHouse_152 (lv_at hl 3 rfl) ?_
            refine lv_iconst (v := 2) hx hb dX5_hitHouse_154 (by decide) ?_
            refine lv_iload hx hb dX5_hitHouse_155 (lv_at hl 0 rfl) ?_
            refine lv_imul hx hb dX5_hitHouse_157 ?_
            refine lv_isub hx hb dX5_hitHouse_158 ?_
            refine q_cVvE (As := [.ref (ad (60 + h)), .int (nI ((gy h + a) * 20 + (gx h + b))), .int ((fNet v F h) - (2 * (iI (far2 ((gx h : Int) + (b : Int)) ((gy h : Int) + (a : Int)) X Y))))]) (rest := []) (r := 6) hx hb hml hts hown hE h0 hW hS (c_X4_hitPane l hI hh (q9 := ((gy h + a) * 20 + (gx h + b))) (by omega) ((fNet v F h) - (2 * (iI (far2 ((gx h : Int) + (b : Int)) ((gy h : Int) + (a : Int)) X Y))))) mw_X4_hitPane (hI.c 6 (by decide)) rfl k_5 t_778 ⟨Nat.le_of_ble_eq_true rfl, Nat.le_of_ble_eq_true rfl⟩ rfl hl.1 (Nat.le_of_ble_eq_true rfl) dX5_hitHouse_159 ⟨Nat.zero_le _, Nat.zero_le _⟩ ⟨rfl, rfl⟩ (fun H locs hW hS => ?_)
            have hI : PI G.2.2.2 L ad (uHit (itr (fun j u => uHail u ow gx gy rad (fNet v F h) h X Y a j) b (itr (fun i u => itr (fun j u => uHail u ow gx gy rad (fNet v F h) h X Y i j) (gw h) u) a v)) ow h ((gy h + a) * 20 + (gx h + b)) ((fNet v F h) - (2 * (iI (far2 ((gx h : Int) + (b : Int)) ((gy h : Int) + (a : Int)) X Y))))) o ng nh nl ns ow gx gy gw gd := hI.kp kp_uHit
            generalize hv2 : (uHit (itr (fun j u => uHail u ow gx gy rad (fNet v F h) h X Y a j) b (itr (fun i u => itr (fun j u => uHail u ow gx gy rad (fNet v F h) h X Y i j) (gw h) u) a v)) ow h ((gy h + a) * 20 + (gx h + b)) ((fNet v F h) - (2 * (iI (far2 ((gx h : Int) + (b : Int)) ((gy h : Int) + (a : Int)) X Y))))) = v2 at hW hI
            refine lv_iinc (v := (nI ((gx h + b) + 1))) (lv' := [(11, .int (nI ((gx h + b) + 1))), (12, .int (iI (far2 ((gx h : Int) + (b : Int)) ((gy h : Int) + (a : Int)) X Y))), (10, .int (nI (gy h + a))), (9, .int (fNet v F h)), (8, .int (iI S)), (6, .int (iI E)), (5, .int (nI (gx h + b0))), (0, .ref (ad 0)), (1, .ref (ad (60 + h))), (2, .ref (ad 180)), (3, .int (iI X)), (4, .int (iI Y))]) hx hb dX5_hitHouse_162 hl (k := 1) rfl (inc_nI _) (by decide) rfl (fun ls hl => ?_)
            refine lv_goto (tgt := 113) hx hb dX5_hitHouse_165 (by decide) ?_
            subst hv2
            exact ih_113 (b + 1) _   _ H locs ls (by omega) (by omega) (by rfl) (by rw [Nat.min_eq_left (by omega), itr_s]; exact if_pos (far2_le.mpr ⟨⟨by omega, by omega⟩, ⟨by omega, by omega⟩⟩)) (by omega) hW hS (lv_sub hl [0, 2, 3, 4, 5, 6, 7, 8, 9, 10, 11] rfl)
