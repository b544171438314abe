/-! the class: what it tells -/
set_option maxHeartbeats 4000000 in
set_option maxRecDepth 100000 in
theorem c_X5_panesOfAll (l : Launch) {G : GG} {L : List Nat} {ad : Nat → Nat} {v : Nat → Nat → Int32} {o : Nat → Nat → Option Nat} {w : Nat → Int64} {ng nh nl ns : Nat} {ow gx gy gw gd : Nat → Nat} (hI : PI G.2.2.2 L ad v o ng nh nl ns ow gx gy gw gd) (t : Int32) : CtI l G L ad v o w yX5_panesOfAll cX5_panesOfAll 4 .int ({ frames := 4, cells := 0, slots := 0, locals := 100 }) [.ref (ad 0), .int t] (fun r u => r = aCnt v gx gy gw gd nh t ∧ u = v) := by
  have hb6 := hI.g6; have hb12 := hI.h12; have hbl := hI.l6; have hbs := hI.s30
  refine q_ofI (by decide) (Nat.le_of_ble_eq_true rfl) ?_
  intro p e s m below meth c hx hb hr hml hts hown hlocks hE h0 hW hS ls hl
  generalize hH : s.heap = H at hW
  have hS : va_S (Ab G.2.2.1) s.heap H [] := hH ▸ hS
  obtain ⟨locs, hlc⟩ : ∃ z : List Loc, z = [] := ⟨_, rfl⟩
  rw [← hlc] at hS ⊢
  have hl : lv_has ls 4 [(0, .ref (ad 0)), (1, .int t)] := hl
  refine lv_iconst (v := 0) hx hb dX5_panesOfAll_0 (by decide) ?_
  refine lv_istore_n (lv' := [(2, .int 0), (0, .ref (ad 0)), (1, .int t)]) hx hb dX5_panesOfAll_1 rfl hl (by decide) rfl (fun ls hl => ?_)
  refine lv_iconst (v := 0) hx hb dX5_panesOfAll_2 (by decide) ?_
  refine lv_istore_n (lv' := [(3, .int 0), (2, .int 0), (0, .ref (ad 0)), (1, .int t)]) hx hb dX5_panesOfAll_3 rfl hl (by decide) rfl (fun ls hl => ?_)
  suffices LP_4 : ∀ (n_4 i : Nat) (x2_4 : Int32) (x3_4 : Int32)  (u_4 : Nat → Nat → Int32) (H : Heap) (locs : List Loc) (ls : Array Slot), nh + 1 ≤ i + n_4 → i ≤ nh → sumI (fun h => hCnt v gx gy gw gd h t) i = x2_4 → nI i = x3_4 → v = u_4 → WD G L ad u_4 o w s H → va_S (Ab G.2.2.1) s.heap H locs → lv_has ls 4 [(3, .int x3_4), (2, .int x2_4), (0, .ref (ad 0)), (1, .int t)] → W p l e ({ frames := 4, cells := 0, slots := 0, locals := 100 } : Room) s m ([.ref (ad 0), .int t] : List Value).toArray below meth c H locs 0 0 (MQ below (va_Qi (fun r u => r = aCnt v gx gy gw gd nh t ∧ u = v) (fun u t => WD G L ad u o w t t.heap) (Ab G.2.2.1)) ([.ref (ad 0), .int t] : List Value).toArray s ({ frames := 4, cells := 0, slots := 0, locals := 100 } : Room).cells ({ frames := 4, cells := 0, slots := 0, locals := 100 } : Room).slots (Ab G.2.2.1)) (F0 m 4 ls []) from LP_4 (nh + 1) 0 _ _   _ H locs ls (by omega) (by omega) (by rfl) (by rfl) (by rfl)  hW hS (lv_sub hl [0, 1, 2, 3] rfl)
  intro n_4
  induction n_4 with
  | zero => intro i x2_4 x3_4  u_4 H locs ls h1 h2; exact absurd h1 (by omega)
  | succ n_4 ih_4 =>
    intro i x2_4 x3_4  u_4 H locs ls hn_4 hi_4 ex2_4 ex3_4 eu_4  hW hS hl
    subst ex2_4
    subst ex3_4
    subst eu_4
    refine lv_iload_n hx hb dX5_panesOfAll_4 rfl (lv_at hl 0 rfl) ?_
    refine lv_aload_n hx hb dX5_panesOfAll_5 rfl (lv_at hl 2 rfl) ?_
    refine q_getr hx hb hts hown hW (r := 0) (hI.c 0 (by decide)) rfl k_6 1 (by decide) rfl t_138 (a := ad 2) (hI.o0 1 (by decide)) dX5_panesOfAll_6 ?_
    refine q_cFiE (As := []) (rest := [.int (nI i)]) (r := 2) hx hb hml hts hown hE h0 hW hS hE.2.1 (c_size l hI.lh) t_178 t_176 t_174 t_49 (by decide) (by decide +kernel) (hI.c 2 (by decide)) rfl k_0 t_170 ⟨Nat.le_of_ble_eq_true rfl, Nat.le_of_ble_eq_true rfl⟩ rfl hl.1 (Nat.le_of_ble_eq_true rfl) dX5_panesOfAll_9 ⟨Nat.zero_le _, Nat.zero_le _⟩ ⟨rfl, rfl⟩ (fun H locs hW hS => ?_)
    refine lv_icmp_ge (tgt := 44) hx hb dX5_panesOfAll_14 (by decide) (fun c_14 => ?_) (fun c_14 => ?_)
    · skip
      have hq_4 := (ge_i (n := nh) (by omega) hi_4 c_14).symm
      subst hq_4
      refine lv_iload_n hx hb dX5_panesOfAll_44 rfl (lv_at hl 1 rfl) ?_
      exact q_iret hx hb hr hlocks hW hS (Nat.le_refl _) (Nat.le_refl _) dX5_panesOfAll_45 (⟨rfl, rfl⟩)
    · skip
      have hlt_4 := lt_i (n := nh) (by omega) hi_4 c_14
      refine lv_iload_n hx hb dX5_panesOfAll_17 rfl (lv_at hl 1 rfl) ?_
      refine lv_aload_n hx hb dX5_panesOfAll_18 rfl (lv_at hl 2 rfl) ?_
      refine lv_aload_n hx hb dX5_panesOfAll_19 rfl (lv_at hl 2 rfl) ?_
      refine q_getr hx hb hts hown hW (r := 0) (hI.c 0 (by decide)) rfl k_6 1 (by decide) rfl t_138 (a := ad 2) (hI.o0 1 (by decide)) dX5_panesOfAll_20 ?_
      refine lv_iload_n hx hb dX5_panesOfAll_23 rfl (lv_at hl 0 rfl) ?_
      refine q_cFrE (n := 1) (As := [.int (nI i)]) (rest := [.ref (ad 0), .int (sumI (fun h => hCnt v gx gy gw gd h t) i)]) (r := 2) hx hb hml hts hown hE h0 hW hS hE.2.2.1 (c_get l hI.lh (i := i) hlt_4) t_191 t_189 t_187 t_49 (by decide) (by decide +kernel) (hI.c 2 (by decide)) rfl k_0 t_184 ⟨Nat.le_of_ble_eq_true rfl, Nat.le_of_ble_eq_true rfl⟩ rfl hl.1 (Nat.le_of_ble_eq_true rfl) dX5_panesOfAll_24 ⟨Nat.zero_le _, Nat.zero_le _⟩ ⟨rfl, rfl⟩ (fun H locs hW hS => ?_)
      refine q_castS hx hb hts hown hW (r := (60 + i)) (hI.mh hlt_4) (hI.kh hlt_4) k_2 t_207 dX5_panesOfAll_29 ?_
      refine lv_iload_n hx hb dX5_panesOfAll_32 rfl (lv_at hl 3 rfl) ?_
      refine q_cViE (As := [.ref (ad (60 + i)), .int t]) (rest := [.int (sumI (fun h => hCnt v gx gy gw gd h t) i)]) (r := 0) hx hb hml hts hown hE h0 hW hS (c_X5_panesOfHouse l hI hlt_4 t) mw_X5_panesOfHouse (hI.c 0 (by decide)) rfl k_6 t_248 ⟨Nat.le_of_ble_eq_true rfl, Nat.le_of_ble_eq_true rfl⟩ rfl hl.1 (Nat.le_of_ble_eq_true rfl) dX5_panesOfAll_33 ⟨Nat.zero_le _, Nat.zero_le _⟩ ⟨rfl, rfl⟩ (fun H locs hW hS => ?_)
      refine lv_iadd hx hb dX5_panesOfAll_36 ?_
      refine lv_istore_n (lv' := [(2, .int ((sumI (fun h => hCnt v gx gy gw gd h t) i) + (hCnt v gx gy gw gd i t))), (3, .int (nI i)), (0, .ref (ad 0)), (1, .int t)]) hx hb dX5_panesOfAll_37 rfl hl (by decide) rfl (fun ls hl => ?_)
      refine lv_iinc (v := (nI (i + 1))) (lv' := [(3, .int (nI (i + 1))), (2, .int ((sumI (fun h => hCnt v gx gy gw gd h t) i) + (hCnt v gx gy gw gd i t))), (0, .ref (ad 0)), (1, .int t)]) hx hb dX5_panesOfAll_38 hl (k := 1) rfl (inc_nI _) (by decide) rfl (fun ls hl => ?_)
      refine lv_goto (tgt := 4) hx hb dX5_panesOfAll_41 (by decide) ?_
      exact ih_4 (i + 1) _ _   _ H locs ls (by omega) (by omega) (by rfl) (by rfl) (by rfl)  hW hS (lv_sub hl [0, 1, 2, 3] rfl)

set_option maxHeartbeats 4000000 in
set_option maxRecDepth 100000 in
theorem c_X5_lostOfAll (l : Launch) {G : GG} {L : List Nat} {ad : Nat → Nat} {v : Nat → Nat → Int32} {o : Nat → Nat → Option Nat} {w : Nat → Int64} {ng nh nl ns : Nat} {ow gx gy gw gd : Nat → Nat} (hI : PI G.2.2.2 L ad v o ng nh nl ns ow gx gy gw gd)  : CtI l G L ad v o w yX5_lostOfAll cX5_lostOfAll 3 .int ({ frames := 4, cells := 0, slots := 0, locals := 100 }) [.ref (ad 0)] (fun r u => r = aLost v gx gy gw gd nh ∧ u = v) := by
  have hb6 := hI.g6; have hb12 := hI.h12; have hbl := hI.l6; have hbs := hI.s30
  refine q_ofI (by decide) (Nat.le_of_ble_eq_true rfl) ?_
  intro p e s m below meth c hx hb hr hml hts hown hlocks hE h0 hW hS ls hl
  generalize hH : s.heap = H at hW
  have hS : va_S (Ab G.2.2.1) s.heap H [] := hH ▸ hS
  obtain ⟨locs, hlc⟩ : ∃ z : List Loc, z = [] := ⟨_, rfl⟩
  rw [← hlc] at hS ⊢
  have hl : lv_has ls 3 [(0, .ref (ad 0))] := hl
  refine lv_iconst (v := 0) hx hb dX5_lostOfAll_0 (by decide) ?_
  refine lv_istore_n (lv' := [(1, .int 0), (0, .ref (ad 0))]) hx hb dX5_lostOfAll_1 rfl hl (by decide) rfl (fun ls hl => ?_)
  refine lv_iconst (v := 0) hx hb dX5_lostOfAll_2 (by decide) ?_
  refine lv_istore_n (lv' := [(2, .int 0), (1, .int 0), (0, .ref (ad 0))]) hx hb dX5_lostOfAll_3 rfl hl (by decide) rfl (fun ls hl => ?_)
  suffices LP_4 : ∀ (n_4 i : Nat) (x1_4 : Int32) (x2_4 : Int32)  (u_4 : Nat → Nat → Int32) (H : Heap) (locs : List Loc) (ls : Array Slot), nh + 1 ≤ i + n_4 → i ≤ nh → sumI (fun h => hLost v gx gy gw gd h) i = x1_4 → nI i = x2_4 → v = u_4 → WD G L ad u_4 o w s H → va_S (Ab G.2.2.1) s.heap H locs → lv_has ls 3 [(2, .int x2_4), (1, .int x1_4), (0, .ref (ad 0))] → W p l e ({ frames := 4, cells := 0, slots := 0, locals := 100 } : Room) s m ([.ref (ad 0)] : List Value).toArray below meth c H locs 0 0 (MQ below (va_Qi (fun r u => r = aLost v gx gy gw gd nh ∧ u = v) (fun u t => WD G L ad u o w t t.heap) (Ab G.2.2.1)) ([.ref (ad 0)] : List Value).toArray s ({ frames := 4, cells := 0, slots := 0, locals := 100 } : Room).cells ({ frames := 4, cells := 0, slots := 0, locals := 100 } : Room).slots (Ab G.2.2.1)) (F0 m 4 ls []) from LP_4 (nh + 1) 0 _ _   _ H locs ls (by omega) (by omega) (by rfl) (by rfl) (by rfl)  hW hS (lv_sub hl [0, 1, 2] rfl)
  intro n_4
  induction n_4 with
  | zero => intro i x1_4 x2_4  u_4 H locs ls h1 h2; exact absurd h1 (by omega)
  | succ n_4 ih_4 =>
    intro i x1_4 x2_4  u_4 H locs ls hn_4 hi_4 ex1_4 ex2_4 eu_4  hW hS hl
    subst ex1_4
    subst ex2_4
    subst eu_4
    refine lv_iload_n hx hb dX5_lostOfAll_4 rfl (lv_at hl 0 rfl) ?_
    refine lv_aload_n hx hb dX5_lostOfAll_5 rfl (lv_at hl 2 rfl) ?_
    refine q_getr hx hb hts hown hW (r := 0) (hI.c 0 (by decide)) rfl k_6 1 (by decide) rfl t_138 (a := ad 2) (hI.o0 1 (by decide)) dX5_lostOfAll_6 ?_
    refine q_cFiE (As := []) (rest := [.int (nI i)]) (r := 2) hx hb hml hts hown hE h0 hW hS hE.2.1 (c_size l hI.lh) t_178 t_176 t_174 t_49 (by decide) (by decide +kernel) (hI.c 2 (by decide)) rfl k_0 t_170 ⟨Nat.le_of_ble_eq_true rfl, Nat.le_of_ble_eq_true rfl⟩ rfl hl.1 (Nat.le_of_ble_eq_true rfl) dX5_lostOfAll_9 ⟨Nat.zero_le _, Nat.zero_le _⟩ ⟨rfl, rfl⟩ (fun H locs hW hS => ?_)
    refine lv_icmp_ge (tgt := 43) hx hb dX5_lostOfAll_14 (by decide) (fun c_14 => ?_) (fun c_14 => ?_)
    · skip
      have hq_4 := (ge_i (n := nh) (by omega) hi_4 c_14).symm
      subst hq_4
      refine lv_iload_n hx hb dX5_lostOfAll_43 rfl (lv_at hl 1 rfl) ?_
      exact q_iret hx hb hr hlocks hW hS (Nat.le_refl _) (Nat.le_refl _) dX5_lostOfAll_44 (⟨rfl, rfl⟩)
    · skip
      have hlt_4 := lt_i (n := nh) (by omega) hi_4 c_14
      refine lv_iload_n hx hb dX5_lostOfAll_17 rfl (lv_at hl 1 rfl) ?_
      refine lv_aload_n hx hb dX5_lostOfAll_18 rfl (lv_at hl 2 rfl) ?_
      refine lv_aload_n hx hb dX5_lostOfAll_19 rfl (lv_at hl 2 rfl) ?_
      refine q_getr hx hb hts hown hW (r := 0) (hI.c 0 (by decide)) rfl k_6 1 (by decide) rfl t_138 (a := ad 2) (hI.o0 1 (by decide)) dX5_lostOfAll_20 ?_
      refine lv_iload_n hx hb dX5_lostOfAll_23 rfl (lv_at hl 0 rfl) ?_
      refine q_cFrE (n := 1) (As := [.int (nI i)]) (rest := [.ref (ad 0), .int (sumI (fun h => hLost v gx gy gw gd h) i)]) (r := 2) hx hb hml hts hown hE h0 hW hS hE.2.2.1 (c_get l hI.lh (i := i) hlt_4) t_191 t_189 t_187 t_49 (by decide) (by decide +kernel) (hI.c 2 (by decide)) rfl k_0 t_184 ⟨Nat.le_of_ble_eq_true rfl, Nat.le_of_ble_eq_true rfl⟩ rfl hl.1 (Nat.le_of_ble_eq_true rfl) dX5_lostOfAll_24 ⟨Nat.zero_le _, Nat.zero_le _⟩ ⟨rfl, rfl⟩ (fun H locs hW hS => ?_)
      refine q_castS hx hb hts hown hW (r := (60 + i)) (hI.mh hlt_4) (hI.kh hlt_4) k_2 t_207 dX5_lostOfAll_29 ?_
      refine q_cViE (As := [.ref (ad (60 + i))]) (rest := [.int (sumI (fun h => hLost v gx gy gw gd h) i)]) (r := 0) hx hb hml hts hown hE h0 hW hS (c_X5_lostOfHouse l hI hlt_4) mw_X5_lostOfHouse (hI.c 0 (by decide)) rfl k_6 t_244 ⟨Nat.le_of_ble_eq_true rfl, Nat.le_of_ble_eq_true rfl⟩ rfl hl.1 (Nat.le_of_ble_eq_true rfl) dX5_lostOfAll_32 ⟨Nat.zero_le _, Nat.zero_le _⟩ ⟨rfl, rfl⟩ (fun H locs hW hS => ?_)
      refine lv_iadd hx hb dX5_lostOfAll_35 ?_
      refine lv_istore_n (lv' := [(1, .int ((sumI (fun h => hLost v gx gy gw gd h) i) + (hLost v gx gy gw gd i))), (2, .int (nI i)), (0, .ref (ad 0))]) hx hb dX5_lostOfAll_36 rfl hl (by decide) rfl (fun ls hl => ?_)
      refine lv_iinc (v := (nI (i + 1))) (lv' := [(2, .int (nI (i + 1))), (1, .int ((sumI (fun h => hLost v gx gy gw gd h) i) + (hLost v gx gy gw gd i))), (0, .ref (ad 0))]) hx hb dX5_lostOfAll_37 hl (k := 1) rfl (inc_nI _) (by decide) rfl (fun ls hl => ?_)
      refine lv_goto (tgt := 4) hx hb dX5_lostOfAll_40 (by decide) ?_
      exact ih_4 (i + 1) _ _   _ H locs ls (by omega) (by omega) (by rfl) (by rfl) (by rfl)  hW hS (lv_sub hl [0, 1, 2] rfl)

set_option maxHeartbeats 4000000 in
set_option maxRecDepth 100000 in
theorem c_X5_owedToAll (l : Launch) {G : GG} {L : List Nat} {ad : Nat → Nat} {v : Nat → Nat → Int32} {o : Nat → Nat → Option Nat} {w : Nat → Int64} {ng nh nl ns : Nat} {ow gx gy gw gd : Nat → Nat} (hI : PI G.2.2.2 L ad v o ng nh nl ns ow gx gy gw gd)  : CtI l G L ad v o w yX5_owedToAll cX5_owedToAll 3 .int ({ frames := 4, cells := 0, slots := 0, locals := 100 }) [.ref (ad 0)] (fun r u => r = aOwed v ng ∧ u = v) := by
  have hb6 := hI.g6; have hb12 := hI.h12; have hbl := hI.l6; have hbs := hI.s30
  refine q_ofI (by decide) (Nat.le_of_ble_eq_true rfl) ?_
  intro p e s m below meth c hx hb hr hml hts hown hlocks hE h0 hW hS ls hl
  generalize hH : s.heap = H at hW
  have hS : va_S (Ab G.2.2.1) s.heap H [] := hH ▸ hS
  obtain ⟨locs, hlc⟩ : ∃ z : List Loc, z = [] := ⟨_, rfl⟩
  rw [← hlc] at hS ⊢
  have hl : lv_has ls 3 [(0, .ref (ad 0))] := hl
  refine lv_iconst (v := 0) hx hb dX5_owedToAll_0 (by decide) ?_
  refine lv_istore_n (lv' := [(1, .int 0), (0, .ref (ad 0))]) hx hb dX5_owedToAll_1 rfl hl (by decide) rfl (fun ls hl => ?_)
  refine lv_iconst (v := 0) hx hb dX5_owedToAll_2 (by decide) ?_
  refine lv_istore_n (lv' := [(2, .int 0), (1, .int 0), (0, .ref (ad 0))]) hx hb dX5_owedToAll_3 rfl hl (by decide) rfl (fun ls hl => ?_)
  suffices LP_4 : ∀ (n_4 i : Nat) (x1_4 : Int32) (x2_4 : Int32)  (u_4 : Nat → Nat → Int32) (H : Heap) (locs : List Loc) (ls : Array Slot), ng + 1 ≤ i + n_4 → i ≤ ng → sumI (fun g => v (50 + g) 7) i = x1_4 → nI i = x2_4 → v = u_4 → WD G L ad u_4 o w s H → va_S (Ab G.2.2.1) s.heap H locs → lv_has ls 3 [(2, .int x2_4), (1, .int x1_4), (0, .ref (ad 0))] → W p l e ({ frames := 4, cells := 0, slots := 0, locals := 100 } : Room) s m ([.ref (ad 0)] : List Value).toArray below meth c H locs 0 0 (MQ below (va_Qi (fun r u => r = aOwed v ng ∧ u = v) (fun u t => WD G L ad u o w t t.heap) (Ab G.2.2.1)) ([.ref (ad 0)] : List Value).toArray s ({ frames := 4, cells := 0, slots := 0, locals := 100 } : Room).cells ({ frames := 4, cells := 0, slots := 0, locals := 100 } : Room).slots (Ab G.2.2.1)) (F0 m 4 ls []) from LP_4 (ng + 1) 0 _ _   _ H locs ls (by omega) (by omega) (by rfl) (by rfl) (by rfl)  hW hS (lv_sub hl [0, 1, 2] rfl)
  intro n_4
  induction n_4 with
  | zero => intro i x1_4 x2_4  u_4 H locs ls h1 h2; exact absurd h1 (by omega)
  | succ n_4 ih_4 =>
    intro i x1_4 x2_4  u_4 H locs ls hn_4 hi_4 ex1_4 ex2_4 eu_4  hW hS hl
    subst ex1_4
    subst ex2_4
    subst eu_4
    refine lv_iload_n hx hb dX5_owedToAll_4 rfl (lv_at hl 0 rfl) ?_
    refine lv_aload_n hx hb dX5_owedToAll_5 rfl (lv_at hl 2 rfl) ?_
    refine q_getr hx hb hts hown hW (r := 0) (hI.c 0 (by decide)) rfl k_6 0 (by decide) rfl t_137 (a := ad 1) (hI.o0 0 (by decide)) dX5_owedToAll_6 ?_
    refine q_cFiE (As := []) (rest := [.int (nI i)]) (r := 1) hx hb hml hts hown hE h0 hW hS hE.2.1 (c_size l hI.lg) t_178 t_176 t_174 t_49 (by decide) (by decide +kernel) (hI.c 1 (by decide)) rfl k_0 t_170 ⟨Nat.le_of_ble_eq_true rfl, Nat.le_of_ble_eq_true rfl⟩ rfl hl.1 (Nat.le_of_ble_eq_true rfl) dX5_owedToAll_9 ⟨Nat.zero_le _, Nat.zero_le _⟩ ⟨rfl, rfl⟩ (fun H locs hW hS => ?_)
    refine lv_icmp_ge (tgt := 42) hx hb dX5_owedToAll_14 (by decide) (fun c_14 => ?_) (fun c_14 => ?_)
    · skip
      have hq_4 := (ge_i (n := ng) (by omega) hi_4 c_14).symm
      subst hq_4
      refine lv_iload_n hx hb dX5_owedToAll_42 rfl (lv_at hl 1 rfl) ?_
      exact q_iret hx hb hr hlocks hW hS (Nat.le_refl _) (Nat.le_refl _) dX5_owedToAll_43 (⟨rfl, rfl⟩)
    · skip
      have hlt_4 := lt_i (n := ng) (by omega) hi_4 c_14
      refine lv_iload_n hx hb dX5_owedToAll_17 rfl (lv_at hl 1 rfl) ?_
      refine lv_aload_n hx hb dX5_owedToAll_18 rfl (lv_at hl 2 rfl) ?_
      refine q_getr hx hb hts hown hW (r := 0) (hI.c 0 (by decide)) rfl k_6 0 (by decide) rfl t_137 (a := ad 1) (hI.o0 0 (by decide)) dX5_owedToAll_19 ?_
      refine lv_iload_n hx hb dX5_owedToAll_22 rfl (lv_at hl 0 rfl) ?_
      refine q_cFrE (n := 1) (As := [.int (nI i)]) (rest := [.int (sumI (fun g => v (50 + g) 7) i)]) (r := 1) hx hb hml hts hown hE h0 hW hS hE.2.2.1 (c_get l hI.lg (i := i) hlt_4) t_191 t_189 t_187 t_49 (by decide) (by decide +kernel) (hI.c 1 (by decide)) rfl k_0 t_184 ⟨Nat.le_of_ble_eq_true rfl, Nat.le_of_ble_eq_true rfl⟩ rfl hl.1 (Nat.le_of_ble_eq_true rfl) dX5_owedToAll_23 ⟨Nat.zero_le _, Nat.zero_le _⟩ ⟨rfl, rfl⟩ (fun H locs hW hS => ?_)
      refine q_castS hx hb hts hown hW (r := (50 + i)) (hI.mg hlt_4) (hI.kg hlt_4) k_1 t_202 dX5_owedToAll_28 ?_
      refine q_get hx hb hts hown hW (r := (50 + i)) (hI.mg hlt_4) (hI.kg hlt_4) k_1 7 (by decide) rfl t_424 (x := (v (50 + i) 7)) rfl dX5_owedToAll_31 ?_
      refine lv_iadd hx hb dX5_owedToAll_34 ?_
      refine lv_istore_n (lv' := [(1, .int ((sumI (fun g => v (50 + g) 7) i) + (v (50 + i) 7))), (2, .int (nI i)), (0, .ref (ad 0))]) hx hb dX5_owedToAll_35 rfl hl (by decide) rfl (fun ls hl => ?_)
      refine lv_iinc (v := (nI (i + 1))) (lv' := [(2, .int (nI (i + 1))), (1, .int ((sumI (fun g => v (50 + g) 7) i) + (v (50 + i) 7))), (0, .ref (ad 0))]) hx hb dX5_owedToAll_36 hl (k := 1) rfl (inc_nI _) (by decide) rfl (fun ls hl => ?_)
      refine lv_goto (tgt := 4) hx hb dX5_owedToAll_39 (by decide) ?_
      exact ih_4 (i + 1) _ _   _ H locs ls (by omega) (by omega) (by rfl) (by rfl) (by rfl)  hW hS (lv_sub hl [0, 1, 2] rfl)

set_option maxHeartbeats 4000000 in
set_option maxRecDepth 100000 in
theorem c_X5_paneCountOfAll (l : Launch) {G : GG} {L : List Nat} {ad : Nat → Nat} {v : Nat → Nat → Int32} {o : Nat → Nat → Option Nat} {w : Nat → Int64} {ng nh nl ns : Nat} {ow gx gy gw gd : Nat → Nat} (hI : PI G.2.2.2 L ad v o ng nh nl ns ow gx gy gw gd)  : CtI l G L ad v o w yX5_paneCountOfAll cX5_paneCountOfAll 3 .int ({ frames := 4, cells := 0, slots := 0, locals := 100 }) [.ref (ad 0)] (fun r u => r = aPanes v nh ∧ u = v) := by
  have hb6 := hI.g6; have hb12 := hI.h12; have hbl := hI.l6; have hbs := hI.s30
  refine q_ofI (by decide) (Nat.le_of_ble_eq_true rfl) ?_
  intro p e s m below meth c hx hb hr hml hts hown hlocks hE h0 hW hS ls hl
  generalize hH : s.heap = H at hW
  have hS : va_S (Ab G.2.2.1) s.heap H [] := hH ▸ hS
  obtain ⟨locs, hlc⟩ : ∃ z : List Loc, z = [] := ⟨_, rfl⟩
  rw [← hlc] at hS ⊢
  have hl : lv_has ls 3 [(0, .ref (ad 0))] := hl
  refine lv_iconst (v := 0) hx hb dX5_paneCountOfAll_0 (by decide) ?_
  refine lv_istore_n (lv' := [(1, .int 0), (0, .ref (ad 0))]) hx hb dX5_paneCountOfAll_1 rfl hl (by decide) rfl (fun ls hl => ?_)
  refine lv_iconst (v := 0) hx hb dX5_paneCountOfAll_2 (by decide) ?_
  refine lv_istore_n (lv' := [(2, .int 0), (1, .int 0), (0, .ref (ad 0))]) hx hb dX5_paneCountOfAll_3 rfl hl (by decide) rfl (fun ls hl => ?_)
  suffices LP_4 : ∀ (n_4 i : Nat) (x1_4 : Int32) (x2_4 : Int32)  (u_4 : Nat → Nat → Int32) (H : Heap) (locs : List Loc) (ls : Array Slot), nh + 1 ≤ i + n_4 → i ≤ nh → sumI (fun h => v (60 + h) 3 * v (60 + h) 4) i = x1_4 → nI i = x2_4 → v = u_4 → WD G L ad u_4 o w s H → va_S (Ab G.2.2.1) s.heap H locs → lv_has ls 3 [(2, .int x2_4), (1, .int x1_4), (0, .ref (ad 0))] → W p l e ({ frames := 4, cells := 0, slots := 0, locals := 100 } : Room) s m ([.ref (ad 0)] : List Value).toArray below meth c H locs 0 0 (MQ below (va_Qi (fun r u => r = aPanes v nh ∧ u = v) (fun u t => WD G L ad u o w t t.heap) (Ab G.2.2.1)) ([.ref (ad 0)] : List Value).toArray s ({ frames := 4, cells := 0, slots := 0, locals := 100 } : Room).cells ({ frames := 4, cells := 0, slots := 0, locals := 100 } : Room).slots (Ab G.2.2.1)) (F0 m 4 ls []) from LP_4 (nh + 1) 0 _ _   _ H locs ls (by omega) (by omega) (by rfl) (by rfl) (by rfl)  hW hS (lv_sub hl [0, 1, 2] rfl)
  intro n_4
  induction n_4 with
  | zero => intro i x1_4 x2_4  u_4 H locs ls h1 h2; exact absurd h1 (by omega)
  | succ n_4 ih_4 =>
    intro i x1_4 x2_4  u_4 H locs ls hn_4 hi_4 ex1_4 ex2_4 eu_4  hW hS hl
    subst ex1_4
    subst ex2_4
    subst eu_4
    refine lv_iload_n hx hb dX5_paneCountOfAll_4 rfl (lv_at hl 0 rfl) ?_
    refine lv_aload_n hx hb dX5_paneCountOfAll_5 rfl (lv_at hl 2 rfl) ?_
    refine q_getr hx hb hts hown hW (r := 0) (hI.c 0 (by decide)) rfl k_6 1 (by decide) rfl t_138 (a := ad 2) (hI.o0 1 (by decide)) dX5_paneCountOfAll_6 ?_
    refine q_cFiE (As := []) (rest := [.int (nI i)]) (r := 2) hx hb hml hts hown hE h0 hW hS hE.2.1 (c_size l hI.lh) t_178 t_176 t_174 t_49 (by decide) (by decide +kernel) (hI.c 2 (by decide)) rfl k_0 t_170 ⟨Nat.le_of_ble_eq_true rfl, Nat.le_of_ble_eq_true rfl⟩ rfl hl.1 (Nat.le_of_ble_eq_true rfl) dX5_paneCountOfAll_9 ⟨Nat.zero_le _, Nat.zero_le _⟩ ⟨rfl, rfl⟩ (fun H locs hW hS => ?_)
    refine lv_icmp_ge (tgt := 42) hx hb dX5_paneCountOfAll_14 (by decide) (fun c_14 => ?_) (fun c_14 => ?_)
    · skip
      have hq_4 := (ge_i (n := nh) (by omega) hi_4 c_14).symm
      subst hq_4
      refine lv_iload_n hx hb dX5_paneCountOfAll_42 rfl (lv_at hl 1 rfl) ?_
      exact q_iret hx hb hr hlocks hW hS (Nat.le_refl _) (Nat.le_refl _) dX5_paneCountOfAll_43 (⟨rfl, rfl⟩)
    · skip
      have hlt_4 := lt_i (n := nh) (by omega) hi_4 c_14
      refine lv_iload_n hx hb dX5_paneCountOfAll_17 rfl (lv_at hl 1 rfl) ?_
      refine lv_aload_n hx hb dX5_paneCountOfAll_18 rfl (lv_at hl 2 rfl) ?_
      refine q_getr hx hb hts hown hW (r := 0) (hI.c 0 (by decide)) rfl k_6 1 (by decide) rfl t_138 (a := ad 2) (hI.o0 1 (by decide)) dX5_paneCountOfAll_19 ?_
      refine lv_iload_n hx hb dX5_paneCountOfAll_22 rfl (lv_at hl 0 rfl) ?_
      refine q_cFrE (n := 1) (As := [.int (nI i)]) (rest := [.int (sumI (fun h => v (60 + h) 3 * v (60 + h) 4) i)]) (r := 2) hx hb hml hts hown hE h0 hW hS hE.2.2.1 (c_get l hI.lh (i := i) hlt_4) t_191 t_189 t_187 t_49 (by decide) (by decide +kernel) (hI.c 2 (by decide)) rfl k_0 t_184 ⟨Nat.le_of_ble_eq_true rfl, Nat.le_of_ble_eq_true rfl⟩ rfl hl.1 (Nat.le_of_ble_eq_true rfl) dX5_paneCountOfAll_23 ⟨Nat.zero_le _, Nat.zero_le _⟩ ⟨rfl, rfl⟩ (fun H locs hW hS => ?_)
      refine q_castS hx hb hts hown hW (r := (60 + i)) (hI.mh hlt_4) (hI.kh hlt_4) k_2 t_207 dX5_paneCountOfAll_28 ?_
      refine q_cViE (As := []) (rest := [.int (sumI (fun h => v (60 + h) 3 * v (60 + h) 4) i)]) (r := (60 + i)) hx hb hml hts hown hE h0 hW hS (c_X1_paneCount l hI hlt_4) mw_X1_paneCount (hI.mh hlt_4) (hI.kh hlt_4) k_2 t_277 ⟨Nat.le_of_ble_eq_true rfl, Nat.le_of_ble_eq_true rfl⟩ rfl hl.1 (Nat.le_of_ble_eq_true rfl) dX5_paneCountOfAll_31 ⟨Nat.zero_le _, Nat.zero_le _⟩ ⟨rfl, rfl⟩ (fun H locs hW hS => ?_)
      refine lv_iadd hx hb dX5_paneCountOfAll_34 ?_
      refine lv_istore_n (lv' := [(1, .int ((sumI (fun h => v (60 + h) 3 * v (60 + h) 4) i) + (v (60 + i) 3 * v (60 + i) 4))), (2, .int (nI i)), (0, .ref (ad 0))]) hx hb dX5_paneCountOfAll_35 rfl hl (by decide) rfl (fun ls hl => ?_)
      refine lv_iinc (v := (nI (i + 1))) (lv' := [(2, .int (nI (i + 1))), (1, .int ((sumI (fun h => v (60 + h) 3 * v (60 + h) 4) i) + (v (60 + i) 3 * v (60 + i) 4))), (0, .ref (ad 0))]) hx hb dX5_paneCountOfAll_36 hl (k := 1) rfl (inc_nI _) (by decide) rfl (fun ls hl => ?_)
      refine lv_goto (tgt := 4) hx hb dX5_paneCountOfAll_39 (by decide) ?_
      exact ih_4 (i + 1) _ _   _ H locs ls (by omega) (by omega) (by rfl) (by rfl) (by rfl)  hW hS (lv_sub hl [0, 1, 2] rfl)

set_option maxHeartbeats 4000000 in
set_option maxRecDepth 100000 in
theorem c_X5_housesOfGrower (l : Launch) {G : GG} {L : List Nat} {ad : Nat → Nat} {v : Nat → Nat → Int32} {o : Nat → Nat → Option Nat} {w : Nat → Int64} {ng nh nl ns : Nat} {ow gx gy gw gd : Nat → Nat} (hI : PI G.2.2.2 L ad v o ng nh nl ns ow gx gy gw gd) {g : Nat} : CtI l G L ad v o w yX5_housesOfGrower cX5_housesOfGrower 4 .int ({ frames := 4, cells := 0, slots := 0, locals := 100 }) [.ref (ad 0), .int (nI g)] (fun r u => r = gHouses v nh (nI g) ∧ u = v) := by
  have hb6 := hI.g6; have hb12 := hI.h12; have hbl := hI.l6; have hbs := hI.s30
  refine q_ofI (by decide) (Nat.le_of_ble_eq_true rfl) ?_
  intro p e s m below meth c hx hb hr hml hts hown hlocks hE h0 hW hS ls hl
  generalize hH : s.heap = H at hW
  have hS : va_S (Ab G.2.2.1) s.heap H [] := hH ▸ hS
  obtain ⟨locs, hlc⟩ : ∃ z : List Loc, z = [] := ⟨_, rfl⟩
  rw [← hlc] at hS ⊢
  have hl : lv_has ls 4 [(0, .ref (ad 0)), (1, .int (nI g))] := hl
  refine lv_iconst (v := 0) hx hb dX5_housesOfGrower_0 (by decide) ?_
  refine lv_istore_n (lv' := [(2, .int 0), (0, .ref (ad 0)), (1, .int (nI g))]) hx hb dX5_housesOfGrower_1 rfl hl (by decide) rfl (fun ls hl => ?_)
  refine lv_iconst (v := 0) hx hb dX5_housesOfGrower_2 (by decide) ?_
  refine lv_istore_n (lv' := [(3, .int 0), (2, .int 0), (0, .ref (ad 0)), (1, .int (nI g))]) hx hb dX5_housesOfGrower_3 rfl hl (by decide) rfl (fun ls hl => ?_)
  suffices LP_4 : ∀ (n_4 i : Nat) (x2_4 : Int32) (x3_4 : Int32)  (u_4 : Nat → Nat → Int32) (H : Heap) (locs : List Loc) (ls : Array Slot), nh + 1 ≤ i + n_4 → i ≤ nh → sumI (fun h => if v (60 + h) 0 = nI g then 1 else 0) i = x2_4 → nI i = x3_4 → v = u_4 → WD G L ad u_4 o w s H → va_S (Ab G.2.2.1) s.heap H locs → lv_has ls 4 [(3, .int x3_4), (2, .int x2_4), (0, .ref (ad 0)), (1, .int (nI g))] → W p l e ({ frames := 4, cells := 0, slots := 0, locals := 100 } : Room) s m ([.ref (ad 0), .int (nI g)] : List Value).toArray below meth c H locs 0 0 (MQ below (va_Qi (fun r u => r = gHouses v nh (nI g) ∧ u = v) (fun u t => WD G L ad u o w t t.heap) (Ab G.2.2.1)) ([.ref (ad 0), .int (nI g)] : List Value).toArray s ({ frames := 4, cells := 0, slots := 0, locals := 100 } : Room).cells ({ frames := 4, cells := 0, slots := 0, locals := 100 } : Room).slots (Ab G.2.2.1)) (F0 m 4 ls []) from LP_4 (nh + 1) 0 _ _   _ H locs ls (by omega) (by omega) (by rfl) (by rfl) (by rfl)  hW hS (lv_sub hl [0, 1, 2, 3] rfl)
  intro n_4
  induction n_4 with
  | zero => intro i x2_4 x3_4  u_4 H locs ls h1 h2; exact absurd h1 (by omega)
  | succ n_4 ih_4 =>
    intro i x2_4 x3_4  u_4 H locs ls hn_4 hi_4 ex2_4 ex3_4 eu_4  hW hS hl
    subst ex2_4
    subst ex3_4
    subst eu_4
    refine lv_iload_n hx hb dX5_housesOfGrower_4 rfl (lv_at hl 0 rfl) ?_
    refine lv_aload_n hx hb dX5_housesOfGrower_5 rfl (lv_at hl 2 rfl) ?_
    refine q_getr hx hb hts hown hW (r := 0) (hI.c 0 (by decide)) rfl k_6 1 (by decide) rfl t_138 (a := ad 2) (hI.o0 1 (by decide)) dX5_housesOfGrower_6 ?_
    refine q_cFiE (As := []) (rest := [.int (nI i)]) (r := 2) hx hb hml hts hown hE h0 hW hS hE.2.1 (c_size l hI.lh) t_178 t_176 t_174 t_49 (by decide) (by decide +kernel) (hI.c 2 (by decide)) rfl k_0 t_170 ⟨Nat.le_of_ble_eq_true rfl, Nat.le_of_ble_eq_true rfl⟩ rfl hl.1 (Nat.le_of_ble_eq_true rfl) dX5_housesOfGrower_9 ⟨Nat.zero_le _, Nat.zero_le _⟩ ⟨rfl, rfl⟩ (fun H locs hW hS => ?_)
    refine lv_icmp_ge (tgt := 46) hx hb dX5_housesOfGrower_14 (by decide) (fun c_14 => ?_) (fun c_14 => ?_)
    · skip
      have hq_4 := (ge_i (n := nh) (by omega) hi_4 c_14).symm
      subst hq_4
      refine lv_iload_n hx hb dX5_housesOfGrower_46 rfl (lv_at hl 1 rfl) ?_
      exact q_iret hx hb hr hlocks hW hS (Nat.le_refl _) (Nat.le_refl _) dX5_housesOfGrower_47 (⟨rfl, rfl⟩)
    · skip
      have hlt_4 := lt_i (n := nh) (by omega) hi_4 c_14
      refine lv_aload_n hx hb dX5_housesOfGrower_17 rfl (lv_at hl 2 rfl) ?_
      refine q_getr hx hb hts hown hW (r := 0) (hI.c 0 (by decide)) rfl k_6 1 (by decide) rfl t_138 (a := ad 2) (hI.o0 1 (by decide)) dX5_housesOfGrower_18 ?_
      refine lv_iload_n hx hb dX5_housesOfGrower_21 rfl (lv_at hl 0 rfl) ?_
      refine q_cFrE (n := 1) (As := [.int (nI i)]) (rest := []) (r := 2) hx hb hml hts hown hE h0 hW hS hE.2.2.1 (c_get l hI.lh (i := i) hlt_4) t_191 t_189 t_187 t_49 (by decide) (by decide +kernel) (hI.c 2 (by decide)) rfl k_0 t_184 ⟨Nat.le_of_ble_eq_true rfl, Nat.le_of_ble_eq_true rfl⟩ rfl hl.1 (Nat.le_of_ble_eq_true rfl) dX5_housesOfGrower_22 ⟨Nat.zero_le _, Nat.zero_le _⟩ ⟨rfl, rfl⟩ (fun H locs hW hS => ?_)
      refine q_castS hx hb hts hown hW (r := (60 + i)) (hI.mh hlt_4) (hI.kh hlt_4) k_2 t_207 dX5_housesOfGrower_27 ?_
      refine q_get hx hb hts hown hW (r := (60 + i)) (hI.mh hlt_4) (hI.kh hlt_4) k_2 0 (by decide) rfl t_551 (x := (v (60 + i) 0)) rfl dX5_housesOfGrower_30 ?_
      refine lv_iload_n hx hb dX5_housesOfGrower_33 rfl (lv_at hl 3 rfl) ?_
      refine lv_icmp_ne (tgt := 40) hx hb dX5_housesOfGrower_34 (by decide) (fun c_34 => ?_) (fun c_34 => ?_)
      · skip
        refine lv_iinc (v := (nI (i + 1))) (lv' := [(3, .int (nI (i + 1))), (2, .int (sumI (fun h => if v (60 + h) 0 = nI g then 1 else 0) i)), (0, .ref (ad 0)), (1, .int (nI g))]) hx hb dX5_housesOfGrower_40 hl (k := 0) rfl (inc_nI _) (by decide) rfl (fun ls hl => ?_)
        refine lv_goto (tgt := 4) hx hb dX5_housesOfGrower_43 (by decide) ?_
        exact ih_4 (i + 1) _ _   _ H locs ls (by omega) (by omega) (by first | (simp [sumI, c_34]; done) | (simp only [sumI]; rw [if_neg c_34, Int32.add_zero])) (by rfl) (by rfl)  hW hS (lv_sub hl [0, 1, 2, 3] rfl)
      · skip
        refine lv_iinc (v := ((sumI (fun h => if v (60 + h) 0 = nI g then 1 else 0) i) + 1)) (lv' := [(2, .int ((sumI (fun h => if v (60 + h) 0 = nI g then 1 else 0) i) + 1)), (3, .int (nI i)), (0, .ref (ad 0)), (1, .int (nI g))]) hx hb dX5_housesOfGrower_37 hl (k := 1) rfl rfl (by decide) rfl (fun ls hl => ?_)
        refine lv_iinc (v := (nI (i + 1))) (lv' := [(3, .int (nI (i + 1))), (2, .int ((sumI (fun h => if v (60 + h) 0 = nI g then 1 else 0) i) + 1)), (0, .ref (ad 0)), (1, .int (nI g))]) hx hb dX5_housesOfGrower_40 hl (k := 1) rfl (inc_nI _) (by decide) rfl (fun ls hl => ?_)
        refine lv_goto (tgt := 4) hx hb dX5_housesOfGrower_43 (by decide) ?_
        exact ih_4 (i + 1) _ _   _ H locs ls (by omega) (by omega) (by first | (simp [sumI, c_34]; done) | (simp only [sumI]; rw [if_neg c_34, Int32.add_zero])) (by rfl) (by rfl)  hW hS (lv_sub hl [0, 1, 2, 3] rfl)

set_option maxHeartbeats 4000000 in
set_option maxRecDepth 100000 in
theorem c_X5_valuesOfGrower (l : Launch) {G : GG} {L : List Nat} {ad : Nat → Nat} {v : Nat → Nat → Int32} {o : Nat → Nat → Option Nat} {w : Nat → Int64} {ng nh nl ns : Nat} {ow gx gy gw gd : Nat → Nat} (hI : PI G.2.2.2 L ad v o ng nh nl ns ow gx gy gw gd) {g : Nat} : CtI l G L ad v o w yX5_valuesOfGrower cX5_valuesOfGrower 4 .int ({ frames := 4, cells := 0, slots := 0, locals := 100 }) [.ref (ad 0), .int (nI g)] (fun r u => r = gVals v nh (nI g) ∧ u = v) := by
  have hb6 := hI.g6; have hb12 := hI.h12; have hbl := hI.l6; have hbs := hI.s30
  refine q_ofI (by decide) (Nat.le_of_ble_eq_true rfl) ?_
  intro p e s m below meth c hx hb hr hml hts hown hlocks hE h0 hW hS ls hl
  generalize hH : s.heap = H at hW
  have hS : va_S (Ab G.2.2.1) s.heap H [] := hH ▸ hS
  obtain ⟨locs, hlc⟩ : ∃ z : List Loc, z = [] := ⟨_, rfl⟩
  rw [← hlc] at hS ⊢
  have hl : lv_has ls 4 [(0, .ref (ad 0)), (1, .int (nI g))] := hl
  refine lv_iconst (v := 0) hx hb dX5_valuesOfGrower_0 (by decide) ?_
  refine lv_istore_n (lv' := [(2, .int 0), (0, .ref (ad 0)), (1, .int (nI g))]) hx hb dX5_valuesOfGrower_1 rfl hl (by decide) rfl (fun ls hl => ?_)
  refine lv_iconst (v := 0) hx hb dX5_valuesOfGrower_2 (by decide) ?_
  refine lv_istore_n (lv' := [(3, .int 0), (2, .int 0), (0, .ref (ad 0)), (1, .int (nI g))]) hx hb dX5_valuesOfGrower_3 rfl hl (by decide) rfl (fun ls hl => ?_)
  suffices LP_4 : ∀ (n_4 i : Nat) (x2_4 : Int32) (x3_4 : Int32)  (u_4 : Nat → Nat → Int32) (H : Heap) (locs : List Loc) (ls : Array Slot), nh + 1 ≤ i + n_4 → i ≤ nh → sumI (fun h => if v (60 + h) 0 = nI g then hVal v h else 0) i = x2_4 → nI i = x3_4 → v = u_4 → WD G L ad u_4 o w s H → va_S (Ab G.2.2.1) s.heap H locs → lv_has ls 4 [(3, .int x3_4), (2, .int x2_4), (0, .ref (ad 0)), (1, .int (nI g))] → W p l e ({ frames := 4, cells := 0, slots := 0, locals := 100 } : Room) s m ([.ref (ad 0), .int (nI g)] : List Value).toArray below meth c H locs 0 0 (MQ below (va_Qi (fun r u => r = gVals v nh (nI g) ∧ u = v) (fun u t => WD G L ad u o w t t.heap) (Ab G.2.2.1)) ([.ref (ad 0), .int (nI g)] : List Value).toArray s ({ frames := 4, cells := 0, slots := 0, locals := 100 } : Room).cells ({ frames := 4, cells := 0, slots := 0, locals := 100 } : Room).slots (Ab G.2.2.1)) (F0 m 4 ls []) from LP_4 (nh + 1) 0 _ _   _ H locs ls (by omega) (by omega) (by rfl) (by rfl) (by rfl)  hW hS (lv_sub hl [0, 1, 2, 3] rfl)
  intro n_4
  induction n_4 with
  | zero => intro i x2_4 x3_4  u_4 H locs ls h1 h2; exact absurd h1 (by omega)
  | succ n_4 ih_4 =>
    intro i x2_4 x3_4  u_4 H locs ls hn_4 hi_4 ex2_4 ex3_4 eu_4  hW hS hl
    subst ex2_4
    subst ex3_4
    subst eu_4
    refine lv_iload_n hx hb dX5_valuesOfGrower_4 rfl (lv_at hl 0 rfl) ?_
    refine lv_aload_n hx hb dX5_valuesOfGrower_5 rfl (lv_at hl 2 rfl) ?_
    refine q_getr hx hb hts hown hW (r := 0) (hI.c 0 (by decide)) rfl k_6 1 (by decide) rfl t_138 (a := ad 2) (hI.o0 1 (by decide)) dX5_valuesOfGrower_6 ?_
    refine q_cFiE (As := []) (rest := [.int (nI i)]) (r := 2) hx hb hml hts hown hE h0 hW hS hE.2.1 (c_size l hI.lh) t_178 t_176 t_174 t_49 (by decide) (by decide +kernel) (hI.c 2 (by decide)) rfl k_0 t_170 ⟨Nat.le_of_ble_eq_true rfl, Nat.le_of_ble_eq_true rfl⟩ rfl hl.1 (Nat.le_of_ble_eq_true rfl) dX5_valuesOfGrower_9 ⟨Nat.zero_le _, Nat.zero_le _⟩ ⟨rfl, rfl⟩ (fun H locs hW hS => ?_)
    refine lv_icmp_ge (tgt := 62) hx hb dX5_valuesOfGrower_14 (by decide) (fun c_14 => ?_) (fun c_14 => ?_)
    · skip
      have hq_4 := (ge_i (n := nh) (by omega) hi_4 c_14).symm
      subst hq_4
      refine lv_iload_n hx hb dX5_valuesOfGrower_62 rfl (lv_at hl 1 rfl) ?_
      exact q_iret hx hb hr hlocks hW hS (Nat.le_refl _) (Nat.le_refl _) dX5_valuesOfGrower_63 (⟨rfl, rfl⟩)
    · skip
      have hlt_4 := lt_i (n := nh) (by omega) hi_4 c_14
      refine lv_aload_n hx hb dX5_valuesOfGrower_17 rfl (lv_at hl 2 rfl) ?_
      refine q_getr hx hb hts hown hW (r := 0) (hI.c 0 (by decide)) rfl k_6 1 (by decide) rfl t_138 (a := ad 2) (hI.o0 1 (by decide)) dX5_valuesOfGrower_18 ?_
      refine lv_iload_n hx hb dX5_valuesOfGrower_21 rfl (lv_at hl 0 rfl) ?_
      refine q_cFrE (n := 1) (As := [.int (nI i)]) (rest := []) (r := 2) hx hb hml hts hown hE h0 hW hS hE.2.2.1 (c_get l hI.lh (i := i) hlt_4) t_191 t_189 t_187 t_49 (by decide) (by decide +kernel) (hI.c 2 (by decide)) rfl k_0 t_184 ⟨Nat.le_of_ble_eq_true rfl, Nat.le_of_ble_eq_true rfl⟩ rfl hl.1 (Nat.le_of_ble_eq_true rfl) dX5_valuesOfGrower_22 ⟨Nat.zero_le _, Nat.zero_le _⟩ ⟨rfl, rfl⟩ (fun H locs hW hS => ?_)
      refine q_castS hx hb hts hown hW (r := (60 + i)) (hI.mh hlt_4) (hI.kh hlt_4) k_2 t_207 dX5_valuesOfGrower_27 ?_
      refine q_get hx hb hts hown hW (r := (60 + i)) (hI.mh hlt_4) (hI.kh hlt_4) k_2 0 (by decide) rfl t_551 (x := (v (60 + i) 0)) rfl dX5_valuesOfGrower_30 ?_
      refine lv_iload_n hx hb dX5_valuesOfGrower_33 rfl (lv_at hl 3 rfl) ?_
      refine lv_icmp_ne (tgt := 56) hx hb dX5_valuesOfGrower_34 (by decide) (fun c_34 => ?_) (fun c_34 => ?_)
      · skip
        refine lv_iinc (v := (nI (i + 1))) (lv' := [(3, .int (nI (i + 1))), (2, .int (sumI (fun h => if v (60 + h) 0 = nI g then hVal v h else 0) i)), (0, .ref (ad 0)), (1, .int (nI g))]) hx hb dX5_valuesOfGrower_56 hl (k := 0) rfl (inc_nI _) (by decide) rfl (fun ls hl => ?_)
        refine lv_goto (tgt := 4) hx hb dX5_valuesOfGrower_59 (by decide) ?_
        exact ih_4 (i + 1) _ _   _ H locs ls (by omega) (by omega) (by first | (simp [sumI, c_34]; done) | (simp only [sumI]; rw [if_neg c_34, Int32.add_zero])) (by rfl) (by rfl)  hW hS (lv_sub hl [0, 1, 2, 3] rfl)
      · skip
        refine lv_iload_n hx hb dX5_valuesOfGrower_37 rfl (lv_at hl 1 rfl) ?_
        refine lv_aload_n hx hb dX5_valuesOfGrower_38 rfl (lv_at hl 2 rfl) ?_
        refine q_getr hx hb hts hown hW (r := 0) (hI.c 0 (by decide)) rfl k_6 1 (by decide) rfl t_138 (a := ad 2) (hI.o0 1 (by decide)) dX5_valuesOfGrower_39 ?_
        refine lv_iload_n hx hb dX5_valuesOfGrower_42 rfl (lv_at hl 0 rfl) ?_
        refine q_cFrE (n := 1) (As := [.int (nI i)]) (rest := [.int (sumI (fun h => if v (60 + h) 0 = nI g then hVal v h else 0) i)]) (r := 2) hx hb hml hts hown hE h0 hW hS hE.2.2.1 (c_get l hI.lh (i := i) hlt_4) t_191 t_189 t_187 t_49 (by decide) (by decide +kernel) (hI.c 2 (by decide)) rfl k_0 t_184 ⟨Nat.le_of_ble_eq_true rfl, Nat.le_of_ble_eq_true rfl⟩ rfl hl.1 (Nat.le_of_ble_eq_true rfl) dX5_valuesOfGrower_43 ⟨Nat.zero_le _, Nat.zero_le _⟩ ⟨rfl, rfl⟩ (fun H locs hW hS => ?_)
        refine q_castS hx hb hts hown hW (r := (60 + i)) (hI.mh hlt_4) (hI.kh hlt_4) k_2 t_207 dX5_valuesOfGrower_48 ?_
        refine q_cViE (As := []) (rest := [.int (sumI (fun h => if v (60 + h) 0 = nI g then hVal v h else 0) i)]) (r := (60 + i)) hx hb hml hts hown hE h0 hW hS (c_X1_values l hI hlt_4) mw_X1_values (hI.mh hlt_4) (hI.kh hlt_4) k_2 t_208 ⟨Nat.le_of_ble_eq_true rfl, Nat.le_of_ble_eq_true rfl⟩ rfl hl.1 (Nat.le_of_ble_eq_true rfl) dX5_valuesOfGrower_51 ⟨Nat.zero_le _, Nat.zero_le _⟩ ⟨rfl, rfl⟩ (fun H locs hW hS => ?_)
        refine lv_iadd hx hb dX5_valuesOfGrower_54 ?_
        refine lv_istore_n (lv' := [(2, .int ((sumI (fun h => if v (60 + h) 0 = nI g then hVal v h else 0) i) + (hVal v i))), (3, .int (nI i)), (0, .ref (ad 0)), (1, .int (nI g))]) hx hb dX5_valuesOfGrower_55 rfl hl (by decide) rfl (fun ls hl => ?_)
        refine lv_iinc (v := (nI (i + 1))) (lv' := [(3, .int (nI (i + 1))), (2, .int ((sumI (fun h => if v (60 + h) 0 = nI g then hVal v h else 0) i) + (hVal v i))), (0, .ref (ad 0)), (1, .int (nI g))]) hx hb dX5_valuesOfGrower_56 hl (k := 1) rfl (inc_nI _) (by decide) rfl (fun ls hl => ?_)
        refine lv_goto (tgt := 4) hx hb dX5_valuesOfGrower_59 (by decide) ?_
        exact ih_4 (i + 1) _ _   _ H locs ls (by omega) (by omega) (by first | (simp [sumI, c_34]; done) | (simp only [sumI]; rw [if_neg c_34, Int32.add_zero])) (by rfl) (by rfl)  hW hS (lv_sub hl [0, 1, 2, 3] rfl)

set_option maxHeartbeats 4000000 in
set_option maxRecDepth 100000 in
theorem c_X5_lostOfGrower (l : Launch) {G : GG} {L : List Nat} {ad : Nat → Nat} {v : Nat → Nat → Int32} {o : Nat → Nat → Option Nat} {w : Nat → Int64} {ng nh nl ns : Nat} {ow gx gy gw gd : Nat → Nat} (hI : PI G.2.2.2 L ad v o ng nh nl ns ow gx gy gw gd) {g : Nat} : CtI l G L ad v o w yX5_lostOfGrower cX5_lostOfGrower 4 .int ({ frames := 4, cells := 0, slots := 0, locals := 100 }) [.ref (ad 0), .int (nI g)] (fun r u => r = gLost v gx gy gw gd nh (nI g) ∧ u = v) := by
  have hb6 := hI.g6; have hb12 := hI.h12; have hbl := hI.l6; have hbs := hI.s30
  refine q_ofI (by decide) (Nat.le_of_ble_eq_true rfl) ?_
  intro p e s m below meth c hx hb hr hml hts hown hlocks hE h0 hW hS ls hl
  generalize hH : s.heap = H at hW
  have hS : va_S (Ab G.2.2.1) s.heap H [] := hH ▸ hS
  obtain ⟨locs, hlc⟩ : ∃ z : List Loc, z = [] := ⟨_, rfl⟩
  rw [← hlc] at hS ⊢
  have hl : lv_has ls 4 [(0, .ref (ad 0)), (1, .int (nI g))] := hl
  refine lv_iconst (v := 0) hx hb dX5_lostOfGrower_0 (by decide) ?_
  refine lv_istore_n (lv' := [(2, .int 0), (0, .ref (ad 0)), (1, .int (nI g))]) hx hb dX5_lostOfGrower_1 rfl hl (by decide) rfl (fun ls hl => ?_)
  refine lv_iconst (v := 0) hx hb dX5_lostOfGrower_2 (by decide) ?_
  refine lv_istore_n (lv' := [(3, .int 0), (2, .int 0), (0, .ref (ad 0)), (1, .int (nI g))]) hx hb dX5_lostOfGrower_3 rfl hl (by decide) rfl (fun ls hl => ?_)
  suffices LP_4 : ∀ (n_4 i : Nat) (x2_4 : Int32) (x3_4 : Int32)  (u_4 : Nat → Nat → Int32) (H : Heap) (locs : List Loc) (ls : Array Slot), nh + 1 ≤ i + n_4 → i ≤ nh → sumI (fun h => if v (60 + h) 0 = nI g then hLost v gx gy gw gd h else 0) i = x2_4 → nI i = x3_4 → v = u_4 → WD G L ad u_4 o w s H → va_S (Ab G.2.2.1) s.heap H locs → lv_has ls 4 [(3, .int x3_4), (2, .int x2_4), (0, .ref (ad 0)), (1, .int (nI g))] → W p l e ({ frames := 4, cells := 0, slots := 0, locals := 100 } : Room) s m ([.ref (ad 0), .int (nI g)] : List Value).toArray below meth c H locs 0 0 (MQ below (va_Qi (fun r u => r = gLost v gx gy gw gd nh (nI g) ∧ u = v) (fun u t => WD G L ad u o w t t.heap) (Ab G.2.2.1)) ([.ref (ad 0), .int (nI g)] : List Value).toArray s ({ frames := 4, cells := 0, slots := 0, locals := 100 } : Room).cells ({ frames := 4, cells := 0, slots := 0, locals := 100 } : Room).slots (Ab G.2.2.1)) (F0 m 4 ls []) from LP_4 (nh + 1) 0 _ _   _ H locs ls (by omega) (by omega) (by rfl) (by rfl) (by rfl)  hW hS (lv_sub hl [0, 1, 2, 3] rfl)
  intro n_4
  induction n_4 with
  | zero => intro i x2_4 x3_4  u_4 H locs ls h1 h2; exact absurd h1 (by omega)
  | succ n_4 ih_4 =>
    intro i x2_4 x3_4  u_4 H locs ls hn_4 hi_4 ex2_4 ex3_4 eu_4  hW hS hl
    subst ex2_4
    subst ex3_4
    subst eu_4
    refine lv_iload_n hx hb dX5_lostOfGrower_4 rfl (lv_at hl 0 rfl) ?_
    refine lv_aload_n hx hb dX5_lostOfGrower_5 rfl (lv_at hl 2 rfl) ?_
    refine q_getr hx hb hts hown hW (r := 0) (hI.c 0 (by decide)) rfl k_6 1 (by decide) rfl t_138 (a := ad 2) (hI.o0 1 (by decide)) dX5_lostOfGrower_6 ?_
    refine q_cFiE (As := []) (rest := [.int (nI i)]) (r := 2) hx hb hml hts hown hE h0 hW hS hE.2.1 (c_size l hI.lh) t_178 t_176 t_174 t_49 (by decide) (by decide +kernel) (hI.c 2 (by decide)) rfl k_0 t_170 ⟨Nat.le_of_ble_eq_true rfl, Nat.le_of_ble_eq_true rfl⟩ rfl hl.1 (Nat.le_of_ble_eq_true rfl) dX5_lostOfGrower_9 ⟨Nat.zero_le _, Nat.zero_le _⟩ ⟨rfl, rfl⟩ (fun H locs hW hS => ?_)
    refine lv_icmp_ge (tgt := 63) hx hb dX5_lostOfGrower_14 (by decide) (fun c_14 => ?_) (fun c_14 => ?_)
    · skip
      have hq_4 := (ge_i (n := nh) (by omega) hi_4 c_14).symm
      subst hq_4
      refine lv_iload_n hx hb dX5_lostOfGrower_63 rfl (lv_at hl 1 rfl) ?_
      exact q_iret hx hb hr hlocks hW hS (Nat.le_refl _) (Nat.le_refl _) dX5_lostOfGrower_64 (⟨rfl, rfl⟩)
    · skip
      have hlt_4 := lt_i (n := nh) (by omega) hi_4 c_14
      refine lv_aload_n hx hb dX5_lostOfGrower_17 rfl (lv_at hl 2 rfl) ?_
      refine q_getr hx hb hts hown hW (r := 0) (hI.c 0 (by decide)) rfl k_6 1 (by decide) rfl t_138 (a := ad 2) (hI.o0 1 (by decide)) dX5_lostOfGrower_18 ?_
      refine lv_iload_n hx hb dX5_lostOfGrower_21 rfl (lv_at hl 0 rfl) ?_
      refine q_cFrE (n := 1) (As := [.int (nI i)]) (rest := []) (r := 2) hx hb hml hts hown hE h0 hW hS hE.2.2.1 (c_get l hI.lh (i := i) hlt_4) t_191 t_189 t_187 t_49 (by decide) (by decide +kernel) (hI.c 2 (by decide)) rfl k_0 t_184 ⟨Nat.le_of_ble_eq_true rfl, Nat.le_of_ble_eq_true rfl⟩ rfl hl.1 (Nat.le_of_ble_eq_true rfl) dX5_lostOfGrower_22 ⟨Nat.zero_le _, Nat.zero_le _⟩ ⟨rfl, rfl⟩ (fun H locs hW hS => ?_)
      refine q_castS hx hb hts hown hW (r := (60 + i)) (hI.mh hlt_4) (hI.kh hlt_4) k_2 t_207 dX5_lostOfGrower_27 ?_
      refine q_get hx hb hts hown hW (r := (60 + i)) (hI.mh hlt_4) (hI.kh hlt_4) k_2 0 (by decide) rfl t_551 (x := (v (60 + i) 0)) rfl dX5_lostOfGrower_30 ?_
      refine lv_iload_n hx hb dX5_lostOfGrower_33 rfl (lv_at hl 3 rfl) ?_
      refine lv_icmp_ne (tgt := 57) hx hb dX5_lostOfGrower_34 (by decide) (fun c_34 => ?_) (fun c_34 => ?_)
      · skip
        refine lv_iinc (v := (nI (i + 1))) (lv' := [(3, .int (nI (i + 1))), (2, .int (sumI (fun h => if v (60 + h) 0 = nI g then hLost v gx gy gw gd h else 0) i)), (0, .ref (ad 0)), (1, .int (nI g))]) hx hb dX5_lostOfGrower_57 hl (k := 0) rfl (inc_nI _) (by decide) rfl (fun ls hl => ?_)
        refine lv_goto (tgt := 4) hx hb dX5_lostOfGrower_60 (by decide) ?_
        exact ih_4 (i + 1) _ _   _ H locs ls (by omega) (by omega) (by first | (simp [sumI, c_34]; done) | (simp only [sumI]; rw [if_neg c_34, Int32.add_zero])) (by rfl) (by rfl)  hW hS (lv_sub hl [0, 1, 2, 3] rfl)
      · skip
        refine lv_iload_n hx hb dX5_lostOfGrower_37 rfl (lv_at hl 1 rfl) ?_
        refine lv_aload_n hx hb dX5_lostOfGrower_38 rfl (lv_at hl 2 rfl) ?_
        refine lv_aload_n hx hb dX5_lostOfGrower_39 rfl (lv_at hl 2 rfl) ?_
        refine q_getr hx hb hts hown hW (r := 0) (hI.c 0 (by decide)) rfl k_6 1 (by decide) rfl t_138 (a := ad 2) (hI.o0 1 (by decide)) dX5_lostOfGrower_40 ?_
        refine lv_iload_n hx hb dX5_lostOfGrower_43 rfl (lv_at hl 0 rfl) ?_
        refine q_cFrE (n := 1) (As := [.int (nI i)]) (rest := [.ref (ad 0), .int (sumI (fun h => if v (60 + h) 0 = nI g then hLost v gx gy gw gd h else 0) i)]) (r := 2) hx hb hml hts hown hE h0 hW hS hE.2.2.1 (c_get l hI.lh (i := i) hlt_4) t_191 t_189 t_187 t_49 (by decide) (by decide +kernel) (hI.c 2 (by decide)) rfl k_0 t_184 ⟨Nat.le_of_ble_eq_true rfl, Nat.le_of_ble_eq_true rfl⟩ rfl hl.1 (Nat.le_of_ble_eq_true rfl) dX5_lostOfGrower_44 ⟨Nat.zero_le _, Nat.zero_le _⟩ ⟨rfl, rfl⟩ (fun H locs hW hS => ?_)
        refine q_castS hx hb hts hown hW (r := (60 + i)) (hI.mh hlt_4) (hI.kh hlt_4) k_2 t_207 dX5_lostOfGrower_49 ?_
        refine q_cViE (As := [.ref (ad (60 + i))]) (rest := [.int (sumI (fun h => if v (60 + h) 0 = nI g then hLost v gx gy gw gd h else 0) i)]) (r := 0) hx hb hml hts hown hE h0 hW hS (c_X5_lostOfHouse l hI hlt_4) mw_X5_lostOfHouse (hI.c 0 (by decide)) rfl k_6 t_244 ⟨Nat.le_of_ble_eq_true rfl, Nat.le_of_ble_eq_true rfl⟩ rfl hl.1 (Nat.le_of_ble_eq_true rfl) dX5_lostOfGrower_52 ⟨Nat.zero_le _, Nat.zero_le _⟩ ⟨rfl, rfl⟩ (fun H locs hW hS => ?_)
        refine lv_iadd hx hb dX5_lostOfGrower_55 ?_
        refine lv_istore_n (lv' := [(2, .int ((sumI (fun h => if v (60 + h) 0 = nI g then hLost v gx gy gw gd h else 0) i) + (hLost v gx gy gw gd i))), (3, .int (nI i)), (0, .ref (ad 0)), (1, .int (nI g))]) hx hb dX5_lostOfGrower_56 rfl hl (by decide) rfl (fun ls hl => ?_)
        refine lv_iinc (v := (nI (i + 1))) (lv' := [(3, .int (nI (i + 1))), (2, .int ((sumI (fun h => if v (60 + h) 0 = nI g then hLost v gx gy gw gd h else 0) i) + (hLost v gx gy gw gd i))), (0, .ref (ad 0)), (1, .int (nI g))]) hx hb dX5_lostOfGrower_57 hl (k := 1) rfl (inc_nI _) (by decide) rfl (fun ls hl => ?_)
        refine lv_goto (tgt := 4) hx hb dX5_lostOfGrower_60 (by decide) ?_
        exact ih_4 (i + 1) _ _   _ H locs ls (by omega) (by omega) (by first | (simp [sumI, c_34]; done) | (simp only [sumI]; rw [if_neg c_34, Int32.add_zero])) (by rfl) (by rfl)  hW hS (lv_sub hl [0, 1, 2, 3] rfl)

set_option maxHeartbeats 4000000 in
set_option maxRecDepth 100000 in
theorem c_X5_tellGrower (l : Launch) {G : GG} {L : List Nat} {ad : Nat → Nat} {v : Nat → Nat → Int32} {o : Nat → Nat → Option Nat} {w : Nat → Int64} {ng nh nl ns : Nat} {ow gx gy gw gd : Nat → Nat} (hI : PI G.2.2.2 L ad v o ng nh nl ns ow gx gy gw gd) {g : Nat} (hg : g < ng) {what : Nat} (hw9 : what < 10) : CtI l G L ad v o w yX5_tellGrower cX5_tellGrower 4 .int ({ frames := 5, cells := 0, slots := 0, locals := 123 }) [.ref (ad 0), .int (nI g), .int (nI what)] (fun r u => r = tGr v gx gy gw gd nh g what ∧ u = v) := by
  have hb6 := hI.g6; have hb12 := hI.h12; have hbl := hI.l6; have hbs := hI.s30
  refine q_ofI (by decide) (Nat.le_of_ble_eq_true rfl) ?_
  intro p e s m below meth c hx hb hr hml hts hown hlocks hE h0 hW hS ls hl
  generalize hH : s.heap = H at hW
  have hS : va_S (Ab G.2.2.1) s.heap H [] := hH ▸ hS
  obtain ⟨locs, hlc⟩ : ∃ z : List Loc, z = [] := ⟨_, rfl⟩
  rw [← hlc] at hS ⊢
  have hl : lv_has ls 4 [(0, .ref (ad 0)), (1, .int (nI g)), (2, .int (nI what))] := hl
  refine lv_aload_n hx hb dX5_tellGrower_0 rfl (lv_at hl 0 rfl) ?_
  refine q_getr hx hb hts hown hW (r := 0) (hI.c 0 (by decide)) rfl k_6 0 (by decide) rfl t_137 (a := ad 1) (hI.o0 0 (by decide)) dX5_tellGrower_1 ?_
  refine lv_iload_n hx hb dX5_tellGrower_4 rfl (lv_at hl 1 rfl) ?_
  refine q_cFrE (n := 1) (As := [.int (nI g)]) (rest := []) (r := 1) hx hb hml hts hown hE h0 hW hS hE.2.2.1 (c_get l hI.lg (i := g) hg) t_191 t_189 t_187 t_49 (by decide) (by decide +kernel) (hI.c 1 (by decide)) rfl k_0 t_184 ⟨Nat.le_of_ble_eq_true rfl, Nat.le_of_ble_eq_true rfl⟩ rfl hl.1 (Nat.le_of_ble_eq_true rfl) dX5_tellGrower_5 ⟨Nat.zero_le _, Nat.zero_le _⟩ ⟨rfl, rfl⟩ (fun H locs hW hS => ?_)
  refine q_castS hx hb hts hown hW (r := (50 + g)) (hI.mg hg) (hI.kg hg) k_1 t_202 dX5_tellGrower_10 ?_
  refine lv_astore_n (lv' := [(3, .ref (ad (50 + g))), (0, .ref (ad 0)), (1, .int (nI g)), (2, .int (nI what))]) hx hb dX5_tellGrower_13 rfl hl (by decide) rfl (fun ls hl => ?_)
  refine lv_iload_n hx hb dX5_tellGrower_14 rfl (lv_at hl 3 rfl) ?_
  rcases (show what = 0 ∨ what = 1 ∨ what = 2 ∨ what = 3 ∨ what = 4 ∨ what = 5 ∨ what = 6 ∨ what = 7 ∨ what = 8 ∨ what = 9 by omega) with hsw | hsw | hsw | hsw | hsw | hsw | hsw | hsw | hsw | hsw
  · skip
    subst hsw
    refine lv_tableIn (off := 49) (tgt := 64) hx hb dX5_tellGrower_15 (by decide) (by decide) (by decide) (by decide) ?_
    refine lv_aload_n hx hb dX5_tellGrower_64 rfl (lv_at hl 0 rfl) ?_
    refine q_get hx hb hts hown hW (r := (50 + g)) (hI.mg hg) (hI.kg hg) k_1 0 (by decide) rfl t_411 (x := (v (50 + g) 0)) rfl dX5_tellGrower_65 ?_
    exact q_iret hx hb hr hlocks hW hS (Nat.le_refl _) (Nat.le_refl _) dX5_tellGrower_68 (⟨rfl, rfl⟩)
  · skip
    subst hsw
    refine lv_tableIn (off := 54) (tgt := 69) hx hb dX5_tellGrower_15 (by decide) (by decide) (by decide) (by decide) ?_
    refine lv_aload_n hx hb dX5_tellGrower_69 rfl (lv_at hl 0 rfl) ?_
    refine q_get hx hb hts hown hW (r := (50 + g)) (hI.mg hg) (hI.kg hg) k_1 2 (by decide) rfl t_415 (x := (v (50 + g) 2)) rfl dX5_tellGrower_70 ?_
    exact q_iret hx hb hr hlocks hW hS (Nat.le_refl _) (Nat.le_refl _) dX5_tellGrower_73 (⟨rfl, rfl⟩)
  · skip
    subst hsw
    refine lv_tableIn (off := 59) (tgt := 74) hx hb dX5_tellGrower_15 (by decide) (by decide) (by decide) (by decide) ?_
    refine lv_aload_n hx hb dX5_tellGrower_74 rfl (lv_at hl 0 rfl) ?_
    refine q_get hx hb hts hown hW (r := (50 + g)) (hI.mg hg) (hI.kg hg) k_1 3 (by decide) rfl t_417 (x := (v (50 + g) 3)) rfl dX5_tellGrower_75 ?_
    exact q_iret hx hb hr hlocks hW hS (Nat.le_refl _) (Nat.le_refl _) dX5_tellGrower_78 (⟨rfl, rfl⟩)
  · skip
    subst hsw
    refine lv_tableIn (off := 64) (tgt := 79) hx hb dX5_tellGrower_15 (by decide) (by decide) (by decide) (by decide) ?_
    refine lv_aload_n hx hb dX5_tellGrower_79 rfl (lv_at hl 0 rfl) ?_
    refine q_get hx hb hts hown hW (r := (50 + g)) (hI.mg hg) (hI.kg hg) k_1 4 (by decide) rfl t_419 (x := (v (50 + g) 4)) rfl dX5_tellGrower_80 ?_
    exact q_iret hx hb hr hlocks hW hS (Nat.le_refl _) (Nat.le_refl _) dX5_tellGrower_83 (⟨rfl, rfl⟩)
  · skip
    subst hsw
    refine lv_tableIn (off := 69) (tgt := 84) hx hb dX5_tellGrower_15 (by decide) (by decide) (by decide) (by decide) ?_
    refine lv_aload_n hx hb dX5_tellGrower_84 rfl (lv_at hl 0 rfl) ?_
    refine q_get hx hb hts hown hW (r := (50 + g)) (hI.mg hg) (hI.kg hg) k_1 5 (by decide) rfl t_421 (x := (v (50 + g) 5)) rfl dX5_tellGrower_85 ?_
    exact q_iret hx hb hr hlocks hW hS (Nat.le_refl _) (Nat.le_refl _) dX5_tellGrower_88 (⟨rfl, rfl⟩)
  · skip
    subst hsw
    refine lv_tableIn (off := 74) (tgt := 89) hx hb dX5_tellGrower_15 (by decide) (by decide) (by decide) (by decide) ?_
    refine lv_aload_n hx hb dX5_tellGrower_89 rfl (lv_at hl 0 rfl) ?_
    refine q_get hx hb hts hown hW (r := (50 + g)) (hI.mg hg) (hI.kg hg) k_1 6 (by decide) rfl t_423 (x := (v (50 + g) 6)) rfl dX5_tellGrower_90 ?_
    exact q_iret hx hb hr hlocks hW hS (Nat.le_refl _) (Nat.le_refl _) dX5_tellGrower_93 (⟨rfl, rfl⟩)
  · skip
    subst hsw
    refine lv_tableIn (off := 79) (tgt := 94) hx hb dX5_tellGrower_15 (by decide) (by decide) (by decide) (by decide) ?_
    refine lv_aload_n hx hb dX5_tellGrower_94 rfl (lv_at hl 0 rfl) ?_
    refine q_get hx hb hts hown hW (r := (50 + g)) (hI.mg hg) (hI.kg hg) k_1 7 (by decide) rfl t_424 (x := (v (50 + g) 7)) rfl dX5_tellGrower_95 ?_
    exact q_iret hx hb hr hlocks hW hS (Nat.le_refl _) (Nat.le_refl _) dX5_tellGrower_98 (⟨rfl, rfl⟩)
  · skip
    subst hsw
    refine lv_tableIn (off := 84) (tgt := 99) hx hb dX5_tellGrower_15 (by decide) (by decide) (by decide) (by decide) ?_
    refine lv_aload_n hx hb dX5_tellGrower_99 rfl (lv_at hl 1 rfl) ?_
    refine lv_iload_n hx hb dX5_tellGrower_100 rfl (lv_at hl 2 rfl) ?_
    refine q_cViE (As := [.int (nI g)]) (rest := []) (r := 0) hx hb hml hts hown hE h0 hW hS (c_X5_housesOfGrower l hI) mw_X5_housesOfGrower (hI.c 0 (by decide)) rfl k_6 t_289 ⟨Nat.le_of_ble_eq_true rfl, Nat.le_of_ble_eq_true rfl⟩ rfl hl.1 (Nat.le_of_ble_eq_true rfl) dX5_tellGrower_101 ⟨Nat.zero_le _, Nat.zero_le _⟩ ⟨rfl, rfl⟩ (fun H locs hW hS => ?_)
    exact q_iret hx hb hr hlocks hW hS (Nat.le_refl _) (Nat.le_refl _) dX5_tellGrower_104 (⟨rfl, rfl⟩)
  · skip
    subst hsw
    refine lv_tableIn (off := 90) (tgt := 105) hx hb dX5_tellGrower_15 (by decide) (by decide) (by decide) (by decide) ?_
    refine lv_aload_n hx hb dX5_tellGrower_105 rfl (lv_at hl 1 rfl) ?_
    refine lv_iload_n hx hb dX5_tellGrower_106 rfl (lv_at hl 2 rfl) ?_
    refine q_cViE (As := [.int (nI g)]) (rest := []) (r := 0) hx hb hml hts hown hE h0 hW hS (c_X5_valuesOfGrower l hI) mw_X5_valuesOfGrower (hI.c 0 (by decide)) rfl k_6 t_203 ⟨Nat.le_of_ble_eq_true rfl, Nat.le_of_ble_eq_true rfl⟩ rfl hl.1 (Nat.le_of_ble_eq_true rfl) dX5_tellGrower_107 ⟨Nat.zero_le _, Nat.zero_le _⟩ ⟨rfl, rfl⟩ (fun H locs hW hS => ?_)
    exact q_iret hx hb hr hlocks hW hS (Nat.le_refl _) (Nat.le_refl _) dX5_tellGrower_110 (⟨rfl, rfl⟩)
  · skip
    subst hsw
    refine lv_tableOut (tgt := 111) hx hb dX5_tellGrower_15 (by decide) (by decide) ?_
    refine lv_aload_n hx hb dX5_tellGrower_111 rfl (lv_at hl 1 rfl) ?_
    refine lv_iload_n hx hb dX5_tellGrower_112 rfl (lv_at hl 2 rfl) ?_
    refine q_cViE (As := [.int (nI g)]) (rest := []) (r := 0) hx hb hml hts hown hE h0 hW hS (c_X5_lostOfGrower l hI) mw_X5_lostOfGrower (hI.c 0 (by decide)) rfl k_6 t_293 ⟨Nat.le_of_ble_eq_true rfl, Nat.le_of_ble_eq_true rfl⟩ rfl hl.1 (Nat.le_of_ble_eq_true rfl) dX5_tellGrower_113 ⟨Nat.zero_le _, Nat.zero_le _⟩ ⟨rfl, rfl⟩ (fun H locs hW hS => ?_)
    exact q_iret hx hb hr hlocks hW hS (Nat.le_refl _) (Nat.le_refl _) dX5_tellGrower_116 (⟨rfl, rfl⟩)

set_option maxHeartbeats 4000000 in
set_option maxRecDepth 100000 in
theorem c_X5_tellHouse (l : Launch) {G : GG} {L : List Nat} {ad : Nat → Nat} {v : Nat → Nat → Int32} {o : Nat → Nat → Option Nat} {w : Nat → Int64} {ng nh nl ns : Nat} {ow gx gy gw gd : Nat → Nat} (hI : PI G.2.2.2 L ad v o ng nh nl ns ow gx gy gw gd) {h : Nat} (hh : h < nh) {what : Nat} (hw9 : what < 11) : CtI l G L ad v o w yX5_tellHouse cX5_tellHouse 3 .int ({ frames := 3, cells := 0, slots := 0, locals := 67 }) [.ref (ad 0), .ref (ad (60 + h)), .int (nI what)] (fun r u => r = tHo v gx gy gw gd h what ∧ u = v) := by
  have hb6 := hI.g6; have hb12 := hI.h12; have hbl := hI.l6; have hbs := hI.s30
  refine q_ofI (by decide) (Nat.le_of_ble_eq_true rfl) ?_
  intro p e s m below meth c hx hb hr hml hts hown hlocks hE h0 hW hS ls hl
  generalize hH : s.heap = H at hW
  have hS : va_S (Ab G.2.2.1) s.heap H [] := hH ▸ hS
  obtain ⟨locs, hlc⟩ : ∃ z : List Loc, z = [] := ⟨_, rfl⟩
  rw [← hlc] at hS ⊢
  have hl : lv_has ls 3 [(0, .ref (ad 0)), (1, .ref (ad (60 + h))), (2, .int (nI what))] := hl
  refine lv_iload_n hx hb dX5_tellHouse_0 rfl (lv_at hl 2 rfl) ?_
  rcases (show what = 0 ∨ what = 1 ∨ what = 2 ∨ what = 3 ∨ what = 4 ∨ what = 5 ∨ what = 6 ∨ what = 7 ∨ what = 8 ∨ what = 9 ∨ what = 10 by omega) with hsw | hsw | hsw | hsw | hsw | hsw | hsw | hsw | hsw | hsw | hsw
  · skip
    subst hsw
    refine lv_tableIn (off := 55) (tgt := 56) hx hb dX5_tellHouse_1 (by decide) (by decide) (by decide) (by decide) ?_
    refine lv_aload_n hx hb dX5_tellHouse_56 rfl (lv_at hl 1 rfl) ?_
    refine q_get hx hb hts hown hW (r := (60 + h)) (hI.mh hh) (hI.kh hh) k_2 0 (by decide) rfl t_551 (x := (v (60 + h) 0)) rfl dX5_tellHouse_57 ?_
    exact q_iret hx hb hr hlocks hW hS (Nat.le_refl _) (Nat.le_refl _) dX5_tellHouse_60 (⟨rfl, rfl⟩)
  · skip
    subst hsw
    refine lv_tableIn (off := 60) (tgt := 61) hx hb dX5_tellHouse_1 (by decide) (by decide) (by decide) (by decide) ?_
    refine lv_aload_n hx hb dX5_tellHouse_61 rfl (lv_at hl 1 rfl) ?_
    refine q_get hx hb hts hown hW (r := (60 + h)) (hI.mh hh) (hI.kh hh) k_2 1 (by decide) rfl t_553 (x := (v (60 + h) 1)) rfl dX5_tellHouse_62 ?_
    exact q_iret hx hb hr hlocks hW hS (Nat.le_refl _) (Nat.le_refl _) dX5_tellHouse_65 (⟨rfl, rfl⟩)
  · skip
    subst hsw
    refine lv_tableIn (off := 65) (tgt := 66) hx hb dX5_tellHouse_1 (by decide) (by decide) (by decide) (by decide) ?_
    refine lv_aload_n hx hb dX5_tellHouse_66 rfl (lv_at hl 1 rfl) ?_
    refine q_get hx hb hts hown hW (r := (60 + h)) (hI.mh hh) (hI.kh hh) k_2 2 (by decide) rfl t_555 (x := (v (60 + h) 2)) rfl dX5_tellHouse_67 ?_
    exact q_iret hx hb hr hlocks hW hS (Nat.le_refl _) (Nat.le_refl _) dX5_tellHouse_70 (⟨rfl, rfl⟩)
  · skip
    subst hsw
    refine lv_tableIn (off := 70) (tgt := 71) hx hb dX5_tellHouse_1 (by decide) (by decide) (by decide) (by decide) ?_
    refine lv_aload_n hx hb dX5_tellHouse_71 rfl (lv_at hl 1 rfl) ?_
    refine q_get hx hb hts hown hW (r := (60 + h)) (hI.mh hh) (hI.kh hh) k_2 3 (by decide) rfl t_557 (x := (v (60 + h) 3)) rfl dX5_tellHouse_72 ?_
    exact q_iret hx hb hr hlocks hW hS (Nat.le_refl _) (Nat.le_refl _) dX5_tellHouse_75 (⟨rfl, rfl⟩)
  · skip
    subst hsw
    refine lv_tableIn (off := 75) (tgt := 76) hx hb dX5_tellHouse_1 (by decide) (by decide) (by decide) (by decide) ?_
    refine lv_aload_n hx hb dX5_tellHouse_76 rfl (lv_at hl 1 rfl) ?_
    refine q_get hx hb hts hown hW (r := (60 + h)) (hI.mh hh) (hI.kh hh) k_2 4 (by decide) rfl t_559 (x := (v (60 + h) 4)) rfl dX5_tellHouse_77 ?_
    exact q_iret hx hb hr hlocks hW hS (Nat.le_refl _) (Nat.le_refl _) dX5_tellHouse_80 (⟨rfl, rfl⟩)
  · skip
    subst hsw
    refine lv_tableIn (off := 80) (tgt := 81) hx hb dX5_tellHouse_1 (by decide) (by decide) (by decide) (by decide) ?_
    refine lv_aload_n hx hb dX5_tellHouse_81 rfl (lv_at hl 1 rfl) ?_
    refine q_get hx hb hts hown hW (r := (60 + h)) (hI.mh hh) (hI.kh hh) k_2 5 (by decide) rfl t_562 (x := (v (60 + h) 5)) rfl dX5_tellHouse_82 ?_
    exact q_iret hx hb hr hlocks hW hS (Nat.le_refl _) (Nat.le_refl _) dX5_tellHouse_85 (⟨rfl, rfl⟩)
  · skip
    subst hsw
    refine lv_tableIn (off := 85) (tgt := 86) hx hb dX5_tellHouse_1 (by decide) (by decide) (by decide) (by decide) ?_
    refine lv_aload_n hx hb dX5_tellHouse_86 rfl (lv_at hl 1 rfl) ?_
    refine q_get hx hb hts hown hW (r := (60 + h)) (hI.mh hh) (hI.kh hh) k_2 6 (by decide) rfl t_565 (x := (v (60 + h) 6)) rfl dX5_tellHouse_87 ?_
    exact q_iret hx hb hr hlocks hW hS (Nat.le_refl _) (Nat.le_refl _) dX5_tellHouse_90 (⟨rfl, rfl⟩)
  · skip
    subst hsw
    refine lv_tableIn (off := 90) (tgt := 91) hx hb dX5_tellHouse_1 (by decide) (by decide) (by decide) (by decide) ?_
    refine lv_aload_n hx hb dX5_tellHouse_91 rfl (lv_at hl 1 rfl) ?_
    refine q_get hx hb hts hown hW (r := (60 + h)) (hI.mh hh) (hI.kh hh) k_2 7 (by decide) rfl t_566 (x := (v (60 + h) 7)) rfl dX5_tellHouse_92 ?_
    refine lv_if_eq (tgt := 102) hx hb dX5_tellHouse_95 (by decide) (fun c_95 => ?_) (fun c_95 => ?_)
    · skip
      refine lv_iconst (v := 0) hx hb dX5_tellHouse_102 (by decide) ?_
      exact q_iret hx hb hr hlocks hW hS (Nat.le_refl _) (Nat.le_refl _) dX5_tellHouse_103 (⟨by first | rfl | simp [tHo, c_95], rfl⟩)
    · skip
      refine lv_iconst (v := 1) hx hb dX5_tellHouse_98 (by decide) ?_
      refine lv_goto (tgt := 103) hx hb dX5_tellHouse_99 (by decide) ?_
      exact q_iret hx hb hr hlocks hW hS (Nat.le_refl _) (Nat.le_refl _) dX5_tellHouse_103 (⟨by first | rfl | simp [tHo, c_95], rfl⟩)
  · skip
    subst hsw
    refine lv_tableIn (off := 103) (tgt := 104) hx hb dX5_tellHouse_1 (by decide) (by decide) (by decide) (by decide) ?_
    refine lv_aload_n hx hb dX5_tellHouse_104 rfl (lv_at hl 0 rfl) ?_
    refine lv_aload_n hx hb dX5_tellHouse_105 rfl (lv_at hl 1 rfl) ?_
    refine lv_iconst (v := 1) hx hb dX5_tellHouse_106 (by decide) ?_
    refine q_cViE (As := [.ref (ad (60 + h)), .int 1]) (rest := []) (r := 0) hx hb hml hts hown hE h0 hW hS (c_X5_panesOfHouse l hI hh 1) mw_X5_panesOfHouse (hI.c 0 (by decide)) rfl k_6 t_248 ⟨Nat.le_of_ble_eq_true rfl, Nat.le_of_ble_eq_true rfl⟩ rfl hl.1 (Nat.le_of_ble_eq_true rfl) dX5_tellHouse_107 ⟨Nat.zero_le _, Nat.zero_le _⟩ ⟨rfl, rfl⟩ (fun H locs hW hS => ?_)
    exact q_iret hx hb hr hlocks hW hS (Nat.le_refl _) (Nat.le_refl _) dX5_tellHouse_110 (⟨rfl, rfl⟩)
  · skip
    subst hsw
    refine lv_tableIn (off := 110) (tgt := 111) hx hb dX5_tellHouse_1 (by decide) (by decide) (by decide) (by decide) ?_
    refine lv_aload_n hx hb dX5_tellHouse_111 rfl (lv_at hl 0 rfl) ?_
    refine lv_aload_n hx hb dX5_tellHouse_112 rfl (lv_at hl 1 rfl) ?_
    refine lv_iconst (v := 2) hx hb dX5_tellHouse_113 (by decide) ?_
    refine q_cViE (As := [.ref (ad (60 + h)), .int 2]) (rest := []) (r := 0) hx hb hml hts hown hE h0 hW hS (c_X5_panesOfHouse l hI hh 2) mw_X5_panesOfHouse (hI.c 0 (by decide)) rfl k_6 t_248 ⟨Nat.le_of_ble_eq_true rfl, Nat.le_of_ble_eq_true rfl⟩ rfl hl.1 (Nat.le_of_ble_eq_true rfl) dX5_tellHouse_114 ⟨Nat.zero_le _, Nat.zero_le _⟩ ⟨rfl, rfl⟩ (fun H locs hW hS => ?_)
    exact q_iret hx hb hr hlocks hW hS (Nat.le_refl _) (Nat.le_refl _) dX5_tellHouse_117 (⟨rfl, rfl⟩)
  · skip
    subst hsw
    refine lv_tableOut (tgt := 118) hx hb dX5_tellHouse_1 (by decide) (by decide) ?_
    refine lv_aload_n hx hb dX5_tellHouse_118 rfl (lv_at hl 0 rfl) ?_
    refine lv_aload_n hx hb dX5_tellHouse_119 rfl (lv_at hl 1 rfl) ?_
    refine q_cViE (As := [.ref (ad (60 + h))]) (rest := []) (r := 0) hx hb hml hts hown hE h0 hW hS (c_X5_lostOfHouse l hI hh) mw_X5_lostOfHouse (hI.c 0 (by decide)) rfl k_6 t_244 ⟨Nat.le_of_ble_eq_true rfl, Nat.le_of_ble_eq_true rfl⟩ rfl hl.1 (Nat.le_of_ble_eq_true rfl) dX5_tellHouse_120 ⟨Nat.zero_le _, Nat.zero_le _⟩ ⟨rfl, rfl⟩ (fun H locs hW hS => ?_)
    exact q_iret hx hb hr hlocks hW hS (Nat.le_refl _) (Nat.le_refl _) dX5_tellHouse_123 (⟨rfl, rfl⟩)

set_option maxHeartbeats 4000000 in
set_option maxRecDepth 100000 in
theorem c_X5_tellLayer (l : Launch) {G : GG} {L : List Nat} {ad : Nat → Nat} {v : Nat → Nat → Int32} {o : Nat → Nat → Option Nat} {w : Nat → Int64} {ng nh nl ns : Nat} {ow gx gy gw gd : Nat → Nat} (hI : PI G.2.2.2 L ad v o ng nh nl ns ow gx gy gw gd) {k : Nat} (hk : k < nl) {what : Nat} (hw9 : what < 5) : CtI l G L ad v o w yX5_tellLayer cX5_tellLayer 2 .int ({ frames := 0, cells := 0, slots := 0, locals := 0 }) [.ref (ad (80 + k)), .int (nI what)] (fun r u => r = tLa v k what ∧ u = v) := by
  have hb6 := hI.g6; have hb12 := hI.h12; have hbl := hI.l6; have hbs := hI.s30
  refine q_ofI (by decide) (Nat.le_of_ble_eq_true rfl) ?_
  intro p e s m below meth c hx hb hr hml hts hown hlocks hE h0 hW hS ls hl
  generalize hH : s.heap = H at hW
  have hS : va_S (Ab G.2.2.1) s.heap H [] := hH ▸ hS
  obtain ⟨locs, hlc⟩ : ∃ z : List Loc, z = [] := ⟨_, rfl⟩
  rw [← hlc] at hS ⊢
  have hl : lv_has ls 2 [(0, .ref (ad (80 + k))), (1, .int (nI what))] := hl
  refine lv_iload_n hx hb dX5_tellLayer_0 rfl (lv_at hl 1 rfl) ?_
  rcases (show what = 0 ∨ what = 1 ∨ what = 2 ∨ what = 3 ∨ what = 4 by omega) with hsw | hsw | hsw | hsw | hsw
  · skip
    subst hsw
    refine lv_tableIn (off := 31) (tgt := 32) hx hb dX5_tellLayer_1 (by decide) (by decide) (by decide) (by decide) ?_
    refine lv_aload_n hx hb dX5_tellLayer_32 rfl (lv_at hl 0 rfl) ?_
    refine q_get hx hb hts hown hW (r := (80 + k)) (hI.ml hk) (hI.kl hk) k_3 0 (by decide) rfl t_671 (x := (v (80 + k) 0)) rfl dX5_tellLayer_33 ?_
    exact q_iret hx hb hr hlocks hW hS (Nat.le_refl _) (Nat.le_refl _) dX5_tellLayer_36 (⟨rfl, rfl⟩)
  · skip
    subst hsw
    refine lv_tableIn (off := 36) (tgt := 37) hx hb dX5_tellLayer_1 (by decide) (by decide) (by decide) (by decide) ?_
    refine lv_aload_n hx hb dX5_tellLayer_37 rfl (lv_at hl 0 rfl) ?_
    refine q_get hx hb hts hown hW (r := (80 + k)) (hI.ml hk) (hI.kl hk) k_3 1 (by decide) rfl t_673 (x := (v (80 + k) 1)) rfl dX5_tellLayer_38 ?_
    exact q_iret hx hb hr hlocks hW hS (Nat.le_refl _) (Nat.le_refl _) dX5_tellLayer_41 (⟨rfl, rfl⟩)
  · skip
    subst hsw
    refine lv_tableIn (off := 41) (tgt := 42) hx hb dX5_tellLayer_1 (by decide) (by decide) (by decide) (by decide) ?_
    refine lv_aload_n hx hb dX5_tellLayer_42 rfl (lv_at hl 0 rfl) ?_
    refine q_get hx hb hts hown hW (r := (80 + k)) (hI.ml hk) (hI.kl hk) k_3 2 (by decide) rfl t_675 (x := (v (80 + k) 2)) rfl dX5_tellLayer_43 ?_
    exact q_iret hx hb hr hlocks hW hS (Nat.le_refl _) (Nat.le_refl _) dX5_tellLayer_46 (⟨rfl, rfl⟩)
  · skip
    subst hsw
    refine lv_tableIn (off := 46) (tgt := 47) hx hb dX5_tellLayer_1 (by decide) (by decide) (by decide) (by decide) ?_
    refine lv_aload_n hx hb dX5_tellLayer_47 rfl (lv_at hl 0 rfl) ?_
    refine q_get hx hb hts hown hW (r := (80 + k)) (hI.ml hk) (hI.kl hk) k_3 3 (by decide) rfl t_677 (x := (v (80 + k) 3)) rfl dX5_tellLayer_48 ?_
    exact q_iret hx hb hr hlocks hW hS (Nat.le_refl _) (Nat.le_refl _) dX5_tellLayer_51 (⟨rfl, rfl⟩)
  · skip
    subst hsw
    refine lv_tableOut (tgt := 52) hx hb dX5_tellLayer_1 (by decide) (by decide) ?_
    refine lv_aload_n hx hb dX5_tellLayer_52 rfl (lv_at hl 0 rfl) ?_
    refine q_get hx hb hts hown hW (r := (80 + k)) (hI.ml hk) (hI.kl hk) k_3 4 (by decide) rfl t_678 (x := (v (80 + k) 4)) rfl dX5_tellLayer_53 ?_
    exact q_iret hx hb hr hlocks hW hS (Nat.le_refl _) (Nat.le_refl _) dX5_tellLayer_56 (⟨rfl, rfl⟩)

set_option maxHeartbeats 4000000 in
set_option maxRecDepth 100000 in
theorem c_X5_tellCount (l : Launch) {G : GG} {L : List Nat} {ad : Nat → Nat} {v : Nat → Nat → Int32} {o : Nat → Nat → Option Nat} {w : Nat → Int64} {ng nh nl ns : Nat} {ow gx gy gw gd : Nat → Nat} (hI : PI G.2.2.2 L ad v o ng nh nl ns ow gx gy gw gd) {what : Nat} (hw9 : what < 11) : CtI l G L ad v o w yX5_tellCount cX5_tellCount 2 .int ({ frames := 5, cells := 0, slots := 0, locals := 123 }) [.ref (ad 0), .int (nI what)] (fun r u => r = tCo v gx gy gw gd ng nh nl what ∧ u = v) := by
  have hb6 := hI.g6; have hb12 := hI.h12; have hbl := hI.l6; have hbs := hI.s30
  refine q_ofI (by decide) (Nat.le_of_ble_eq_true rfl) ?_
  intro p e s m below meth c hx hb hr hml hts hown hlocks hE h0 hW hS ls hl
  generalize hH : s.heap = H at hW
  have hS : va_S (Ab G.2.2.1) s.heap H [] := hH ▸ hS
  obtain ⟨locs, hlc⟩ : ∃ z : List Loc, z = [] := ⟨_, rfl⟩
  rw [← hlc] at hS ⊢
  have hl : lv_has ls 2 [(0, .ref (ad 0)), (1, .int (nI what))] := hl
  refine lv_iload_n hx hb dX5_tellCount_0 rfl (lv_at hl 1 rfl) ?_
  rcases (show what = 0 ∨ what = 1 ∨ what = 2 ∨ what = 3 ∨ what = 4 ∨ what = 5 ∨ what = 6 ∨ what = 7 ∨ what = 8 ∨ what = 9 ∨ what = 10 by omega) with hsw | hsw | hsw | hsw | hsw | hsw | hsw | hsw | hsw | hsw | hsw
  · skip
    subst hsw
    refine lv_tableIn (off := 55) (tgt := 56) hx hb dX5_tellCount_1 (by decide) (by decide) (by decide) (by decide) ?_
    refine lv_aload_n hx hb dX5_tellCount_56 rfl (lv_at hl 0 rfl) ?_
    refine q_getr hx hb hts hown hW (r := 0) (hI.c 0 (by decide)) rfl k_6 0 (by decide) rfl t_137 (a := ad 1) (hI.o0 0 (by decide)) dX5_tellCount_57 ?_
    refine q_cFiE (As := []) (rest := []) (r := 1) hx hb hml hts hown hE h0 hW hS hE.2.1 (c_size l hI.lg) t_178 t_176 t_174 t_49 (by decide) (by decide +kernel) (hI.c 1 (by decide)) rfl k_0 t_170 ⟨Nat.le_of_ble_eq_true rfl, Nat.le_of_ble_eq_true rfl⟩ rfl hl.1 (Nat.le_of_ble_eq_true rfl) dX5_tellCount_60 ⟨Nat.zero_le _, Nat.zero_le _⟩ ⟨rfl, rfl⟩ (fun H locs hW hS => ?_)
    exact q_iret hx hb hr hlocks hW hS (Nat.le_refl _) (Nat.le_refl _) dX5_tellCount_65 (⟨rfl, rfl⟩)
  · skip
    subst hsw
    refine lv_tableIn (off := 65) (tgt := 66) hx hb dX5_tellCount_1 (by decide) (by decide) (by decide) (by decide) ?_
    refine lv_aload_n hx hb dX5_tellCount_66 rfl (lv_at hl 0 rfl) ?_
    refine q_getr hx hb hts hown hW (r := 0) (hI.c 0 (by decide)) rfl k_6 1 (by decide) rfl t_138 (a := ad 2) (hI.o0 1 (by decide)) dX5_tellCount_67 ?_
    refine q_cFiE (As := []) (rest := []) (r := 2) hx hb hml hts hown hE h0 hW hS hE.2.1 (c_size l hI.lh) t_178 t_176 t_174 t_49 (by decide) (by decide +kernel) (hI.c 2 (by decide)) rfl k_0 t_170 ⟨Nat.le_of_ble_eq_true rfl, Nat.le_of_ble_eq_true rfl⟩ rfl hl.1 (Nat.le_of_ble_eq_true rfl) dX5_tellCount_70 ⟨Nat.zero_le _, Nat.zero_le _⟩ ⟨rfl, rfl⟩ (fun H locs hW hS => ?_)
    exact q_iret hx hb hr hlocks hW hS (Nat.le_refl _) (Nat.le_refl _) dX5_tellCount_75 (⟨rfl, rfl⟩)
  · skip
    subst hsw
    refine lv_tableIn (off := 75) (tgt := 76) hx hb dX5_tellCount_1 (by decide) (by decide) (by decide) (by decide) ?_
    refine lv_aload_n hx hb dX5_tellCount_76 rfl (lv_at hl 0 rfl) ?_
    refine q_getr hx hb hts hown hW (r := 0) (hI.c 0 (by decide)) rfl k_6 2 (by decide) rfl t_139 (a := ad 3) (hI.o0 2 (by decide)) dX5_tellCount_77 ?_
    refine q_cFiE (As := []) (rest := []) (r := 3) hx hb hml hts hown hE h0 hW hS hE.2.1 (c_size l hI.ll) t_178 t_176 t_174 t_49 (by decide) (by decide +kernel) (hI.c 3 (by decide)) rfl k_0 t_170 ⟨Nat.le_of_ble_eq_true rfl, Nat.le_of_ble_eq_true rfl⟩ rfl hl.1 (Nat.le_of_ble_eq_true rfl) dX5_tellCount_80 ⟨Nat.zero_le _, Nat.zero_le _⟩ ⟨rfl, rfl⟩ (fun H locs hW hS => ?_)
    exact q_iret hx hb hr hlocks hW hS (Nat.le_refl _) (Nat.le_refl _) dX5_tellCount_85 (⟨rfl, rfl⟩)
  · skip
    subst hsw
    refine lv_tableIn (off := 85) (tgt := 86) hx hb dX5_tellCount_1 (by decide) (by decide) (by decide) (by decide) ?_
    refine lv_aload_n hx hb dX5_tellCount_86 rfl (lv_at hl 0 rfl) ?_
    refine q_get hx hb hts hown hW (r := 0) (hI.c 0 (by decide)) rfl k_6 6 (by decide) rfl t_143 (x := (v 0 6)) rfl dX5_tellCount_87 ?_
    exact q_iret hx hb hr hlocks hW hS (Nat.le_refl _) (Nat.le_refl _) dX5_tellCount_90 (⟨rfl, rfl⟩)
  · skip
    subst hsw
    refine lv_tableIn (off := 90) (tgt := 91) hx hb dX5_tellCount_1 (by decide) (by decide) (by decide) (by decide) ?_
    refine lv_aload_n hx hb dX5_tellCount_91 rfl (lv_at hl 0 rfl) ?_
    refine q_cViE (As := []) (rest := []) (r := 0) hx hb hml hts hown hE h0 hW hS (c_X5_owedToAll l hI) mw_X5_owedToAll (hI.c 0 (by decide)) rfl k_6 t_269 ⟨Nat.le_of_ble_eq_true rfl, Nat.le_of_ble_eq_true rfl⟩ rfl hl.1 (Nat.le_of_ble_eq_true rfl) dX5_tellCount_92 ⟨Nat.zero_le _, Nat.zero_le _⟩ ⟨rfl, rfl⟩ (fun H locs hW hS => ?_)
    exact q_iret hx hb hr hlocks hW hS (Nat.le_refl _) (Nat.le_refl _) dX5_tellCount_95 (⟨rfl, rfl⟩)
  · skip
    subst hsw
    refine lv_tableIn (off := 95) (tgt := 96) hx hb dX5_tellCount_1 (by decide) (by decide) (by decide) (by decide) ?_
    refine lv_aload_n hx hb dX5_tellCount_96 rfl (lv_at hl 0 rfl) ?_
    refine q_get hx hb hts hown hW (r := 0) (hI.c 0 (by decide)) rfl k_6 7 (by decide) rfl t_144 (x := (v 0 7)) rfl dX5_tellCount_97 ?_
    exact q_iret hx hb hr hlocks hW hS (Nat.le_refl _) (Nat.le_refl _) dX5_tellCount_100 (⟨rfl, rfl⟩)
  · skip
    subst hsw
    refine lv_tableIn (off := 100) (tgt := 101) hx hb dX5_tellCount_1 (by decide) (by decide) (by decide) (by decide) ?_
    refine lv_aload_n hx hb dX5_tellCount_101 rfl (lv_at hl 0 rfl) ?_
    refine q_get hx hb hts hown hW (r := 0) (hI.c 0 (by decide)) rfl k_6 8 (by decide) rfl t_145 (x := (v 0 8)) rfl dX5_tellCount_102 ?_
    exact q_iret hx hb hr hlocks hW hS (Nat.le_refl _) (Nat.le_refl _) dX5_tellCount_105 (⟨rfl, rfl⟩)
  · skip
    subst hsw
    refine lv_tableIn (off := 105) (tgt := 106) hx hb dX5_tellCount_1 (by decide) (by decide) (by decide) (by decide) ?_
    refine lv_aload_n hx hb dX5_tellCount_106 rfl (lv_at hl 0 rfl) ?_
    refine q_cViE (As := []) (rest := []) (r := 0) hx hb hml hts hown hE h0 hW hS (c_X5_paneCountOfAll l hI) mw_X5_paneCountOfAll (hI.c 0 (by decide)) rfl k_6 t_273 ⟨Nat.le_of_ble_eq_true rfl, Nat.le_of_ble_eq_true rfl⟩ rfl hl.1 (Nat.le_of_ble_eq_true rfl) dX5_tellCount_107 ⟨Nat.zero_le _, Nat.zero_le _⟩ ⟨rfl, rfl⟩ (fun H locs hW hS => ?_)
    exact q_iret hx hb hr hlocks hW hS (Nat.le_refl _) (Nat.le_refl _) dX5_tellCount_110 (⟨rfl, rfl⟩)
  · skip
    subst hsw
    refine lv_tableIn (off := 110) (tgt := 111) hx hb dX5_tellCount_1 (by decide) (by decide) (by decide) (by decide) ?_
    refine lv_aload_n hx hb dX5_tellCount_111 rfl (lv_at hl 0 rfl) ?_
    refine lv_iconst (v := 1) hx hb dX5_tellCount_112 (by decide) ?_
    refine q_cViE (As := [.int 1]) (rest := []) (r := 0) hx hb hml hts hown hE h0 hW hS (c_X5_panesOfAll l hI 1) mw_X5_panesOfAll (hI.c 0 (by decide)) rfl k_6 t_281 ⟨Nat.le_of_ble_eq_true rfl, Nat.le_of_ble_eq_true rfl⟩ rfl hl.1 (Nat.le_of_ble_eq_true rfl) dX5_tellCount_113 ⟨Nat.zero_le _, Nat.zero_le _⟩ ⟨rfl, rfl⟩ (fun H locs hW hS => ?_)
    exact q_iret hx hb hr hlocks hW hS (Nat.le_refl _) (Nat.le_refl _) dX5_tellCount_116 (⟨rfl, rfl⟩)
  · skip
    subst hsw
    refine lv_tableIn (off := 116) (tgt := 117) hx hb dX5_tellCount_1 (by decide) (by decide) (by decide) (by decide) ?_
    refine lv_aload_n hx hb dX5_tellCount_117 rfl (lv_at hl 0 rfl) ?_
    refine lv_iconst (v := 2) hx hb dX5_tellCount_118 (by decide) ?_
    refine q_cViE (As := [.int 2]) (rest := []) (r := 0) hx hb hml hts hown hE h0 hW hS (c_X5_panesOfAll l hI 2) mw_X5_panesOfAll (hI.c 0 (by decide)) rfl k_6 t_281 ⟨Nat.le_of_ble_eq_true rfl, Nat.le_of_ble_eq_true rfl⟩ rfl hl.1 (Nat.le_of_ble_eq_true rfl) dX5_tellCount_119 ⟨Nat.zero_le _, Nat.zero_le _⟩ ⟨rfl, rfl⟩ (fun H locs hW hS => ?_)
    exact q_iret hx hb hr hlocks hW hS (Nat.le_refl _) (Nat.le_refl _) dX5_tellCount_122 (⟨rfl, rfl⟩)
  · skip
    subst hsw
    refine lv_tableOut (tgt := 123) hx hb dX5_tellCount_1 (by decide) (by decide) ?_
    refine lv_aload_n hx hb dX5_tellCount_123 rfl (lv_at hl 0 rfl) ?_
    refine q_cViE (As := []) (rest := []) (r := 0) hx hb hml hts hown hE h0 hW hS (c_X5_lostOfAll l hI) mw_X5_lostOfAll (hI.c 0 (by decide)) rfl k_6 t_240 ⟨Nat.le_of_ble_eq_true rfl, Nat.le_of_ble_eq_true rfl⟩ rfl hl.1 (Nat.le_of_ble_eq_true rfl) dX5_tellCount_124 ⟨Nat.zero_le _, Nat.zero_le _⟩ ⟨rfl, rfl⟩ (fun H locs hW hS => ?_)
    exact q_iret hx hb hr hlocks hW hS (Nat.le_refl _) (Nat.le_refl _) dX5_tellCount_127 (⟨rfl, rfl⟩)

set_option maxHeartbeats 4000000 in
set_option maxRecDepth 100000 in
theorem c_X5_digestHouse (l : Launch) {G : GG} {L : List Nat} {ad : Nat → Nat} {v : Nat → Nat → Int32} {o : Nat → Nat → Option Nat} {w : Nat → Int64} {ng nh nl ns : Nat} {ow gx gy gw gd : Nat → Nat} (hI : PI G.2.2.2 L ad v o ng nh nl ns ow gx gy gw gd) {h : Nat} (hh : h < nh) (d : Int64) : CtL l G L ad v o w yX5_digestHouse cX5_digestHouse 8 ({ frames := 4, cells := 0, slots := 0, locals := 89 }) [.ref (ad 0), .long d, .ref (ad (60 + h))] (fun r u => r = dHouse v gx gy gw gd h d ∧ u = v) := by
  have hb6 := hI.g6; have hb12 := hI.h12; have hbl := hI.l6; have hbs := hI.s30; have hgeo := (hI.hs h hh).1
  refine q_ofL (by decide) (Nat.le_of_ble_eq_true rfl) ?_
  intro p e s m below meth c hx hb hr hml hts hown hlocks hE h0 hW hS ls hl
  generalize hH : s.heap = H at hW
  have hS : va_S (Ab G.2.2.1) s.heap H [] := hH ▸ hS
  obtain ⟨locs, hlc⟩ : ∃ z : List Loc, z = [] := ⟨_, rfl⟩
  rw [← hlc] at hS ⊢
  have hl : lv_has ls 8 [(0, .ref (ad 0)), (1, .long d), (3, .ref (ad (60 + h)))] := hl
  refine lv_lload_n hx hb dX5_digestHouse_0 rfl (lv_at hl 1 rfl) ?_
  refine lv_lstore (lv' := [(4, .long d), (0, .ref (ad 0)), (1, .long d), (3, .ref (ad (60 + h)))]) hx hb dX5_digestHouse_1 hl (by decide) rfl (fun ls hl => ?_)
  refine lv_iconst (v := 0) hx hb dX5_digestHouse_3 (by decide) ?_
  refine lv_istore (lv' := [(6, .int 0), (4, .long d), (0, .ref (ad 0)), (1, .long d), (3, .ref (ad (60 + h)))]) hx hb dX5_digestHouse_4 hl (by decide) rfl (fun ls hl => ?_)
  suffices LP_6 : ∀ (n_6 i : Nat) (x4_6 : Int64) (x6_6 : Int32)  (u_6 : Nat → Nat → Int32) (H : Heap) (locs : List Loc) (ls : Array Slot), 11 + 1 ≤ i + n_6 → i ≤ 11 → dig (tHo v gx gy gw gd h) d i = x4_6 → nI i = x6_6 → v = u_6 → WD G L ad u_6 o w s H → va_S (Ab G.2.2.1) s.heap H locs → lv_has ls 8 [(6, .int x6_6), (4, .long x4_6), (0, .ref (ad 0)), (3, .ref (ad (60 + h)))] → W p l e ({ frames := 4, cells := 0, slots := 0, locals := 89 } : Room) s m ([.ref (ad 0), .long d, .ref (ad (60 + h))] : List Value).toArray below meth c H locs 0 0 (MQ below (va_Ql (fun r u => r = dHouse v gx gy gw gd h d ∧ u = v) (fun u t => WD G L ad u o w t t.heap) (Ab G.2.2.1)) ([.ref (ad 0), .long d, .ref (ad (60 + h))] : List Value).toArray s ({ frames := 4, cells := 0, slots := 0, locals := 89 } : Room).cells ({ frames := 4, cells := 0, slots := 0, locals := 89 } : Room).slots (Ab G.2.2.1)) (F0 m 6 ls []) from LP_6 (11 + 1) 0 _ _   _ H locs ls (by omega) (by omega) (by exact dig_0) (by rfl) (by rfl)  hW hS (lv_sub hl [0, 1, 2, 4] rfl)
  intro n_6
  induction n_6 with
  | zero => intro i x4_6 x6_6  u_6 H locs ls h1 h2; exact absurd h1 (by omega)
  | succ n_6 ih_6 =>
    intro i x4_6 x6_6  u_6 H locs ls hn_6 hi_6 ex4_6 ex6_6 eu_6  hW hS hl
    subst ex4_6
    subst ex6_6
    subst eu_6
    refine lv_iload hx hb dX5_digestHouse_6 (lv_at hl 0 rfl) ?_
    refine lv_bipush (v := 11) hx hb dX5_digestHouse_8 (by decide) ?_
    refine lv_icmp_ge (tgt := 36) hx hb dX5_digestHouse_10 (by decide) (fun c_10 => ?_) (fun c_10 => ?_)
    · skip
      have hq_6 := (ge_i (n := 11) (by omega) hi_6 c_10).symm
      subst hq_6
      refine lv_aload_n hx hb dX5_digestHouse_36 rfl (lv_at hl 3 rfl) ?_
      refine q_get hx hb hts hown hW (r := (60 + h)) (hI.mh hh) (hI.kh hh) k_2 2 (by decide) rfl t_555 (x := (nI (gy h))) (hI.eY hh) dX5_digestHouse_37 ?_
      refine lv_istore (lv' := [(6, .int (nI (gy h))), (4, .long (dig (tHo v gx gy gw gd h) d 11)), (0, .ref (ad 0)), (3, .ref (ad (60 + h)))]) hx hb dX5_digestHouse_40 hl (by decide) rfl (fun ls hl => ?_)
      suffices LP_42 : ∀ (n_42 a : Nat) (x4_42 : Int64) (x6_42 : Int32)  (u_42 : Nat → Nat → Int32) (H : Heap) (locs : List Loc) (ls : Array Slot), gd h + 1 ≤ a + n_42 → a ≤ gd h → itr (fun i d => dig (fun j => v 4 ((gy h + i) * 20 + (gx h + j))) d (gw h)) a (dig (tHo v gx gy gw gd h) d 11) = x4_42 → nI (gy h + a) = x6_42 → v = u_42 → WD G L ad u_42 o w s H → va_S (Ab G.2.2.1) s.heap H locs → lv_has ls 8 [(6, .int x6_42), (4, .long x4_42), (0, .ref (ad 0)), (3, .ref (ad (60 + h)))] → W p l e ({ frames := 4, cells := 0, slots := 0, locals := 89 } : Room) s m ([.ref (ad 0), .long d, .ref (ad (60 + h))] : List Value).toArray below meth c H locs 0 0 (MQ below (va_Ql (fun r u => r = dHouse v gx gy gw gd h d ∧ u = v) (fun u t => WD G L ad u o w t t.heap) (Ab G.2.2.1)) ([.ref (ad 0), .long d, .ref (ad (60 + h))] : List Value).toArray s ({ frames := 4, cells := 0, slots := 0, locals := 89 } : Room).cells ({ frames := 4, cells := 0, slots := 0, locals := 89 } : Room).slots (Ab G.2.2.1)) (F0 m 42 ls []) from LP_42 (gd h + 1) 0 _ _   _ H locs ls (by omega) (by omega) (by exact itr_0) (by rfl) (by rfl)  hW hS (lv_sub hl [0, 1, 2, 3] rfl)
      intro n_42
      induction n_42 with
      | zero => intro a x4_42 x6_42  u_42 H locs ls h1 h2; exact absurd h1 (by omega)
      | succ n_42 ih_42 =>
        intro a x4_42 x6_42  u_42 H locs ls hn_42 hi_42 ex4_42 ex6_42 eu_42  hW hS hl
        subst ex4_42
        subst ex6_42
        subst eu_42
        refine lv_iload hx hb dX5_digestHouse_42 (lv_at hl 0 rfl) ?_
        refine lv_aload_n hx hb dX5_digestHouse_44 rfl (lv_at hl 3 rfl) ?_
        refine q_get hx hb hts hown hW (r := (60 + h)) (hI.mh hh) (hI.kh hh) k_2 2 (by decide) rfl t_555 (x := (nI (gy h))) (hI.eY hh) dX5_digestHouse_45 ?_
        refine lv_aload_n hx hb dX5_digestHouse_48 rfl (lv_at hl 3 rfl) ?_
        refine q_get hx hb hts hown hW (r := (60 + h)) (hI.mh hh) (hI.kh hh) k_2 4 (by decide) rfl t_559 (x := (nI (gd h))) (hI.eD hh) dX5_digestHouse_49 ?_
        refine lv_iadd hx hb dX5_digestHouse_52 ?_
        refine lv_icmp_ge (tgt := 110) hx hb dX5_digestHouse_53 (by decide) (fun c_53 => ?_) (fun c_53 => ?_)
        · skip
          have hq_42 := (ge_off (Y := (gy h)) (D := (gd h)) (by omega) hi_42 c_53).symm
          subst hq_42
          refine lv_lload hx hb dX5_digestHouse_110 (lv_at hl 1 rfl) ?_
          exact q_lret hx hb hr hlocks hW hS (Nat.le_refl _) (Nat.le_refl _) dX5_digestHouse_112 (⟨rfl, rfl⟩)
        · skip
          have hlt_42 := lt_off (Y := (gy h)) (D := (gd h)) (by omega) hi_42 c_53
          refine lv_aload_n hx hb dX5_digestHouse_56 rfl (lv_at hl 3 rfl) ?_
          refine q_get hx hb hts hown hW (r := (60 + h)) (hI.mh hh) (hI.kh hh) k_2 1 (by decide) rfl t_553 (x := (nI (gx h))) (hI.eX hh) dX5_digestHouse_57 ?_
          refine lv_istore (lv' := [(7, .int (nI (gx h))), (6, .int (nI (gy h + a))), (4, .long (itr (fun i d => dig (fun j => v 4 ((gy h + i) * 20 + (gx h + j))) d (gw h)) a (dig (tHo v gx gy gw gd h) d 11))), (0, .ref (ad 0)), (3, .ref (ad (60 + h)))]) hx hb dX5_digestHouse_60 hl (by decide) rfl (fun ls hl => ?_)
          suffices LP_62 : ∀ (n_62 b : Nat) (x4_62 : Int64) (x7_62 : Int32)  (u_62 : Nat → Nat → Int32) (H : Heap) (locs : List Loc) (ls : Array Slot), gw h + 1 ≤ b + n_62 → b ≤ gw h → dig (fun j => v 4 ((gy h + a) * 20 + (gx h + j))) (itr (fun i d => dig (fun j => v 4 ((gy h + i) * 20 + (gx h + j))) d (gw h)) a (dig (tHo v gx gy gw gd h) d 11)) b = x4_62 → nI (gx h + b) = x7_62 → v = u_62 → WD G L ad u_62 o w s H → va_S (Ab G.2.2.1) s.heap H locs → lv_has ls 8 [(7, .int x7_62), (6, .int (nI (gy h + a))), (4, .long x4_62), (0, .ref (ad 0)), (3, .ref (ad (60 + h)))] → W p l e ({ frames := 4, cells := 0, slots := 0, locals := 89 } : Room) s m ([.ref (ad 0), .long d, .ref (ad (60 + h))] : List Value).toArray below meth c H locs 0 0 (MQ below (va_Ql (fun r u => r = dHouse v gx gy gw gd h d ∧ u = v) (fun u t => WD G L ad u o w t t.heap) (Ab G.2.2.1)) ([.ref (ad 0), .long d, .ref (ad (60 + h))] : List Value).toArray s ({ frames := 4, cells := 0, slots := 0, locals := 89 } : Room).cells ({ frames := 4, cells := 0, slots := 0, locals := 89 } : Room).slots (Ab G.2.2.1)) (F0 m 62 ls []) from LP_62 (gw h + 1) 0 _ _   _ H locs ls (by omega) (by omega) (by exact dig_0) (by rfl) (by rfl)  hW hS (lv_sub hl [0, 1, 2, 3, 4] rfl)
          intro n_62
          induction n_62 with
          | zero => intro b x4_62 x7_62  u_62 H locs ls h1 h2; exact absurd h1 (by omega)
          | succ n_62 ih_62 =>
            intro b x4_62 x7_62  u_62 H locs ls hn_62 hi_62 ex4_62 ex7_62 eu_62  hW hS hl
            subst ex4_62
            subst ex7_62
            subst eu_62
            refine lv_iload hx hb dX5_digestHouse_62 (lv_at hl 0 rfl) ?_
            refine lv_aload_n hx hb dX5_digestHouse_64 rfl (lv_at hl 4 rfl) ?_
            refine q_get hx hb hts hown hW (r := (60 + h)) (hI.mh hh) (hI.kh hh) k_2 1 (by decide) rfl t_553 (x := (nI (gx h))) (hI.eX hh) dX5_digestHouse_65 ?_
            refine lv_aload_n hx hb dX5_digestHouse_68 rfl (lv_at hl 4 rfl) ?_
            refine q_get hx hb hts hown hW (r := (60 + h)) (hI.mh hh) (hI.kh hh) k_2 3 (by decide) rfl t_557 (x := (nI (gw h))) (hI.eW hh) dX5_digestHouse_69 ?_
            refine lv_iadd hx hb dX5_digestHouse_72 ?_
            refine lv_icmp_ge (tgt := 104) hx hb dX5_digestHouse_73 (by decide) (fun c_73 => ?_) (fun c_73 => ?_)
            · skip
              have hq_62 := (ge_off (Y := (gx h)) (D := (gw h)) (by omega) hi_62 c_73).symm
              subst hq_62
              refine lv_iinc (v := (nI ((gy h + a) + 1))) (lv' := [(6, .int (nI ((gy h + a) + 1))), (7, .int (nI (gx h + (gw h)))), (4, .long (dig (fun j => v 4 ((gy h + a) * 20 + (gx h + j))) (itr (fun i d => dig (fun j => v 4 ((gy h + i) * 20 + (gx h + j))) d (gw h)) a (dig (tHo v gx gy gw gd h) d 11)) (gw h))), (0, .ref (ad 0)), (3, .ref (ad (60 + h)))]) hx hb dX5_digestHouse_104 hl (k := 1) rfl (inc_nI _) (by decide) rfl (fun ls hl => ?_)
              refine lv_goto (tgt := 42) hx hb dX5_digestHouse_107 (by decide) ?_
              exact ih_42 (a + 1) _ _   _ H locs ls (by omega) (by omega) (by exact itr_s) (by rfl) (by rfl)  hW hS (lv_sub hl [0, 2, 3, 4] rfl)
            · skip
              have hlt_62 := lt_off (Y := (gx h)) (D := (gw h)) (by omega) hi_62 c_73
              refine lv_lload hx hb dX5_digestHouse_76 (lv_at hl 2 rfl) ?_
              refine lv_ldc2 (v := 31) hx hb hown (hts _ t_264) dX5_digestHouse_78 ?_
              refine lv_lmul hx hb dX5_digestHouse_81 ?_
              refine lv_aload_n hx hb dX5_digestHouse_82 rfl (lv_at hl 3 rfl) ?_
              refine q_getr hx hb hts hown hW (r := 0) (hI.c 0 (by decide)) rfl k_6 3 (by decide) rfl t_140 (a := ad 4) (hI.o0 3 (by decide)) dX5_digestHouse_83 ?_
              refine lv_iload hx hb dX5_digestHouse_86 (lv_at hl 0 rfl) ?_
              refine lv_iload hx hb dX5_digestHouse_88 (lv_at hl 1 rfl) ?_
              refine q_cSiE (As := [.int (nI (gx h + b)), .int (nI (gy h + a))]) (rest := [.ref (ad 4), .long ((dig (fun j => v 4 ((gy h + a) * 20 + (gx h + j))) (itr (fun i d => dig (fun j => v 4 ((gy h + i) * 20 + (gx h + j))) d (gw h)) a (dig (tHo v gx gy gw gd h) d 11)) b) * 31)]) hx hb hml hts hown hE h0 hW hS (c_X5_cellAt l (gx h + b) (gy h + a)) mw_X5_cellAt t_252 ⟨Nat.le_of_ble_eq_true rfl, Nat.le_of_ble_eq_true rfl⟩ rfl hl.1 (Nat.le_of_ble_eq_true rfl) dX5_digestHouse_90 ⟨Nat.zero_le _, Nat.zero_le _⟩ ⟨rfl, rfl⟩ (fun H locs hW hS => ?_)
              refine q_iald hx hb hW (r := 4) (hI.c 4 (by decide)) rfl ((gy h + a) * 20 + (gx h + b)) rfl (show _ < 400 by omega) (by decide) (x := (v 4 ((gy h + a) * 20 + (gx h + b)))) rfl dX5_digestHouse_93 ?_
              refine lv_i2l (v := ((v 4 ((gy h + a) * 20 + (gx h + b)))).toInt64) hx hb dX5_digestHouse_94 rfl ?_
              refine lv_ladd hx hb dX5_digestHouse_95 ?_
              refine lv_lstore (lv' := [(4, .long (((dig (fun j => v 4 ((gy h + a) * 20 + (gx h + j))) (itr (fun i d => dig (fun j => v 4 ((gy h + i) * 20 + (gx h + j))) d (gw h)) a (dig (tHo v gx gy gw gd h) d 11)) b) * 31) + (Int32.toInt64 (v 4 ((gy h + a) * 20 + (gx h + b)))))), (7, .int (nI (gx h + b))), (6, .int (nI (gy h + a))), (0, .ref (ad 0)), (3, .ref (ad (60 + h)))]) hx hb dX5_digestHouse_96 hl (by decide) rfl (fun ls hl => ?_)
              refine lv_iinc (v := (nI ((gx h + b) + 1))) (lv' := [(7, .int (nI ((gx h + b) + 1))), (4, .long (((dig (fun j => v 4 ((gy h + a) * 20 + (gx h + j))) (itr (fun i d => dig (fun j => v 4 ((gy h + i) * 20 + (gx h + j))) d (gw h)) a (dig (tHo v gx gy gw gd h) d 11)) b) * 31) + (Int32.toInt64 (v 4 ((gy h + a) * 20 + (gx h + b)))))), (6, .int (nI (gy h + a))), (0, .ref (ad 0)), (3, .ref (ad (60 + h)))]) hx hb dX5_digestHouse_98 hl (k := 1) rfl (inc_nI _) (by decide) rfl (fun ls hl => ?_)
              refine lv_goto (tgt := 62) hx hb dX5_digestHouse_101 (by decide) ?_
              exact ih_62 (b + 1) _ _   _ H locs ls (by omega) (by omega) (by exact dig_s) (by rfl) (by rfl)  hW hS (lv_sub hl [0, 2, 1, 3, 4] rfl)
    · skip
      have hlt_6 := lt_i (n := 11) (by omega) hi_6 c_10
      refine lv_lload hx hb dX5_digestHouse_13 (lv_at hl 1 rfl) ?_
      refine lv_ldc2 (v := 31) hx hb hown (hts _ t_264) dX5_digestHouse_15 ?_
      refine lv_lmul hx hb dX5_digestHouse_18 ?_
      refine lv_aload_n hx hb dX5_digestHouse_19 rfl (lv_at hl 2 rfl) ?_
      refine lv_aload_n hx hb dX5_digestHouse_20 rfl (lv_at hl 3 rfl) ?_
      refine lv_iload hx hb dX5_digestHouse_21 (lv_at hl 0 rfl) ?_
      refine q_cViE (As := [.ref (ad (60 + h)), .int (nI i)]) (rest := [.long ((dig (tHo v gx gy gw gd h) d i) * 31)]) (r := 0) hx hb hml hts hown hE h0 hW hS (c_X5_tellHouse l hI hh hlt_6) mw_X5_tellHouse (hI.c 0 (by decide)) rfl k_6 t_301 ⟨Nat.le_of_ble_eq_true rfl, Nat.le_of_ble_eq_true rfl⟩ rfl hl.1 (Nat.le_of_ble_eq_true rfl) dX5_digestHouse_23 ⟨Nat.zero_le _, Nat.zero_le _⟩ ⟨rfl, rfl⟩ (fun H locs hW hS => ?_)
      refine lv_i2l (v := ((tHo v gx gy gw gd h i)).toInt64) hx hb dX5_digestHouse_26 rfl ?_
      refine lv_ladd hx hb dX5_digestHouse_27 ?_
      refine lv_lstore (lv' := [(4, .long (((dig (tHo v gx gy gw gd h) d i) * 31) + (Int32.toInt64 (tHo v gx gy gw gd h i)))), (6, .int (nI i)), (0, .ref (ad 0)), (3, .ref (ad (60 + h)))]) hx hb dX5_digestHouse_28 hl (by decide) rfl (fun ls hl => ?_)
      refine lv_iinc (v := (nI (i + 1))) (lv' := [(6, .int (nI (i + 1))), (4, .long (((dig (tHo v gx gy gw gd h) d i) * 31) + (Int32.toInt64 (tHo v gx gy gw gd h i)))), (0, .ref (ad 0)), (3, .ref (ad (60 + h)))]) hx hb dX5_digestHouse_30 hl (k := 1) rfl (inc_nI _) (by decide) rfl (fun ls hl => ?_)
      refine lv_goto (tgt := 6) hx hb dX5_digestHouse_33 (by decide) ?_
      exact ih_6 (i + 1) _ _   _ H locs ls (by omega) (by omega) (by exact dig_s) (by rfl) (by rfl)  hW hS (lv_sub hl [0, 1, 2, 3] rfl)

set_option maxHeartbeats 4000000 in
set_option maxRecDepth 100000 in
theorem c_X5_digest (l : Launch) {G : GG} {L : List Nat} {ad : Nat → Nat} {v : Nat → Nat → Int32} {o : Nat → Nat → Option Nat} {w : Nat → Int64} {ng nh nl ns : Nat} {ow gx gy gw gd : Nat → Nat} (hI : PI G.2.2.2 L ad v o ng nh nl ns ow gx gy gw gd) : CtL l G L ad v o w yX5_digest cX5_digest 5 ({ frames := 6, cells := 0, slots := 0, locals := 146 }) [.ref (ad 0)] (fun r u => r = dAll v gx gy gw gd ng nh nl ns ∧ u = v) := by
  have hb6 := hI.g6; have hb12 := hI.h12; have hbl := hI.l6; have hbs := hI.s30
  refine q_ofL (by decide) (Nat.le_of_ble_eq_true rfl) ?_
  intro p e s m below meth c hx hb hr hml hts hown hlocks hE h0 hW hS ls hl
  generalize hH : s.heap = H at hW
  have hS : va_S (Ab G.2.2.1) s.heap H [] := hH ▸ hS
  obtain ⟨locs, hlc⟩ : ∃ z : List Loc, z = [] := ⟨_, rfl⟩
  rw [← hlc] at hS ⊢
  have hl : lv_has ls 5 [(0, .ref (ad 0))] := hl
  refine lv_ldc2 (v := 541) hx hb hown (hts _ t_263) dX5_digest_0 ?_
  refine lv_lstore_n (lv' := [(1, .long 541), (0, .ref (ad 0))]) hx hb dX5_digest_3 rfl hl (by decide) rfl (fun ls hl => ?_)
  refine lv_iconst (v := 0) hx hb dX5_digest_4 (by decide) ?_
  refine lv_istore_n (lv' := [(3, .int 0), (1, .long 541), (0, .ref (ad 0))]) hx hb dX5_digest_5 rfl hl (by decide) rfl (fun ls hl => ?_)
  suffices LP_6 : ∀ (n_6 i : Nat) (x1_6 : Int64) (x3_6 : Int32)  (u_6 : Nat → Nat → Int32) (H : Heap) (locs : List Loc) (ls : Array Slot), 11 + 1 ≤ i + n_6 → i ≤ 11 → dig (tCo v gx gy gw gd ng nh nl) 541 i = x1_6 → nI i = x3_6 → v = u_6 → WD G L ad u_6 o w s H → va_S (Ab G.2.2.1) s.heap H locs → lv_has ls 5 [(3, .int x3_6), (1, .long x1_6), (0, .ref (ad 0))] → W p l e ({ frames := 6, cells := 0, slots := 0, locals := 146 } : Room) s m ([.ref (ad 0)] : List Value).toArray below meth c H locs 0 0 (MQ below (va_Ql (fun r u => r = dAll v gx gy gw gd ng nh nl ns ∧ u = v) (fun u t => WD G L ad u o w t t.heap) (Ab G.2.2.1)) ([.ref (ad 0)] : List Value).toArray s ({ frames := 6, cells := 0, slots := 0, locals := 146 } : Room).cells ({ frames := 6, cells := 0, slots := 0, locals := 146 } : Room).slots (Ab G.2.2.1)) (F0 m 6 ls []) from LP_6 (11 + 1) 0 _ _   _ H locs ls (by omega) (by omega) (by exact dig_0) (by rfl) (by rfl)  hW hS (lv_sub hl [0, 1, 2] rfl)
  intro n_6
  induction n_6 with
  | zero => intro i x1_6 x3_6  u_6 H locs ls h1 h2; exact absurd h1 (by omega)
  | succ n_6 ih_6 =>
    intro i x1_6 x3_6  u_6 H locs ls hn_6 hi_6 ex1_6 ex3_6 eu_6  hW hS hl
    subst ex1_6
    subst ex3_6
    subst eu_6
    refine lv_iload_n hx hb dX5_digest_6 rfl (lv_at hl 0 rfl) ?_
    refine lv_bipush (v := 11) hx hb dX5_digest_7 (by decide) ?_
    refine lv_icmp_ge (tgt := 31) hx hb dX5_digest_9 (by decide) (fun c_9 => ?_) (fun c_9 => ?_)
    · skip
      have hq_6 := (ge_i (n := 11) (by omega) hi_6 c_9).symm
      subst hq_6
      refine lv_iconst (v := 0) hx hb dX5_digest_31 (by decide) ?_
      refine lv_istore_n (lv' := [(3, .int 0), (1, .long (dig (tCo v gx gy gw gd ng nh nl) 541 11)), (0, .ref (ad 0))]) hx hb dX5_digest_32 rfl hl (by decide) rfl (fun ls hl => ?_)
      suffices LP_33 : ∀ (n_33 i : Nat) (x1_33 : Int64) (x3_33 : Int32)  (u_33 : Nat → Nat → Int32) (H : Heap) (locs : List Loc) (ls : Array Slot), ng + 1 ≤ i + n_33 → i ≤ ng → itr (fun g d => dig (tGr v gx gy gw gd nh g) d 10) i (dig (tCo v gx gy gw gd ng nh nl) 541 11) = x1_33 → nI i = x3_33 → v = u_33 → WD G L ad u_33 o w s H → va_S (Ab G.2.2.1) s.heap H locs → lv_has ls 5 [(3, .int x3_33), (1, .long x1_33), (0, .ref (ad 0))] → W p l e ({ frames := 6, cells := 0, slots := 0, locals := 146 } : Room) s m ([.ref (ad 0)] : List Value).toArray below meth c H locs 0 0 (MQ below (va_Ql (fun r u => r = dAll v gx gy gw gd ng nh nl ns ∧ u = v) (fun u t => WD G L ad u o w t t.heap) (Ab G.2.2.1)) ([.ref (ad 0)] : List Value).toArray s ({ frames := 6, cells := 0, slots := 0, locals := 146 } : Room).cells ({ frames := 6, cells := 0, slots := 0, locals := 146 } : Room).slots (Ab G.2.2.1)) (F0 m 33 ls []) from LP_33 (ng + 1) 0 _ _   _ H locs ls (by omega) (by omega) (by exact itr_0) (by rfl) (by rfl)  hW hS (lv_sub hl [0, 1, 2] rfl)
      intro n_33
      induction n_33 with
      | zero => intro i x1_33 x3_33  u_33 H locs ls h1 h2; exact absurd h1 (by omega)
      | succ n_33 ih_33 =>
        intro i x1_33 x3_33  u_33 H locs ls hn_33 hi_33 ex1_33 ex3_33 eu_33  hW hS hl
        subst ex1_33
        subst ex3_33
        subst eu_33
        refine lv_iload_n hx hb dX5_digest_33 rfl (lv_at hl 0 rfl) ?_
        refine lv_aload_n hx hb dX5_digest_34 rfl (lv_at hl 2 rfl) ?_
        refine q_getr hx hb hts hown hW (r := 0) (hI.c 0 (by decide)) rfl k_6 0 (by decide) rfl t_137 (a := ad 1) (hI.o0 0 (by decide)) dX5_digest_35 ?_
        refine q_cFiE (As := []) (rest := [.int (nI i)]) (r := 1) hx hb hml hts hown hE h0 hW hS hE.2.1 (c_size l hI.lg) t_178 t_176 t_174 t_49 (by decide) (by decide +kernel) (hI.c 1 (by decide)) rfl k_0 t_170 ⟨Nat.le_of_ble_eq_true rfl, Nat.le_of_ble_eq_true rfl⟩ rfl hl.1 (Nat.le_of_ble_eq_true rfl) dX5_digest_38 ⟨Nat.zero_le _, Nat.zero_le _⟩ ⟨rfl, rfl⟩ (fun H locs hW hS => ?_)
        refine lv_icmp_ge (tgt := 83) hx hb dX5_digest_43 (by decide) (fun c_43 => ?_) (fun c_43 => ?_)
        · skip
          have hq_33 := (ge_i (n := ng) (by omega) hi_33 c_43).symm
          subst hq_33
          refine lv_iconst (v := 0) hx hb dX5_digest_83 (by decide) ?_
          refine lv_istore_n (lv' := [(3, .int 0), (1, .long (itr (fun g d => dig (tGr v gx gy gw gd nh g) d 10) ng (dig (tCo v gx gy gw gd ng nh nl) 541 11))), (0, .ref (ad 0))]) hx hb dX5_digest_84 rfl hl (by decide) rfl (fun ls hl => ?_)
          suffices LP_85 : ∀ (n_85 i : Nat) (x1_85 : Int64) (x3_85 : Int32)  (u_85 : Nat → Nat → Int32) (H : Heap) (locs : List Loc) (ls : Array Slot), nh + 1 ≤ i + n_85 → i ≤ nh → itr (fun h d => dHouse v gx gy gw gd h d) i (itr (fun g d => dig (tGr v gx gy gw gd nh g) d 10) ng (dig (tCo v gx gy gw gd ng nh nl) 541 11)) = x1_85 → nI i = x3_85 → v = u_85 → WD G L ad u_85 o w s H → va_S (Ab G.2.2.1) s.heap H locs → lv_has ls 5 [(3, .int x3_85), (1, .long x1_85), (0, .ref (ad 0))] → W p l e ({ frames := 6, cells := 0, slots := 0, locals := 146 } : Room) s m ([.ref (ad 0)] : List Value).toArray below meth c H locs 0 0 (MQ below (va_Ql (fun r u => r = dAll v gx gy gw gd ng nh nl ns ∧ u = v) (fun u t => WD G L ad u o w t t.heap) (Ab G.2.2.1)) ([.ref (ad 0)] : List Value).toArray s ({ frames := 6, cells := 0, slots := 0, locals := 146 } : Room).cells ({ frames := 6, cells := 0, slots := 0, locals := 146 } : Room).slots (Ab G.2.2.1)) (F0 m 85 ls []) from LP_85 (nh + 1) 0 _ _   _ H locs ls (by omega) (by omega) (by exact itr_0) (by rfl) (by rfl)  hW hS (lv_sub hl [0, 1, 2] rfl)
          intro n_85
          induction n_85 with
          | zero => intro i x1_85 x3_85  u_85 H locs ls h1 h2; exact absurd h1 (by omega)
          | succ n_85 ih_85 =>
            intro i x1_85 x3_85  u_85 H locs ls hn_85 hi_85 ex1_85 ex3_85 eu_85  hW hS hl
            subst ex1_85
            subst ex3_85
            subst eu_85
            refine lv_iload_n hx hb dX5_digest_85 rfl (lv_at hl 0 rfl) ?_
            refine lv_aload_n hx hb dX5_digest_86 rfl (lv_at hl 2 rfl) ?_
            refine q_getr hx hb hts hown hW (r := 0) (hI.c 0 (by decide)) rfl k_6 1 (by decide) rfl t_138 (a := ad 2) (hI.o0 1 (by decide)) dX5_digest_87 ?_
            refine q_cFiE (As := []) (rest := [.int (nI i)]) (r := 2) hx hb hml hts hown hE h0 hW hS hE.2.1 (c_size l hI.lh) t_178 t_176 t_174 t_49 (by decide) (by decide +kernel) (hI.c 2 (by decide)) rfl k_0 t_170 ⟨Nat.le_of_ble_eq_true rfl, Nat.le_of_ble_eq_true rfl⟩ rfl hl.1 (Nat.le_of_ble_eq_true rfl) dX5_digest_90 ⟨Nat.zero_le _, Nat.zero_le _⟩ ⟨rfl, rfl⟩ (fun H locs hW hS => ?_)
            refine lv_icmp_ge (tgt := 123) hx hb dX5_digest_95 (by decide) (fun c_95 => ?_) (fun c_95 => ?_)
            · skip
              have hq_85 := (ge_i (n := nh) (by omega) hi_85 c_95).symm
              subst hq_85
              refine lv_iconst (v := 0) hx hb dX5_digest_123 (by decide) ?_
              refine lv_istore_n (lv' := [(3, .int 0), (1, .long (itr (fun h d => dHouse v gx gy gw gd h d) nh (itr (fun g d => dig (tGr v gx gy gw gd nh g) d 10) ng (dig (tCo v gx gy gw gd ng nh nl) 541 11)))), (0, .ref (ad 0))]) hx hb dX5_digest_124 rfl hl (by decide) rfl (fun ls hl => ?_)
              suffices LP_125 : ∀ (n_125 i : Nat) (x1_125 : Int64) (x3_125 : Int32)  (u_125 : Nat → Nat → Int32) (H : Heap) (locs : List Loc) (ls : Array Slot), nl + 1 ≤ i + n_125 → i ≤ nl → itr (fun k d => dig (tLa v k) d 5) i (itr (fun h d => dHouse v gx gy gw gd h d) nh (itr (fun g d => dig (tGr v gx gy gw gd nh g) d 10) ng (dig (tCo v gx gy gw gd ng nh nl) 541 11))) = x1_125 → nI i = x3_125 → v = u_125 → WD G L ad u_125 o w s H → va_S (Ab G.2.2.1) s.heap H locs → lv_has ls 5 [(3, .int x3_125), (1, .long x1_125), (0, .ref (ad 0))] → W p l e ({ frames := 6, cells := 0, slots := 0, locals := 146 } : Room) s m ([.ref (ad 0)] : List Value).toArray below meth c H locs 0 0 (MQ below (va_Ql (fun r u => r = dAll v gx gy gw gd ng nh nl ns ∧ u = v) (fun u t => WD G L ad u o w t t.heap) (Ab G.2.2.1)) ([.ref (ad 0)] : List Value).toArray s ({ frames := 6, cells := 0, slots := 0, locals := 146 } : Room).cells ({ frames := 6, cells := 0, slots := 0, locals := 146 } : Room).slots (Ab G.2.2.1)) (F0 m 125 ls []) from LP_125 (nl + 1) 0 _ _   _ H locs ls (by omega) (by omega) (by exact itr_0) (by rfl) (by rfl)  hW hS (lv_sub hl [0, 1, 2] rfl)
              intro n_125
              induction n_125 with
              | zero => intro i x1_125 x3_125  u_125 H locs ls h1 h2; exact absurd h1 (by omega)
              | succ n_125 ih_125 =>
                intro i x1_125 x3_125  u_125 H locs ls hn_125 hi_125 ex1_125 ex3_125 eu_125  hW hS hl
                subst ex1_125
                subst ex3_125
                subst eu_125
                refine lv_iload_n hx hb dX5_digest_125 rfl (lv_at hl 0 rfl) ?_
                refine lv_aload_n hx hb dX5_digest_126 rfl (lv_at hl 2 rfl) ?_
                refine q_getr hx hb hts hown hW (r := 0) (hI.c 0 (by decide)) rfl k_6 2 (by decide) rfl t_139 (a := ad 3) (hI.o0 2 (by decide)) dX5_digest_127 ?_
                refine q_cFiE (As := []) (rest := [.int (nI i)]) (r := 3) hx hb hml hts hown hE h0 hW hS hE.2.1 (c_size l hI.ll) t_178 t_176 t_174 t_49 (by decide) (by decide +kernel) (hI.c 3 (by decide)) rfl k_0 t_170 ⟨Nat.le_of_ble_eq_true rfl, Nat.le_of_ble_eq_true rfl⟩ rfl hl.1 (Nat.le_of_ble_eq_true rfl) dX5_digest_130 ⟨Nat.zero_le _, Nat.zero_le _⟩ ⟨rfl, rfl⟩ (fun H locs hW hS => ?_)
                refine lv_icmp_ge (tgt := 185) hx hb dX5_digest_135 (by decide) (fun c_135 => ?_) (fun c_135 => ?_)
                · skip
                  have hq_125 := (ge_i (n := nl) (by omega) hi_125 c_135).symm
                  subst hq_125
                  refine lv_iconst (v := 0) hx hb dX5_digest_185 (by decide) ?_
                  refine lv_istore_n (lv' := [(3, .int 0), (1, .long (itr (fun k d => dig (tLa v k) d 5) nl (itr (fun h d => dHouse v gx gy gw gd h d) nh (itr (fun g d => dig (tGr v gx gy gw gd nh g) d 10) ng (dig (tCo v gx gy gw gd ng nh nl) 541 11))))), (0, .ref (ad 0))]) hx hb dX5_digest_186 rfl hl (by decide) rfl (fun ls hl => ?_)
                  suffices LP_187 : ∀ (n_187 i : Nat) (x1_187 : Int64) (x3_187 : Int32)  (u_187 : Nat → Nat → Int32) (H : Heap) (locs : List Loc) (ls : Array Slot), ns + 1 ≤ i + n_187 → i ≤ ns → itr (fun k d => dig (v (20 + k)) d 6) i (itr (fun k d => dig (tLa v k) d 5) nl (itr (fun h d => dHouse v gx gy gw gd h d) nh (itr (fun g d => dig (tGr v gx gy gw gd nh g) d 10) ng (dig (tCo v gx gy gw gd ng nh nl) 541 11)))) = x1_187 → nI i = x3_187 → v = u_187 → WD G L ad u_187 o w s H → va_S (Ab G.2.2.1) s.heap H locs → lv_has ls 5 [(3, .int x3_187), (1, .long x1_187), (0, .ref (ad 0))] → W p l e ({ frames := 6, cells := 0, slots := 0, locals := 146 } : Room) s m ([.ref (ad 0)] : List Value).toArray below meth c H locs 0 0 (MQ below (va_Ql (fun r u => r = dAll v gx gy gw gd ng nh nl ns ∧ u = v) (fun u t => WD G L ad u o w t t.heap) (Ab G.2.2.1)) ([.ref (ad 0)] : List Value).toArray s ({ frames := 6, cells := 0, slots := 0, locals := 146 } : Room).cells ({ frames := 6, cells := 0, slots := 0, locals := 146 } : Room).slots (Ab G.2.2.1)) (F0 m 187 ls []) from LP_187 (ns + 1) 0 _ _   _ H locs ls (by omega) (by omega) (by exact itr_0) (by rfl) (by rfl)  hW hS (lv_sub hl [0, 1, 2] rfl)
                  intro n_187
                  induction n_187 with
                  | zero => intro i x1_187 x3_187  u_187 H locs ls h1 h2; exact absurd h1 (by omega)
                  | succ n_187 ih_187 =>
                    intro i x1_187 x3_187  u_187 H locs ls hn_187 hi_187 ex1_187 ex3_187 eu_187  hW hS hl
                    subst ex1_187
                    subst ex3_187
                    subst eu_187
                    refine lv_iload_n hx hb dX5_digest_187 rfl (lv_at hl 0 rfl) ?_
                    refine lv_aload_n hx hb dX5_digest_188 rfl (lv_at hl 2 rfl) ?_
                    refine q_get hx hb hts hown hW (r := 0) (hI.c 0 (by decide)) rfl k_6 7 (by decide) rfl t_144 (x := (nI ns)) hI.eS dX5_digest_189 ?_
                    refine lv_icmp_ge (tgt := 234) hx hb dX5_digest_192 (by decide) (fun c_192 => ?_) (fun c_192 => ?_)
                    · skip
                      have hq_187 := (ge_i (n := ns) (by omega) hi_187 c_192).symm
                      subst hq_187
                      refine lv_lload_n hx hb dX5_digest_234 rfl (lv_at hl 1 rfl) ?_
                      exact q_lret hx hb hr hlocks hW hS (Nat.le_refl _) (Nat.le_refl _) dX5_digest_235 (⟨rfl, rfl⟩)
                    · skip
                      have hlt_187 := lt_i (n := ns) (by omega) hi_187 c_192
                      refine lv_iconst (v := 0) hx hb dX5_digest_195 (by decide) ?_
                      refine lv_istore (lv' := [(4, .int 0), (3, .int (nI i)), (1, .long (itr (fun k d => dig (v (20 + k)) d 6) i (itr (fun k d => dig (tLa v k) d 5) nl (itr (fun h d => dHouse v gx gy gw gd h d) nh (itr (fun g d => dig (tGr v gx gy gw gd nh g) d 10) ng (dig (tCo v gx gy gw gd ng nh nl) 541 11)))))), (0, .ref (ad 0))]) hx hb dX5_digest_196 hl (by decide) rfl (fun ls hl => ?_)
                      suffices LP_198 : ∀ (n_198 j : Nat) (x1_198 : Int64) (x4_198 : Int32)  (u_198 : Nat → Nat → Int32) (H : Heap) (locs : List Loc) (ls : Array Slot), 6 + 1 ≤ j + n_198 → j ≤ 6 → dig (v (20 + i)) (itr (fun k d => dig (v (20 + k)) d 6) i (itr (fun k d => dig (tLa v k) d 5) nl (itr (fun h d => dHouse v gx gy gw gd h d) nh (itr (fun g d => dig (tGr v gx gy gw gd nh g) d 10) ng (dig (tCo v gx gy gw gd ng nh nl) 541 11))))) j = x1_198 → nI j = x4_198 → v = u_198 → WD G L ad u_198 o w s H → va_S (Ab G.2.2.1) s.heap H locs → lv_has ls 5 [(4, .int x4_198), (3, .int (nI i)), (1, .long x1_198), (0, .ref (ad 0))] → W p l e ({ frames := 6, cells := 0, slots := 0, locals := 146 } : Room) s m ([.ref (ad 0)] : List Value).toArray below meth c H locs 0 0 (MQ below (va_Ql (fun r u => r = dAll v gx gy gw gd ng nh nl ns ∧ u = v) (fun u t => WD G L ad u o w t t.heap) (Ab G.2.2.1)) ([.ref (ad 0)] : List Value).toArray s ({ frames := 6, cells := 0, slots := 0, locals := 146 } : Room).cells ({ frames := 6, cells := 0, slots := 0, locals := 146 } : Room).slots (Ab G.2.2.1)) (F0 m 198 ls []) from LP_198 (6 + 1) 0 _ _   _ H locs ls (by omega) (by omega) (by exact dig_0) (by rfl) (by rfl)  hW hS (lv_sub hl [0, 1, 2, 3] rfl)
                      intro n_198
                      induction n_198 with
                      | zero => intro j x1_198 x4_198  u_198 H locs ls h1 h2; exact absurd h1 (by omega)
                      | succ n_198 ih_198 =>
                        intro j x1_198 x4_198  u_198 H locs ls hn_198 hi_198 ex1_198 ex4_198 eu_198  hW hS hl
                        subst ex1_198
                        subst ex4_198
                        subst eu_198
                        refine lv_iload hx hb dX5_digest_198 (lv_at hl 0 rfl) ?_
                        refine lv_bipush (v := 6) hx hb dX5_digest_200 (by decide) ?_
                        refine lv_icmp_ge (tgt := 228) hx hb dX5_digest_202 (by decide) (fun c_202 => ?_) (fun c_202 => ?_)
                        · skip
                          have hq_198 := (ge_i (n := 6) (by omega) hi_198 c_202).symm
                          subst hq_198
                          refine lv_iinc (v := (nI (i + 1))) (lv' := [(3, .int (nI (i + 1))), (4, .int (nI 6)), (1, .long (dig (v (20 + i)) (itr (fun k d => dig (v (20 + k)) d 6) i (itr (fun k d => dig (tLa v k) d 5) nl (itr (fun h d => dHouse v gx gy gw gd h d) nh (itr (fun g d => dig (tGr v gx gy gw gd nh g) d 10) ng (dig (tCo v gx gy gw gd ng nh nl) 541 11))))) 6)), (0, .ref (ad 0))]) hx hb dX5_digest_228 hl (k := 1) rfl (inc_nI _) (by decide) rfl (fun ls hl => ?_)
                          refine lv_goto (tgt := 187) hx hb dX5_digest_231 (by decide) ?_
                          exact ih_187 (i + 1) _ _   _ H locs ls (by omega) (by omega) (by exact itr_s) (by rfl) (by rfl)  hW hS (lv_sub hl [0, 2, 3] rfl)
                        · skip
                          have hlt_198 := lt_i (n := 6) (by omega) hi_198 c_202
                          refine lv_lload_n hx hb dX5_digest_205 rfl (lv_at hl 2 rfl) ?_
                          refine lv_ldc2 (v := 31) hx hb hown (hts _ t_264) dX5_digest_206 ?_
                          refine lv_lmul hx hb dX5_digest_209 ?_
                          refine lv_aload_n hx hb dX5_digest_210 rfl (lv_at hl 3 rfl) ?_
                          refine q_getr hx hb hts hown hW (r := 0) (hI.c 0 (by decide)) rfl k_6 4 (by decide) rfl t_141 (a := ad 5) (hI.o0 4 (by decide)) dX5_digest_211 ?_
                          refine lv_iload_n hx hb dX5_digest_214 rfl (lv_at hl 1 rfl) ?_
                          refine q_gald hx hb hW (r := 5) (hI.c 5 (by decide)) rfl (a := ad (20 + i)) i rfl (show _ < 30 by omega) (by decide) (hI.o5 i (by omega)) dX5_digest_215 ?_
                          refine lv_iload hx hb dX5_digest_216 (lv_at hl 0 rfl) ?_
                          refine q_iald hx hb hW (r := (20 + i)) (hI.rw i (by omega)) (kd_row (by omega)) j rfl (by rw [ln_row (by omega)]; omega) (by rw [ln_row (by omega)]; decide) (x := (v (20 + i) j)) rfl dX5_digest_218 ?_
                          refine lv_i2l (v := ((v (20 + i) j)).toInt64) hx hb dX5_digest_219 rfl ?_
                          refine lv_ladd hx hb dX5_digest_220 ?_
                          refine lv_lstore_n (lv' := [(1, .long (((dig (v (20 + i)) (itr (fun k d => dig (v (20 + k)) d 6) i (itr (fun k d => dig (tLa v k) d 5) nl (itr (fun h d => dHouse v gx gy gw gd h d) nh (itr (fun g d => dig (tGr v gx gy gw gd nh g) d 10) ng (dig (tCo v gx gy gw gd ng nh nl) 541 11))))) j) * 31) + (Int32.toInt64 (v (20 + i) j)))), (4, .int (nI j)), (3, .int (nI i)), (0, .ref (ad 0))]) hx hb dX5_digest_221 rfl hl (by decide) rfl (fun ls hl => ?_)
                          refine lv_iinc (v := (nI (j + 1))) (lv' := [(4, .int (nI (j + 1))), (1, .long (((dig (v (20 + i)) (itr (fun k d => dig (v (20 + k)) d 6) i (itr (fun k d => dig (tLa v k) d 5) nl (itr (fun h d => dHouse v gx gy gw gd h d) nh (itr (fun g d => dig (tGr v gx gy gw gd nh g) d 10) ng (dig (tCo v gx gy gw gd ng nh nl) 541 11))))) j) * 31) + (Int32.toInt64 (v (20 + i) j)))), (3, .int (nI i)), (0, .ref (ad 0))]) hx hb dX5_digest_222 hl (k := 1) rfl (inc_nI _) (by decide) rfl (fun ls hl => ?_)
                          refine lv_goto (tgt := 198) hx hb dX5_digest_225 (by decide) ?_
                          exact ih_198 (j + 1) _ _   _ H locs ls (by omega) (by omega) (by exact dig_s) (by rfl) (by rfl)  hW hS (lv_sub hl [0, 2, 1, 3] rfl)
                · skip
                  have hlt_125 := lt_i (n := nl) (by omega) hi_125 c_135
                  refine lv_iconst (v := 0) hx hb dX5_digest_138 (by decide) ?_
                  refine lv_istore (lv' := [(4, .int 0), (3, .int (nI i)), (1, .long (itr (fun k d => dig (tLa v k) d 5) i (itr (fun h d => dHouse v gx gy gw gd h d) nh (itr (fun g d => dig (tGr v gx gy gw gd nh g) d 10) ng (dig (tCo v gx gy gw gd ng nh nl) 541 11))))), (0, .ref (ad 0))]) hx hb dX5_digest_139 hl (by decide) rfl (fun ls hl => ?_)
                  suffices LP_141 : ∀ (n_141 j : Nat) (x1_141 : Int64) (x4_141 : Int32)  (u_141 : Nat → Nat → Int32) (H : Heap) (locs : List Loc) (ls : Array Slot), 5 + 1 ≤ j + n_141 → j ≤ 5 → dig (tLa v i) (itr (fun k d => dig (tLa v k) d 5) i (itr (fun h d => dHouse v gx gy gw gd h d) nh (itr (fun g d => dig (tGr v gx gy gw gd nh g) d 10) ng (dig (tCo v gx gy gw gd ng nh nl) 541 11)))) j = x1_141 → nI j = x4_141 → v = u_141 → WD G L ad u_141 o w s H → va_S (Ab G.2.2.1) s.heap H locs → lv_has ls 5 [(4, .int x4_141), (3, .int (nI i)), (1, .long x1_141), (0, .ref (ad 0))] → W p l e ({ frames := 6, cells := 0, slots := 0, locals := 146 } : Room) s m ([.ref (ad 0)] : List Value).toArray below meth c H locs 0 0 (MQ below (va_Ql (fun r u => r = dAll v gx gy gw gd ng nh nl ns ∧ u = v) (fun u t => WD G L ad u o w t t.heap) (Ab G.2.2.1)) ([.ref (ad 0)] : List Value).toArray s ({ frames := 6, cells := 0, slots := 0, locals := 146 } : Room).cells ({ frames := 6, cells := 0, slots := 0, locals := 146 } : Room).slots (Ab G.2.2.1)) (F0 m 141 ls []) from LP_141 (5 + 1) 0 _ _   _ H locs ls (by omega) (by omega) (by exact dig_0) (by rfl) (by rfl)  hW hS (lv_sub hl [0, 1, 2, 3] rfl)
                  intro n_141
                  induction n_141 with
                  | zero => intro j x1_141 x4_141  u_141 H locs ls h1 h2; exact absurd h1 (by omega)
                  | succ n_141 ih_141 =>
                    intro j x1_141 x4_141  u_141 H locs ls hn_141 hi_141 ex1_141 ex4_141 eu_141  hW hS hl
                    subst ex1_141
                    subst ex4_141
                    subst eu_141
                    refine lv_iload hx hb dX5_digest_141 (lv_at hl 0 rfl) ?_
                    refine lv_iconst (v := 5) hx hb dX5_digest_143 (by decide) ?_
                    refine lv_icmp_ge (tgt := 179) hx hb dX5_digest_144 (by decide) (fun c_144 => ?_) (fun c_144 => ?_)
                    · skip
                      have hq_141 := (ge_i (n := 5) (by omega) hi_141 c_144).symm
                      subst hq_141
                      refine lv_iinc (v := (nI (i + 1))) (lv' := [(3, .int (nI (i + 1))), (4, .int (nI 5)), (1, .long (dig (tLa v i) (itr (fun k d => dig (tLa v k) d 5) i (itr (fun h d => dHouse v gx gy gw gd h d) nh (itr (fun g d => dig (tGr v gx gy gw gd nh g) d 10) ng (dig (tCo v gx gy gw gd ng nh nl) 541 11)))) 5)), (0, .ref (ad 0))]) hx hb dX5_digest_179 hl (k := 1) rfl (inc_nI _) (by decide) rfl (fun ls hl => ?_)
                      refine lv_goto (tgt := 125) hx hb dX5_digest_182 (by decide) ?_
                      exact ih_125 (i + 1) _ _   _ H locs ls (by omega) (by omega) (by exact itr_s) (by rfl) (by rfl)  hW hS (lv_sub hl [0, 2, 3] rfl)
                    · skip
                      have hlt_141 := lt_i (n := 5) (by omega) hi_141 c_144
                      refine lv_lload_n hx hb dX5_digest_147 rfl (lv_at hl 2 rfl) ?_
                      refine lv_ldc2 (v := 31) hx hb hown (hts _ t_264) dX5_digest_148 ?_
                      refine lv_lmul hx hb dX5_digest_151 ?_
                      refine lv_aload_n hx hb dX5_digest_152 rfl (lv_at hl 3 rfl) ?_
                      refine q_getr hx hb hts hown hW (r := 0) (hI.c 0 (by decide)) rfl k_6 2 (by decide) rfl t_139 (a := ad 3) (hI.o0 2 (by decide)) dX5_digest_153 ?_
                      refine lv_iload_n hx hb dX5_digest_156 rfl (lv_at hl 1 rfl) ?_
                      refine q_cFrE (n := 1) (As := [.int (nI i)]) (rest := [.long ((dig (tLa v i) (itr (fun k d => dig (tLa v k) d 5) i (itr (fun h d => dHouse v gx gy gw gd h d) nh (itr (fun g d => dig (tGr v gx gy gw gd nh g) d 10) ng (dig (tCo v gx gy gw gd ng nh nl) 541 11)))) j) * 31)]) (r := 3) hx hb hml hts hown hE h0 hW hS hE.2.2.1 (c_get l hI.ll (i := i) hlt_125) t_191 t_189 t_187 t_49 (by decide) (by decide +kernel) (hI.c 3 (by decide)) rfl k_0 t_184 ⟨Nat.le_of_ble_eq_true rfl, Nat.le_of_ble_eq_true rfl⟩ rfl hl.1 (Nat.le_of_ble_eq_true rfl) dX5_digest_157 ⟨Nat.zero_le _, Nat.zero_le _⟩ ⟨rfl, rfl⟩ (fun H locs hW hS => ?_)
                      refine q_castS hx hb hts hown hW (r := (80 + i)) (hI.ml hlt_125) (hI.kl hlt_125) k_3 t_235 dX5_digest_162 ?_
                      refine lv_iload hx hb dX5_digest_165 (lv_at hl 0 rfl) ?_
                      refine q_cSiE (As := [.ref (ad (80 + i)), .int (nI j)]) (rest := [.long ((dig (tLa v i) (itr (fun k d => dig (tLa v k) d 5) i (itr (fun h d => dHouse v gx gy gw gd h d) nh (itr (fun g d => dig (tGr v gx gy gw gd nh g) d 10) ng (dig (tCo v gx gy gw gd ng nh nl) 541 11)))) j) * 31)]) hx hb hml hts hown hE h0 hW hS (c_X5_tellLayer l hI hlt_125 hlt_141) mw_X5_tellLayer t_305 ⟨Nat.le_of_ble_eq_true rfl, Nat.le_of_ble_eq_true rfl⟩ rfl hl.1 (Nat.le_of_ble_eq_true rfl) dX5_digest_167 ⟨Nat.zero_le _, Nat.zero_le _⟩ ⟨rfl, rfl⟩ (fun H locs hW hS => ?_)
                      refine lv_i2l (v := ((tLa v i j)).toInt64) hx hb dX5_digest_170 rfl ?_
                      refine lv_ladd hx hb dX5_digest_171 ?_
                      refine lv_lstore_n (lv' := [(1, .long (((dig (tLa v i) (itr (fun k d => dig (tLa v k) d 5) i (itr (fun h d => dHouse v gx gy gw gd h d) nh (itr (fun g d => dig (tGr v gx gy gw gd nh g) d 10) ng (dig (tCo v gx gy gw gd ng nh nl) 541 11)))) j) * 31) + (Int32.toInt64 (tLa v i j)))), (4, .int (nI j)), (3, .int (nI i)), (0, .ref (ad 0))]) hx hb dX5_digest_172 rfl hl (by decide) rfl (fun ls hl => ?_)
                      refine lv_iinc (v := (nI (j + 1))) (lv' := [(4, .int (nI (j + 1))), (1, .long (((dig (tLa v i) (itr (fun k d => dig (tLa v k) d 5) i (itr (fun h d => dHouse v gx gy gw gd h d) nh (itr (fun g d => dig (tGr v gx gy gw gd nh g) d 10) ng (dig (tCo v gx gy gw gd ng nh nl) 541 11)))) j) * 31) + (Int32.toInt64 (tLa v i j)))), (3, .int (nI i)), (0, .ref (ad 0))]) hx hb dX5_digest_173 hl (k := 1) rfl (inc_nI _) (by decide) rfl (fun ls hl => ?_)
                      refine lv_goto (tgt := 141) hx hb dX5_digest_176 (by decide) ?_
                      exact ih_141 (j + 1) _ _   _ H locs ls (by omega) (by omega) (by exact dig_s) (by rfl) (by rfl)  hW hS (lv_sub hl [0, 2, 1, 3] rfl)
            · skip
              have hlt_85 := lt_i (n := nh) (by omega) hi_85 c_95
              refine lv_aload_n hx hb dX5_digest_98 rfl (lv_at hl 2 rfl) ?_
              refine lv_lload_n hx hb dX5_digest_99 rfl (lv_at hl 1 rfl) ?_
              refine lv_aload_n hx hb dX5_digest_100 rfl (lv_at hl 2 rfl) ?_
              refine q_getr hx hb hts hown hW (r := 0) (hI.c 0 (by decide)) rfl k_6 1 (by decide) rfl t_138 (a := ad 2) (hI.o0 1 (by decide)) dX5_digest_101 ?_
              refine lv_iload_n hx hb dX5_digest_104 rfl (lv_at hl 0 rfl) ?_
              refine q_cFrE (n := 1) (As := [.int (nI i)]) (rest := [.long (itr (fun h d => dHouse v gx gy gw gd h d) i (itr (fun g d => dig (tGr v gx gy gw gd nh g) d 10) ng (dig (tCo v gx gy gw gd ng nh nl) 541 11))), .ref (ad 0)]) (r := 2) hx hb hml hts hown hE h0 hW hS hE.2.2.1 (c_get l hI.lh (i := i) hlt_85) t_191 t_189 t_187 t_49 (by decide) (by decide +kernel) (hI.c 2 (by decide)) rfl k_0 t_184 ⟨Nat.le_of_ble_eq_true rfl, Nat.le_of_ble_eq_true rfl⟩ rfl hl.1 (Nat.le_of_ble_eq_true rfl) dX5_digest_105 ⟨Nat.zero_le _, Nat.zero_le _⟩ ⟨rfl, rfl⟩ (fun H locs hW hS => ?_)
              refine q_castS hx hb hts hown hW (r := (60 + i)) (hI.mh hlt_85) (hI.kh hlt_85) k_2 t_207 dX5_digest_110 ?_
              refine q_cVlE (As := [.long (itr (fun h d => dHouse v gx gy gw gd h d) i (itr (fun g d => dig (tGr v gx gy gw gd nh g) d 10) ng (dig (tCo v gx gy gw gd ng nh nl) 541 11))), .ref (ad (60 + i))]) (rest := []) (r := 0) hx hb hml hts hown hE h0 hW hS (c_X5_digestHouse l hI hlt_85 (itr (fun h d => dHouse v gx gy gw gd h d) i (itr (fun g d => dig (tGr v gx gy gw gd nh g) d 10) ng (dig (tCo v gx gy gw gd ng nh nl) 541 11)))) mw_X5_digestHouse (hI.c 0 (by decide)) rfl k_6 t_297 ⟨Nat.le_of_ble_eq_true rfl, Nat.le_of_ble_eq_true rfl⟩ rfl hl.1 (Nat.le_of_ble_eq_true rfl) dX5_digest_113 ⟨Nat.zero_le _, Nat.zero_le _⟩ ⟨rfl, rfl⟩ (fun H locs hW hS => ?_)
              refine lv_lstore_n (lv' := [(1, .long (dHouse v gx gy gw gd i (itr (fun h d => dHouse v gx gy gw gd h d) i (itr (fun g d => dig (tGr v gx gy gw gd nh g) d 10) ng (dig (tCo v gx gy gw gd ng nh nl) 541 11))))), (3, .int (nI i)), (0, .ref (ad 0))]) hx hb dX5_digest_116 rfl hl (by decide) rfl (fun ls hl => ?_)
              refine lv_iinc (v := (nI (i + 1))) (lv' := [(3, .int (nI (i + 1))), (1, .long (dHouse v gx gy gw gd i (itr (fun h d => dHouse v gx gy gw gd h d) i (itr (fun g d => dig (tGr v gx gy gw gd nh g) d 10) ng (dig (tCo v gx gy gw gd ng nh nl) 541 11))))), (0, .ref (ad 0))]) hx hb dX5_digest_117 hl (k := 1) rfl (inc_nI _) (by decide) rfl (fun ls hl => ?_)
              refine lv_goto (tgt := 85) hx hb dX5_digest_120 (by decide) ?_
              exact ih_85 (i + 1) _ _   _ H locs ls (by omega) (by omega) (by exact itr_s) (by rfl) (by rfl)  hW hS (lv_sub hl [0, 1, 2] rfl)
        · skip
          have hlt_33 := lt_i (n := ng) (by omega) hi_33 c_43
          refine lv_iconst (v := 0) hx hb dX5_digest_46 (by decide) ?_
          refine lv_istore (lv' := [(4, .int 0), (3, .int (nI i)), (1, .long (itr (fun g d => dig (tGr v gx gy gw gd nh g) d 10) i (dig (tCo v gx gy gw gd ng nh nl) 541 11))), (0, .ref (ad 0))]) hx hb dX5_digest_47 hl (by decide) rfl (fun ls hl => ?_)
          suffices LP_49 : ∀ (n_49 j : Nat) (x1_49 : Int64) (x4_49 : Int32)  (u_49 : Nat → Nat → Int32) (H : Heap) (locs : List Loc) (ls : Array Slot), 10 + 1 ≤ j + n_49 → j ≤ 10 → dig (tGr v gx gy gw gd nh i) (itr (fun g d => dig (tGr v gx gy gw gd nh g) d 10) i (dig (tCo v gx gy gw gd ng nh nl) 541 11)) j = x1_49 → nI j = x4_49 → v = u_49 → WD G L ad u_49 o w s H → va_S (Ab G.2.2.1) s.heap H locs → lv_has ls 5 [(4, .int x4_49), (3, .int (nI i)), (1, .long x1_49), (0, .ref (ad 0))] → W p l e ({ frames := 6, cells := 0, slots := 0, locals := 146 } : Room) s m ([.ref (ad 0)] : List Value).toArray below meth c H locs 0 0 (MQ below (va_Ql (fun r u => r = dAll v gx gy gw gd ng nh nl ns ∧ u = v) (fun u t => WD G L ad u o w t t.heap) (Ab G.2.2.1)) ([.ref (ad 0)] : List Value).toArray s ({ frames := 6, cells := 0, slots := 0, locals := 146 } : Room).cells ({ frames := 6, cells := 0, slots := 0, locals := 146 } : Room).slots (Ab G.2.2.1)) (F0 m 49 ls []) from LP_49 (10 + 1) 0 _ _   _ H locs ls (by omega) (by omega) (by exact dig_0) (by rfl) (by rfl)  hW hS (lv_sub hl [0, 1, 2, 3] rfl)
          intro n_49
          induction n_49 with
          | zero => intro j x1_49 x4_49  u_49 H locs ls h1 h2; exact absurd h1 (by omega)
          | succ n_49 ih_49 =>
            intro j x1_49 x4_49  u_49 H locs ls hn_49 hi_49 ex1_49 ex4_49 eu_49  hW hS hl
            subst ex1_49
            subst ex4_49
            subst eu_49
            refine lv_iload hx hb dX5_digest_49 (lv_at hl 0 rfl) ?_
            refine lv_bipush (v := 10) hx hb dX5_digest_51 (by decide) ?_
            refine lv_icmp_ge (tgt := 77) hx hb dX5_digest_53 (by decide) (fun c_53 => ?_) (fun c_53 => ?_)
            · skip
              have hq_49 := (ge_i (n := 10) (by omega) hi_49 c_53).symm
              subst hq_49
              refine lv_iinc (v := (nI (i + 1))) (lv' := [(3, .int (nI (i + 1))), (4, .int (nI 10)), (1, .long (dig (tGr v gx gy gw gd nh i) (itr (fun g d => dig (tGr v gx gy gw gd nh g) d 10) i (dig (tCo v gx gy gw gd ng nh nl) 541 11)) 10)), (0, .ref (ad 0))]) hx hb dX5_digest_77 hl (k := 1) rfl (inc_nI _) (by decide) rfl (fun ls hl => ?_)
              refine lv_goto (tgt := 33) hx hb dX5_digest_80 (by decide) ?_
              exact ih_33 (i + 1) _ _   _ H locs ls (by omega) (by omega) (by exact itr_s) (by rfl) (by rfl)  hW hS (lv_sub hl [0, 2, 3] rfl)
            · skip
              have hlt_49 := lt_i (n := 10) (by omega) hi_49 c_53
              refine lv_lload_n hx hb dX5_digest_56 rfl (lv_at hl 2 rfl) ?_
              refine lv_ldc2 (v := 31) hx hb hown (hts _ t_264) dX5_digest_57 ?_
              refine lv_lmul hx hb dX5_digest_60 ?_
              refine lv_aload_n hx hb dX5_digest_61 rfl (lv_at hl 3 rfl) ?_
              refine lv_iload_n hx hb dX5_digest_62 rfl (lv_at hl 1 rfl) ?_
              refine lv_iload hx hb dX5_digest_63 (lv_at hl 0 rfl) ?_
              refine q_cViE (As := [.int (nI i), .int (nI j)]) (rest := [.long ((dig (tGr v gx gy gw gd nh i) (itr (fun g d => dig (tGr v gx gy gw gd nh g) d 10) i (dig (tCo v gx gy gw gd ng nh nl) 541 11)) j) * 31)]) (r := 0) hx hb hml hts hown hE h0 hW hS (c_X5_tellGrower l hI hlt_33 hlt_49) mw_X5_tellGrower (hI.c 0 (by decide)) rfl k_6 t_285 ⟨Nat.le_of_ble_eq_true rfl, Nat.le_of_ble_eq_true rfl⟩ rfl hl.1 (Nat.le_of_ble_eq_true rfl) dX5_digest_65 ⟨Nat.zero_le _, Nat.zero_le _⟩ ⟨rfl, rfl⟩ (fun H locs hW hS => ?_)
              refine lv_i2l (v := ((tGr v gx gy gw gd nh i j)).toInt64) hx hb dX5_digest_68 rfl ?_
              refine lv_ladd hx hb dX5_digest_69 ?_
              refine lv_lstore_n (lv' := [(1, .long (((dig (tGr v gx gy gw gd nh i) (itr (fun g d => dig (tGr v gx gy gw gd nh g) d 10) i (dig (tCo v gx gy gw gd ng nh nl) 541 11)) j) * 31) + (Int32.toInt64 (tGr v gx gy gw gd nh i j)))), (4, .int (nI j)), (3, .int (nI i)), (0, .ref (ad 0))]) hx hb dX5_digest_70 rfl hl (by decide) rfl (fun ls hl => ?_)
              refine lv_iinc (v := (nI (j + 1))) (lv' := [(4, .int (nI (j + 1))), (1, .long (((dig (tGr v gx gy gw gd nh i) (itr (fun g d => dig (tGr v gx gy gw gd nh g) d 10) i (dig (tCo v gx gy gw gd ng nh nl) 541 11)) j) * 31) + (Int32.toInt64 (tGr v gx gy gw gd nh i j)))), (3, .int (nI i)), (0, .ref (ad 0))]) hx hb dX5_digest_71 hl (k := 1) rfl (inc_nI _) (by decide) rfl (fun ls hl => ?_)
              refine lv_goto (tgt := 49) hx hb dX5_digest_74 (by decide) ?_
              exact ih_49 (j + 1) _ _   _ H locs ls (by omega) (by omega) (by exact dig_s) (by rfl) (by rfl)  hW hS (lv_sub hl [0, 2, 1, 3] rfl)
    · skip
      have hlt_6 := lt_i (n := 11) (by omega) hi_6 c_9
      refine lv_lload_n hx hb dX5_digest_12 rfl (lv_at hl 1 rfl) ?_
      refine lv_ldc2 (v := 31) hx hb hown (hts _ t_264) dX5_digest_13 ?_
      refine lv_lmul hx hb dX5_digest_16 ?_
      refine lv_aload_n hx hb dX5_digest_17 rfl (lv_at hl 2 rfl) ?_
      refine lv_iload_n hx hb dX5_digest_18 rfl (lv_at hl 0 rfl) ?_
      refine q_cViE (As := [.int (nI i)]) (rest := [.long ((dig (tCo v gx gy gw gd ng nh nl) 541 i) * 31)]) (r := 0) hx hb hml hts hown hE h0 hW hS (c_X5_tellCount l hI hlt_6) mw_X5_tellCount (hI.c 0 (by decide)) rfl k_6 t_265 ⟨Nat.le_of_ble_eq_true rfl, Nat.le_of_ble_eq_true rfl⟩ rfl hl.1 (Nat.le_of_ble_eq_true rfl) dX5_digest_19 ⟨Nat.zero_le _, Nat.zero_le _⟩ ⟨rfl, rfl⟩ (fun H locs hW hS => ?_)
      refine lv_i2l (v := ((tCo v gx gy gw gd ng nh nl i)).toInt64) hx hb dX5_digest_22 rfl ?_
      refine lv_ladd hx hb dX5_digest_23 ?_
      refine lv_lstore_n (lv' := [(1, .long (((dig (tCo v gx gy gw gd ng nh nl) 541 i) * 31) + (Int32.toInt64 (tCo v gx gy gw gd ng nh nl i)))), (3, .int (nI i)), (0, .ref (ad 0))]) hx hb dX5_digest_24 rfl hl (by decide) rfl (fun ls hl => ?_)
      refine lv_iinc (v := (nI (i + 1))) (lv' := [(3, .int (nI (i + 1))), (1, .long (((dig (tCo v gx gy gw gd ng nh nl) 541 i) * 31) + (Int32.toInt64 (tCo v gx gy gw gd ng nh nl i)))), (0, .ref (ad 0))]) hx hb dX5_digest_25 hl (k := 1) rfl (inc_nI _) (by decide) rfl (fun ls hl => ?_)
      refine lv_goto (tgt := 6) hx hb dX5_digest_28 (by decide) ?_
      exact ih_6 (i + 1) _ _   _ H locs ls (by omega) (by omega) (by exact dig_s) (by rfl) (by rfl)  hW hS (lv_sub hl [0, 1, 2] rfl)
