/-! the reference's state: its methods -/
set_option maxHeartbeats 4000000 in
set_option maxRecDepth 100000 in
theorem c_X6_size (l : Launch) {G : GG} {L : List Nat} {ad : Nat → Nat} {v : Nat → Nat → Int32} {o : Nat → Nat → Option Nat} {w : Nat → Int64} {S B ng nh nl ns : Nat} {ow gx gy gw gd : Nat → Nat} (hJ : PJ L ad v o S B ng nh nl ns ow gx gy gw gd) {h : Nat} (hh : h < nh) : CtI l G L ad v o w yX6_size cX6_size 2 .int ({ frames := 0, cells := 0, slots := 0, locals := 0 }) [.ref (ad S), .int (nI h)] (fun r u => r = nI (gw h * gd h) ∧ u = v) := by
  have hsb := hJ.q.sb; have hbd := hJ.bd
  refine q_ofI (by decide) (Nat.le_of_ble_eq_true rfl) ?_
  intro p e s m below meth c hx hb hr hml hts hown hlocks hE h0 hW hS ls hl
  generalize hH : s.heap = H at hW
  have hS : va_S (Ab G.2.2.1) s.heap H [] := hH ▸ hS
  obtain ⟨locs, hlc⟩ : ∃ z : List Loc, z = [] := ⟨_, rfl⟩
  rw [← hlc] at hS ⊢
  have hl : lv_has ls 2 [(0, .ref (ad S)), (1, .int (nI h))] := hl
  refine lv_aload_n hx hb dX6_size_0 rfl (lv_at hl 0 rfl) ?_
  refine q_getr hx hb hts hown hW (r := S) hJ.q.mS hJ.q.kS k_7 7 (by decide) rfl t_881 (a := ad (B + 7)) (hJ.q.oB 7 rfl) dX6_size_1 ?_
  refine lv_bipush (v := 7) hx hb dX6_size_4 (by decide) ?_
  refine lv_iload_n hx hb dX6_size_6 rfl (lv_at hl 1 rfl) ?_
  refine lv_imul hx hb dX6_size_7 ?_
  refine lv_iconst (v := 3) hx hb dX6_size_8 (by decide) ?_
  refine lv_iadd hx hb dX6_size_9 ?_
  refine q_iald hx hb hW (r := (B + 7)) (hJ.q.mB 7 rfl) (hJ.q.k9 7 rfl (by decide)) (7 * h + 3) (ix_add (ix_mul rfl rfl) rfl) (by rw [hJ.q.ln 7 rfl]; show _ < 84; omega) (by rw [hJ.q.ln 7 rfl]; decide) (x := (nI (gw h))) (hJ.eW hh) dX6_size_10 ?_
  refine lv_aload_n hx hb dX6_size_11 rfl (lv_at hl 0 rfl) ?_
  refine q_getr hx hb hts hown hW (r := S) hJ.q.mS hJ.q.kS k_7 7 (by decide) rfl t_881 (a := ad (B + 7)) (hJ.q.oB 7 rfl) dX6_size_12 ?_
  refine lv_bipush (v := 7) hx hb dX6_size_15 (by decide) ?_
  refine lv_iload_n hx hb dX6_size_17 rfl (lv_at hl 1 rfl) ?_
  refine lv_imul hx hb dX6_size_18 ?_
  refine lv_iconst (v := 4) hx hb dX6_size_19 (by decide) ?_
  refine lv_iadd hx hb dX6_size_20 ?_
  refine q_iald hx hb hW (r := (B + 7)) (hJ.q.mB 7 rfl) (hJ.q.k9 7 rfl (by decide)) (7 * h + 4) (ix_add (ix_mul rfl rfl) rfl) (by rw [hJ.q.ln 7 rfl]; show _ < 84; omega) (by rw [hJ.q.ln 7 rfl]; decide) (x := (nI (gd h))) (hJ.eD hh) dX6_size_21 ?_
  refine lv_imul hx hb dX6_size_22 ?_
  exact q_iret hx hb hr hlocks hW hS (Nat.le_refl _) (Nat.le_refl _) dX6_size_23 (⟨pk_mul _ _, rfl⟩)

set_option maxHeartbeats 4000000 in
set_option maxRecDepth 100000 in
theorem c_X6_valueOf (l : Launch) {G : GG} {L : List Nat} {ad : Nat → Nat} {v : Nat → Nat → Int32} {o : Nat → Nat → Option Nat} {w : Nat → Int64} {S B ng nh nl ns : Nat} {ow gx gy gw gd : Nat → Nat} (hJ : PJ L ad v o S B ng nh nl ns ow gx gy gw gd) {h : Nat} (hh : h < nh) (t : Int32) : CtI l G L ad v o w yX6_valueOf cX6_valueOf 3 .int ({ frames := 0, cells := 0, slots := 0, locals := 0 }) [.ref (ad S), .int (nI h), .int t] (fun r u => r = rVal v B h t ∧ u = v) := by
  have hsb := hJ.q.sb; have hbd := hJ.bd; have hgeo := (hJ.hs h hh).1; have hz36 := hJ.z36 hh
  refine q_ofI (by decide) (Nat.le_of_ble_eq_true rfl) ?_
  intro p e s m below meth c hx hb hr hml hts hown hlocks hE h0 hW hS ls hl
  generalize hH : s.heap = H at hW
  have hS : va_S (Ab G.2.2.1) s.heap H [] := hH ▸ hS
  obtain ⟨locs, hlc⟩ : ∃ z : List Loc, z = [] := ⟨_, rfl⟩
  rw [← hlc] at hS ⊢
  have hl : lv_has ls 3 [(0, .ref (ad S)), (1, .int (nI h)), (2, .int t)] := hl
  refine lv_iload_n hx hb dX6_valueOf_0 rfl (lv_at hl 2 rfl) ?_
  refine lv_if_ne (tgt := 8) hx hb dX6_valueOf_1 (by decide) (fun c_1 => ?_) (fun c_1 => ?_)
  · skip
    refine lv_iload_n hx hb dX6_valueOf_8 rfl (lv_at hl 2 rfl) ?_
    refine lv_iconst (v := 1) hx hb dX6_valueOf_9 (by decide) ?_
    refine lv_icmp_ne (tgt := 30) hx hb dX6_valueOf_10 (by decide) (fun c_10 => ?_) (fun c_10 => ?_)
    · skip
      refine lv_aload_n hx hb dX6_valueOf_30 rfl (lv_at hl 0 rfl) ?_
      refine q_getr hx hb hts hown hW (r := S) hJ.q.mS hJ.q.kS k_7 7 (by decide) rfl t_881 (a := ad (B + 7)) (hJ.q.oB 7 rfl) dX6_valueOf_31 ?_
      refine lv_bipush (v := 7) hx hb dX6_valueOf_34 (by decide) ?_
      refine lv_iload_n hx hb dX6_valueOf_36 rfl (lv_at hl 1 rfl) ?_
      refine lv_imul hx hb dX6_valueOf_37 ?_
      refine lv_bipush (v := 6) hx hb dX6_valueOf_38 (by decide) ?_
      refine lv_iadd hx hb dX6_valueOf_40 ?_
      refine q_iald hx hb hW (r := (B + 7)) (hJ.q.mB 7 rfl) (hJ.q.k9 7 rfl (by decide)) (7 * h + 6) (ix_add (ix_mul rfl rfl) rfl) (by rw [hJ.q.ln 7 rfl]; show _ < 84; omega) (by rw [hJ.q.ln 7 rfl]; decide) (x := (v (B + 7) (7 * h + 6))) rfl dX6_valueOf_41 ?_
      exact q_iret hx hb hr hlocks hW hS (Nat.le_refl _) (Nat.le_refl _) dX6_valueOf_42 (⟨by simp [rVal, *], rfl⟩)
    · skip
      refine lv_aload_n hx hb dX6_valueOf_13 rfl (lv_at hl 0 rfl) ?_
      refine q_getr hx hb hts hown hW (r := S) hJ.q.mS hJ.q.kS k_7 7 (by decide) rfl t_881 (a := ad (B + 7)) (hJ.q.oB 7 rfl) dX6_valueOf_14 ?_
      refine lv_bipush (v := 7) hx hb dX6_valueOf_17 (by decide) ?_
      refine lv_iload_n hx hb dX6_valueOf_19 rfl (lv_at hl 1 rfl) ?_
      refine lv_imul hx hb dX6_valueOf_20 ?_
      refine lv_bipush (v := 6) hx hb dX6_valueOf_21 (by decide) ?_
      refine lv_iadd hx hb dX6_valueOf_23 ?_
      refine q_iald hx hb hW (r := (B + 7)) (hJ.q.mB 7 rfl) (hJ.q.k9 7 rfl (by decide)) (7 * h + 6) (ix_add (ix_mul rfl rfl) rfl) (by rw [hJ.q.ln 7 rfl]; show _ < 84; omega) (by rw [hJ.q.ln 7 rfl]; decide) (x := (v (B + 7) (7 * h + 6))) rfl dX6_valueOf_24 ?_
      refine lv_iconst (v := 2) hx hb dX6_valueOf_25 (by decide) ?_
      refine lv_idiv hx hb dX6_valueOf_26 (by decide) ?_
      refine lv_goto (tgt := 42) hx hb dX6_valueOf_27 (by decide) ?_
      exact q_iret hx hb hr hlocks hW hS (Nat.le_refl _) (Nat.le_refl _) dX6_valueOf_42 (⟨by simp [rVal, *], rfl⟩)
  · skip
    refine lv_iconst (v := 0) hx hb dX6_valueOf_4 (by decide) ?_
    refine lv_goto (tgt := 42) hx hb dX6_valueOf_5 (by decide) ?_
    exact q_iret hx hb hr hlocks hW hS (Nat.le_refl _) (Nat.le_refl _) dX6_valueOf_42 (⟨by simp [rVal, *], rfl⟩)

set_option maxHeartbeats 4000000 in
set_option maxRecDepth 100000 in
theorem c_X6_lostOf (l : Launch) {G : GG} {L : List Nat} {ad : Nat → Nat} {v : Nat → Nat → Int32} {o : Nat → Nat → Option Nat} {w : Nat → Int64} {S B ng nh nl ns : Nat} {ow gx gy gw gd : Nat → Nat} (hJ : PJ L ad v o S B ng nh nl ns ow gx gy gw gd) {h : Nat} (hh : h < nh) : CtI l G L ad v o w yX6_lostOf cX6_lostOf 4 .int ({ frames := 1, cells := 0, slots := 0, locals := 22 }) [.ref (ad S), .int (nI h)] (fun r u => r = rLost v B (gw h * gd h) h ∧ u = v) := by
  have hsb := hJ.q.sb; have hbd := hJ.bd; have hgeo := (hJ.hs h hh).1; have hz36 := hJ.z36 hh
  refine q_ofI (by decide) (Nat.le_of_ble_eq_true rfl) ?_
  intro p e s m below meth c hx hb hr hml hts hown hlocks hE h0 hW hS ls hl
  generalize hH : s.heap = H at hW
  have hS : va_S (Ab G.2.2.1) s.heap H [] := hH ▸ hS
  obtain ⟨locs, hlc⟩ : ∃ z : List Loc, z = [] := ⟨_, rfl⟩
  rw [← hlc] at hS ⊢
  have hl : lv_has ls 4 [(0, .ref (ad S)), (1, .int (nI h))] := hl
  refine lv_iconst (v := 0) hx hb dX6_lostOf_0 (by decide) ?_
  refine lv_istore_n (lv' := [(2, .int 0), (0, .ref (ad S)), (1, .int (nI h))]) hx hb dX6_lostOf_1 rfl hl (by decide) rfl (fun ls hl => ?_)
  refine lv_iconst (v := 0) hx hb dX6_lostOf_2 (by decide) ?_
  refine lv_istore_n (lv' := [(3, .int 0), (2, .int 0), (0, .ref (ad S)), (1, .int (nI h))]) hx hb dX6_lostOf_3 rfl hl (by decide) rfl (fun ls hl => ?_)
  suffices LP_4 : ∀ (n_4 k1 : Nat) (x2_4 : Int32) (x3_4 : Int32)  (u_4 : Nat → Nat → Int32) (H : Heap) (locs : List Loc) (ls : Array Slot), gw h * gd h + 1 ≤ k1 + n_4 → k1 ≤ gw h * gd h → sumI (fun k => rVal v B h (v (B + 9) (36 * h + k))) k1 = x2_4 → nI k1 = x3_4 → v = u_4 → WD G L ad u_4 o w s H → va_S (Ab G.2.2.1) s.heap H locs → lv_has ls 4 [(3, .int x3_4), (2, .int x2_4), (0, .ref (ad S)), (1, .int (nI h))] → W p l e ({ frames := 1, cells := 0, slots := 0, locals := 22 } : Room) s m ([.ref (ad S), .int (nI h)] : List Value).toArray below meth c H locs 0 0 (MQ below (va_Qi (fun r u => r = rLost v B (gw h * gd h) h ∧ u = v) (fun u t => WD G L ad u o w t t.heap) (Ab G.2.2.1)) ([.ref (ad S), .int (nI h)] : List Value).toArray s ({ frames := 1, cells := 0, slots := 0, locals := 22 } : Room).cells ({ frames := 1, cells := 0, slots := 0, locals := 22 } : Room).slots (Ab G.2.2.1)) (F0 m 4 ls []) from LP_4 (gw h * gd h + 1) 0 _ _   _ H locs ls (by omega) (by omega) (by rfl) (by rfl) (by rfl)  hW hS (lv_sub hl [0, 1, 2, 3] rfl)
  intro n_4
  induction n_4 with
  | zero => intro k1 x2_4 x3_4  u_4 H locs ls h1 h2; exact absurd h1 (by omega)
  | succ n_4 ih_4 =>
    intro k1 x2_4 x3_4  u_4 H locs ls hn_4 hi_4 ex2_4 ex3_4 eu_4  hW hS hl
    subst ex2_4
    subst ex3_4
    subst eu_4
    refine lv_iload_n hx hb dX6_lostOf_4 rfl (lv_at hl 0 rfl) ?_
    refine lv_aload_n hx hb dX6_lostOf_5 rfl (lv_at hl 2 rfl) ?_
    refine lv_iload_n hx hb dX6_lostOf_6 rfl (lv_at hl 3 rfl) ?_
    refine q_cViE (As := [.int (nI h)]) (rest := [.int (nI k1)]) (r := S) hx hb hml hts hown hE h0 hW hS (c_X6_size l hJ hh) mw_X6_size hJ.q.mS hJ.q.kS k_7 t_1003 ⟨Nat.le_of_ble_eq_true rfl, Nat.le_of_ble_eq_true rfl⟩ rfl hl.1 (Nat.le_of_ble_eq_true rfl) dX6_lostOf_7 ⟨Nat.zero_le _, Nat.zero_le _⟩ ⟨rfl, rfl⟩ (fun H locs hW hS => ?_)
    refine lv_icmp_ge (tgt := 38) hx hb dX6_lostOf_10 (by decide) (fun c_10 => ?_) (fun c_10 => ?_)
    · skip
      have hq_4 := (ge_i (n := (gw h * gd h)) (by omega) hi_4 c_10).symm
      subst hq_4
      refine lv_iload_n hx hb dX6_lostOf_38 rfl (lv_at hl 1 rfl) ?_
      exact q_iret hx hb hr hlocks hW hS (Nat.le_refl _) (Nat.le_refl _) dX6_lostOf_39 (⟨rfl, rfl⟩)
    · skip
      have hlt_4 := lt_i (n := (gw h * gd h)) (by omega) hi_4 c_10
      refine lv_iload_n hx hb dX6_lostOf_13 rfl (lv_at hl 1 rfl) ?_
      refine lv_aload_n hx hb dX6_lostOf_14 rfl (lv_at hl 2 rfl) ?_
      refine lv_iload_n hx hb dX6_lostOf_15 rfl (lv_at hl 3 rfl) ?_
      refine lv_aload_n hx hb dX6_lostOf_16 rfl (lv_at hl 2 rfl) ?_
      refine q_getr hx hb hts hown hW (r := S) hJ.q.mS hJ.q.kS k_7 9 (by decide) rfl t_885 (a := ad (B + 9)) (hJ.q.oB 9 rfl) dX6_lostOf_17 ?_
      refine lv_bipush (v := 36) hx hb dX6_lostOf_20 (by decide) ?_
      refine lv_iload_n hx hb dX6_lostOf_22 rfl (lv_at hl 3 rfl) ?_
      refine lv_imul hx hb dX6_lostOf_23 ?_
      refine lv_iload_n hx hb dX6_lostOf_24 rfl (lv_at hl 0 rfl) ?_
      refine lv_iadd hx hb dX6_lostOf_25 ?_
      refine q_iald hx hb hW (r := (B + 9)) (hJ.q.mB 9 rfl) (hJ.q.k9 9 rfl (by decide)) (36 * h + k1) (ix_add (ix_mul rfl rfl) rfl) (by rw [hJ.q.ln 9 rfl]; show _ < 432; omega) (by rw [hJ.q.ln 9 rfl]; decide) (x := (v (B + 9) (36 * h + k1))) rfl dX6_lostOf_26 ?_
      refine q_cViE (As := [.int (nI h), .int (v (B + 9) (36 * h + k1))]) (rest := [.int (sumI (fun k => rVal v B h (v (B + 9) (36 * h + k))) k1)]) (r := S) hx hb hml hts hown hE h0 hW hS (c_X6_valueOf l hJ hh (v (B + 9) (36 * h + k1))) mw_X6_valueOf hJ.q.mS hJ.q.kS k_7 t_1007 ⟨Nat.le_of_ble_eq_true rfl, Nat.le_of_ble_eq_true rfl⟩ rfl hl.1 (Nat.le_of_ble_eq_true rfl) dX6_lostOf_27 ⟨Nat.zero_le _, Nat.zero_le _⟩ ⟨rfl, rfl⟩ (fun H locs hW hS => ?_)
      refine lv_iadd hx hb dX6_lostOf_30 ?_
      refine lv_istore_n (lv' := [(2, .int ((sumI (fun k => rVal v B h (v (B + 9) (36 * h + k))) k1) + (rVal v B h (v (B + 9) (36 * h + k1))))), (3, .int (nI k1)), (0, .ref (ad S)), (1, .int (nI h))]) hx hb dX6_lostOf_31 rfl hl (by decide) rfl (fun ls hl => ?_)
      refine lv_iinc (v := (nI (k1 + 1))) (lv' := [(3, .int (nI (k1 + 1))), (2, .int ((sumI (fun k => rVal v B h (v (B + 9) (36 * h + k))) k1) + (rVal v B h (v (B + 9) (36 * h + k1))))), (0, .ref (ad S)), (1, .int (nI h))]) hx hb dX6_lostOf_32 hl (k := 1) rfl (inc_nI _) (by decide) rfl (fun ls hl => ?_)
      refine lv_goto (tgt := 4) hx hb dX6_lostOf_35 (by decide) ?_
      exact ih_4 (k1 + 1) _ _   _ H locs ls (by omega) (by omega) (by rfl) (by rfl) (by rfl)  hW hS (lv_sub hl [0, 1, 2, 3] rfl)

set_option maxHeartbeats 4000000 in
set_option maxRecDepth 100000 in
theorem c_X6_lostBy (l : Launch) {G : GG} {L : List Nat} {ad : Nat → Nat} {v : Nat → Nat → Int32} {o : Nat → Nat → Option Nat} {w : Nat → Int64} {S B ng nh nl ns : Nat} {ow gx gy gw gd : Nat → Nat} (hJ : PJ L ad v o S B ng nh nl ns ow gx gy gw gd) (g : Int32) : CtI l G L ad v o w yX6_lostBy cX6_lostBy 4 .int ({ frames := 2, cells := 0, slots := 0, locals := 45 }) [.ref (ad S), .int g] (fun r u => r = rBy v B gw gd nh g ∧ u = v) := by
  have hsb := hJ.q.sb; have hbd := hJ.bd
  refine q_ofI (by decide) (Nat.le_of_ble_eq_true rfl) ?_
  intro p e s m below meth c hx hb hr hml hts hown hlocks hE h0 hW hS ls hl
  generalize hH : s.heap = H at hW
  have hS : va_S (Ab G.2.2.1) s.heap H [] := hH ▸ hS
  obtain ⟨locs, hlc⟩ : ∃ z : List Loc, z = [] := ⟨_, rfl⟩
  rw [← hlc] at hS ⊢
  have hl : lv_has ls 4 [(0, .ref (ad S)), (1, .int g)] := hl
  refine lv_iconst (v := 0) hx hb dX6_lostBy_0 (by decide) ?_
  refine lv_istore_n (lv' := [(2, .int 0), (0, .ref (ad S)), (1, .int g)]) hx hb dX6_lostBy_1 rfl hl (by decide) rfl (fun ls hl => ?_)
  refine lv_iconst (v := 0) hx hb dX6_lostBy_2 (by decide) ?_
  refine lv_istore_n (lv' := [(3, .int 0), (2, .int 0), (0, .ref (ad S)), (1, .int g)]) hx hb dX6_lostBy_3 rfl hl (by decide) rfl (fun ls hl => ?_)
  suffices LP_4 : ∀ (n_4 i : Nat) (x2_4 : Int32) (x3_4 : Int32)  (u_4 : Nat → Nat → Int32) (H : Heap) (locs : List Loc) (ls : Array Slot), nh + 1 ≤ i + n_4 → i ≤ nh → sumI (fun h => if g = -1 ∨ v (B + 7) (7 * h) = g then rLost v B (gw h * gd h) h else 0) i = x2_4 → nI i = x3_4 → v = u_4 → WD G L ad u_4 o w s H → va_S (Ab G.2.2.1) s.heap H locs → lv_has ls 4 [(3, .int x3_4), (2, .int x2_4), (0, .ref (ad S)), (1, .int g)] → W p l e ({ frames := 2, cells := 0, slots := 0, locals := 45 } : Room) s m ([.ref (ad S), .int g] : List Value).toArray below meth c H locs 0 0 (MQ below (va_Qi (fun r u => r = rBy v B gw gd nh g ∧ u = v) (fun u t => WD G L ad u o w t t.heap) (Ab G.2.2.1)) ([.ref (ad S), .int g] : List Value).toArray s ({ frames := 2, cells := 0, slots := 0, locals := 45 } : Room).cells ({ frames := 2, cells := 0, slots := 0, locals := 45 } : Room).slots (Ab G.2.2.1)) (F0 m 4 ls []) from LP_4 (nh + 1) 0 _ _   _ H locs ls (by omega) (by omega) (by rfl) (by rfl) (by rfl)  hW hS (lv_sub hl [0, 1, 2, 3] rfl)
  intro n_4
  induction n_4 with
  | zero => intro i x2_4 x3_4  u_4 H locs ls h1 h2; exact absurd h1 (by omega)
  | succ n_4 ih_4 =>
    intro i x2_4 x3_4  u_4 H locs ls hn_4 hi_4 ex2_4 ex3_4 eu_4  hW hS hl
    subst ex2_4
    subst ex3_4
    subst eu_4
    refine lv_iload_n hx hb dX6_lostBy_4 rfl (lv_at hl 0 rfl) ?_
    refine lv_aload_n hx hb dX6_lostBy_5 rfl (lv_at hl 2 rfl) ?_
    refine q_get hx hb hts hown hW (r := S) hJ.q.mS hJ.q.kS k_7 6 (by decide) rfl t_879 (x := (nI nh)) hJ.eH dX6_lostBy_6 ?_
    refine lv_icmp_ge (tgt := 48) hx hb dX6_lostBy_9 (by decide) (fun c_9 => ?_) (fun c_9 => ?_)
    · skip
      have hq_4 := (ge_i (n := nh) (by omega) hi_4 c_9).symm
      subst hq_4
      refine lv_iload_n hx hb dX6_lostBy_48 rfl (lv_at hl 1 rfl) ?_
      exact q_iret hx hb hr hlocks hW hS (Nat.le_refl _) (Nat.le_refl _) dX6_lostBy_49 (⟨rfl, rfl⟩)
    · skip
      have hlt_4 := lt_i (n := nh) (by omega) hi_4 c_9
      refine lv_iload_n hx hb dX6_lostBy_12 rfl (lv_at hl 1 rfl) ?_
      refine lv_iload_n hx hb dX6_lostBy_13 rfl (lv_at hl 3 rfl) ?_
      refine lv_iconst (v := (-1)) hx hb dX6_lostBy_14 (by decide) ?_
      refine lv_icmp_eq (tgt := 31) hx hb dX6_lostBy_15 (by decide) (fun c_15 => ?_) (fun c_15 => ?_)
      · skip
        refine lv_aload_n hx hb dX6_lostBy_31 rfl (lv_at hl 2 rfl) ?_
        refine lv_iload_n hx hb dX6_lostBy_32 rfl (lv_at hl 0 rfl) ?_
        refine q_cViE (As := [.int (nI i)]) (rest := [.int (sumI (fun h => if g = -1 ∨ v (B + 7) (7 * h) = g then rLost v B (gw h * gd h) h else 0) i)]) (r := S) hx hb hml hts hown hE h0 hW hS (c_X6_lostOf l hJ hlt_4) mw_X6_lostOf hJ.q.mS hJ.q.kS k_7 t_1028 ⟨Nat.le_of_ble_eq_true rfl, Nat.le_of_ble_eq_true rfl⟩ rfl hl.1 (Nat.le_of_ble_eq_true rfl) dX6_lostBy_33 ⟨Nat.zero_le _, Nat.zero_le _⟩ ⟨rfl, rfl⟩ (fun H locs hW hS => ?_)
        refine lv_goto (tgt := 40) hx hb dX6_lostBy_36 (by decide) ?_
        refine lv_iadd hx hb dX6_lostBy_40 ?_
        refine lv_istore_n (lv' := [(2, .int ((sumI (fun h => if g = -1 ∨ v (B + 7) (7 * h) = g then rLost v B (gw h * gd h) h else 0) i) + (rLost v B (gw i * gd i) i))), (3, .int (nI i)), (0, .ref (ad S)), (1, .int g)]) hx hb dX6_lostBy_41 rfl hl (by decide) rfl (fun ls hl => ?_)
        refine lv_iinc (v := (nI (i + 1))) (lv' := [(3, .int (nI (i + 1))), (2, .int ((sumI (fun h => if g = -1 ∨ v (B + 7) (7 * h) = g then rLost v B (gw h * gd h) h else 0) i) + (rLost v B (gw i * gd i) i))), (0, .ref (ad S)), (1, .int g)]) hx hb dX6_lostBy_42 hl (k := 1) rfl (inc_nI _) (by decide) rfl (fun ls hl => ?_)
        refine lv_goto (tgt := 4) hx hb dX6_lostBy_45 (by decide) ?_
        exact ih_4 (i + 1) _ _   _ H locs ls (by omega) (by omega) (by first | rw [sumI_s, if_pos (Or.inl c_15)] | rw [sumI_s, if_pos (Or.inr c_28)] | rw [sumI_s, if_neg (fun q => q.elim c_15 c_28)]) (by rfl) (by rfl)  hW hS (lv_sub hl [0, 1, 2, 3] rfl)
      · skip
        refine lv_aload_n hx hb dX6_lostBy_18 rfl (lv_at hl 2 rfl) ?_
        refine q_getr hx hb hts hown hW (r := S) hJ.q.mS hJ.q.kS k_7 7 (by decide) rfl t_881 (a := ad (B + 7)) (hJ.q.oB 7 rfl) dX6_lostBy_19 ?_
        refine lv_bipush (v := 7) hx hb dX6_lostBy_22 (by decide) ?_
        refine lv_iload_n hx hb dX6_lostBy_24 rfl (lv_at hl 0 rfl) ?_
        refine lv_imul hx hb dX6_lostBy_25 ?_
        refine q_iald hx hb hW (r := (B + 7)) (hJ.q.mB 7 rfl) (hJ.q.k9 7 rfl (by decide)) (7 * i) (ix_mul rfl rfl) (by rw [hJ.q.ln 7 rfl]; show _ < 84; omega) (by rw [hJ.q.ln 7 rfl]; decide) (x := (v (B + 7) (7 * i))) rfl dX6_lostBy_26 ?_
        refine lv_iload_n hx hb dX6_lostBy_27 rfl (lv_at hl 3 rfl) ?_
        refine lv_icmp_ne (tgt := 39) hx hb dX6_lostBy_28 (by decide) (fun c_28 => ?_) (fun c_28 => ?_)
        · skip
          refine lv_iconst (v := 0) hx hb dX6_lostBy_39 (by decide) ?_
          refine lv_iadd hx hb dX6_lostBy_40 ?_
          refine lv_istore_n (lv' := [(2, .int ((sumI (fun h => if g = -1 ∨ v (B + 7) (7 * h) = g then rLost v B (gw h * gd h) h else 0) i) + 0)), (3, .int (nI i)), (0, .ref (ad S)), (1, .int g)]) hx hb dX6_lostBy_41 rfl hl (by decide) rfl (fun ls hl => ?_)
          refine lv_iinc (v := (nI (i + 1))) (lv' := [(3, .int (nI (i + 1))), (2, .int ((sumI (fun h => if g = -1 ∨ v (B + 7) (7 * h) = g then rLost v B (gw h * gd h) h else 0) i) + 0)), (0, .ref (ad S)), (1, .int g)]) hx hb dX6_lostBy_42 hl (k := 1) rfl (inc_nI _) (by decide) rfl (fun ls hl => ?_)
          refine lv_goto (tgt := 4) hx hb dX6_lostBy_45 (by decide) ?_
          exact ih_4 (i + 1) _ _   _ H locs ls (by omega) (by omega) (by first | rw [sumI_s, if_pos (Or.inl c_15)] | rw [sumI_s, if_pos (Or.inr c_28)] | rw [sumI_s, if_neg (fun q => q.elim c_15 c_28)]) (by rfl) (by rfl)  hW hS (lv_sub hl [0, 1, 2, 3] rfl)
        · skip
          refine lv_aload_n hx hb dX6_lostBy_31 rfl (lv_at hl 2 rfl) ?_
          refine lv_iload_n hx hb dX6_lostBy_32 rfl (lv_at hl 0 rfl) ?_
          refine q_cViE (As := [.int (nI i)]) (rest := [.int (sumI (fun h => if g = -1 ∨ v (B + 7) (7 * h) = g then rLost v B (gw h * gd h) h else 0) i)]) (r := S) hx hb hml hts hown hE h0 hW hS (c_X6_lostOf l hJ hlt_4) mw_X6_lostOf hJ.q.mS hJ.q.kS k_7 t_1028 ⟨Nat.le_of_ble_eq_true rfl, Nat.le_of_ble_eq_true rfl⟩ rfl hl.1 (Nat.le_of_ble_eq_true rfl) dX6_lostBy_33 ⟨Nat.zero_le _, Nat.zero_le _⟩ ⟨rfl, rfl⟩ (fun H locs hW hS => ?_)
          refine lv_goto (tgt := 40) hx hb dX6_lostBy_36 (by decide) ?_
          refine lv_iadd hx hb dX6_lostBy_40 ?_
          refine lv_istore_n (lv' := [(2, .int ((sumI (fun h => if g = -1 ∨ v (B + 7) (7 * h) = g then rLost v B (gw h * gd h) h else 0) i) + (rLost v B (gw i * gd i) i))), (3, .int (nI i)), (0, .ref (ad S)), (1, .int g)]) hx hb dX6_lostBy_41 rfl hl (by decide) rfl (fun ls hl => ?_)
          refine lv_iinc (v := (nI (i + 1))) (lv' := [(3, .int (nI (i + 1))), (2, .int ((sumI (fun h => if g = -1 ∨ v (B + 7) (7 * h) = g then rLost v B (gw h * gd h) h else 0) i) + (rLost v B (gw i * gd i) i))), (0, .ref (ad S)), (1, .int g)]) hx hb dX6_lostBy_42 hl (k := 1) rfl (inc_nI _) (by decide) rfl (fun ls hl => ?_)
          refine lv_goto (tgt := 4) hx hb dX6_lostBy_45 (by decide) ?_
          exact ih_4 (i + 1) _ _   _ H locs ls (by omega) (by omega) (by first | rw [sumI_s, if_pos (Or.inl c_15)] | rw [sumI_s, if_pos (Or.inr c_28)] | rw [sumI_s, if_neg (fun q => q.elim c_15 c_28)]) (by rfl) (by rfl)  hW hS (lv_sub hl [0, 1, 2, 3] rfl)

set_option maxHeartbeats 4000000 in
set_option maxRecDepth 100000 in
theorem c_X6_valuesOf (l : Launch) {G : GG} {L : List Nat} {ad : Nat → Nat} {v : Nat → Nat → Int32} {o : Nat → Nat → Option Nat} {w : Nat → Int64} {S B ng nh nl ns : Nat} {ow gx gy gw gd : Nat → Nat} (hJ : PJ L ad v o S B ng nh nl ns ow gx gy gw gd) (g : Int32) : CtI l G L ad v o w yX6_valuesOf cX6_valuesOf 4 .int ({ frames := 1, cells := 0, slots := 0, locals := 21 }) [.ref (ad S), .int g] (fun r u => r = rVals v B gw gd nh g ∧ u = v) := by
  have hsb := hJ.q.sb; have hbd := hJ.bd
  refine q_ofI (by decide) (Nat.le_of_ble_eq_true rfl) ?_
  intro p e s m below meth c hx hb hr hml hts hown hlocks hE h0 hW hS ls hl
  generalize hH : s.heap = H at hW
  have hS : va_S (Ab G.2.2.1) s.heap H [] := hH ▸ hS
  obtain ⟨locs, hlc⟩ : ∃ z : List Loc, z = [] := ⟨_, rfl⟩
  rw [← hlc] at hS ⊢
  have hl : lv_has ls 4 [(0, .ref (ad S)), (1, .int g)] := hl
  refine lv_iconst (v := 0) hx hb dX6_valuesOf_0 (by decide) ?_
  refine lv_istore_n (lv' := [(2, .int 0), (0, .ref (ad S)), (1, .int g)]) hx hb dX6_valuesOf_1 rfl hl (by decide) rfl (fun ls hl => ?_)
  refine lv_iconst (v := 0) hx hb dX6_valuesOf_2 (by decide) ?_
  refine lv_istore_n (lv' := [(3, .int 0), (2, .int 0), (0, .ref (ad S)), (1, .int g)]) hx hb dX6_valuesOf_3 rfl hl (by decide) rfl (fun ls hl => ?_)
  suffices LP_4 : ∀ (n_4 i : Nat) (x2_4 : Int32) (x3_4 : Int32)  (u_4 : Nat → Nat → Int32) (H : Heap) (locs : List Loc) (ls : Array Slot), nh + 1 ≤ i + n_4 → i ≤ nh → sumI (fun h => if g = -1 ∨ v (B + 7) (7 * h) = g then nI (gw h * gd h) * v (B + 7) (7 * h + 6) else 0) i = x2_4 → nI i = x3_4 → v = u_4 → WD G L ad u_4 o w s H → va_S (Ab G.2.2.1) s.heap H locs → lv_has ls 4 [(3, .int x3_4), (2, .int x2_4), (0, .ref (ad S)), (1, .int g)] → W p l e ({ frames := 1, cells := 0, slots := 0, locals := 21 } : Room) s m ([.ref (ad S), .int g] : List Value).toArray below meth c H locs 0 0 (MQ below (va_Qi (fun r u => r = rVals v B gw gd nh g ∧ u = v) (fun u t => WD G L ad u o w t t.heap) (Ab G.2.2.1)) ([.ref (ad S), .int g] : List Value).toArray s ({ frames := 1, cells := 0, slots := 0, locals := 21 } : Room).cells ({ frames := 1, cells := 0, slots := 0, locals := 21 } : Room).slots (Ab G.2.2.1)) (F0 m 4 ls []) from LP_4 (nh + 1) 0 _ _   _ H locs ls (by omega) (by omega) (by rfl) (by rfl) (by rfl)  hW hS (lv_sub hl [0, 1, 2, 3] rfl)
  intro n_4
  induction n_4 with
  | zero => intro i x2_4 x3_4  u_4 H locs ls h1 h2; exact absurd h1 (by omega)
  | succ n_4 ih_4 =>
    intro i x2_4 x3_4  u_4 H locs ls hn_4 hi_4 ex2_4 ex3_4 eu_4  hW hS hl
    subst ex2_4
    subst ex3_4
    subst eu_4
    refine lv_iload_n hx hb dX6_valuesOf_4 rfl (lv_at hl 0 rfl) ?_
    refine lv_aload_n hx hb dX6_valuesOf_5 rfl (lv_at hl 2 rfl) ?_
    refine q_get hx hb hts hown hW (r := S) hJ.q.mS hJ.q.kS k_7 6 (by decide) rfl t_879 (x := (nI nh)) hJ.eH dX6_valuesOf_6 ?_
    refine lv_icmp_ge (tgt := 61) hx hb dX6_valuesOf_9 (by decide) (fun c_9 => ?_) (fun c_9 => ?_)
    · skip
      have hq_4 := (ge_i (n := nh) (by omega) hi_4 c_9).symm
      subst hq_4
      refine lv_iload_n hx hb dX6_valuesOf_61 rfl (lv_at hl 1 rfl) ?_
      exact q_iret hx hb hr hlocks hW hS (Nat.le_refl _) (Nat.le_refl _) dX6_valuesOf_62 (⟨rfl, rfl⟩)
    · skip
      have hlt_4 := lt_i (n := nh) (by omega) hi_4 c_9
      refine lv_iload_n hx hb dX6_valuesOf_12 rfl (lv_at hl 1 rfl) ?_
      refine lv_iload_n hx hb dX6_valuesOf_13 rfl (lv_at hl 3 rfl) ?_
      refine lv_iconst (v := (-1)) hx hb dX6_valuesOf_14 (by decide) ?_
      refine lv_icmp_eq (tgt := 31) hx hb dX6_valuesOf_15 (by decide) (fun c_15 => ?_) (fun c_15 => ?_)
      · skip
        refine lv_aload_n hx hb dX6_valuesOf_31 rfl (lv_at hl 2 rfl) ?_
        refine lv_iload_n hx hb dX6_valuesOf_32 rfl (lv_at hl 0 rfl) ?_
        refine q_cViE (As := [.int (nI i)]) (rest := [.int (sumI (fun h => if g = -1 ∨ v (B + 7) (7 * h) = g then nI (gw h * gd h) * v (B + 7) (7 * h + 6) else 0) i)]) (r := S) hx hb hml hts hown hE h0 hW hS (c_X6_size l hJ hlt_4) mw_X6_size hJ.q.mS hJ.q.kS k_7 t_1003 ⟨Nat.le_of_ble_eq_true rfl, Nat.le_of_ble_eq_true rfl⟩ rfl hl.1 (Nat.le_of_ble_eq_true rfl) dX6_valuesOf_33 ⟨Nat.zero_le _, Nat.zero_le _⟩ ⟨rfl, rfl⟩ (fun H locs hW hS => ?_)
        refine lv_aload_n hx hb dX6_valuesOf_36 rfl (lv_at hl 2 rfl) ?_
        refine q_getr hx hb hts hown hW (r := S) hJ.q.mS hJ.q.kS k_7 7 (by decide) rfl t_881 (a := ad (B + 7)) (hJ.q.oB 7 rfl) dX6_valuesOf_37 ?_
        refine lv_bipush (v := 7) hx hb dX6_valuesOf_40 (by decide) ?_
        refine lv_iload_n hx hb dX6_valuesOf_42 rfl (lv_at hl 0 rfl) ?_
        refine lv_imul hx hb dX6_valuesOf_43 ?_
        refine lv_bipush (v := 6) hx hb dX6_valuesOf_44 (by decide) ?_
        refine lv_iadd hx hb dX6_valuesOf_46 ?_
        refine q_iald hx hb hW (r := (B + 7)) (hJ.q.mB 7 rfl) (hJ.q.k9 7 rfl (by decide)) (7 * i + 6) (ix_add (ix_mul rfl rfl) rfl) (by rw [hJ.q.ln 7 rfl]; show _ < 84; omega) (by rw [hJ.q.ln 7 rfl]; decide) (x := (v (B + 7) (7 * i + 6))) rfl dX6_valuesOf_47 ?_
        refine lv_imul hx hb dX6_valuesOf_48 ?_
        refine lv_goto (tgt := 53) hx hb dX6_valuesOf_49 (by decide) ?_
        refine lv_iadd hx hb dX6_valuesOf_53 ?_
        refine lv_istore_n (lv' := [(2, .int ((sumI (fun h => if g = -1 ∨ v (B + 7) (7 * h) = g then nI (gw h * gd h) * v (B + 7) (7 * h + 6) else 0) i) + ((nI (gw i * gd i)) * (v (B + 7) (7 * i + 6))))), (3, .int (nI i)), (0, .ref (ad S)), (1, .int g)]) hx hb dX6_valuesOf_54 rfl hl (by decide) rfl (fun ls hl => ?_)
        refine lv_iinc (v := (nI (i + 1))) (lv' := [(3, .int (nI (i + 1))), (2, .int ((sumI (fun h => if g = -1 ∨ v (B + 7) (7 * h) = g then nI (gw h * gd h) * v (B + 7) (7 * h + 6) else 0) i) + ((nI (gw i * gd i)) * (v (B + 7) (7 * i + 6))))), (0, .ref (ad S)), (1, .int g)]) hx hb dX6_valuesOf_55 hl (k := 1) rfl (inc_nI _) (by decide) rfl (fun ls hl => ?_)
        refine lv_goto (tgt := 4) hx hb dX6_valuesOf_58 (by decide) ?_
        exact ih_4 (i + 1) _ _   _ H locs ls (by omega) (by omega) (by first | rw [sumI_s, if_pos (Or.inl c_15)] | rw [sumI_s, if_pos (Or.inr c_28)] | rw [sumI_s, if_neg (fun q => q.elim c_15 c_28)]) (by rfl) (by rfl)  hW hS (lv_sub hl [0, 1, 2, 3] rfl)
      · skip
        refine lv_aload_n hx hb dX6_valuesOf_18 rfl (lv_at hl 2 rfl) ?_
        refine q_getr hx hb hts hown hW (r := S) hJ.q.mS hJ.q.kS k_7 7 (by decide) rfl t_881 (a := ad (B + 7)) (hJ.q.oB 7 rfl) dX6_valuesOf_19 ?_
        refine lv_bipush (v := 7) hx hb dX6_valuesOf_22 (by decide) ?_
        refine lv_iload_n hx hb dX6_valuesOf_24 rfl (lv_at hl 0 rfl) ?_
        refine lv_imul hx hb dX6_valuesOf_25 ?_
        refine q_iald hx hb hW (r := (B + 7)) (hJ.q.mB 7 rfl) (hJ.q.k9 7 rfl (by decide)) (7 * i) (ix_mul rfl rfl) (by rw [hJ.q.ln 7 rfl]; show _ < 84; omega) (by rw [hJ.q.ln 7 rfl]; decide) (x := (v (B + 7) (7 * i))) rfl dX6_valuesOf_26 ?_
        refine lv_iload_n hx hb dX6_valuesOf_27 rfl (lv_at hl 3 rfl) ?_
        refine lv_icmp_ne (tgt := 52) hx hb dX6_valuesOf_28 (by decide) (fun c_28 => ?_) (fun c_28 => ?_)
        · skip
          refine lv_iconst (v := 0) hx hb dX6_valuesOf_52 (by decide) ?_
          refine lv_iadd hx hb dX6_valuesOf_53 ?_
          refine lv_istore_n (lv' := [(2, .int ((sumI (fun h => if g = -1 ∨ v (B + 7) (7 * h) = g then nI (gw h * gd h) * v (B + 7) (7 * h + 6) else 0) i) + 0)), (3, .int (nI i)), (0, .ref (ad S)), (1, .int g)]) hx hb dX6_valuesOf_54 rfl hl (by decide) rfl (fun ls hl => ?_)
          refine lv_iinc (v := (nI (i + 1))) (lv' := [(3, .int (nI (i + 1))), (2, .int ((sumI (fun h => if g = -1 ∨ v (B + 7) (7 * h) = g then nI (gw h * gd h) * v (B + 7) (7 * h + 6) else 0) i) + 0)), (0, .ref (ad S)), (1, .int g)]) hx hb dX6_valuesOf_55 hl (k := 1) rfl (inc_nI _) (by decide) rfl (fun ls hl => ?_)
          refine lv_goto (tgt := 4) hx hb dX6_valuesOf_58 (by decide) ?_
          exact ih_4 (i + 1) _ _   _ H locs ls (by omega) (by omega) (by first | rw [sumI_s, if_pos (Or.inl c_15)] | rw [sumI_s, if_pos (Or.inr c_28)] | rw [sumI_s, if_neg (fun q => q.elim c_15 c_28)]) (by rfl) (by rfl)  hW hS (lv_sub hl [0, 1, 2, 3] rfl)
        · skip
          refine lv_aload_n hx hb dX6_valuesOf_31 rfl (lv_at hl 2 rfl) ?_
          refine lv_iload_n hx hb dX6_valuesOf_32 rfl (lv_at hl 0 rfl) ?_
          refine q_cViE (As := [.int (nI i)]) (rest := [.int (sumI (fun h => if g = -1 ∨ v (B + 7) (7 * h) = g then nI (gw h * gd h) * v (B + 7) (7 * h + 6) else 0) i)]) (r := S) hx hb hml hts hown hE h0 hW hS (c_X6_size l hJ hlt_4) mw_X6_size hJ.q.mS hJ.q.kS k_7 t_1003 ⟨Nat.le_of_ble_eq_true rfl, Nat.le_of_ble_eq_true rfl⟩ rfl hl.1 (Nat.le_of_ble_eq_true rfl) dX6_valuesOf_33 ⟨Nat.zero_le _, Nat.zero_le _⟩ ⟨rfl, rfl⟩ (fun H locs hW hS => ?_)
          refine lv_aload_n hx hb dX6_valuesOf_36 rfl (lv_at hl 2 rfl) ?_
          refine q_getr hx hb hts hown hW (r := S) hJ.q.mS hJ.q.kS k_7 7 (by decide) rfl t_881 (a := ad (B + 7)) (hJ.q.oB 7 rfl) dX6_valuesOf_37 ?_
          refine lv_bipush (v := 7) hx hb dX6_valuesOf_40 (by decide) ?_
          refine lv_iload_n hx hb dX6_valuesOf_42 rfl (lv_at hl 0 rfl) ?_
          refine lv_imul hx hb dX6_valuesOf_43 ?_
          refine lv_bipush (v := 6) hx hb dX6_valuesOf_44 (by decide) ?_
          refine lv_iadd hx hb dX6_valuesOf_46 ?_
          refine q_iald hx hb hW (r := (B + 7)) (hJ.q.mB 7 rfl) (hJ.q.k9 7 rfl (by decide)) (7 * i + 6) (ix_add (ix_mul rfl rfl) rfl) (by rw [hJ.q.ln 7 rfl]; show _ < 84; omega) (by rw [hJ.q.ln 7 rfl]; decide) (x := (v (B + 7) (7 * i + 6))) rfl dX6_valuesOf_47 ?_
          refine lv_imul hx hb dX6_valuesOf_48 ?_
          refine lv_goto (tgt := 53) hx hb dX6_valuesOf_49 (by decide) ?_
          refine lv_iadd hx hb dX6_valuesOf_53 ?_
          refine lv_istore_n (lv' := [(2, .int ((sumI (fun h => if g = -1 ∨ v (B + 7) (7 * h) = g then nI (gw h * gd h) * v (B + 7) (7 * h + 6) else 0) i) + ((nI (gw i * gd i)) * (v (B + 7) (7 * i + 6))))), (3, .int (nI i)), (0, .ref (ad S)), (1, .int g)]) hx hb dX6_valuesOf_54 rfl hl (by decide) rfl (fun ls hl => ?_)
          refine lv_iinc (v := (nI (i + 1))) (lv' := [(3, .int (nI (i + 1))), (2, .int ((sumI (fun h => if g = -1 ∨ v (B + 7) (7 * h) = g then nI (gw h * gd h) * v (B + 7) (7 * h + 6) else 0) i) + ((nI (gw i * gd i)) * (v (B + 7) (7 * i + 6))))), (0, .ref (ad S)), (1, .int g)]) hx hb dX6_valuesOf_55 hl (k := 1) rfl (inc_nI _) (by decide) rfl (fun ls hl => ?_)
          refine lv_goto (tgt := 4) hx hb dX6_valuesOf_58 (by decide) ?_
          exact ih_4 (i + 1) _ _   _ H locs ls (by omega) (by omega) (by first | rw [sumI_s, if_pos (Or.inl c_15)] | rw [sumI_s, if_pos (Or.inr c_28)] | rw [sumI_s, if_neg (fun q => q.elim c_15 c_28)]) (by rfl) (by rfl)  hW hS (lv_sub hl [0, 1, 2, 3] rfl)

set_option maxHeartbeats 4000000 in
set_option maxRecDepth 100000 in
theorem c_X6_inState (l : Launch) {G : GG} {L : List Nat} {ad : Nat → Nat} {v : Nat → Nat → Int32} {o : Nat → Nat → Option Nat} {w : Nat → Int64} {S B ng nh nl ns : Nat} {ow gx gy gw gd : Nat → Nat} (hJ : PJ L ad v o S B ng nh nl ns ow gx gy gw gd) (h t : Int32) : CtI l G L ad v o w yX6_inState cX6_inState 6 .int ({ frames := 1, cells := 0, slots := 0, locals := 21 }) [.ref (ad S), .int h, .int t] (fun r u => r = rIn v B gw gd nh h t ∧ u = v) := by
  have hsb := hJ.q.sb; have hbd := hJ.bd
  refine q_ofI (by decide) (Nat.le_of_ble_eq_true rfl) ?_
  intro p e s m below meth c hx hb hr hml hts hown hlocks hE h0 hW hS ls hl
  generalize hH : s.heap = H at hW
  have hS : va_S (Ab G.2.2.1) s.heap H [] := hH ▸ hS
  obtain ⟨locs, hlc⟩ : ∃ z : List Loc, z = [] := ⟨_, rfl⟩
  rw [← hlc] at hS ⊢
  have hl : lv_has ls 6 [(0, .ref (ad S)), (1, .int h), (2, .int t)] := hl
  refine lv_iconst (v := 0) hx hb dX6_inState_0 (by decide) ?_
  refine lv_istore_n (lv' := [(3, .int 0), (0, .ref (ad S)), (1, .int h), (2, .int t)]) hx hb dX6_inState_1 rfl hl (by decide) rfl (fun ls hl => ?_)
  refine lv_iconst (v := 0) hx hb dX6_inState_2 (by decide) ?_
  refine lv_istore (lv' := [(4, .int 0), (3, .int 0), (0, .ref (ad S)), (1, .int h), (2, .int t)]) hx hb dX6_inState_3 hl (by decide) rfl (fun ls hl => ?_)
  suffices LP_5 : ∀ (n_5 a1 : Nat) (x3_5 : Int32) (x4_5 : Int32)  (u_5 : Nat → Nat → Int32) (H : Heap) (locs : List Loc) (ls : Array Slot), nh + 1 ≤ a1 + n_5 → a1 ≤ nh → sumI (fun i => if h = -1 ∨ nI i = h then rCnt v B (gw i * gd i) i t else 0) a1 = x3_5 → nI a1 = x4_5 → v = u_5 → WD G L ad u_5 o w s H → va_S (Ab G.2.2.1) s.heap H locs → lv_has ls 6 [(4, .int x4_5), (3, .int x3_5), (0, .ref (ad S)), (1, .int h), (2, .int t)] → W p l e ({ frames := 1, cells := 0, slots := 0, locals := 21 } : Room) s m ([.ref (ad S), .int h, .int t] : List Value).toArray below meth c H locs 0 0 (MQ below (va_Qi (fun r u => r = rIn v B gw gd nh h t ∧ u = v) (fun u t => WD G L ad u o w t t.heap) (Ab G.2.2.1)) ([.ref (ad S), .int h, .int t] : List Value).toArray s ({ frames := 1, cells := 0, slots := 0, locals := 21 } : Room).cells ({ frames := 1, cells := 0, slots := 0, locals := 21 } : Room).slots (Ab G.2.2.1)) (F0 m 5 ls []) from LP_5 (nh + 1) 0 _ _   _ H locs ls (by omega) (by omega) (by rfl) (by rfl) (by rfl)  hW hS (lv_sub hl [0, 1, 2, 3, 4] rfl)
  intro n_5
  induction n_5 with
  | zero => intro a1 x3_5 x4_5  u_5 H locs ls h1 h2; exact absurd h1 (by omega)
  | succ n_5 ih_5 =>
    intro a1 x3_5 x4_5  u_5 H locs ls hn_5 hi_5 ex3_5 ex4_5 eu_5  hW hS hl
    subst ex3_5
    subst ex4_5
    subst eu_5
    refine lv_iload hx hb dX6_inState_5 (lv_at hl 0 rfl) ?_
    refine lv_aload_n hx hb dX6_inState_7 rfl (lv_at hl 2 rfl) ?_
    refine q_get hx hb hts hown hW (r := S) hJ.q.mS hJ.q.kS k_7 6 (by decide) rfl t_879 (x := (nI nh)) hJ.eH dX6_inState_8 ?_
    refine lv_icmp_ge (tgt := 76) hx hb dX6_inState_11 (by decide) (fun c_11 => ?_) (fun c_11 => ?_)
    · skip
      have hq_5 := (ge_i (n := nh) (by omega) hi_5 c_11).symm
      subst hq_5
      refine lv_iload_n hx hb dX6_inState_76 rfl (lv_at hl 1 rfl) ?_
      exact q_iret hx hb hr hlocks hW hS (Nat.le_refl _) (Nat.le_refl _) dX6_inState_77 (⟨rfl, rfl⟩)
    · skip
      have hz36 := hJ.z36 (lt_i (n := nh) (by omega) hi_5 c_11)
      have hgeo := (hJ.hs a1 (lt_i (n := nh) (by omega) hi_5 c_11)).1
      have hz0 : 0 < gw a1 * gd a1 := Nat.mul_pos (by omega) (by omega)
      have hlt_5 := lt_i (n := nh) (by omega) hi_5 c_11
      refine lv_iconst (v := 0) hx hb dX6_inState_14 (by decide) ?_
      refine lv_istore (lv' := [(5, .int 0), (4, .int (nI a1)), (3, .int (sumI (fun i => if h = -1 ∨ nI i = h then rCnt v B (gw i * gd i) i t else 0) a1)), (0, .ref (ad S)), (1, .int h), (2, .int t)]) hx hb dX6_inState_15 hl (by decide) rfl (fun ls hl => ?_)
      suffices LP_17 : ∀ (n_17 k1 : Nat) (x3_17 : Int32) (x5_17 : Int32)  (u_17 : Nat → Nat → Int32) (H : Heap) (locs : List Loc) (ls : Array Slot), gw a1 * gd a1 + 1 ≤ k1 + n_17 → k1 ≤ gw a1 * gd a1 → sumI (fun i => if h = -1 ∨ nI i = h then rCnt v B (gw i * gd i) i t else 0) a1 + sumI (fun k => if v (B + 9) (36 * a1 + k) = t then 1 else 0) k1 = x3_17 → nI k1 = x5_17 → v = u_17 → (k1 = 0 ∨ (h = -1 ∨ nI a1 = h)) → WD G L ad u_17 o w s H → va_S (Ab G.2.2.1) s.heap H locs → lv_has ls 6 [(5, .int x5_17), (4, .int (nI a1)), (3, .int x3_17), (0, .ref (ad S)), (1, .int h), (2, .int t)] → W p l e ({ frames := 1, cells := 0, slots := 0, locals := 21 } : Room) s m ([.ref (ad S), .int h, .int t] : List Value).toArray below meth c H locs 0 0 (MQ below (va_Qi (fun r u => r = rIn v B gw gd nh h t ∧ u = v) (fun u t => WD G L ad u o w t t.heap) (Ab G.2.2.1)) ([.ref (ad S), .int h, .int t] : List Value).toArray s ({ frames := 1, cells := 0, slots := 0, locals := 21 } : Room).cells ({ frames := 1, cells := 0, slots := 0, locals := 21 } : Room).slots (Ab G.2.2.1)) (F0 m 17 ls []) from LP_17 (gw a1 * gd a1 + 1) 0 _ _   _ H locs ls (by omega) (by omega) (by rw [sumI_0, Int32.add_zero]) (by rfl) (by rfl) (Or.inl rfl) hW hS (lv_sub hl [0, 1, 2, 3, 4, 5] rfl)
      intro n_17
      induction n_17 with
      | zero => intro k1 x3_17 x5_17  u_17 H locs ls h1 h2; exact absurd h1 (by omega)
      | succ n_17 ih_17 =>
        intro k1 x3_17 x5_17  u_17 H locs ls hn_17 hi_17 ex3_17 ex5_17 eu_17 hy0_17 hW hS hl
        subst ex3_17
        subst ex5_17
        subst eu_17
        refine lv_iload hx hb dX6_inState_17 (lv_at hl 0 rfl) ?_
        refine lv_aload_n hx hb dX6_inState_19 rfl (lv_at hl 3 rfl) ?_
        refine lv_iload hx hb dX6_inState_20 (lv_at hl 1 rfl) ?_
        refine q_cViE (As := [.int (nI a1)]) (rest := [.int (nI k1)]) (r := S) hx hb hml hts hown hE h0 hW hS (c_X6_size l hJ hlt_5) mw_X6_size hJ.q.mS hJ.q.kS k_7 t_1003 ⟨Nat.le_of_ble_eq_true rfl, Nat.le_of_ble_eq_true rfl⟩ rfl hl.1 (Nat.le_of_ble_eq_true rfl) dX6_inState_22 ⟨Nat.zero_le _, Nat.zero_le _⟩ ⟨rfl, rfl⟩ (fun H locs hW hS => ?_)
        refine lv_icmp_ge (tgt := 70) hx hb dX6_inState_25 (by decide) (fun c_25 => ?_) (fun c_25 => ?_)
        · skip
          have hq_17 := (ge_i (n := (gw a1 * gd a1)) (by omega) hi_17 c_25).symm
          subst hq_17
          refine lv_iinc (v := (nI (a1 + 1))) (lv' := [(4, .int (nI (a1 + 1))), (5, .int (nI (gw a1 * gd a1))), (3, .int (sumI (fun i => if h = -1 ∨ nI i = h then rCnt v B (gw i * gd i) i t else 0) a1 + sumI (fun k => if v (B + 9) (36 * a1 + k) = t then 1 else 0) (gw a1 * gd a1))), (0, .ref (ad S)), (1, .int h), (2, .int t)]) hx hb dX6_inState_70 hl (k := 1) rfl (inc_nI _) (by decide) rfl (fun ls hl => ?_)
          refine lv_goto (tgt := 5) hx hb dX6_inState_73 (by decide) ?_
          exact ih_5 (a1 + 1) _ _   _ H locs ls (by omega) (by omega) (by first | exact rIn_a hz0 hy0_17 rfl | exact rIn_b (N := gw a1 * gd a1) hy0_17 (fun q => q.elim c_30 c_36) rfl) (by rfl) (by rfl)  hW hS (lv_sub hl [0, 2, 3, 4, 5] rfl)
        · skip
          have hlt_17 := lt_i (n := (gw a1 * gd a1)) (by omega) hi_17 c_25
          refine lv_iload_n hx hb dX6_inState_28 rfl (lv_at hl 4 rfl) ?_
          refine lv_iconst (v := (-1)) hx hb dX6_inState_29 (by decide) ?_
          refine lv_icmp_eq (tgt := 39) hx hb dX6_inState_30 (by decide) (fun c_30 => ?_) (fun c_30 => ?_)
          · skip
            refine lv_iload_n hx hb dX6_inState_39 rfl (lv_at hl 2 rfl) ?_
            refine lv_aload_n hx hb dX6_inState_40 rfl (lv_at hl 3 rfl) ?_
            refine q_getr hx hb hts hown hW (r := S) hJ.q.mS hJ.q.kS k_7 9 (by decide) rfl t_885 (a := ad (B + 9)) (hJ.q.oB 9 rfl) dX6_inState_41 ?_
            refine lv_bipush (v := 36) hx hb dX6_inState_44 (by decide) ?_
            refine lv_iload hx hb dX6_inState_46 (lv_at hl 1 rfl) ?_
            refine lv_imul hx hb dX6_inState_48 ?_
            refine lv_iload hx hb dX6_inState_49 (lv_at hl 0 rfl) ?_
            refine lv_iadd hx hb dX6_inState_51 ?_
            refine q_iald hx hb hW (r := (B + 9)) (hJ.q.mB 9 rfl) (hJ.q.k9 9 rfl (by decide)) (36 * a1 + k1) (ix_add (ix_mul rfl rfl) rfl) (by rw [hJ.q.ln 9 rfl]; show _ < 432; omega) (by rw [hJ.q.ln 9 rfl]; decide) (x := (v (B + 9) (36 * a1 + k1))) rfl dX6_inState_52 ?_
            refine lv_iload_n hx hb dX6_inState_53 rfl (lv_at hl 5 rfl) ?_
            refine lv_icmp_ne (tgt := 61) hx hb dX6_inState_54 (by decide) (fun c_54 => ?_) (fun c_54 => ?_)
            · skip
              refine lv_iconst (v := 0) hx hb dX6_inState_61 (by decide) ?_
              refine lv_iadd hx hb dX6_inState_62 ?_
              refine lv_istore_n (lv' := [(3, .int ((sumI (fun i => if h = -1 ∨ nI i = h then rCnt v B (gw i * gd i) i t else 0) a1 + sumI (fun k => if v (B + 9) (36 * a1 + k) = t then 1 else 0) k1) + 0)), (5, .int (nI k1)), (4, .int (nI a1)), (0, .ref (ad S)), (1, .int h), (2, .int t)]) hx hb dX6_inState_63 rfl hl (by decide) rfl (fun ls hl => ?_)
              refine lv_iinc (v := (nI (k1 + 1))) (lv' := [(5, .int (nI (k1 + 1))), (3, .int ((sumI (fun i => if h = -1 ∨ nI i = h then rCnt v B (gw i * gd i) i t else 0) a1 + sumI (fun k => if v (B + 9) (36 * a1 + k) = t then 1 else 0) k1) + 0)), (4, .int (nI a1)), (0, .ref (ad S)), (1, .int h), (2, .int t)]) hx hb dX6_inState_64 hl (k := 1) rfl (inc_nI _) (by decide) rfl (fun ls hl => ?_)
              refine lv_goto (tgt := 17) hx hb dX6_inState_67 (by decide) ?_
              exact ih_17 (k1 + 1) _ _   _ H locs ls (by omega) (by omega) (by first | (rw [sumI_s, if_pos c_54]; exact (Int32.add_assoc _ _ _).symm) | (rw [sumI_s, if_neg c_54]; exact (Int32.add_assoc _ _ _).symm)) (by rfl) (by rfl) (by first | exact Or.inr (Or.inl c_30) | exact Or.inr (Or.inr c_36)) hW hS (lv_sub hl [0, 2, 1, 3, 4, 5] rfl)
            · skip
              refine lv_iconst (v := 1) hx hb dX6_inState_57 (by decide) ?_
              refine lv_goto (tgt := 62) hx hb dX6_inState_58 (by decide) ?_
              refine lv_iadd hx hb dX6_inState_62 ?_
              refine lv_istore_n (lv' := [(3, .int ((sumI (fun i => if h = -1 ∨ nI i = h then rCnt v B (gw i * gd i) i t else 0) a1 + sumI (fun k => if v (B + 9) (36 * a1 + k) = t then 1 else 0) k1) + 1)), (5, .int (nI k1)), (4, .int (nI a1)), (0, .ref (ad S)), (1, .int h), (2, .int t)]) hx hb dX6_inState_63 rfl hl (by decide) rfl (fun ls hl => ?_)
              refine lv_iinc (v := (nI (k1 + 1))) (lv' := [(5, .int (nI (k1 + 1))), (3, .int ((sumI (fun i => if h = -1 ∨ nI i = h then rCnt v B (gw i * gd i) i t else 0) a1 + sumI (fun k => if v (B + 9) (36 * a1 + k) = t then 1 else 0) k1) + 1)), (4, .int (nI a1)), (0, .ref (ad S)), (1, .int h), (2, .int t)]) hx hb dX6_inState_64 hl (k := 1) rfl (inc_nI _) (by decide) rfl (fun ls hl => ?_)
              refine lv_goto (tgt := 17) hx hb dX6_inState_67 (by decide) ?_
              exact ih_17 (k1 + 1) _ _   _ H locs ls (by omega) (by omega) (by first | (rw [sumI_s, if_pos c_54]; exact (Int32.add_assoc _ _ _).symm) | (rw [sumI_s, if_neg c_54]; exact (Int32.add_assoc _ _ _).symm)) (by rfl) (by rfl) (by first | exact Or.inr (Or.inl c_30) | exact Or.inr (Or.inr c_36)) hW hS (lv_sub hl [0, 2, 1, 3, 4, 5] rfl)
          · skip
            refine lv_iload hx hb dX6_inState_33 (lv_at hl 1 rfl) ?_
            refine lv_iload_n hx hb dX6_inState_35 rfl (lv_at hl 4 rfl) ?_
            refine lv_icmp_ne (tgt := 70) hx hb dX6_inState_36 (by decide) (fun c_36 => ?_) (fun c_36 => ?_)
            · skip
              refine lv_iinc (v := (nI (a1 + 1))) (lv' := [(4, .int (nI (a1 + 1))), (5, .int (nI k1)), (3, .int (sumI (fun i => if h = -1 ∨ nI i = h then rCnt v B (gw i * gd i) i t else 0) a1 + sumI (fun k => if v (B + 9) (36 * a1 + k) = t then 1 else 0) k1)), (0, .ref (ad S)), (1, .int h), (2, .int t)]) hx hb dX6_inState_70 hl (k := 1) rfl (inc_nI _) (by decide) rfl (fun ls hl => ?_)
              refine lv_goto (tgt := 5) hx hb dX6_inState_73 (by decide) ?_
              exact ih_5 (a1 + 1) _ _   _ H locs ls (by omega) (by omega) (by first | exact rIn_a hz0 hy0_17 rfl | exact rIn_b (N := gw a1 * gd a1) hy0_17 (fun q => q.elim c_30 c_36) rfl) (by rfl) (by rfl)  hW hS (lv_sub hl [0, 2, 3, 4, 5] rfl)
            · skip
              refine lv_iload_n hx hb dX6_inState_39 rfl (lv_at hl 2 rfl) ?_
              refine lv_aload_n hx hb dX6_inState_40 rfl (lv_at hl 3 rfl) ?_
              refine q_getr hx hb hts hown hW (r := S) hJ.q.mS hJ.q.kS k_7 9 (by decide) rfl t_885 (a := ad (B + 9)) (hJ.q.oB 9 rfl) dX6_inState_41 ?_
              refine lv_bipush (v := 36) hx hb dX6_inState_44 (by decide) ?_
              refine lv_iload hx hb dX6_inState_46 (lv_at hl 1 rfl) ?_
              refine lv_imul hx hb dX6_inState_48 ?_
              refine lv_iload hx hb dX6_inState_49 (lv_at hl 0 rfl) ?_
              refine lv_iadd hx hb dX6_inState_51 ?_
              refine q_iald hx hb hW (r := (B + 9)) (hJ.q.mB 9 rfl) (hJ.q.k9 9 rfl (by decide)) (36 * a1 + k1) (ix_add (ix_mul rfl rfl) rfl) (by rw [hJ.q.ln 9 rfl]; show _ < 432; omega) (by rw [hJ.q.ln 9 rfl]; decide) (x := (v (B + 9) (36 * a1 + k1))) rfl dX6_inState_52 ?_
              refine lv_iload_n hx hb dX6_inState_53 rfl (lv_at hl 5 rfl) ?_
              refine lv_icmp_ne (tgt := 61) hx hb dX6_inState_54 (by decide) (fun c_54 => ?_) (fun c_54 => ?_)
              · skip
                refine lv_iconst (v := 0) hx hb dX6_inState_61 (by decide) ?_
                refine lv_iadd hx hb dX6_inState_62 ?_
                refine lv_istore_n (lv' := [(3, .int ((sumI (fun i => if h = -1 ∨ nI i = h then rCnt v B (gw i * gd i) i t else 0) a1 + sumI (fun k => if v (B + 9) (36 * a1 + k) = t then 1 else 0) k1) + 0)), (5, .int (nI k1)), (4, .int (nI a1)), (0, .ref (ad S)), (1, .int h), (2, .int t)]) hx hb dX6_inState_63 rfl hl (by decide) rfl (fun ls hl => ?_)
                refine lv_iinc (v := (nI (k1 + 1))) (lv' := [(5, .int (nI (k1 + 1))), (3, .int ((sumI (fun i => if h = -1 ∨ nI i = h then rCnt v B (gw i * gd i) i t else 0) a1 + sumI (fun k => if v (B + 9) (36 * a1 + k) = t then 1 else 0) k1) + 0)), (4, .int (nI a1)), (0, .ref (ad S)), (1, .int h), (2, .int t)]) hx hb dX6_inState_64 hl (k := 1) rfl (inc_nI _) (by decide) rfl (fun ls hl => ?_)
                refine lv_goto (tgt := 17) hx hb dX6_inState_67 (by decide) ?_
                exact ih_17 (k1 + 1) _ _   _ H locs ls (by omega) (by omega) (by first | (rw [sumI_s, if_pos c_54]; exact (Int32.add_assoc _ _ _).symm) | (rw [sumI_s, if_neg c_54]; exact (Int32.add_assoc _ _ _).symm)) (by rfl) (by rfl) (by first | exact Or.inr (Or.inl c_30) | exact Or.inr (Or.inr c_36)) hW hS (lv_sub hl [0, 2, 1, 3, 4, 5] rfl)
              · skip
                refine lv_iconst (v := 1) hx hb dX6_inState_57 (by decide) ?_
                refine lv_goto (tgt := 62) hx hb dX6_inState_58 (by decide) ?_
                refine lv_iadd hx hb dX6_inState_62 ?_
                refine lv_istore_n (lv' := [(3, .int ((sumI (fun i => if h = -1 ∨ nI i = h then rCnt v B (gw i * gd i) i t else 0) a1 + sumI (fun k => if v (B + 9) (36 * a1 + k) = t then 1 else 0) k1) + 1)), (5, .int (nI k1)), (4, .int (nI a1)), (0, .ref (ad S)), (1, .int h), (2, .int t)]) hx hb dX6_inState_63 rfl hl (by decide) rfl (fun ls hl => ?_)
                refine lv_iinc (v := (nI (k1 + 1))) (lv' := [(5, .int (nI (k1 + 1))), (3, .int ((sumI (fun i => if h = -1 ∨ nI i = h then rCnt v B (gw i * gd i) i t else 0) a1 + sumI (fun k => if v (B + 9) (36 * a1 + k) = t then 1 else 0) k1) + 1)), (4, .int (nI a1)), (0, .ref (ad S)), (1, .int h), (2, .int t)]) hx hb dX6_inState_64 hl (k := 1) rfl (inc_nI _) (by decide) rfl (fun ls hl => ?_)
                refine lv_goto (tgt := 17) hx hb dX6_inState_67 (by decide) ?_
                exact ih_17 (k1 + 1) _ _   _ H locs ls (by omega) (by omega) (by first | (rw [sumI_s, if_pos c_54]; exact (Int32.add_assoc _ _ _).symm) | (rw [sumI_s, if_neg c_54]; exact (Int32.add_assoc _ _ _).symm)) (by rfl) (by rfl) (by first | exact Or.inr (Or.inl c_30) | exact Or.inr (Or.inr c_36)) hW hS (lv_sub hl [0, 2, 1, 3, 4, 5] rfl)

set_option maxHeartbeats 4000000 in
set_option maxRecDepth 100000 in
theorem c_X6_pay (l : Launch) {G : GG} {L : List Nat} {ad : Nat → Nat} {v : Nat → Nat → Int32} {o : Nat → Nat → Option Nat} {w : Nat → Int64} {S B ng nh nl ns : Nat} {ow gx gy gw gd : Nat → Nat} (hJ : PJ L ad v o S B ng nh nl ns ow gx gy gw gd) {g : Nat} (hg : g < ng) (x : Int32) : CtI l G L ad v o w yX6_pay cX6_pay 4 .int ({ frames := 1, cells := 0, slots := 0, locals := 13 }) [.ref (ad S), .int (nI g), .int x] (fun r u => r = imin (v S 10) x ∧ u = rPay v B S g x) := by
  have hsb := hJ.q.sb; have hbd := hJ.bd
  refine q_ofI (by decide) (Nat.le_of_ble_eq_true rfl) ?_
  intro p e s m below meth c hx hb hr hml hts hown hlocks hE h0 hW hS ls hl
  generalize hH : s.heap = H at hW
  have hS : va_S (Ab G.2.2.1) s.heap H [] := hH ▸ hS
  obtain ⟨locs, hlc⟩ : ∃ z : List Loc, z = [] := ⟨_, rfl⟩
  rw [← hlc] at hS ⊢
  have hl : lv_has ls 4 [(0, .ref (ad S)), (1, .int (nI g)), (2, .int x)] := hl
  refine lv_aload_n hx hb dX6_pay_0 rfl (lv_at hl 0 rfl) ?_
  refine q_get hx hb hts hown hW (r := S) hJ.q.mS hJ.q.kS k_7 10 (by decide) rfl t_887 (x := (v S 10)) rfl dX6_pay_1 ?_
  refine lv_iload_n hx hb dX6_pay_4 rfl (lv_at hl 2 rfl) ?_
  refine q_min hx hb hml hl.1 hts hown m_min t_1075 (Nat.le_of_ble_eq_true rfl) (Nat.le_of_ble_eq_true rfl) (Nat.zero_le _) (Nat.zero_le _) dX6_pay_5 ?_
  refine lv_istore_n (lv' := [(3, .int (imin (v S 10) x)), (0, .ref (ad S)), (1, .int (nI g)), (2, .int x)]) hx hb dX6_pay_8 rfl hl (by decide) rfl (fun ls hl => ?_)
  refine lv_aload_n hx hb dX6_pay_9 rfl (lv_at hl 1 rfl) ?_
  refine lv_dup hx hb dX6_pay_10 rfl ?_
  refine q_get hx hb hts hown hW (r := S) hJ.q.mS hJ.q.kS k_7 10 (by decide) rfl t_887 (x := (v S 10)) rfl dX6_pay_11 ?_
  refine lv_iload_n hx hb dX6_pay_14 rfl (lv_at hl 0 rfl) ?_
  refine lv_isub hx hb dX6_pay_15 ?_
  refine q_put hx hb hts hown hW hS (r := S) hJ.q.mS hJ.q.kS k_7 10 (by decide) rfl t_887 rfl (t := .int) (by decide +kernel) rfl rfl dX6_pay_16 (fun H locs hW hS => ?_)
  have hJ : PJ L ad (up2 v S 10 ((v S 10) - (imin (v S 10) x))) o S B ng nh nl ns ow gx gy gw gd := hJ.kp (kr_b hJ.q.1 (by omega))
  generalize hv1 : (up2 v S 10 ((v S 10) - (imin (v S 10) x))) = v1 at hW hJ
  refine lv_aload_n hx hb dX6_pay_19 rfl (lv_at hl 1 rfl) ?_
  refine q_getr hx hb hts hown hW (r := S) hJ.q.mS hJ.q.kS k_7 1 (by decide) rfl t_869 (a := ad (B + 1)) (hJ.q.oB 1 rfl) dX6_pay_20 ?_
  refine lv_iload_n hx hb dX6_pay_23 rfl (lv_at hl 2 rfl) ?_
  refine lv_dup2_11 hx hb dX6_pay_24 rfl rfl ?_
  refine q_iald hx hb hW (r := (B + 1)) (hJ.q.mB 1 rfl) (hJ.q.k9 1 rfl (by decide)) (g) rfl (by rw [hJ.q.ln 1 rfl]; show _ < 6; omega) (by rw [hJ.q.ln 1 rfl]; decide) (x := (v1 (B + 1) (g))) rfl dX6_pay_25 ?_
  refine lv_iload_n hx hb dX6_pay_26 rfl (lv_at hl 0 rfl) ?_
  refine lv_iadd hx hb dX6_pay_27 ?_
  refine q_iast hx hb hW hS (r := (B + 1)) (hJ.q.mB 1 rfl) (hJ.q.k9 1 rfl (by decide)) (g) rfl (by rw [hJ.q.ln 1 rfl]; show _ < 6; omega) (by rw [hJ.q.ln 1 rfl]; decide) dX6_pay_28 (fun H locs hW hS => ?_)
  have hJ : PJ L ad (up2 v1 (B + 1) (g) ((v1 (B + 1) (g)) + (imin (v S 10) x))) o S B ng nh nl ns ow gx gy gw gd := hJ.kp (kr_b hJ.q.1 (by omega))
  generalize hv2 : (up2 v1 (B + 1) (g) ((v1 (B + 1) (g)) + (imin (v S 10) x))) = v2 at hW hJ
  refine lv_aload_n hx hb dX6_pay_29 rfl (lv_at hl 1 rfl) ?_
  refine q_getr hx hb hts hown hW (r := S) hJ.q.mS hJ.q.kS k_7 5 (by decide) rfl t_877 (a := ad (B + 5)) (hJ.q.oB 5 rfl) dX6_pay_30 ?_
  refine lv_iload_n hx hb dX6_pay_33 rfl (lv_at hl 2 rfl) ?_
  refine lv_dup2_11 hx hb dX6_pay_34 rfl rfl ?_
  refine q_iald hx hb hW (r := (B + 5)) (hJ.q.mB 5 rfl) (hJ.q.k9 5 rfl (by decide)) (g) rfl (by rw [hJ.q.ln 5 rfl]; show _ < 6; omega) (by rw [hJ.q.ln 5 rfl]; decide) (x := (v2 (B + 5) (g))) rfl dX6_pay_35 ?_
  refine lv_iload_n hx hb dX6_pay_36 rfl (lv_at hl 0 rfl) ?_
  refine lv_isub hx hb dX6_pay_37 ?_
  refine q_iast hx hb hW hS (r := (B + 5)) (hJ.q.mB 5 rfl) (hJ.q.k9 5 rfl (by decide)) (g) rfl (by rw [hJ.q.ln 5 rfl]; show _ < 6; omega) (by rw [hJ.q.ln 5 rfl]; decide) dX6_pay_38 (fun H locs hW hS => ?_)
  have hJ : PJ L ad (up2 v2 (B + 5) (g) ((v2 (B + 5) (g)) - (imin (v S 10) x))) o S B ng nh nl ns ow gx gy gw gd := hJ.kp (kr_b hJ.q.1 (by omega))
  generalize hv3 : (up2 v2 (B + 5) (g) ((v2 (B + 5) (g)) - (imin (v S 10) x))) = v3 at hW hJ
  refine lv_iload_n hx hb dX6_pay_39 rfl (lv_at hl 0 rfl) ?_
  subst hv3
  subst hv2
  subst hv1
  exact q_iret hx hb hr hlocks hW hS (Nat.le_refl _) (Nat.le_refl _) dX6_pay_40 (⟨rfl, rfl⟩)

set_option maxHeartbeats 4000000 in
set_option maxRecDepth 100000 in
theorem c_X6_hail (l : Launch) {G : GG} {L : List Nat} {ad : Nat → Nat} {v : Nat → Nat → Int32} {o : Nat → Nat → Option Nat} {w : Nat → Int64} {S B ng nh nl ns : Nat} {ow gx gy gw gd : Nat → Nat} (hJ : PJ L ad v o S B ng nh nl ns ow gx gy gw gd) {h : Nat} (hh : h < nh) {X Y rad : Int} (F : Int32) (hX1 : -1000 ≤ X) (hX2 : X ≤ 1000) (hY1 : -1000 ≤ Y) (hY2 : Y ≤ 1000) (hr1 : 0 ≤ rad) (hr2 : rad ≤ 5) : CtV l G L ad v o w yX6_hail cX6_hail 11 ({ frames := 1, cells := 0, slots := 0, locals := 21 }) [.ref (ad S), .int (nI h), .int (iI X), .int (iI Y), .int (iI rad), .int F] (fun u => u = rHouse v B gx gy gw gd rad F h X Y) := by
  have hsb := hJ.q.sb; have hbd := hJ.bd; have hgeo := (hJ.hs h hh).1; have hz36 := hJ.z36 hh
  refine q_ofV (by decide) (Nat.le_of_ble_eq_true rfl) ?_
  intro p e s m below meth c hx hb hr hml hts hown hlocks hE h0 hW hS hin ls hl
  generalize hH : s.heap = H at hW
  have hS : va_S (Ab G.2.2.1) s.heap H [] := hH ▸ hS
  obtain ⟨locs, hlc⟩ : ∃ z : List Loc, z = [] := ⟨_, rfl⟩
  rw [← hlc] at hS ⊢
  have hl : lv_has ls 11 [(0, .ref (ad S)), (1, .int (nI h)), (2, .int (iI X)), (3, .int (iI Y)), (4, .int (iI rad)), (5, .int F)] := hl
  refine lv_bipush (v := 7) hx hb dX6_hail_0 (by decide) ?_
  refine lv_iload_n hx hb dX6_hail_2 rfl (lv_at hl 1 rfl) ?_
  refine lv_imul hx hb dX6_hail_3 ?_
  refine lv_istore (lv' := [(6, .int (7 * (nI h))), (0, .ref (ad S)), (1, .int (nI h)), (2, .int (iI X)), (3, .int (iI Y)), (4, .int (iI rad)), (5, .int F)]) hx hb dX6_hail_4 hl (by decide) rfl (fun ls hl => ?_)
  refine lv_iconst (v := 0) hx hb dX6_hail_6 (by decide) ?_
  refine lv_istore (lv' := [(7, .int 0), (6, .int (7 * (nI h))), (0, .ref (ad S)), (1, .int (nI h)), (2, .int (iI X)), (3, .int (iI Y)), (4, .int (iI rad)), (5, .int F)]) hx hb dX6_hail_7 hl (by decide) rfl (fun ls hl => ?_)
  suffices LP_9 : ∀ (n_9 k1 : Nat) (x7_9 : Int32)  (u_9 : Nat → Nat → Int32) (H : Heap) (locs : List Loc) (ls : Array Slot), gw h * gd h + 1 ≤ k1 + n_9 → k1 ≤ gw h * gd h → nI k1 = x7_9 → itr (fun k u => rHail u B gx gy gw rad F h X Y k) k1 v = u_9 → WD G L ad u_9 o w s H → va_S (Ab G.2.2.1) s.heap H locs → lv_has ls 11 [(7, .int x7_9), (6, .int (7 * (nI h))), (0, .ref (ad S)), (1, .int (nI h)), (2, .int (iI X)), (3, .int (iI Y)), (4, .int (iI rad)), (5, .int F)] → W p l e ({ frames := 1, cells := 0, slots := 0, locals := 21 } : Room) s m ([.ref (ad S), .int (nI h), .int (iI X), .int (iI Y), .int (iI rad), .int F] : List Value).toArray below meth c H locs 0 0 (MQ below (va_Qv (fun u => u = rHouse v B gx gy gw gd rad F h X Y) (fun u t => WD G L ad u o w t t.heap) (Ab G.2.2.1)) ([.ref (ad S), .int (nI h), .int (iI X), .int (iI Y), .int (iI rad), .int F] : List Value).toArray s ({ frames := 1, cells := 0, slots := 0, locals := 21 } : Room).cells ({ frames := 1, cells := 0, slots := 0, locals := 21 } : Room).slots (Ab G.2.2.1)) (F0 m 9 ls []) from LP_9 (gw h * gd h + 1) 0 _   _ H locs ls (by omega) (by omega) (by rfl) (by rfl)  hW hS (lv_sub hl [0, 1, 2, 3, 4, 5, 6, 7] rfl)
  intro n_9
  induction n_9 with
  | zero => intro k1 x7_9  u_9 H locs ls h1 h2; exact absurd h1 (by omega)
  | succ n_9 ih_9 =>
    intro k1 x7_9  u_9 H locs ls hn_9 hi_9 ex7_9 eu_9  hW hS hl
    subst ex7_9
    subst eu_9
    have hJ : PJ L ad (itr (fun k u => rHail u B gx gy gw rad F h X Y k) k1 v) o S B ng nh nl ns ow gx gy gw gd := hJ.kp (kr_itr (fun _ _ _ => kr_rHail hJ.q.1))
    refine lv_iload hx hb dX6_hail_9 (lv_at hl 0 rfl) ?_
    refine lv_aload_n hx hb dX6_hail_11 rfl (lv_at hl 2 rfl) ?_
    refine lv_iload_n hx hb dX6_hail_12 rfl (lv_at hl 3 rfl) ?_
    refine q_cViE (As := [.int (nI h)]) (rest := [.int (nI k1)]) (r := S) hx hb hml hts hown hE h0 hW hS (c_X6_size l hJ hh) mw_X6_size hJ.q.mS hJ.q.kS k_7 t_1003 ⟨Nat.le_of_ble_eq_true rfl, Nat.le_of_ble_eq_true rfl⟩ rfl hl.1 (Nat.le_of_ble_eq_true rfl) dX6_hail_13 ⟨Nat.zero_le _, Nat.zero_le _⟩ ⟨rfl, rfl⟩ (fun H locs hW hS => ?_)
    refine lv_icmp_ge (tgt := 222) hx hb dX6_hail_16 (by decide) (fun c_16 => ?_) (fun c_16 => ?_)
    · skip
      have hq_9 := (ge_i (n := (gw h * gd h)) (by omega) hi_9 c_16).symm
      subst hq_9
      exact q_vret hx hb hr hlocks hW hS (Nat.le_refl _) (Nat.le_refl _) dX6_hail_222 (rfl)
    · skip
      have hkm : k1 % gw h < gw h := Nat.mod_lt _ (by omega)
      have hkd : k1 / gw h < 1000 - 20 := Nat.lt_of_le_of_lt (Nat.div_le_self _ _) (by have := lt_i (n := gw h * gd h) (by omega) hi_9 c_16; omega)
      have hz1 := Nat.zero_le (k1 / gw h)
      have hz2 := Nat.zero_le (k1 % gw h)
      have hfb := far2_b (x := (gx h : Int) + ((k1 % gw h : Nat) : Int)) (y := (gy h : Int) + ((k1 / gw h : Nat) : Int)) (X := X) (Y := Y) (by omega) (by omega) (by omega) (by omega) hX1 hX2 hY1 hY2
      have hlt_9 := lt_i (n := (gw h * gd h)) (by omega) hi_9 c_16
      refine lv_aload_n hx hb dX6_hail_19 rfl (lv_at hl 2 rfl) ?_
      refine q_getr hx hb hts hown hW (r := S) hJ.q.mS hJ.q.kS k_7 7 (by decide) rfl t_881 (a := ad (B + 7)) (hJ.q.oB 7 rfl) dX6_hail_20 ?_
      refine lv_iload hx hb dX6_hail_23 (lv_at hl 1 rfl) ?_
      refine lv_iconst (v := 1) hx hb dX6_hail_25 (by decide) ?_
      refine lv_iadd hx hb dX6_hail_26 ?_
      refine q_iald hx hb hW (r := (B + 7)) (hJ.q.mB 7 rfl) (hJ.q.k9 7 rfl (by decide)) (7 * h + 1) (ix_add (ix_mul rfl rfl) rfl) (by rw [hJ.q.ln 7 rfl]; show _ < 84; omega) (by rw [hJ.q.ln 7 rfl]; decide) (x := (nI (gx h))) (hJ.eX hh) dX6_hail_27 ?_
      refine lv_iload hx hb dX6_hail_28 (lv_at hl 0 rfl) ?_
      refine lv_aload_n hx hb dX6_hail_30 rfl (lv_at hl 2 rfl) ?_
      refine q_getr hx hb hts hown hW (r := S) hJ.q.mS hJ.q.kS k_7 7 (by decide) rfl t_881 (a := ad (B + 7)) (hJ.q.oB 7 rfl) dX6_hail_31 ?_
      refine lv_iload hx hb dX6_hail_34 (lv_at hl 1 rfl) ?_
      refine lv_iconst (v := 3) hx hb dX6_hail_36 (by decide) ?_
      refine lv_iadd hx hb dX6_hail_37 ?_
      refine q_iald hx hb hW (r := (B + 7)) (hJ.q.mB 7 rfl) (hJ.q.k9 7 rfl (by decide)) (7 * h + 3) (ix_add (ix_mul rfl rfl) rfl) (by rw [hJ.q.ln 7 rfl]; show _ < 84; omega) (by rw [hJ.q.ln 7 rfl]; decide) (x := (nI (gw h))) (hJ.eW hh) dX6_hail_38 ?_
      refine lv_irem hx hb dX6_hail_39 (nI_ne0 (by omega) (by omega)) ?_
      refine lv_topi (fun xt et => ?_)
      obtain rfl : xt = (nI (k1 % (gw h))) := et.trans (pk_rem (by omega) (by omega) (by omega))
      clear et
      refine lv_iadd hx hb dX6_hail_40 ?_
      refine lv_iload_n hx hb dX6_hail_41 rfl (lv_at hl 4 rfl) ?_
      refine lv_isub hx hb dX6_hail_42 ?_
      refine q_abs hx hb hml hl.1 hts hown m_abs t_1097 (Nat.le_of_ble_eq_true rfl) (Nat.le_of_ble_eq_true rfl) (Nat.zero_le _) (Nat.zero_le _) dX6_hail_43 ?_
      refine lv_aload_n hx hb dX6_hail_46 rfl (lv_at hl 2 rfl) ?_
      refine q_getr hx hb hts hown hW (r := S) hJ.q.mS hJ.q.kS k_7 7 (by decide) rfl t_881 (a := ad (B + 7)) (hJ.q.oB 7 rfl) dX6_hail_47 ?_
      refine lv_iload hx hb dX6_hail_50 (lv_at hl 1 rfl) ?_
      refine lv_iconst (v := 2) hx hb dX6_hail_52 (by decide) ?_
      refine lv_iadd hx hb dX6_hail_53 ?_
      refine q_iald hx hb hW (r := (B + 7)) (hJ.q.mB 7 rfl) (hJ.q.k9 7 rfl (by decide)) (7 * h + 2) (ix_add (ix_mul rfl rfl) rfl) (by rw [hJ.q.ln 7 rfl]; show _ < 84; omega) (by rw [hJ.q.ln 7 rfl]; decide) (x := (nI (gy h))) (hJ.eY hh) dX6_hail_54 ?_
      refine lv_iload hx hb dX6_hail_55 (lv_at hl 0 rfl) ?_
      refine lv_aload_n hx hb dX6_hail_57 rfl (lv_at hl 2 rfl) ?_
      refine q_getr hx hb hts hown hW (r := S) hJ.q.mS hJ.q.kS k_7 7 (by decide) rfl t_881 (a := ad (B + 7)) (hJ.q.oB 7 rfl) dX6_hail_58 ?_
      refine lv_iload hx hb dX6_hail_61 (lv_at hl 1 rfl) ?_
      refine lv_iconst (v := 3) hx hb dX6_hail_63 (by decide) ?_
      refine lv_iadd hx hb dX6_hail_64 ?_
      refine q_iald hx hb hW (r := (B + 7)) (hJ.q.mB 7 rfl) (hJ.q.k9 7 rfl (by decide)) (7 * h + 3) (ix_add (ix_mul rfl rfl) rfl) (by rw [hJ.q.ln 7 rfl]; show _ < 84; omega) (by rw [hJ.q.ln 7 rfl]; decide) (x := (nI (gw h))) (hJ.eW hh) dX6_hail_65 ?_
      refine lv_idiv hx hb dX6_hail_66 (nI_ne0 (by omega) (by omega)) ?_
      refine lv_topi (fun xt et => ?_)
      obtain rfl : xt = (nI (k1 / (gw h))) := et.trans (pk_div (by omega) (by omega) (by omega))
      clear et
      refine lv_iadd hx hb dX6_hail_67 ?_
      refine lv_iload_n hx hb dX6_hail_68 rfl (lv_at hl 5 rfl) ?_
      refine lv_isub hx hb dX6_hail_69 ?_
      refine q_abs hx hb hml hl.1 hts hown m_abs t_1097 (Nat.le_of_ble_eq_true rfl) (Nat.le_of_ble_eq_true rfl) (Nat.zero_le _) (Nat.zero_le _) dX6_hail_70 ?_
      refine q_max hx hb hml hl.1 hts hown m_max t_1076 (Nat.le_of_ble_eq_true rfl) (Nat.le_of_ble_eq_true rfl) (Nat.zero_le _) (Nat.zero_le _) dX6_hail_73 ?_
      refine lv_topi (fun xt et => ?_)
      obtain rfl : xt = iI (far2 ((gx h : Int) + ((k1 % gw h : Nat) : Int)) ((gy h : Int) + ((k1 / gw h : Nat) : Int)) X Y) := et.trans (hh_far2 (x := gx h) (b := k1 % gw h) (y := gy h) (a := k1 / gw h) (by omega) (by omega) hX1 hX2 hY1 hY2)
      clear et
      refine lv_istore (lv' := [(8, .int (iI (far2 ((gx h : Int) + ((k1 % gw h : Nat) : Int)) ((gy h : Int) + ((k1 / gw h : Nat) : Int)) X Y))), (7, .int (nI k1)), (6, .int (7 * (nI h))), (0, .ref (ad S)), (1, .int (nI h)), (2, .int (iI X)), (3, .int (iI Y)), (4, .int (iI rad)), (5, .int F)]) hx hb dX6_hail_76 hl (by decide) rfl (fun ls hl => ?_)
      refine lv_iload hx hb dX6_hail_78 (lv_at hl 0 rfl) ?_
      refine lv_iload hx hb dX6_hail_80 (lv_at hl 7 rfl) ?_
      refine lv_icmp_le (tgt := 88) hx hb dX6_hail_82 (by decide) (fun c_82 => ?_) (fun c_82 => ?_)
      · skip
        have hfar : far2 ((gx h : Int) + ((k1 % gw h : Nat) : Int)) ((gy h : Int) + ((k1 / gw h : Nat) : Int)) X Y ≤ rad := (iI_le (by omega) (by omega) (by omega) (by omega)).mp c_82
        refine lv_iload hx hb dX6_hail_88 (lv_at hl 8 rfl) ?_
        refine lv_iconst (v := 2) hx hb dX6_hail_90 (by decide) ?_
        refine lv_iload hx hb dX6_hail_91 (lv_at hl 0 rfl) ?_
        refine lv_imul hx hb dX6_hail_93 ?_
        refine lv_isub hx hb dX6_hail_94 ?_
        refine lv_aload_n hx hb dX6_hail_95 rfl (lv_at hl 3 rfl) ?_
        refine q_getr hx hb hts hown hW (r := S) hJ.q.mS hJ.q.kS k_7 8 (by decide) rfl t_883 (a := ad (B + 8)) (hJ.q.oB 8 rfl) dX6_hail_96 ?_
        refine lv_iload_n hx hb dX6_hail_99 rfl (lv_at hl 4 rfl) ?_
        refine q_zald hx hb hW (r := (B + 8)) (hJ.q.mB 8 rfl) hJ.q.k10 (h) rfl (by rw [hJ.q.ln 8 rfl]; show _ < 12; omega) (by rw [hJ.q.ln 8 rfl]; decide) (x := ((itr (fun k u => rHail u B gx gy gw rad F h X Y k) k1 v) (B + 8) (h))) rfl dX6_hail_100 ?_
        refine lv_if_eq (tgt := 108) hx hb dX6_hail_101 (by decide) (fun c_101 => ?_) (fun c_101 => ?_)
        · skip
          refine lv_iconst (v := 0) hx hb dX6_hail_108 (by decide) ?_
          refine lv_isub hx hb dX6_hail_109 ?_
          refine lv_topi (fun xt et => ?_)
          obtain rfl : xt = F - 2 * iI (far2 ((gx h : Int) + ((k1 % gw h : Nat) : Int)) ((gy h : Int) + ((k1 / gw h : Nat) : Int)) X Y) - (if (itr (fun k u => rHail u B gx gy gw rad F h X Y k) k1 v) (B + 8) h = 0 then 0 else 5) := et.trans (by first | rw [if_pos c_101] | rw [if_neg c_101])
          clear et
          refine lv_istore (lv' := [(9, .int (F - 2 * iI (far2 ((gx h : Int) + ((k1 % gw h : Nat) : Int)) ((gy h : Int) + ((k1 / gw h : Nat) : Int)) X Y) - (if (itr (fun k u => rHail u B gx gy gw rad F h X Y k) k1 v) (B + 8) h = 0 then 0 else 5))), (8, .int (iI (far2 ((gx h : Int) + ((k1 % gw h : Nat) : Int)) ((gy h : Int) + ((k1 / gw h : Nat) : Int)) X Y))), (7, .int (nI k1)), (6, .int (7 * (nI h))), (0, .ref (ad S)), (1, .int (nI h)), (2, .int (iI X)), (3, .int (iI Y)), (4, .int (iI rad)), (5, .int F)]) hx hb dX6_hail_110 hl (by decide) rfl (fun ls hl => ?_)
          refine lv_aload_n hx hb dX6_hail_112 rfl (lv_at hl 4 rfl) ?_
          refine q_getr hx hb hts hown hW (r := S) hJ.q.mS hJ.q.kS k_7 9 (by decide) rfl t_885 (a := ad (B + 9)) (hJ.q.oB 9 rfl) dX6_hail_113 ?_
          refine lv_bipush (v := 36) hx hb dX6_hail_116 (by decide) ?_
          refine lv_iload_n hx hb dX6_hail_118 rfl (lv_at hl 5 rfl) ?_
          refine lv_imul hx hb dX6_hail_119 ?_
          refine lv_iload hx hb dX6_hail_120 (lv_at hl 2 rfl) ?_
          refine lv_iadd hx hb dX6_hail_122 ?_
          refine q_iald hx hb hW (r := (B + 9)) (hJ.q.mB 9 rfl) (hJ.q.k9 9 rfl (by decide)) (36 * h + k1) (ix_add (ix_mul rfl rfl) rfl) (by rw [hJ.q.ln 9 rfl]; show _ < 432; omega) (by rw [hJ.q.ln 9 rfl]; decide) (x := ((itr (fun k u => rHail u B gx gy gw rad F h X Y k) k1 v) (B + 9) (36 * h + k1))) rfl dX6_hail_123 ?_
          refine lv_istore (lv' := [(10, .int ((itr (fun k u => rHail u B gx gy gw rad F h X Y k) k1 v) (B + 9) (36 * h + k1))), (9, .int (F - 2 * iI (far2 ((gx h : Int) + ((k1 % gw h : Nat) : Int)) ((gy h : Int) + ((k1 / gw h : Nat) : Int)) X Y) - (if (itr (fun k u => rHail u B gx gy gw rad F h X Y k) k1 v) (B + 8) h = 0 then 0 else 5))), (8, .int (iI (far2 ((gx h : Int) + ((k1 % gw h : Nat) : Int)) ((gy h : Int) + ((k1 / gw h : Nat) : Int)) X Y))), (7, .int (nI k1)), (6, .int (7 * (nI h))), (0, .ref (ad S)), (1, .int (nI h)), (2, .int (iI X)), (3, .int (iI Y)), (4, .int (iI rad)), (5, .int F)]) hx hb dX6_hail_124 hl (by decide) rfl (fun ls hl => ?_)
          refine lv_iload hx hb dX6_hail_126 (lv_at hl 0 rfl) ?_
          refine lv_if_ne (tgt := 171) hx hb dX6_hail_128 (by decide) (fun c_128 => ?_) (fun c_128 => ?_)
          · skip
            refine lv_iload hx hb dX6_hail_171 (lv_at hl 0 rfl) ?_
            refine lv_iconst (v := 1) hx hb dX6_hail_173 (by decide) ?_
            refine lv_icmp_ne (tgt := 216) hx hb dX6_hail_174 (by decide) (fun c_174 => ?_) (fun c_174 => ?_)
            · skip
              refine lv_iinc (v := (nI (k1 + 1))) (lv' := [(7, .int (nI (k1 + 1))), (10, .int ((itr (fun k u => rHail u B gx gy gw rad F h X Y k) k1 v) (B + 9) (36 * h + k1))), (9, .int (F - 2 * iI (far2 ((gx h : Int) + ((k1 % gw h : Nat) : Int)) ((gy h : Int) + ((k1 / gw h : Nat) : Int)) X Y) - (if (itr (fun k u => rHail u B gx gy gw rad F h X Y k) k1 v) (B + 8) h = 0 then 0 else 5))), (8, .int (iI (far2 ((gx h : Int) + ((k1 % gw h : Nat) : Int)) ((gy h : Int) + ((k1 / gw h : Nat) : Int)) X Y))), (6, .int (7 * (nI h))), (0, .ref (ad S)), (1, .int (nI h)), (2, .int (iI X)), (3, .int (iI Y)), (4, .int (iI rad)), (5, .int F)]) hx hb dX6_hail_216 hl (k := 3) rfl (inc_nI _) (by decide) rfl (fun ls hl => ?_)
              refine lv_goto (tgt := 9) hx hb dX6_hail_219 (by decide) ?_
              exact ih_9 (k1 + 1) _   _ H locs ls (by omega) (by omega) (by rfl) (by rw [itr_s]; first | exact if_neg hfar | (refine (if_pos hfar).trans ?_; unfold rHit; first | exact absurd ((by assumption : (itr (fun k u => rHail u B gx gy gw rad F h X Y k) k1 v) (B + 9) (36 * h + k1) = 0).symm.trans (by assumption : (itr (fun k u => rHail u B gx gy gw rad F h X Y k) k1 v) (B + 9) (36 * h + k1) = 1)) (by decide) | exact if_pos ⟨by assumption, Int32.not_le.mp (by assumption)⟩ | exact (if_neg (fun q => by first | exact absurd q.1 (by assumption) | exact absurd q.2 (Int32.not_lt.mpr (by assumption)))).trans (if_pos ⟨by assumption, Int32.not_le.mp (by assumption)⟩) | exact (if_neg (fun q => by first | exact absurd q.1 (by assumption) | exact absurd q.2 (Int32.not_lt.mpr (by assumption)))).trans (if_neg (fun q => by first | exact absurd q.1 (by assumption) | exact absurd q.2 (Int32.not_lt.mpr (by assumption))))))  hW hS (lv_sub hl [0, 4, 5, 6, 7, 8, 9, 10] rfl)
            · skip
              refine lv_iconst (v := 2) hx hb dX6_hail_177 (by decide) ?_
              refine lv_iload hx hb dX6_hail_178 (lv_at hl 1 rfl) ?_
              refine lv_imul hx hb dX6_hail_180 ?_
              refine lv_aload_n hx hb dX6_hail_181 rfl (lv_at hl 5 rfl) ?_
              refine q_getr hx hb hts hown hW (r := S) hJ.q.mS hJ.q.kS k_7 7 (by decide) rfl t_881 (a := ad (B + 7)) (hJ.q.oB 7 rfl) dX6_hail_182 ?_
              refine lv_iload hx hb dX6_hail_185 (lv_at hl 4 rfl) ?_
              refine lv_iconst (v := 5) hx hb dX6_hail_187 (by decide) ?_
              refine lv_iadd hx hb dX6_hail_188 ?_
              refine q_iald hx hb hW (r := (B + 7)) (hJ.q.mB 7 rfl) (hJ.q.k9 7 rfl (by decide)) (7 * h + 5) (ix_add (ix_mul rfl rfl) rfl) (by rw [hJ.q.ln 7 rfl]; show _ < 84; omega) (by rw [hJ.q.ln 7 rfl]; decide) (x := ((itr (fun k u => rHail u B gx gy gw rad F h X Y k) k1 v) (B + 7) (7 * h + 5))) rfl dX6_hail_189 ?_
              refine lv_icmp_le (tgt := 216) hx hb dX6_hail_190 (by decide) (fun c_190 => ?_) (fun c_190 => ?_)
              · skip
                refine lv_iinc (v := (nI (k1 + 1))) (lv' := [(7, .int (nI (k1 + 1))), (10, .int ((itr (fun k u => rHail u B gx gy gw rad F h X Y k) k1 v) (B + 9) (36 * h + k1))), (9, .int (F - 2 * iI (far2 ((gx h : Int) + ((k1 % gw h : Nat) : Int)) ((gy h : Int) + ((k1 / gw h : Nat) : Int)) X Y) - (if (itr (fun k u => rHail u B gx gy gw rad F h X Y k) k1 v) (B + 8) h = 0 then 0 else 5))), (8, .int (iI (far2 ((gx h : Int) + ((k1 % gw h : Nat) : Int)) ((gy h : Int) + ((k1 / gw h : Nat) : Int)) X Y))), (6, .int (7 * (nI h))), (0, .ref (ad S)), (1, .int (nI h)), (2, .int (iI X)), (3, .int (iI Y)), (4, .int (iI rad)), (5, .int F)]) hx hb dX6_hail_216 hl (k := 3) rfl (inc_nI _) (by decide) rfl (fun ls hl => ?_)
                refine lv_goto (tgt := 9) hx hb dX6_hail_219 (by decide) ?_
                exact ih_9 (k1 + 1) _   _ H locs ls (by omega) (by omega) (by rfl) (by rw [itr_s]; first | exact if_neg hfar | (refine (if_pos hfar).trans ?_; unfold rHit; first | exact absurd ((by assumption : (itr (fun k u => rHail u B gx gy gw rad F h X Y k) k1 v) (B + 9) (36 * h + k1) = 0).symm.trans (by assumption : (itr (fun k u => rHail u B gx gy gw rad F h X Y k) k1 v) (B + 9) (36 * h + k1) = 1)) (by decide) | exact if_pos ⟨by assumption, Int32.not_le.mp (by assumption)⟩ | exact (if_neg (fun q => by first | exact absurd q.1 (by assumption) | exact absurd q.2 (Int32.not_lt.mpr (by assumption)))).trans (if_pos ⟨by assumption, Int32.not_le.mp (by assumption)⟩) | exact (if_neg (fun q => by first | exact absurd q.1 (by assumption) | exact absurd q.2 (Int32.not_lt.mpr (by assumption)))).trans (if_neg (fun q => by first | exact absurd q.1 (by assumption) | exact absurd q.2 (Int32.not_lt.mpr (by assumption))))))  hW hS (lv_sub hl [0, 4, 5, 6, 7, 8, 9, 10] rfl)
              · skip
                refine lv_aload_n hx hb dX6_hail_193 rfl (lv_at hl 5 rfl) ?_
                refine q_getr hx hb hts hown hW (r := S) hJ.q.mS hJ.q.kS k_7 9 (by decide) rfl t_885 (a := ad (B + 9)) (hJ.q.oB 9 rfl) dX6_hail_194 ?_
                refine lv_bipush (v := 36) hx hb dX6_hail_197 (by decide) ?_
                refine lv_iload_n hx hb dX6_hail_199 rfl (lv_at hl 6 rfl) ?_
                refine lv_imul hx hb dX6_hail_200 ?_
                refine lv_iload hx hb dX6_hail_201 (lv_at hl 3 rfl) ?_
                refine lv_iadd hx hb dX6_hail_203 ?_
                refine lv_iconst (v := 2) hx hb dX6_hail_204 (by decide) ?_
                refine q_iast hx hb hW hS (r := (B + 9)) (hJ.q.mB 9 rfl) (hJ.q.k9 9 rfl (by decide)) (36 * h + k1) (ix_add (ix_mul rfl rfl) rfl) (by rw [hJ.q.ln 9 rfl]; show _ < 432; omega) (by rw [hJ.q.ln 9 rfl]; decide) dX6_hail_205 (fun H locs hW hS => ?_)
                have hJ : PJ L ad (up2 (itr (fun k u => rHail u B gx gy gw rad F h X Y k) k1 v) (B + 9) (36 * h + k1) 2) o S B ng nh nl ns ow gx gy gw gd := hJ.kp (kr_b hJ.q.1 (by omega))
                generalize hv1 : (up2 (itr (fun k u => rHail u B gx gy gw rad F h X Y k) k1 v) (B + 9) (36 * h + k1) 2) = v1 at hW hJ
                refine lv_aload_n hx hb dX6_hail_206 rfl (lv_at hl 5 rfl) ?_
                refine q_getr hx hb hts hown hW (r := S) hJ.q.mS hJ.q.kS k_7 16 (by decide) rfl t_899 (a := ad (B + 16)) (hJ.q.oB 16 rfl) dX6_hail_207 ?_
                refine lv_iconst (v := 1) hx hb dX6_hail_210 (by decide) ?_
                refine lv_dup2_11 hx hb dX6_hail_211 rfl rfl ?_
                refine q_iald hx hb hW (r := (B + 16)) (hJ.q.mB 16 rfl) (hJ.q.k9 16 rfl (by decide)) (1) rfl (by rw [hJ.q.ln 16 rfl]; show _ < 6; omega) (by rw [hJ.q.ln 16 rfl]; decide) (x := (v1 (B + 16) (1))) rfl dX6_hail_212 ?_
                refine lv_iconst (v := 1) hx hb dX6_hail_213 (by decide) ?_
                refine lv_iadd hx hb dX6_hail_214 ?_
                refine q_iast hx hb hW hS (r := (B + 16)) (hJ.q.mB 16 rfl) (hJ.q.k9 16 rfl (by decide)) (1) rfl (by rw [hJ.q.ln 16 rfl]; show _ < 6; omega) (by rw [hJ.q.ln 16 rfl]; decide) dX6_hail_215 (fun H locs hW hS => ?_)
                have hJ : PJ L ad (up2 v1 (B + 16) (1) ((v1 (B + 16) (1)) + 1)) o S B ng nh nl ns ow gx gy gw gd := hJ.kp (kr_b hJ.q.1 (by omega))
                generalize hv2 : (up2 v1 (B + 16) (1) ((v1 (B + 16) (1)) + 1)) = v2 at hW hJ
                refine lv_iinc (v := (nI (k1 + 1))) (lv' := [(7, .int (nI (k1 + 1))), (10, .int ((itr (fun k u => rHail u B gx gy gw rad F h X Y k) k1 v) (B + 9) (36 * h + k1))), (9, .int (F - 2 * iI (far2 ((gx h : Int) + ((k1 % gw h : Nat) : Int)) ((gy h : Int) + ((k1 / gw h : Nat) : Int)) X Y) - (if (itr (fun k u => rHail u B gx gy gw rad F h X Y k) k1 v) (B + 8) h = 0 then 0 else 5))), (8, .int (iI (far2 ((gx h : Int) + ((k1 % gw h : Nat) : Int)) ((gy h : Int) + ((k1 / gw h : Nat) : Int)) X Y))), (6, .int (7 * (nI h))), (0, .ref (ad S)), (1, .int (nI h)), (2, .int (iI X)), (3, .int (iI Y)), (4, .int (iI rad)), (5, .int F)]) hx hb dX6_hail_216 hl (k := 3) rfl (inc_nI _) (by decide) rfl (fun ls hl => ?_)
                refine lv_goto (tgt := 9) hx hb dX6_hail_219 (by decide) ?_
                subst hv2
                subst hv1
                exact ih_9 (k1 + 1) _   _ H locs ls (by omega) (by omega) (by rfl) (by rw [itr_s]; first | exact if_neg hfar | (refine (if_pos hfar).trans ?_; unfold rHit; first | exact absurd ((by assumption : (itr (fun k u => rHail u B gx gy gw rad F h X Y k) k1 v) (B + 9) (36 * h + k1) = 0).symm.trans (by assumption : (itr (fun k u => rHail u B gx gy gw rad F h X Y k) k1 v) (B + 9) (36 * h + k1) = 1)) (by decide) | exact if_pos ⟨by assumption, Int32.not_le.mp (by assumption)⟩ | exact (if_neg (fun q => by first | exact absurd q.1 (by assumption) | exact absurd q.2 (Int32.not_lt.mpr (by assumption)))).trans (if_pos ⟨by assumption, Int32.not_le.mp (by assumption)⟩) | exact (if_neg (fun q => by first | exact absurd q.1 (by assumption) | exact absurd q.2 (Int32.not_lt.mpr (by assumption)))).trans (if_neg (fun q => by first | exact absurd q.1 (by assumption) | exact absurd q.2 (Int32.not_lt.mpr (by assumption))))))  hW hS (lv_sub hl [0, 4, 5, 6, 7, 8, 9, 10] rfl)
          · skip
            refine lv_iload hx hb dX6_hail_131 (lv_at hl 1 rfl) ?_
            refine lv_aload_n hx hb dX6_hail_133 rfl (lv_at hl 5 rfl) ?_
            refine q_getr hx hb hts hown hW (r := S) hJ.q.mS hJ.q.kS k_7 7 (by decide) rfl t_881 (a := ad (B + 7)) (hJ.q.oB 7 rfl) dX6_hail_134 ?_
            refine lv_iload hx hb dX6_hail_137 (lv_at hl 4 rfl) ?_
            refine lv_iconst (v := 5) hx hb dX6_hail_139 (by decide) ?_
            refine lv_iadd hx hb dX6_hail_140 ?_
            refine q_iald hx hb hW (r := (B + 7)) (hJ.q.mB 7 rfl) (hJ.q.k9 7 rfl (by decide)) (7 * h + 5) (ix_add (ix_mul rfl rfl) rfl) (by rw [hJ.q.ln 7 rfl]; show _ < 84; omega) (by rw [hJ.q.ln 7 rfl]; decide) (x := ((itr (fun k u => rHail u B gx gy gw rad F h X Y k) k1 v) (B + 7) (7 * h + 5))) rfl dX6_hail_141 ?_
            refine lv_icmp_le (tgt := 171) hx hb dX6_hail_142 (by decide) (fun c_142 => ?_) (fun c_142 => ?_)
            · skip
              refine lv_iload hx hb dX6_hail_171 (lv_at hl 0 rfl) ?_
              refine lv_iconst (v := 1) hx hb dX6_hail_173 (by decide) ?_
              refine lv_icmp_ne (tgt := 216) hx hb dX6_hail_174 (by decide) (fun c_174 => ?_) (fun c_174 => ?_)
              · skip
                refine lv_iinc (v := (nI (k1 + 1))) (lv' := [(7, .int (nI (k1 + 1))), (10, .int ((itr (fun k u => rHail u B gx gy gw rad F h X Y k) k1 v) (B + 9) (36 * h + k1))), (9, .int (F - 2 * iI (far2 ((gx h : Int) + ((k1 % gw h : Nat) : Int)) ((gy h : Int) + ((k1 / gw h : Nat) : Int)) X Y) - (if (itr (fun k u => rHail u B gx gy gw rad F h X Y k) k1 v) (B + 8) h = 0 then 0 else 5))), (8, .int (iI (far2 ((gx h : Int) + ((k1 % gw h : Nat) : Int)) ((gy h : Int) + ((k1 / gw h : Nat) : Int)) X Y))), (6, .int (7 * (nI h))), (0, .ref (ad S)), (1, .int (nI h)), (2, .int (iI X)), (3, .int (iI Y)), (4, .int (iI rad)), (5, .int F)]) hx hb dX6_hail_216 hl (k := 3) rfl (inc_nI _) (by decide) rfl (fun ls hl => ?_)
                refine lv_goto (tgt := 9) hx hb dX6_hail_219 (by decide) ?_
                exact ih_9 (k1 + 1) _   _ H locs ls (by omega) (by omega) (by rfl) (by rw [itr_s]; first | exact if_neg hfar | (refine (if_pos hfar).trans ?_; unfold rHit; first | exact absurd ((by assumption : (itr (fun k u => rHail u B gx gy gw rad F h X Y k) k1 v) (B + 9) (36 * h + k1) = 0).symm.trans (by assumption : (itr (fun k u => rHail u B gx gy gw rad F h X Y k) k1 v) (B + 9) (36 * h + k1) = 1)) (by decide) | exact if_pos ⟨by assumption, Int32.not_le.mp (by assumption)⟩ | exact (if_neg (fun q => by first | exact absurd q.1 (by assumption) | exact absurd q.2 (Int32.not_lt.mpr (by assumption)))).trans (if_pos ⟨by assumption, Int32.not_le.mp (by assumption)⟩) | exact (if_neg (fun q => by first | exact absurd q.1 (by assumption) | exact absurd q.2 (Int32.not_lt.mpr (by assumption)))).trans (if_neg (fun q => by first | exact absurd q.1 (by assumption) | exact absurd q.2 (Int32.not_lt.mpr (by assumption))))))  hW hS (lv_sub hl [0, 4, 5, 6, 7, 8, 9, 10] rfl)
              · skip
                refine lv_iconst (v := 2) hx hb dX6_hail_177 (by decide) ?_
                refine lv_iload hx hb dX6_hail_178 (lv_at hl 1 rfl) ?_
                refine lv_imul hx hb dX6_hail_180 ?_
                refine lv_aload_n hx hb dX6_hail_181 rfl (lv_at hl 5 rfl) ?_
                refine q_getr hx hb hts hown hW (r := S) hJ.q.mS hJ.q.kS k_7 7 (by decide) rfl t_881 (a := ad (B + 7)) (hJ.q.oB 7 rfl) dX6_hail_182 ?_
                refine lv_iload hx hb dX6_hail_185 (lv_at hl 4 rfl) ?_
                refine lv_iconst (v := 5) hx hb dX6_hail_187 (by decide) ?_
                refine lv_iadd hx hb dX6_hail_188 ?_
                refine q_iald hx hb hW (r := (B + 7)) (hJ.q.mB 7 rfl) (hJ.q.k9 7 rfl (by decide)) (7 * h + 5) (ix_add (ix_mul rfl rfl) rfl) (by rw [hJ.q.ln 7 rfl]; show _ < 84; omega) (by rw [hJ.q.ln 7 rfl]; decide) (x := ((itr (fun k u => rHail u B gx gy gw rad F h X Y k) k1 v) (B + 7) (7 * h + 5))) rfl dX6_hail_189 ?_
                refine lv_icmp_le (tgt := 216) hx hb dX6_hail_190 (by decide) (fun c_190 => ?_) (fun c_190 => ?_)
                · skip
                  refine lv_iinc (v := (nI (k1 + 1))) (lv' := [(7, .int (nI (k1 + 1))), (10, .int ((itr (fun k u => rHail u B gx gy gw rad F h X Y k) k1 v) (B + 9) (36 * h + k1))), (9, .int (F - 2 * iI (far2 ((gx h : Int) + ((k1 % gw h : Nat) : Int)) ((gy h : Int) + ((k1 / gw h : Nat) : Int)) X Y) - (if (itr (fun k u => rHail u B gx gy gw rad F h X Y k) k1 v) (B + 8) h = 0 then 0 else 5))), (8, .int (iI (far2 ((gx h : Int) + ((k1 % gw h : Nat) : Int)) ((gy h : Int) + ((k1 / gw h : Nat) : Int)) X Y))), (6, .int (7 * (nI h))), (0, .ref (ad S)), (1, .int (nI h)), (2, .int (iI X)), (3, .int (iI Y)), (4, .int (iI rad)), (5, .int F)]) hx hb dX6_hail_216 hl (k := 3) rfl (inc_nI _) (by decide) rfl (fun ls hl => ?_)
                  refine lv_goto (tgt := 9) hx hb dX6_hail_219 (by decide) ?_
                  exact ih_9 (k1 + 1) _   _ H locs ls (by omega) (by omega) (by rfl) (by rw [itr_s]; first | exact if_neg hfar | (refine (if_pos hfar).trans ?_; unfold rHit; first | exact absurd ((by assumption : (itr (fun k u => rHail u B gx gy gw rad F h X Y k) k1 v) (B + 9) (36 * h + k1) = 0).symm.trans (by assumption : (itr (fun k u => rHail u B gx gy gw rad F h X Y k) k1 v) (B + 9) (36 * h + k1) = 1)) (by decide) | exact if_pos ⟨by assumption, Int32.not_le.mp (by assumption)⟩ | exact (if_neg (fun q => by first | exact absurd q.1 (by assumption) | exact absurd q.2 (Int32.not_lt.mpr (by assumption)))).trans (if_pos ⟨by assumption, Int32.not_le.mp (by assumption)⟩) | exact (if_neg (fun q => by first | exact absurd q.1 (by assumption) | exact absurd q.2 (Int32.not_lt.mpr (by assumption)))).trans (if_neg (fun q => by first | exact absurd q.1 (by assumption) | exact absurd q.2 (Int32.not_lt.mpr (by assumption))))))  hW hS (lv_sub hl [0, 4, 5, 6, 7, 8, 9, 10] rfl)
                · skip
                  refine lv_aload_n hx hb dX6_hail_193 rfl (lv_at hl 5 rfl) ?_
                  refine q_getr hx hb hts hown hW (r := S) hJ.q.mS hJ.q.kS k_7 9 (by decide) rfl t_885 (a := ad (B + 9)) (hJ.q.oB 9 rfl) dX6_hail_194 ?_
                  refine lv_bipush (v := 36) hx hb dX6_hail_197 (by decide) ?_
                  refine lv_iload_n hx hb dX6_hail_199 rfl (lv_at hl 6 rfl) ?_
                  refine lv_imul hx hb dX6_hail_200 ?_
                  refine lv_iload hx hb dX6_hail_201 (lv_at hl 3 rfl) ?_
                  refine lv_iadd hx hb dX6_hail_203 ?_
                  refine lv_iconst (v := 2) hx hb dX6_hail_204 (by decide) ?_
                  refine q_iast hx hb hW hS (r := (B + 9)) (hJ.q.mB 9 rfl) (hJ.q.k9 9 rfl (by decide)) (36 * h + k1) (ix_add (ix_mul rfl rfl) rfl) (by rw [hJ.q.ln 9 rfl]; show _ < 432; omega) (by rw [hJ.q.ln 9 rfl]; decide) dX6_hail_205 (fun H locs hW hS => ?_)
                  have hJ : PJ L ad (up2 (itr (fun k u => rHail u B gx gy gw rad F h X Y k) k1 v) (B + 9) (36 * h + k1) 2) o S B ng nh nl ns ow gx gy gw gd := hJ.kp (kr_b hJ.q.1 (by omega))
                  generalize hv3 : (up2 (itr (fun k u => rHail u B gx gy gw rad F h X Y k) k1 v) (B + 9) (36 * h + k1) 2) = v3 at hW hJ
                  refine lv_aload_n hx hb dX6_hail_206 rfl (lv_at hl 5 rfl) ?_
                  refine q_getr hx hb hts hown hW (r := S) hJ.q.mS hJ.q.kS k_7 16 (by decide) rfl t_899 (a := ad (B + 16)) (hJ.q.oB 16 rfl) dX6_hail_207 ?_
                  refine lv_iconst (v := 1) hx hb dX6_hail_210 (by decide) ?_
                  refine lv_dup2_11 hx hb dX6_hail_211 rfl rfl ?_
                  refine q_iald hx hb hW (r := (B + 16)) (hJ.q.mB 16 rfl) (hJ.q.k9 16 rfl (by decide)) (1) rfl (by rw [hJ.q.ln 16 rfl]; show _ < 6; omega) (by rw [hJ.q.ln 16 rfl]; decide) (x := (v3 (B + 16) (1))) rfl dX6_hail_212 ?_
                  refine lv_iconst (v := 1) hx hb dX6_hail_213 (by decide) ?_
                  refine lv_iadd hx hb dX6_hail_214 ?_
                  refine q_iast hx hb hW hS (r := (B + 16)) (hJ.q.mB 16 rfl) (hJ.q.k9 16 rfl (by decide)) (1) rfl (by rw [hJ.q.ln 16 rfl]; show _ < 6; omega) (by rw [hJ.q.ln 16 rfl]; decide) dX6_hail_215 (fun H locs hW hS => ?_)
                  have hJ : PJ L ad (up2 v3 (B + 16) (1) ((v3 (B + 16) (1)) + 1)) o S B ng nh nl ns ow gx gy gw gd := hJ.kp (kr_b hJ.q.1 (by omega))
                  generalize hv4 : (up2 v3 (B + 16) (1) ((v3 (B + 16) (1)) + 1)) = v4 at hW hJ
                  refine lv_iinc (v := (nI (k1 + 1))) (lv' := [(7, .int (nI (k1 + 1))), (10, .int ((itr (fun k u => rHail u B gx gy gw rad F h X Y k) k1 v) (B + 9) (36 * h + k1))), (9, .int (F - 2 * iI (far2 ((gx h : Int) + ((k1 % gw h : Nat) : Int)) ((gy h : Int) + ((k1 / gw h : Nat) : Int)) X Y) - (if (itr (fun k u => rHail u B gx gy gw rad F h X Y k) k1 v) (B + 8) h = 0 then 0 else 5))), (8, .int (iI (far2 ((gx h : Int) + ((k1 % gw h : Nat) : Int)) ((gy h : Int) + ((k1 / gw h : Nat) : Int)) X Y))), (6, .int (7 * (nI h))), (0, .ref (ad S)), (1, .int (nI h)), (2, .int (iI X)), (3, .int (iI Y)), (4, .int (iI rad)), (5, .int F)]) hx hb dX6_hail_216 hl (k := 3) rfl (inc_nI _) (by decide) rfl (fun ls hl => ?_)
                  refine lv_goto (tgt := 9) hx hb dX6_hail_219 (by decide) ?_
                  subst hv4
                  subst hv3
                  exact ih_9 (k1 + 1) _   _ H locs ls (by omega) (by omega) (by rfl) (by rw [itr_s]; first | exact if_neg hfar | (refine (if_pos hfar).trans ?_; unfold rHit; first | exact absurd ((by assumption : (itr (fun k u => rHail u B gx gy gw rad F h X Y k) k1 v) (B + 9) (36 * h + k1) = 0).symm.trans (by assumption : (itr (fun k u => rHail u B gx gy gw rad F h X Y k) k1 v) (B + 9) (36 * h + k1) = 1)) (by decide) | exact if_pos ⟨by assumption, Int32.not_le.mp (by assumption)⟩ | exact (if_neg (fun q => by first | exact absurd q.1 (by assumption) | exact absurd q.2 (Int32.not_lt.mpr (by assumption)))).trans (if_pos ⟨by assumption, Int32.not_le.mp (by assumption)⟩) | exact (if_neg (fun q => by first | exact absurd q.1 (by assumption) | exact absurd q.2 (Int32.not_lt.mpr (by assumption)))).trans (if_neg (fun q => by first | exact absurd q.1 (by assumption) | exact absurd q.2 (Int32.not_lt.mpr (by assumption))))))  hW hS (lv_sub hl [0, 4, 5, 6, 7, 8, 9, 10] rfl)
            · skip
              refine lv_aload_n hx hb dX6_hail_145 rfl (lv_at hl 5 rfl) ?_
              refine q_getr hx hb hts hown hW (r := S) hJ.q.mS hJ.q.kS k_7 9 (by decide) rfl t_885 (a := ad (B + 9)) (hJ.q.oB 9 rfl) dX6_hail_146 ?_
              refine lv_bipush (v := 36) hx hb dX6_hail_149 (by decide) ?_
              refine lv_iload_n hx hb dX6_hail_151 rfl (lv_at hl 6 rfl) ?_
              refine lv_imul hx hb dX6_hail_152 ?_
              refine lv_iload hx hb dX6_hail_153 (lv_at hl 3 rfl) ?_
              refine lv_iadd hx hb dX6_hail_155 ?_
              refine lv_iconst (v := 1) hx hb dX6_hail_156 (by decide) ?_
              refine q_iast hx hb hW hS (r := (B + 9)) (hJ.q.mB 9 rfl) (hJ.q.k9 9 rfl (by decide)) (36 * h + k1) (ix_add (ix_mul rfl rfl) rfl) (by rw [hJ.q.ln 9 rfl]; show _ < 432; omega) (by rw [hJ.q.ln 9 rfl]; decide) dX6_hail_157 (fun H locs hW hS => ?_)
              have hJ : PJ L ad (up2 (itr (fun k u => rHail u B gx gy gw rad F h X Y k) k1 v) (B + 9) (36 * h + k1) 1) o S B ng nh nl ns ow gx gy gw gd := hJ.kp (kr_b hJ.q.1 (by omega))
              generalize hv5 : (up2 (itr (fun k u => rHail u B gx gy gw rad F h X Y k) k1 v) (B + 9) (36 * h + k1) 1) = v5 at hW hJ
              refine lv_aload_n hx hb dX6_hail_158 rfl (lv_at hl 5 rfl) ?_
              refine q_getr hx hb hts hown hW (r := S) hJ.q.mS hJ.q.kS k_7 16 (by decide) rfl t_899 (a := ad (B + 16)) (hJ.q.oB 16 rfl) dX6_hail_159 ?_
              refine lv_iconst (v := 0) hx hb dX6_hail_162 (by decide) ?_
              refine lv_dup2_11 hx hb dX6_hail_163 rfl rfl ?_
              refine q_iald hx hb hW (r := (B + 16)) (hJ.q.mB 16 rfl) (hJ.q.k9 16 rfl (by decide)) (0) rfl (by rw [hJ.q.ln 16 rfl]; show _ < 6; omega) (by rw [hJ.q.ln 16 rfl]; decide) (x := (v5 (B + 16) (0))) rfl dX6_hail_164 ?_
              refine lv_iconst (v := 1) hx hb dX6_hail_165 (by decide) ?_
              refine lv_iadd hx hb dX6_hail_166 ?_
              refine q_iast hx hb hW hS (r := (B + 16)) (hJ.q.mB 16 rfl) (hJ.q.k9 16 rfl (by decide)) (0) rfl (by rw [hJ.q.ln 16 rfl]; show _ < 6; omega) (by rw [hJ.q.ln 16 rfl]; decide) dX6_hail_167 (fun H locs hW hS => ?_)
              have hJ : PJ L ad (up2 v5 (B + 16) (0) ((v5 (B + 16) (0)) + 1)) o S B ng nh nl ns ow gx gy gw gd := hJ.kp (kr_b hJ.q.1 (by omega))
              generalize hv6 : (up2 v5 (B + 16) (0) ((v5 (B + 16) (0)) + 1)) = v6 at hW hJ
              refine lv_goto (tgt := 216) hx hb dX6_hail_168 (by decide) ?_
              refine lv_iinc (v := (nI (k1 + 1))) (lv' := [(7, .int (nI (k1 + 1))), (10, .int ((itr (fun k u => rHail u B gx gy gw rad F h X Y k) k1 v) (B + 9) (36 * h + k1))), (9, .int (F - 2 * iI (far2 ((gx h : Int) + ((k1 % gw h : Nat) : Int)) ((gy h : Int) + ((k1 / gw h : Nat) : Int)) X Y) - (if (itr (fun k u => rHail u B gx gy gw rad F h X Y k) k1 v) (B + 8) h = 0 then 0 else 5))), (8, .int (iI (far2 ((gx h : Int) + ((k1 % gw h : Nat) : Int)) ((gy h : Int) + ((k1 / gw h : Nat) : Int)) X Y))), (6, .int (7 * (nI h))), (0, .ref (ad S)), (1, .int (nI h)), (2, .int (iI X)), (3, .int (iI Y)), (4, .int (iI rad)), (5, .int F)]) hx hb dX6_hail_216 hl (k := 3) rfl (inc_nI _) (by decide) rfl (fun ls hl => ?_)
              refine lv_goto (tgt := 9) hx hb dX6_hail_219 (by decide) ?_
              subst hv6
              subst hv5
              exact ih_9 (k1 + 1) _   _ H locs ls (by omega) (by omega) (by rfl) (by rw [itr_s]; first | exact if_neg hfar | (refine (if_pos hfar).trans ?_; unfold rHit; first | exact absurd ((by assumption : (itr (fun k u => rHail u B gx gy gw rad F h X Y k) k1 v) (B + 9) (36 * h + k1) = 0).symm.trans (by assumption : (itr (fun k u => rHail u B gx gy gw rad F h X Y k) k1 v) (B + 9) (36 * h + k1) = 1)) (by decide) | exact if_pos ⟨by assumption, Int32.not_le.mp (by assumption)⟩ | exact (if_neg (fun q => by first | exact absurd q.1 (by assumption) | exact absurd q.2 (Int32.not_lt.mpr (by assumption)))).trans (if_pos ⟨by assumption, Int32.not_le.mp (by assumption)⟩) | exact (if_neg (fun q => by first | exact absurd q.1 (by assumption) | exact absurd q.2 (Int32.not_lt.mpr (by assumption)))).trans (if_neg (fun q => by first | exact absurd q.1 (by assumption) | exact absurd q.2 (Int32.not_lt.mpr (by assumption))))))  hW hS (lv_sub hl [0, 4, 5, 6, 7, 8, 9, 10] rfl)
        · skip
          refine lv_iconst (v := 5) hx hb dX6_hail_104 (by decide) ?_
          refine lv_goto (tgt := 109) hx hb dX6_hail_105 (by decide) ?_
          refine lv_isub hx hb dX6_hail_109 ?_
          refine lv_topi (fun xt et => ?_)
          obtain rfl : xt = F - 2 * iI (far2 ((gx h : Int) + ((k1 % gw h : Nat) : Int)) ((gy h : Int) + ((k1 / gw h : Nat) : Int)) X Y) - (if (itr (fun k u => rHail u B gx gy gw rad F h X Y k) k1 v) (B + 8) h = 0 then 0 else 5) := et.trans (by first | rw [if_pos c_101] | rw [if_neg c_101])
          clear et
          refine lv_istore (lv' := [(9, .int (F - 2 * iI (far2 ((gx h : Int) + ((k1 % gw h : Nat) : Int)) ((gy h : Int) + ((k1 / gw h : Nat) : Int)) X Y) - (if (itr (fun k u => rHail u B gx gy gw rad F h X Y k) k1 v) (B + 8) h = 0 then 0 else 5))), (8, .int (iI (far2 ((gx h : Int) + ((k1 % gw h : Nat) : Int)) ((gy h : Int) + ((k1 / gw h : Nat) : Int)) X Y))), (7, .int (nI k1)), (6, .int (7 * (nI h))), (0, .ref (ad S)), (1, .int (nI h)), (2, .int (iI X)), (3, .int (iI Y)), (4, .int (iI rad)), (5, .int F)]) hx hb dX6_hail_110 hl (by decide) rfl (fun ls hl => ?_)
          refine lv_aload_n hx hb dX6_hail_112 rfl (lv_at hl 4 rfl) ?_
          refine q_getr hx hb hts hown hW (r := S) hJ.q.mS hJ.q.kS k_7 9 (by decide) rfl t_885 (a := ad (B + 9)) (hJ.q.oB 9 rfl) dX6_hail_113 ?_
          refine lv_bipush (v := 36) hx hb dX6_hail_116 (by decide) ?_
          refine lv_iload_n hx hb dX6_hail_118 rfl (lv_at hl 5 rfl) ?_
          refine lv_imul hx hb dX6_hail_119 ?_
          refine lv_iload hx hb dX6_hail_120 (lv_at hl 2 rfl) ?_
          refine lv_iadd hx hb dX6_hail_122 ?_
          refine q_iald hx hb hW (r := (B + 9)) (hJ.q.mB 9 rfl) (hJ.q.k9 9 rfl (by decide)) (36 * h + k1) (ix_add (ix_mul rfl rfl) rfl) (by rw [hJ.q.ln 9 rfl]; show _ < 432; omega) (by rw [hJ.q.ln 9 rfl]; decide) (x := ((itr (fun k u => rHail u B gx gy gw rad F h X Y k) k1 v) (B + 9) (36 * h + k1))) rfl dX6_hail_123 ?_
          refine lv_istore (lv' := [(10, .int ((itr (fun k u => rHail u B gx gy gw rad F h X Y k) k1 v) (B + 9) (36 * h + k1))), (9, .int (F - 2 * iI (far2 ((gx h : Int) + ((k1 % gw h : Nat) : Int)) ((gy h : Int) + ((k1 / gw h : Nat) : Int)) X Y) - (if (itr (fun k u => rHail u B gx gy gw rad F h X Y k) k1 v) (B + 8) h = 0 then 0 else 5))), (8, .int (iI (far2 ((gx h : Int) + ((k1 % gw h : Nat) : Int)) ((gy h : Int) + ((k1 / gw h : Nat) : Int)) X Y))), (7, .int (nI k1)), (6, .int (7 * (nI h))), (0, .ref (ad S)), (1, .int (nI h)), (2, .int (iI X)), (3, .int (iI Y)), (4, .int (iI rad)), (5, .int F)]) hx hb dX6_hail_124 hl (by decide) rfl (fun ls hl => ?_)
          refine lv_iload hx hb dX6_hail_126 (lv_at hl 0 rfl) ?_
          refine lv_if_ne (tgt := 171) hx hb dX6_hail_128 (by decide) (fun c_128 => ?_) (fun c_128 => ?_)
          · skip
            refine lv_iload hx hb dX6_hail_171 (lv_at hl 0 rfl) ?_
            refine lv_iconst (v := 1) hx hb dX6_hail_173 (by decide) ?_
            refine lv_icmp_ne (tgt := 216) hx hb dX6_hail_174 (by decide) (fun c_174 => ?_) (fun c_174 => ?_)
            · skip
              refine lv_iinc (v := (nI (k1 + 1))) (lv' := [(7, .int (nI (k1 + 1))), (10, .int ((itr (fun k u => rHail u B gx gy gw rad F h X Y k) k1 v) (B + 9) (36 * h + k1))), (9, .int (F - 2 * iI (far2 ((gx h : Int) + ((k1 % gw h : Nat) : Int)) ((gy h : Int) + ((k1 / gw h : Nat) : Int)) X Y) - (if (itr (fun k u => rHail u B gx gy gw rad F h X Y k) k1 v) (B + 8) h = 0 then 0 else 5))), (8, .int (iI (far2 ((gx h : Int) + ((k1 % gw h : Nat) : Int)) ((gy h : Int) + ((k1 / gw h : Nat) : Int)) X Y))), (6, .int (7 * (nI h))), (0, .ref (ad S)), (1, .int (nI h)), (2, .int (iI X)), (3, .int (iI Y)), (4, .int (iI rad)), (5, .int F)]) hx hb dX6_hail_216 hl (k := 3) rfl (inc_nI _) (by decide) rfl (fun ls hl => ?_)
              refine lv_goto (tgt := 9) hx hb dX6_hail_219 (by decide) ?_
              exact ih_9 (k1 + 1) _   _ H locs ls (by omega) (by omega) (by rfl) (by rw [itr_s]; first | exact if_neg hfar | (refine (if_pos hfar).trans ?_; unfold rHit; first | exact absurd ((by assumption : (itr (fun k u => rHail u B gx gy gw rad F h X Y k) k1 v) (B + 9) (36 * h + k1) = 0).symm.trans (by assumption : (itr (fun k u => rHail u B gx gy gw rad F h X Y k) k1 v) (B + 9) (36 * h + k1) = 1)) (by decide) | exact if_pos ⟨by assumption, Int32.not_le.mp (by assumption)⟩ | exact (if_neg (fun q => by first | exact absurd q.1 (by assumption) | exact absurd q.2 (Int32.not_lt.mpr (by assumption)))).trans (if_pos ⟨by assumption, Int32.not_le.mp (by assumption)⟩) | exact (if_neg (fun q => by first | exact absurd q.1 (by assumption) | exact absurd q.2 (Int32.not_lt.mpr (by assumption)))).trans (if_neg (fun q => by first | exact absurd q.1 (by assumption) | exact absurd q.2 (Int32.not_lt.mpr (by assumption))))))  hW hS (lv_sub hl [0, 4, 5, 6, 7, 8, 9, 10] rfl)
            · skip
              refine lv_iconst (v := 2) hx hb dX6_hail_177 (by decide) ?_
              refine lv_iload hx hb dX6_hail_178 (lv_at hl 1 rfl) ?_
              refine lv_imul hx hb dX6_hail_180 ?_
              refine lv_aload_n hx hb dX6_hail_181 rfl (lv_at hl 5 rfl) ?_
              refine q_getr hx hb hts hown hW (r := S) hJ.q.mS hJ.q.kS k_7 7 (by decide) rfl t_881 (a := ad (B + 7)) (hJ.q.oB 7 rfl) dX6_hail_182 ?_
              refine lv_iload hx hb dX6_hail_185 (lv_at hl 4 rfl) ?_
              refine lv_iconst (v := 5) hx hb dX6_hail_187 (by decide) ?_
              refine lv_iadd hx hb dX6_hail_188 ?_
              refine q_iald hx hb hW (r := (B + 7)) (hJ.q.mB 7 rfl) (hJ.q.k9 7 rfl (by decide)) (7 * h + 5) (ix_add (ix_mul rfl rfl) rfl) (by rw [hJ.q.ln 7 rfl]; show _ < 84; omega) (by rw [hJ.q.ln 7 rfl]; decide) (x := ((itr (fun k u => rHail u B gx gy gw rad F h X Y k) k1 v) (B + 7) (7 * h + 5))) rfl dX6_hail_189 ?_
              refine lv_icmp_le (tgt := 216) hx hb dX6_hail_190 (by decide) (fun c_190 => ?_) (fun c_190 => ?_)
              · skip
                refine lv_iinc (v := (nI (k1 + 1))) (lv' := [(7, .int (nI (k1 + 1))), (10, .int ((itr (fun k u => rHail u B gx gy gw rad F h X Y k) k1 v) (B + 9) (36 * h + k1))), (9, .int (F - 2 * iI (far2 ((gx h : Int) + ((k1 % gw h : Nat) : Int)) ((gy h : Int) + ((k1 / gw h : Nat) : Int)) X Y) - (if (itr (fun k u => rHail u B gx gy gw rad F h X Y k) k1 v) (B + 8) h = 0 then 0 else 5))), (8, .int (iI (far2 ((gx h : Int) + ((k1 % gw h : Nat) : Int)) ((gy h : Int) + ((k1 / gw h : Nat) : Int)) X Y))), (6, .int (7 * (nI h))), (0, .ref (ad S)), (1, .int (nI h)), (2, .int (iI X)), (3, .int (iI Y)), (4, .int (iI rad)), (5, .int F)]) hx hb dX6_hail_216 hl (k := 3) rfl (inc_nI _) (by decide) rfl (fun ls hl => ?_)
                refine lv_goto (tgt := 9) hx hb dX6_hail_219 (by decide) ?_
                exact ih_9 (k1 + 1) _   _ H locs ls (by omega) (by omega) (by rfl) (by rw [itr_s]; first | exact if_neg hfar | (refine (if_pos hfar).trans ?_; unfold rHit; first | exact absurd ((by assumption : (itr (fun k u => rHail u B gx gy gw rad F h X Y k) k1 v) (B + 9) (36 * h + k1) = 0).symm.trans (by assumption : (itr (fun k u => rHail u B gx gy gw rad F h X Y k) k1 v) (B + 9) (36 * h + k1) = 1)) (by decide) | exact if_pos ⟨by assumption, Int32.not_le.mp (by assumption)⟩ | exact (if_neg (fun q => by first | exact absurd q.1 (by assumption) | exact absurd q.2 (Int32.not_lt.mpr (by assumption)))).trans (if_pos ⟨by assumption, Int32.not_le.mp (by assumption)⟩) | exact (if_neg (fun q => by first | exact absurd q.1 (by assumption) | exact absurd q.2 (Int32.not_lt.mpr (by assumption)))).trans (if_neg (fun q => by first | exact absurd q.1 (by assumption) | exact absurd q.2 (Int32.not_lt.mpr (by assumption))))))  hW hS (lv_sub hl [0, 4, 5, 6, 7, 8, 9, 10] rfl)
              · skip
                refine lv_aload_n hx hb dX6_hail_193 rfl (lv_at hl 5 rfl) ?_
                refine q_getr hx hb hts hown hW (r := S) hJ.q.mS hJ.q.kS k_7 9 (by decide) rfl t_885 (a := ad (B + 9)) (hJ.q.oB 9 rfl) dX6_hail_194 ?_
                refine lv_bipush (v := 36) hx hb dX6_hail_197 (by decide) ?_
                refine lv_iload_n hx hb dX6_hail_199 rfl (lv_at hl 6 rfl) ?_
                refine lv_imul hx hb dX6_hail_200 ?_
                refine lv_iload hx hb dX6_hail_201 (lv_at hl 3 rfl) ?_
                refine lv_iadd hx hb dX6_hail_203 ?_
                refine lv_iconst (v := 2) hx hb dX6_hail_204 (by decide) ?_
                refine q_iast hx hb hW hS (r := (B + 9)) (hJ.q.mB 9 rfl) (hJ.q.k9 9 rfl (by decide)) (36 * h + k1) (ix_add (ix_mul rfl rfl) rfl) (by rw [hJ.q.ln 9 rfl]; show _ < 432; omega) (by rw [hJ.q.ln 9 rfl]; decide) dX6_hail_205 (fun H locs hW hS => ?_)
                have hJ : PJ L ad (up2 (itr (fun k u => rHail u B gx gy gw rad F h X Y k) k1 v) (B + 9) (36 * h + k1) 2) o S B ng nh nl ns ow gx gy gw gd := hJ.kp (kr_b hJ.q.1 (by omega))
                generalize hv7 : (up2 (itr (fun k u => rHail u B gx gy gw rad F h X Y k) k1 v) (B + 9) (36 * h + k1) 2) = v7 at hW hJ
                refine lv_aload_n hx hb dX6_hail_206 rfl (lv_at hl 5 rfl) ?_
                refine q_getr hx hb hts hown hW (r := S) hJ.q.mS hJ.q.kS k_7 16 (by decide) rfl t_899 (a := ad (B + 16)) (hJ.q.oB 16 rfl) dX6_hail_207 ?_
                refine lv_iconst (v := 1) hx hb dX6_hail_210 (by decide) ?_
                refine lv_dup2_11 hx hb dX6_hail_211 rfl rfl ?_
                refine q_iald hx hb hW (r := (B + 16)) (hJ.q.mB 16 rfl) (hJ.q.k9 16 rfl (by decide)) (1) rfl (by rw [hJ.q.ln 16 rfl]; show _ < 6; omega) (by rw [hJ.q.ln 16 rfl]; decide) (x := (v7 (B + 16) (1))) rfl dX6_hail_212 ?_
                refine lv_iconst (v := 1) hx hb dX6_hail_213 (by decide) ?_
                refine lv_iadd hx hb dX6_hail_214 ?_
                refine q_iast hx hb hW hS (r := (B + 16)) (hJ.q.mB 16 rfl) (hJ.q.k9 16 rfl (by decide)) (1) rfl (by rw [hJ.q.ln 16 rfl]; show _ < 6; omega) (by rw [hJ.q.ln 16 rfl]; decide) dX6_hail_215 (fun H locs hW hS => ?_)
                have hJ : PJ L ad (up2 v7 (B + 16) (1) ((v7 (B + 16) (1)) + 1)) o S B ng nh nl ns ow gx gy gw gd := hJ.kp (kr_b hJ.q.1 (by omega))
                generalize hv8 : (up2 v7 (B + 16) (1) ((v7 (B + 16) (1)) + 1)) = v8 at hW hJ
                refine lv_iinc (v := (nI (k1 + 1))) (lv' := [(7, .int (nI (k1 + 1))), (10, .int ((itr (fun k u => rHail u B gx gy gw rad F h X Y k) k1 v) (B + 9) (36 * h + k1))), (9, .int (F - 2 * iI (far2 ((gx h : Int) + ((k1 % gw h : Nat) : Int)) ((gy h : Int) + ((k1 / gw h : Nat) : Int)) X Y) - (if (itr (fun k u => rHail u B gx gy gw rad F h X Y k) k1 v) (B + 8) h = 0 then 0 else 5))), (8, .int (iI (far2 ((gx h : Int) + ((k1 % gw h : Nat) : Int)) ((gy h : Int) + ((k1 / gw h : Nat) : Int)) X Y))), (6, .int (7 * (nI h))), (0, .ref (ad S)), (1, .int (nI h)), (2, .int (iI X)), (3, .int (iI Y)), (4, .int (iI rad)), (5, .int F)]) hx hb dX6_hail_216 hl (k := 3) rfl (inc_nI _) (by decide) rfl (fun ls hl => ?_)
                refine lv_goto (tgt := 9) hx hb dX6_hail_219 (by decide) ?_
                subst hv8
                subst hv7
                exact ih_9 (k1 + 1) _   _ H locs ls (by omega) (by omega) (by rfl) (by rw [itr_s]; first | exact if_neg hfar | (refine (if_pos hfar).trans ?_; unfold rHit; first | exact absurd ((by assumption : (itr (fun k u => rHail u B gx gy gw rad F h X Y k) k1 v) (B + 9) (36 * h + k1) = 0).symm.trans (by assumption : (itr (fun k u => rHail u B gx gy gw rad F h X Y k) k1 v) (B + 9) (36 * h + k1) = 1)) (by decide) | exact if_pos ⟨by assumption, Int32.not_le.mp (by assumption)⟩ | exact (if_neg (fun q => by first | exact absurd q.1 (by assumption) | exact absurd q.2 (Int32.not_lt.mpr (by assumption)))).trans (if_pos ⟨by assumption, Int32.not_le.mp (by assumption)⟩) | exact (if_neg (fun q => by first | exact absurd q.1 (by assumption) | exact absurd q.2 (Int32.not_lt.mpr (by assumption)))).trans (if_neg (fun q => by first | exact absurd q.1 (by assumption) | exact absurd q.2 (Int32.not_lt.mpr (by assumption))))))  hW hS (lv_sub hl [0, 4, 5, 6, 7, 8, 9, 10] rfl)
          · skip
            refine lv_iload hx hb dX6_hail_131 (lv_at hl 1 rfl) ?_
            refine lv_aload_n hx hb dX6_hail_133 rfl (lv_at hl 5 rfl) ?_
            refine q_getr hx hb hts hown hW (r := S) hJ.q.mS hJ.q.kS k_7 7 (by decide) rfl t_881 (a := ad (B + 7)) (hJ.q.oB 7 rfl) dX6_hail_134 ?_
            refine lv_iload hx hb dX6_hail_137 (lv_at hl 4 rfl) ?_
            refine lv_iconst (v := 5) hx hb dX6_hail_139 (by decide) ?_
            refine lv_iadd hx hb dX6_hail_140 ?_
            refine q_iald hx hb hW (r := (B + 7)) (hJ.q.mB 7 rfl) (hJ.q.k9 7 rfl (by decide)) (7 * h + 5) (ix_add (ix_mul rfl rfl) rfl) (by rw [hJ.q.ln 7 rfl]; show _ < 84; omega) (by rw [hJ.q.ln 7 rfl]; decide) (x := ((itr (fun k u => rHail u B gx gy gw rad F h X Y k) k1 v) (B + 7) (7 * h + 5))) rfl dX6_hail_141 ?_
            refine lv_icmp_le (tgt := 171) hx hb dX6_hail_142 (by decide) (fun c_142 => ?_) (fun c_142 => ?_)
            · skip
              refine lv_iload hx hb dX6_hail_171 (lv_at hl 0 rfl) ?_
              refine lv_iconst (v := 1) hx hb dX6_hail_173 (by decide) ?_
              refine lv_icmp_ne (tgt := 216) hx hb dX6_hail_174 (by decide) (fun c_174 => ?_) (fun c_174 => ?_)
              · skip
                refine lv_iinc (v := (nI (k1 + 1))) (lv' := [(7, .int (nI (k1 + 1))), (10, .int ((itr (fun k u => rHail u B gx gy gw rad F h X Y k) k1 v) (B + 9) (36 * h + k1))), (9, .int (F - 2 * iI (far2 ((gx h : Int) + ((k1 % gw h : Nat) : Int)) ((gy h : Int) + ((k1 / gw h : Nat) : Int)) X Y) - (if (itr (fun k u => rHail u B gx gy gw rad F h X Y k) k1 v) (B + 8) h = 0 then 0 else 5))), (8, .int (iI (far2 ((gx h : Int) + ((k1 % gw h : Nat) : Int)) ((gy h : Int) + ((k1 / gw h : Nat) : Int)) X Y))), (6, .int (7 * (nI h))), (0, .ref (ad S)), (1, .int (nI h)), (2, .int (iI X)), (3, .int (iI Y)), (4, .int (iI rad)), (5, .int F)]) hx hb dX6_hail_216 hl (k := 3) rfl (inc_nI _) (by decide) rfl (fun ls hl => ?_)
                refine lv_goto (tgt := 9) hx hb dX6_hail_219 (by decide) ?_
                exact ih_9 (k1 + 1) _   _ H locs ls (by omega) (by omega) (by rfl) (by rw [itr_s]; first | exact if_neg hfar | (refine (if_pos hfar).trans ?_; unfold rHit; first | exact absurd ((by assumption : (itr (fun k u => rHail u B gx gy gw rad F h X Y k) k1 v) (B + 9) (36 * h + k1) = 0).symm.trans (by assumption : (itr (fun k u => rHail u B gx gy gw rad F h X Y k) k1 v) (B + 9) (36 * h + k1) = 1)) (by decide) | exact if_pos ⟨by assumption, Int32.not_le.mp (by assumption)⟩ | exact (if_neg (fun q => by first | exact absurd q.1 (by assumption) | exact absurd q.2 (Int32.not_lt.mpr (by assumption)))).trans (if_pos ⟨by assumption, Int32.not_le.mp (by assumption)⟩) | exact (if_neg (fun q => by first | exact absurd q.1 (by assumption) | exact absurd q.2 (Int32.not_lt.mpr (by assumption)))).trans (if_neg (fun q => by first | exact absurd q.1 (by assumption) | exact absurd q.2 (Int32.not_lt.mpr (by assumption))))))  hW hS (lv_sub hl [0, 4, 5, 6, 7, 8, 9, 10] rfl)
              · skip
                refine lv_iconst (v := 2) hx hb dX6_hail_177 (by decide) ?_
                refine lv_iload hx hb dX6_hail_178 (lv_at hl 1 rfl) ?_
                refine lv_imul hx hb dX6_hail_180 ?_
                refine lv_aload_n hx hb dX6_hail_181 rfl (lv_at hl 5 rfl) ?_
                refine q_getr hx hb hts hown hW (r := S) hJ.q.mS hJ.q.kS k_7 7 (by decide) rfl t_881 (a := ad (B + 7)) (hJ.q.oB 7 rfl) dX6_hail_182 ?_
                refine lv_iload hx hb dX6_hail_185 (lv_at hl 4 rfl) ?_
                refine lv_iconst (v := 5) hx hb dX6_hail_187 (by decide) ?_
                refine lv_iadd hx hb dX6_hail_188 ?_
                refine q_iald hx hb hW (r := (B + 7)) (hJ.q.mB 7 rfl) (hJ.q.k9 7 rfl (by decide)) (7 * h + 5) (ix_add (ix_mul rfl rfl) rfl) (by rw [hJ.q.ln 7 rfl]; show _ < 84; omega) (by rw [hJ.q.ln 7 rfl]; decide) (x := ((itr (fun k u => rHail u B gx gy gw rad F h X Y k) k1 v) (B + 7) (7 * h + 5))) rfl dX6_hail_189 ?_
                refine lv_icmp_le (tgt := 216) hx hb dX6_hail_190 (by decide) (fun c_190 => ?_) (fun c_190 => ?_)
                · skip
                  refine lv_iinc (v := (nI (k1 + 1))) (lv' := [(7, .int (nI (k1 + 1))), (10, .int ((itr (fun k u => rHail u B gx gy gw rad F h X Y k) k1 v) (B + 9) (36 * h + k1))), (9, .int (F - 2 * iI (far2 ((gx h : Int) + ((k1 % gw h : Nat) : Int)) ((gy h : Int) + ((k1 / gw h : Nat) : Int)) X Y) - (if (itr (fun k u => rHail u B gx gy gw rad F h X Y k) k1 v) (B + 8) h = 0 then 0 else 5))), (8, .int (iI (far2 ((gx h : Int) + ((k1 % gw h : Nat) : Int)) ((gy h : Int) + ((k1 / gw h : Nat) : Int)) X Y))), (6, .int (7 * (nI h))), (0, .ref (ad S)), (1, .int (nI h)), (2, .int (iI X)), (3, .int (iI Y)), (4, .int (iI rad)), (5, .int F)]) hx hb dX6_hail_216 hl (k := 3) rfl (inc_nI _) (by decide) rfl (fun ls hl => ?_)
                  refine lv_goto (tgt := 9) hx hb dX6_hail_219 (by decide) ?_
                  exact ih_9 (k1 + 1) _   _ H locs ls (by omega) (by omega) (by rfl) (by rw [itr_s]; first | exact if_neg hfar | (refine (if_pos hfar).trans ?_; unfold rHit; first | exact absurd ((by assumption : (itr (fun k u => rHail u B gx gy gw rad F h X Y k) k1 v) (B + 9) (36 * h + k1) = 0).symm.trans (by assumption : (itr (fun k u => rHail u B gx gy gw rad F h X Y k) k1 v) (B + 9) (36 * h + k1) = 1)) (by decide) | exact if_pos ⟨by assumption, Int32.not_le.mp (by assumption)⟩ | exact (if_neg (fun q => by first | exact absurd q.1 (by assumption) | exact absurd q.2 (Int32.not_lt.mpr (by assumption)))).trans (if_pos ⟨by assumption, Int32.not_le.mp (by assumption)⟩) | exact (if_neg (fun q => by first | exact absurd q.1 (by assumption) | exact absurd q.2 (Int32.not_lt.mpr (by assumption)))).trans (if_neg (fun q => by first | exact absurd q.1 (by assumption) | exact absurd q.2 (Int32.not_lt.mpr (by assumption))))))  hW hS (lv_sub hl [0, 4, 5, 6, 7, 8, 9, 10] rfl)
                · skip
                  refine lv_aload_n hx hb dX6_hail_193 rfl (lv_at hl 5 rfl) ?_
                  refine q_getr hx hb hts hown hW (r := S) hJ.q.mS hJ.q.kS k_7 9 (by decide) rfl t_885 (a := ad (B + 9)) (hJ.q.oB 9 rfl) dX6_hail_194 ?_
                  refine lv_bipush (v := 36) hx hb dX6_hail_197 (by decide) ?_
                  refine lv_iload_n hx hb dX6_hail_199 rfl (lv_at hl 6 rfl) ?_
                  refine lv_imul hx hb dX6_hail_200 ?_
                  refine lv_iload hx hb dX6_hail_201 (lv_at hl 3 rfl) ?_
                  refine lv_iadd hx hb dX6_hail_203 ?_
                  refine lv_iconst (v := 2) hx hb dX6_hail_204 (by decide) ?_
                  refine q_iast hx hb hW hS (r := (B + 9)) (hJ.q.mB 9 rfl) (hJ.q.k9 9 rfl (by decide)) (36 * h + k1) (ix_add (ix_mul rfl rfl) rfl) (by rw [hJ.q.ln 9 rfl]; show _ < 432; omega) (by rw [hJ.q.ln 9 rfl]; decide) dX6_hail_205 (fun H locs hW hS => ?_)
                  have hJ : PJ L ad (up2 (itr (fun k u => rHail u B gx gy gw rad F h X Y k) k1 v) (B + 9) (36 * h + k1) 2) o S B ng nh nl ns ow gx gy gw gd := hJ.kp (kr_b hJ.q.1 (by omega))
                  generalize hv9 : (up2 (itr (fun k u => rHail u B gx gy gw rad F h X Y k) k1 v) (B + 9) (36 * h + k1) 2) = v9 at hW hJ
                  refine lv_aload_n hx hb dX6_hail_206 rfl (lv_at hl 5 rfl) ?_
                  refine q_getr hx hb hts hown hW (r := S) hJ.q.mS hJ.q.kS k_7 16 (by decide) rfl t_899 (a := ad (B + 16)) (hJ.q.oB 16 rfl) dX6_hail_207 ?_
                  refine lv_iconst (v := 1) hx hb dX6_hail_210 (by decide) ?_
                  refine lv_dup2_11 hx hb dX6_hail_211 rfl rfl ?_
                  refine q_iald hx hb hW (r := (B + 16)) (hJ.q.mB 16 rfl) (hJ.q.k9 16 rfl (by decide)) (1) rfl (by rw [hJ.q.ln 16 rfl]; show _ < 6; omega) (by rw [hJ.q.ln 16 rfl]; decide) (x := (v9 (B + 16) (1))) rfl dX6_hail_212 ?_
                  refine lv_iconst (v := 1) hx hb dX6_hail_213 (by decide) ?_
                  refine lv_iadd hx hb dX6_hail_214 ?_
                  refine q_iast hx hb hW hS (r := (B + 16)) (hJ.q.mB 16 rfl) (hJ.q.k9 16 rfl (by decide)) (1) rfl (by rw [hJ.q.ln 16 rfl]; show _ < 6; omega) (by rw [hJ.q.ln 16 rfl]; decide) dX6_hail_215 (fun H locs hW hS => ?_)
                  have hJ : PJ L ad (up2 v9 (B + 16) (1) ((v9 (B + 16) (1)) + 1)) o S B ng nh nl ns ow gx gy gw gd := hJ.kp (kr_b hJ.q.1 (by omega))
                  generalize hv10 : (up2 v9 (B + 16) (1) ((v9 (B + 16) (1)) + 1)) = v10 at hW hJ
                  refine lv_iinc (v := (nI (k1 + 1))) (lv' := [(7, .int (nI (k1 + 1))), (10, .int ((itr (fun k u => rHail u B gx gy gw rad F h X Y k) k1 v) (B + 9) (36 * h + k1))), (9, .int (F - 2 * iI (far2 ((gx h : Int) + ((k1 % gw h : Nat) : Int)) ((gy h : Int) + ((k1 / gw h : Nat) : Int)) X Y) - (if (itr (fun k u => rHail u B gx gy gw rad F h X Y k) k1 v) (B + 8) h = 0 then 0 else 5))), (8, .int (iI (far2 ((gx h : Int) + ((k1 % gw h : Nat) : Int)) ((gy h : Int) + ((k1 / gw h : Nat) : Int)) X Y))), (6, .int (7 * (nI h))), (0, .ref (ad S)), (1, .int (nI h)), (2, .int (iI X)), (3, .int (iI Y)), (4, .int (iI rad)), (5, .int F)]) hx hb dX6_hail_216 hl (k := 3) rfl (inc_nI _) (by decide) rfl (fun ls hl => ?_)
                  refine lv_goto (tgt := 9) hx hb dX6_hail_219 (by decide) ?_
                  subst hv10
                  subst hv9
                  exact ih_9 (k1 + 1) _   _ H locs ls (by omega) (by omega) (by rfl) (by rw [itr_s]; first | exact if_neg hfar | (refine (if_pos hfar).trans ?_; unfold rHit; first | exact absurd ((by assumption : (itr (fun k u => rHail u B gx gy gw rad F h X Y k) k1 v) (B + 9) (36 * h + k1) = 0).symm.trans (by assumption : (itr (fun k u => rHail u B gx gy gw rad F h X Y k) k1 v) (B + 9) (36 * h + k1) = 1)) (by decide) | exact if_pos ⟨by assumption, Int32.not_le.mp (by assumption)⟩ | exact (if_neg (fun q => by first | exact absurd q.1 (by assumption) | exact absurd q.2 (Int32.not_lt.mpr (by assumption)))).trans (if_pos ⟨by assumption, Int32.not_le.mp (by assumption)⟩) | exact (if_neg (fun q => by first | exact absurd q.1 (by assumption) | exact absurd q.2 (Int32.not_lt.mpr (by assumption)))).trans (if_neg (fun q => by first | exact absurd q.1 (by assumption) | exact absurd q.2 (Int32.not_lt.mpr (by assumption))))))  hW hS (lv_sub hl [0, 4, 5, 6, 7, 8, 9, 10] rfl)
            · skip
              refine lv_aload_n hx hb dX6_hail_145 rfl (lv_at hl 5 rfl) ?_
              refine q_getr hx hb hts hown hW (r := S) hJ.q.mS hJ.q.kS k_7 9 (by decide) rfl t_885 (a := ad (B + 9)) (hJ.q.oB 9 rfl) dX6_hail_146 ?_
              refine lv_bipush (v := 36) hx hb dX6_hail_149 (by decide) ?_
              refine lv_iload_n hx hb dX6_hail_151 rfl (lv_at hl 6 rfl) ?_
              refine lv_imul hx hb dX6_hail_152 ?_
              refine lv_iload hx hb dX6_hail_153 (lv_at hl 3 rfl) ?_
              refine lv_iadd hx hb dX6_hail_155 ?_
              refine lv_iconst (v := 1) hx hb dX6_hail_156 (by decide) ?_
              refine q_iast hx hb hW hS (r := (B + 9)) (hJ.q.mB 9 rfl) (hJ.q.k9 9 rfl (by decide)) (36 * h + k1) (ix_add (ix_mul rfl rfl) rfl) (by rw [hJ.q.ln 9 rfl]; show _ < 432; omega) (by rw [hJ.q.ln 9 rfl]; decide) dX6_hail_157 (fun H locs hW hS => ?_)
              have hJ : PJ L ad (up2 (itr (fun k u => rHail u B gx gy gw rad F h X Y k) k1 v) (B + 9) (36 * h + k1) 1) o S B ng nh nl ns ow gx gy gw gd := hJ.kp (kr_b hJ.q.1 (by omega))
              generalize hv11 : (up2 (itr (fun k u => rHail u B gx gy gw rad F h X Y k) k1 v) (B + 9) (36 * h + k1) 1) = v11 at hW hJ
              refine lv_aload_n hx hb dX6_hail_158 rfl (lv_at hl 5 rfl) ?_
              refine q_getr hx hb hts hown hW (r := S) hJ.q.mS hJ.q.kS k_7 16 (by decide) rfl t_899 (a := ad (B + 16)) (hJ.q.oB 16 rfl) dX6_hail_159 ?_
              refine lv_iconst (v := 0) hx hb dX6_hail_162 (by decide) ?_
              refine lv_dup2_11 hx hb dX6_hail_163 rfl rfl ?_
              refine q_iald hx hb hW (r := (B + 16)) (hJ.q.mB 16 rfl) (hJ.q.k9 16 rfl (by decide)) (0) rfl (by rw [hJ.q.ln 16 rfl]; show _ < 6; omega) (by rw [hJ.q.ln 16 rfl]; decide) (x := (v11 (B + 16) (0))) rfl dX6_hail_164 ?_
              refine lv_iconst (v := 1) hx hb dX6_hail_165 (by decide) ?_
              refine lv_iadd hx hb dX6_hail_166 ?_
              refine q_iast hx hb hW hS (r := (B + 16)) (hJ.q.mB 16 rfl) (hJ.q.k9 16 rfl (by decide)) (0) rfl (by rw [hJ.q.ln 16 rfl]; show _ < 6; omega) (by rw [hJ.q.ln 16 rfl]; decide) dX6_hail_167 (fun H locs hW hS => ?_)
              have hJ : PJ L ad (up2 v11 (B + 16) (0) ((v11 (B + 16) (0)) + 1)) o S B ng nh nl ns ow gx gy gw gd := hJ.kp (kr_b hJ.q.1 (by omega))
              generalize hv12 : (up2 v11 (B + 16) (0) ((v11 (B + 16) (0)) + 1)) = v12 at hW hJ
              refine lv_goto (tgt := 216) hx hb dX6_hail_168 (by decide) ?_
              refine lv_iinc (v := (nI (k1 + 1))) (lv' := [(7, .int (nI (k1 + 1))), (10, .int ((itr (fun k u => rHail u B gx gy gw rad F h X Y k) k1 v) (B + 9) (36 * h + k1))), (9, .int (F - 2 * iI (far2 ((gx h : Int) + ((k1 % gw h : Nat) : Int)) ((gy h : Int) + ((k1 / gw h : Nat) : Int)) X Y) - (if (itr (fun k u => rHail u B gx gy gw rad F h X Y k) k1 v) (B + 8) h = 0 then 0 else 5))), (8, .int (iI (far2 ((gx h : Int) + ((k1 % gw h : Nat) : Int)) ((gy h : Int) + ((k1 / gw h : Nat) : Int)) X Y))), (6, .int (7 * (nI h))), (0, .ref (ad S)), (1, .int (nI h)), (2, .int (iI X)), (3, .int (iI Y)), (4, .int (iI rad)), (5, .int F)]) hx hb dX6_hail_216 hl (k := 3) rfl (inc_nI _) (by decide) rfl (fun ls hl => ?_)
              refine lv_goto (tgt := 9) hx hb dX6_hail_219 (by decide) ?_
              subst hv12
              subst hv11
              exact ih_9 (k1 + 1) _   _ H locs ls (by omega) (by omega) (by rfl) (by rw [itr_s]; first | exact if_neg hfar | (refine (if_pos hfar).trans ?_; unfold rHit; first | exact absurd ((by assumption : (itr (fun k u => rHail u B gx gy gw rad F h X Y k) k1 v) (B + 9) (36 * h + k1) = 0).symm.trans (by assumption : (itr (fun k u => rHail u B gx gy gw rad F h X Y k) k1 v) (B + 9) (36 * h + k1) = 1)) (by decide) | exact if_pos ⟨by assumption, Int32.not_le.mp (by assumption)⟩ | exact (if_neg (fun q => by first | exact absurd q.1 (by assumption) | exact absurd q.2 (Int32.not_lt.mpr (by assumption)))).trans (if_pos ⟨by assumption, Int32.not_le.mp (by assumption)⟩) | exact (if_neg (fun q => by first | exact absurd q.1 (by assumption) | exact absurd q.2 (Int32.not_lt.mpr (by assumption)))).trans (if_neg (fun q => by first | exact absurd q.1 (by assumption) | exact absurd q.2 (Int32.not_lt.mpr (by assumption))))))  hW hS (lv_sub hl [0, 4, 5, 6, 7, 8, 9, 10] rfl)
      · skip
        have hfar : ¬ (far2 ((gx h : Int) + ((k1 % gw h : Nat) : Int)) ((gy h : Int) + ((k1 / gw h : Nat) : Int)) X Y ≤ rad) := fun q => c_82 ((iI_le (by omega) (by omega) (by omega) (by omega)).mpr q)
        refine lv_goto (tgt := 216) hx hb dX6_hail_85 (by decide) ?_
        refine lv_iinc (v := (nI (k1 + 1))) (lv' := [(7, .int (nI (k1 + 1))), (8, .int (iI (far2 ((gx h : Int) + ((k1 % gw h : Nat) : Int)) ((gy h : Int) + ((k1 / gw h : Nat) : Int)) X Y))), (6, .int (7 * (nI h))), (0, .ref (ad S)), (1, .int (nI h)), (2, .int (iI X)), (3, .int (iI Y)), (4, .int (iI rad)), (5, .int F)]) hx hb dX6_hail_216 hl (k := 1) rfl (inc_nI _) (by decide) rfl (fun ls hl => ?_)
        refine lv_goto (tgt := 9) hx hb dX6_hail_219 (by decide) ?_
        exact ih_9 (k1 + 1) _   _ H locs ls (by omega) (by omega) (by rfl) (by rw [itr_s]; first | exact if_neg hfar | (refine (if_pos hfar).trans ?_; unfold rHit; first | exact absurd ((by assumption : (itr (fun k u => rHail u B gx gy gw rad F h X Y k) k1 v) (B + 9) (36 * h + k1) = 0).symm.trans (by assumption : (itr (fun k u => rHail u B gx gy gw rad F h X Y k) k1 v) (B + 9) (36 * h + k1) = 1)) (by decide) | exact if_pos ⟨by assumption, Int32.not_le.mp (by assumption)⟩ | exact (if_neg (fun q => by first | exact absurd q.1 (by assumption) | exact absurd q.2 (Int32.not_lt.mpr (by assumption)))).trans (if_pos ⟨by assumption, Int32.not_le.mp (by assumption)⟩) | exact (if_neg (fun q => by first | exact absurd q.1 (by assumption) | exact absurd q.2 (Int32.not_lt.mpr (by assumption)))).trans (if_neg (fun q => by first | exact absurd q.1 (by assumption) | exact absurd q.2 (Int32.not_lt.mpr (by assumption))))))  hW hS (lv_sub hl [0, 2, 3, 4, 5, 6, 7, 8] rfl)

set_option maxHeartbeats 4000000 in
set_option maxRecDepth 100000 in
theorem c_X6_storm (l : Launch) {G : GG} {L : List Nat} {ad : Nat → Nat} {v : Nat → Nat → Int32} {o : Nat → Nat → Option Nat} {w : Nat → Int64} {S B ng nh nl ns : Nat} {ow gx gy gw gd : Nat → Nat} (hJ : PJ L ad v o S B ng nh nl ns ow gx gy gw gd) {sx sy dx dy rad : Int} {F : Int32} {st : Nat} (hs1 : -20 ≤ sx) (hs2 : sx ≤ 39) (hs3 : -20 ≤ sy) (hs4 : sy ≤ 39) (hs5 : -3 ≤ dx) (hs6 : dx ≤ 3) (hs7 : -3 ≤ dy) (hs8 : dy ≤ 3) (hs9 : 0 ≤ rad) (hs10 : rad ≤ 5) (hs11 : st ≤ 30) : CtV l G L ad v o w yX6_storm cX6_storm 12 ({ frames := 3, cells := 0, slots := 0, locals := 68 }) [.ref (ad S), .int (iI sx), .int (iI sy), .int (iI dx), .int (iI dy), .int (iI rad), .int F, .int (nI st)] (fun u => u = rStorm v B S gx gy gw gd ng nh nl sx sy dx dy rad F st) := by
  have hsb := hJ.q.sb; have hbd := hJ.bd
  refine q_ofV (by decide) (Nat.le_of_ble_eq_true rfl) ?_
  intro p e s m below meth c hx hb hr hml hts hown hlocks hE h0 hW hS hin ls hl
  generalize hH : s.heap = H at hW
  have hS : va_S (Ab G.2.2.1) s.heap H [] := hH ▸ hS
  obtain ⟨locs, hlc⟩ : ∃ z : List Loc, z = [] := ⟨_, rfl⟩
  rw [← hlc] at hS ⊢
  have hl : lv_has ls 12 [(0, .ref (ad S)), (1, .int (iI sx)), (2, .int (iI sy)), (3, .int (iI dx)), (4, .int (iI dy)), (5, .int (iI rad)), (6, .int F), (7, .int (nI st))] := hl
  refine lv_iconst (v := 0) hx hb dX6_storm_0 (by decide) ?_
  refine lv_istore (lv' := [(8, .int 0), (0, .ref (ad S)), (1, .int (iI sx)), (2, .int (iI sy)), (3, .int (iI dx)), (4, .int (iI dy)), (5, .int (iI rad)), (6, .int F), (7, .int (nI st))]) hx hb dX6_storm_1 hl (by decide) rfl (fun ls hl => ?_)
  suffices LP_3 : ∀ (n_3 i : Nat) (x8_3 : Int32)  (u_3 : Nat → Nat → Int32) (H : Heap) (locs : List Loc) (ls : Array Slot), 6 + 1 ≤ i + n_3 → i ≤ 6 → nI i = x8_3 → itr (fun k u => up2 u (B + 16) k 0) i v = u_3 → WD G L ad u_3 o w s H → va_S (Ab G.2.2.1) s.heap H locs → lv_has ls 12 [(8, .int x8_3), (0, .ref (ad S)), (1, .int (iI sx)), (2, .int (iI sy)), (3, .int (iI dx)), (4, .int (iI dy)), (5, .int (iI rad)), (6, .int F), (7, .int (nI st))] → W p l e ({ frames := 3, cells := 0, slots := 0, locals := 68 } : Room) s m ([.ref (ad S), .int (iI sx), .int (iI sy), .int (iI dx), .int (iI dy), .int (iI rad), .int F, .int (nI st)] : List Value).toArray below meth c H locs 0 0 (MQ below (va_Qv (fun u => u = rStorm v B S gx gy gw gd ng nh nl sx sy dx dy rad F st) (fun u t => WD G L ad u o w t t.heap) (Ab G.2.2.1)) ([.ref (ad S), .int (iI sx), .int (iI sy), .int (iI dx), .int (iI dy), .int (iI rad), .int F, .int (nI st)] : List Value).toArray s ({ frames := 3, cells := 0, slots := 0, locals := 68 } : Room).cells ({ frames := 3, cells := 0, slots := 0, locals := 68 } : Room).slots (Ab G.2.2.1)) (F0 m 3 ls []) from LP_3 (6 + 1) 0 _   _ H locs ls (by omega) (by omega) (by rfl) (by rfl)  hW hS (lv_sub hl [0, 1, 2, 3, 4, 5, 6, 7, 8] rfl)
  intro n_3
  induction n_3 with
  | zero => intro i x8_3  u_3 H locs ls h1 h2; exact absurd h1 (by omega)
  | succ n_3 ih_3 =>
    intro i x8_3  u_3 H locs ls hn_3 hi_3 ex8_3 eu_3  hW hS hl
    subst ex8_3
    subst eu_3
    have hJ : PJ L ad (itr (fun k u => up2 u (B + 16) k 0) i v) o S B ng nh nl ns ow gx gy gw gd := hJ.kp (kr_lat hJ.q.1)
    refine lv_iload hx hb dX6_storm_3 (lv_at hl 0 rfl) ?_
    refine lv_bipush (v := 6) hx hb dX6_storm_5 (by decide) ?_
    refine lv_icmp_ge (tgt := 24) hx hb dX6_storm_7 (by decide) (fun c_7 => ?_) (fun c_7 => ?_)
    · skip
      have hq_3 := (ge_i (n := 6) (by omega) hi_3 c_7).symm
      subst hq_3
      refine lv_iconst (v := 0) hx hb dX6_storm_24 (by decide) ?_
      refine lv_istore (lv' := [(8, .int 0), (0, .ref (ad S)), (1, .int (iI sx)), (2, .int (iI sy)), (3, .int (iI dx)), (4, .int (iI dy)), (5, .int (iI rad)), (6, .int F), (7, .int (nI st))]) hx hb dX6_storm_25 hl (by decide) rfl (fun ls hl => ?_)
      suffices LP_27 : ∀ (n_27 i : Nat) (x8_27 : Int32)  (u_27 : Nat → Nat → Int32) (H : Heap) (locs : List Loc) (ls : Array Slot), ng + 1 ≤ i + n_27 → i ≤ ng → nI i = x8_27 → itr (fun g u => up2 u (B + 17) g (rBy u B gw gd nh (nI g))) i (itr (fun k u => up2 u (B + 16) k 0) 6 v) = u_27 → WD G L ad u_27 o w s H → va_S (Ab G.2.2.1) s.heap H locs → lv_has ls 12 [(8, .int x8_27), (0, .ref (ad S)), (1, .int (iI sx)), (2, .int (iI sy)), (3, .int (iI dx)), (4, .int (iI dy)), (5, .int (iI rad)), (6, .int F), (7, .int (nI st))] → W p l e ({ frames := 3, cells := 0, slots := 0, locals := 68 } : Room) s m ([.ref (ad S), .int (iI sx), .int (iI sy), .int (iI dx), .int (iI dy), .int (iI rad), .int F, .int (nI st)] : List Value).toArray below meth c H locs 0 0 (MQ below (va_Qv (fun u => u = rStorm v B S gx gy gw gd ng nh nl sx sy dx dy rad F st) (fun u t => WD G L ad u o w t t.heap) (Ab G.2.2.1)) ([.ref (ad S), .int (iI sx), .int (iI sy), .int (iI dx), .int (iI dy), .int (iI rad), .int F, .int (nI st)] : List Value).toArray s ({ frames := 3, cells := 0, slots := 0, locals := 68 } : Room).cells ({ frames := 3, cells := 0, slots := 0, locals := 68 } : Room).slots (Ab G.2.2.1)) (F0 m 27 ls []) from LP_27 (ng + 1) 0 _   _ H locs ls (by omega) (by omega) (by rfl) (by rfl)  hW hS (lv_sub hl [0, 1, 2, 3, 4, 5, 6, 7, 8] rfl)
      intro n_27
      induction n_27 with
      | zero => intro i x8_27  u_27 H locs ls h1 h2; exact absurd h1 (by omega)
      | succ n_27 ih_27 =>
        intro i x8_27  u_27 H locs ls hn_27 hi_27 ex8_27 eu_27  hW hS hl
        subst ex8_27
        subst eu_27
        have hJ : PJ L ad (itr (fun g u => up2 u (B + 17) g (rBy u B gw gd nh (nI g))) i (itr (fun k u => up2 u (B + 16) k 0) 6 v)) o S B ng nh nl ns ow gx gy gw gd := hJ.kp (kr_bef hJ.q.1)
        refine lv_iload hx hb dX6_storm_27 (lv_at hl 0 rfl) ?_
        refine lv_aload_n hx hb dX6_storm_29 rfl (lv_at hl 1 rfl) ?_
        refine q_get hx hb hts hown hW (r := S) hJ.q.mS hJ.q.kS k_7 0 (by decide) rfl t_867 (x := (nI ng)) hJ.eG dX6_storm_30 ?_
        refine lv_icmp_ge (tgt := 55) hx hb dX6_storm_33 (by decide) (fun c_33 => ?_) (fun c_33 => ?_)
        · skip
          have hq_27 := (ge_i (n := ng) (by omega) hi_27 c_33).symm
          subst hq_27
          refine lv_iconst (v := 0) hx hb dX6_storm_55 (by decide) ?_
          refine lv_istore (lv' := [(8, .int 0), (0, .ref (ad S)), (1, .int (iI sx)), (2, .int (iI sy)), (3, .int (iI dx)), (4, .int (iI dy)), (5, .int (iI rad)), (6, .int F), (7, .int (nI st))]) hx hb dX6_storm_56 hl (by decide) rfl (fun ls hl => ?_)
          suffices LP_58 : ∀ (n_58 i : Nat) (x8_58 : Int32)  (u_58 : Nat → Nat → Int32) (H : Heap) (locs : List Loc) (ls : Array Slot), st + 1 ≤ i + n_58 → i ≤ st → nI i = x8_58 → itr (fun k u => rStep u B gx gy gw gd nh rad F (sx + k * dx) (sy + k * dy)) i (rBefore v B gw gd ng nh) = u_58 → WD G L ad u_58 o w s H → va_S (Ab G.2.2.1) s.heap H locs → lv_has ls 12 [(8, .int x8_58), (0, .ref (ad S)), (1, .int (iI sx)), (2, .int (iI sy)), (3, .int (iI dx)), (4, .int (iI dy)), (5, .int (iI rad)), (6, .int F), (7, .int (nI st))] → W p l e ({ frames := 3, cells := 0, slots := 0, locals := 68 } : Room) s m ([.ref (ad S), .int (iI sx), .int (iI sy), .int (iI dx), .int (iI dy), .int (iI rad), .int F, .int (nI st)] : List Value).toArray below meth c H locs 0 0 (MQ below (va_Qv (fun u => u = rStorm v B S gx gy gw gd ng nh nl sx sy dx dy rad F st) (fun u t => WD G L ad u o w t t.heap) (Ab G.2.2.1)) ([.ref (ad S), .int (iI sx), .int (iI sy), .int (iI dx), .int (iI dy), .int (iI rad), .int F, .int (nI st)] : List Value).toArray s ({ frames := 3, cells := 0, slots := 0, locals := 68 } : Room).cells ({ frames := 3, cells := 0, slots := 0, locals := 68 } : Room).slots (Ab G.2.2.1)) (F0 m 58 ls []) from LP_58 (st + 1) 0 _   _ H locs ls (by omega) (by omega) (by rfl) (by rfl)  hW hS (lv_sub hl [0, 1, 2, 3, 4, 5, 6, 7, 8] rfl)
          intro n_58
          induction n_58 with
          | zero => intro i x8_58  u_58 H locs ls h1 h2; exact absurd h1 (by omega)
          | succ n_58 ih_58 =>
            intro i x8_58  u_58 H locs ls hn_58 hi_58 ex8_58 eu_58  hW hS hl
            subst ex8_58
            subst eu_58
            have hJ : PJ L ad (itr (fun k u => rStep u B gx gy gw gd nh rad F (sx + k * dx) (sy + k * dy)) i (rBefore v B gw gd ng nh)) o S B ng nh nl ns ow gx gy gw gd := hJ.kp (kr_itr (fun _ _ _ => kr_rStep hJ.q.1))
            refine lv_iload hx hb dX6_storm_58 (lv_at hl 0 rfl) ?_
            refine lv_iload hx hb dX6_storm_60 (lv_at hl 8 rfl) ?_
            refine lv_icmp_ge (tgt := 112) hx hb dX6_storm_62 (by decide) (fun c_62 => ?_) (fun c_62 => ?_)
            · skip
              have hq_58 := (ge_i (n := st) (by omega) hi_58 c_62).symm
              subst hq_58
              refine lv_iconst (v := 0) hx hb dX6_storm_112 (by decide) ?_
              refine lv_istore (lv' := [(8, .int 0), (0, .ref (ad S)), (1, .int (iI sx)), (2, .int (iI sy)), (3, .int (iI dx)), (4, .int (iI dy)), (5, .int (iI rad)), (6, .int F), (7, .int (nI st))]) hx hb dX6_storm_113 hl (by decide) rfl (fun ls hl => ?_)
              refine lv_iconst (v := 0) hx hb dX6_storm_115 (by decide) ?_
              refine lv_istore (lv' := [(9, .int 0), (8, .int 0), (0, .ref (ad S)), (1, .int (iI sx)), (2, .int (iI sy)), (3, .int (iI dx)), (4, .int (iI dy)), (5, .int (iI rad)), (6, .int F), (7, .int (nI st))]) hx hb dX6_storm_116 hl (by decide) rfl (fun ls hl => ?_)
              suffices LP_118 : ∀ (n_118 i : Nat) (x8_118 : Int32) (x9_118 : Int32)  (u_118 : Nat → Nat → Int32) (H : Heap) (locs : List Loc) (ls : Array Slot), ng + 1 ≤ i + n_118 → i ≤ ng → (itr (rG B gw gd nh) i ((rBlow v B gx gy gw gd ng nh sx sy dx dy rad F st), 0)).2 = x8_118 → nI i = x9_118 → (itr (rG B gw gd nh) i ((rBlow v B gx gy gw gd ng nh sx sy dx dy rad F st), 0)).1 = u_118 → WD G L ad u_118 o w s H → va_S (Ab G.2.2.1) s.heap H locs → lv_has ls 12 [(9, .int x9_118), (8, .int x8_118), (0, .ref (ad S)), (1, .int (iI sx)), (2, .int (iI sy)), (3, .int (iI dx)), (4, .int (iI dy)), (5, .int (iI rad)), (6, .int F), (7, .int (nI st))] → W p l e ({ frames := 3, cells := 0, slots := 0, locals := 68 } : Room) s m ([.ref (ad S), .int (iI sx), .int (iI sy), .int (iI dx), .int (iI dy), .int (iI rad), .int F, .int (nI st)] : List Value).toArray below meth c H locs 0 0 (MQ below (va_Qv (fun u => u = rStorm v B S gx gy gw gd ng nh nl sx sy dx dy rad F st) (fun u t => WD G L ad u o w t t.heap) (Ab G.2.2.1)) ([.ref (ad S), .int (iI sx), .int (iI sy), .int (iI dx), .int (iI dy), .int (iI rad), .int F, .int (nI st)] : List Value).toArray s ({ frames := 3, cells := 0, slots := 0, locals := 68 } : Room).cells ({ frames := 3, cells := 0, slots := 0, locals := 68 } : Room).slots (Ab G.2.2.1)) (F0 m 118 ls []) from LP_118 (ng + 1) 0 _ _   _ H locs ls (by omega) (by omega) (by rfl) (by rfl) (by rfl)  hW hS (lv_sub hl [0, 1, 2, 3, 4, 5, 6, 7, 8, 9] rfl)
              intro n_118
              induction n_118 with
              | zero => intro i x8_118 x9_118  u_118 H locs ls h1 h2; exact absurd h1 (by omega)
              | succ n_118 ih_118 =>
                intro i x8_118 x9_118  u_118 H locs ls hn_118 hi_118 ex8_118 ex9_118 eu_118  hW hS hl
                subst ex8_118
                subst ex9_118
                subst eu_118
                have hJ : PJ L ad ((itr (rG B gw gd nh) i ((rBlow v B gx gy gw gd ng nh sx sy dx dy rad F st), 0)).1) o S B ng nh nl ns ow gx gy gw gd := hJ.kp (kr_rGs (t := ((rBlow v B gx gy gw gd ng nh sx sy dx dy rad F st), 0)) hJ.q.1)
                refine lv_iload hx hb dX6_storm_118 (lv_at hl 0 rfl) ?_
                refine lv_aload_n hx hb dX6_storm_120 rfl (lv_at hl 2 rfl) ?_
                refine q_get hx hb hts hown hW (r := S) hJ.q.mS hJ.q.kS k_7 0 (by decide) rfl t_867 (x := (nI ng)) hJ.eG dX6_storm_121 ?_
                refine lv_icmp_ge (tgt := 252) hx hb dX6_storm_124 (by decide) (fun c_124 => ?_) (fun c_124 => ?_)
                · skip
                  have hq_118 := (ge_i (n := ng) (by omega) hi_118 c_124).symm
                  subst hq_118
                  refine lv_aload_n hx hb dX6_storm_252 rfl (lv_at hl 2 rfl) ?_
                  refine q_getr hx hb hts hown hW (r := S) hJ.q.mS hJ.q.kS k_7 16 (by decide) rfl t_899 (a := ad (B + 16)) (hJ.q.oB 16 rfl) dX6_storm_253 ?_
                  refine lv_iconst (v := 3) hx hb dX6_storm_256 (by decide) ?_
                  refine lv_iload hx hb dX6_storm_257 (lv_at hl 1 rfl) ?_
                  refine q_iast hx hb hW hS (r := (B + 16)) (hJ.q.mB 16 rfl) (hJ.q.k9 16 rfl (by decide)) (3) rfl (by rw [hJ.q.ln 16 rfl]; show _ < 6; omega) (by rw [hJ.q.ln 16 rfl]; decide) dX6_storm_259 (fun H locs hW hS => ?_)
                  have hJ : PJ L ad (up2 ((itr (rG B gw gd nh) ng ((rBlow v B gx gy gw gd ng nh sx sy dx dy rad F st), 0)).1) (B + 16) (3) ((itr (rG B gw gd nh) ng ((rBlow v B gx gy gw gd ng nh sx sy dx dy rad F st), 0)).2)) o S B ng nh nl ns ow gx gy gw gd := hJ.kp (kr_b hJ.q.1 (by omega))
                  refine lv_iconst (v := 0) hx hb dX6_storm_260 (by decide) ?_
                  refine lv_istore (lv' := [(9, .int 0), (8, .int ((itr (rG B gw gd nh) ng ((rBlow v B gx gy gw gd ng nh sx sy dx dy rad F st), 0)).2)), (0, .ref (ad S)), (1, .int (iI sx)), (2, .int (iI sy)), (3, .int (iI dx)), (4, .int (iI dy)), (5, .int (iI rad)), (6, .int F), (7, .int (nI st))]) hx hb dX6_storm_261 hl (by decide) rfl (fun ls hl => ?_)
                  suffices LP_263 : ∀ (n_263 i : Nat) (x9_263 : Int32)  (u_263 : Nat → Nat → Int32) (H : Heap) (locs : List Loc) (ls : Array Slot), nl + 1 ≤ i + n_263 → i ≤ nl → nI i = x9_263 → itr (rL B S (itr (rG B gw gd nh) ng ((rBlow v B gx gy gw gd ng nh sx sy dx dy rad F st), 0)).2) i (rEnd3 (rBlow v B gx gy gw gd ng nh sx sy dx dy rad F st) B gw gd ng nh) = u_263 → WD G L ad u_263 o w s H → va_S (Ab G.2.2.1) s.heap H locs → lv_has ls 12 [(9, .int x9_263), (8, .int ((itr (rG B gw gd nh) ng ((rBlow v B gx gy gw gd ng nh sx sy dx dy rad F st), 0)).2)), (0, .ref (ad S))] → W p l e ({ frames := 3, cells := 0, slots := 0, locals := 68 } : Room) s m ([.ref (ad S), .int (iI sx), .int (iI sy), .int (iI dx), .int (iI dy), .int (iI rad), .int F, .int (nI st)] : List Value).toArray below meth c H locs 0 0 (MQ below (va_Qv (fun u => u = rStorm v B S gx gy gw gd ng nh nl sx sy dx dy rad F st) (fun u t => WD G L ad u o w t t.heap) (Ab G.2.2.1)) ([.ref (ad S), .int (iI sx), .int (iI sy), .int (iI dx), .int (iI dy), .int (iI rad), .int F, .int (nI st)] : List Value).toArray s ({ frames := 3, cells := 0, slots := 0, locals := 68 } : Room).cells ({ frames := 3, cells := 0, slots := 0, locals := 68 } : Room).slots (Ab G.2.2.1)) (F0 m 263 ls []) from LP_263 (nl + 1) 0 _   _ H locs ls (by omega) (by omega) (by rfl) (by rfl)  hW hS (lv_sub hl [0, 1, 2] rfl)
                  intro n_263
                  induction n_263 with
                  | zero => intro i x9_263  u_263 H locs ls h1 h2; exact absurd h1 (by omega)
                  | succ n_263 ih_263 =>
                    intro i x9_263  u_263 H locs ls hn_263 hi_263 ex9_263 eu_263  hW hS hl
                    subst ex9_263
                    subst eu_263
                    have hJ : PJ L ad (itr (rL B S (itr (rG B gw gd nh) ng ((rBlow v B gx gy gw gd ng nh sx sy dx dy rad F st), 0)).2) i (rEnd3 (rBlow v B gx gy gw gd ng nh sx sy dx dy rad F st) B gw gd ng nh)) o S B ng nh nl ns ow gx gy gw gd := hJ.kp (kr_itr (fun _ _ _ => kr_rL hJ.q.1))
                    refine lv_iload hx hb dX6_storm_263 (lv_at hl 0 rfl) ?_
                    refine lv_aload_n hx hb dX6_storm_265 rfl (lv_at hl 2 rfl) ?_
                    refine q_get hx hb hts hown hW (r := S) hJ.q.mS hJ.q.kS k_7 11 (by decide) rfl t_889 (x := (nI nl)) hJ.eL dX6_storm_266 ?_
                    refine lv_icmp_ge (tgt := 387) hx hb dX6_storm_269 (by decide) (fun c_269 => ?_) (fun c_269 => ?_)
                    · skip
                      have hq_263 := (ge_i (n := nl) (by omega) hi_263 c_269).symm
                      subst hq_263
                      refine lv_iconst (v := 0) hx hb dX6_storm_387 (by decide) ?_
                      refine lv_istore (lv' := [(9, .int 0), (8, .int ((itr (rG B gw gd nh) ng ((rBlow v B gx gy gw gd ng nh sx sy dx dy rad F st), 0)).2)), (0, .ref (ad S))]) hx hb dX6_storm_388 hl (by decide) rfl (fun ls hl => ?_)
                      suffices LP_390 : ∀ (n_390 i : Nat) (x9_390 : Int32)  (u_390 : Nat → Nat → Int32) (H : Heap) (locs : List Loc) (ls : Array Slot), ng + 1 ≤ i + n_390 → i ≤ ng → nI i = x9_390 → itr (rP B S) i (itr (rL B S (itr (rG B gw gd nh) ng ((rBlow v B gx gy gw gd ng nh sx sy dx dy rad F st), 0)).2) nl (rEnd3 (rBlow v B gx gy gw gd ng nh sx sy dx dy rad F st) B gw gd ng nh)) = u_390 → WD G L ad u_390 o w s H → va_S (Ab G.2.2.1) s.heap H locs → lv_has ls 12 [(9, .int x9_390), (0, .ref (ad S))] → W p l e ({ frames := 3, cells := 0, slots := 0, locals := 68 } : Room) s m ([.ref (ad S), .int (iI sx), .int (iI sy), .int (iI dx), .int (iI dy), .int (iI rad), .int F, .int (nI st)] : List Value).toArray below meth c H locs 0 0 (MQ below (va_Qv (fun u => u = rStorm v B S gx gy gw gd ng nh nl sx sy dx dy rad F st) (fun u t => WD G L ad u o w t t.heap) (Ab G.2.2.1)) ([.ref (ad S), .int (iI sx), .int (iI sy), .int (iI dx), .int (iI dy), .int (iI rad), .int F, .int (nI st)] : List Value).toArray s ({ frames := 3, cells := 0, slots := 0, locals := 68 } : Room).cells ({ frames := 3, cells := 0, slots := 0, locals := 68 } : Room).slots (Ab G.2.2.1)) (F0 m 390 ls []) from LP_390 (ng + 1) 0 _   _ H locs ls (by omega) (by omega) (by rfl) (by rfl)  hW hS (lv_sub hl [0, 2] rfl)
                      intro n_390
                      induction n_390 with
                      | zero => intro i x9_390  u_390 H locs ls h1 h2; exact absurd h1 (by omega)
                      | succ n_390 ih_390 =>
                        intro i x9_390  u_390 H locs ls hn_390 hi_390 ex9_390 eu_390  hW hS hl
                        subst ex9_390
                        subst eu_390
                        have hJ : PJ L ad (itr (rP B S) i (itr (rL B S (itr (rG B gw gd nh) ng ((rBlow v B gx gy gw gd ng nh sx sy dx dy rad F st), 0)).2) nl (rEnd3 (rBlow v B gx gy gw gd ng nh sx sy dx dy rad F st) B gw gd ng nh))) o S B ng nh nl ns ow gx gy gw gd := hJ.kp (kr_itr (fun _ _ _ => kr_rP hJ.q.1))
                        refine lv_iload hx hb dX6_storm_390 (lv_at hl 0 rfl) ?_
                        refine lv_aload_n hx hb dX6_storm_392 rfl (lv_at hl 1 rfl) ?_
                        refine q_get hx hb hts hown hW (r := S) hJ.q.mS hJ.q.kS k_7 0 (by decide) rfl t_867 (x := (nI ng)) hJ.eG dX6_storm_393 ?_
                        refine lv_icmp_ge (tgt := 452) hx hb dX6_storm_396 (by decide) (fun c_396 => ?_) (fun c_396 => ?_)
                        · skip
                          have hq_390 := (ge_i (n := ng) (by omega) hi_390 c_396).symm
                          subst hq_390
                          exact q_vret hx hb hr hlocks hW hS (Nat.le_refl _) (Nat.le_refl _) dX6_storm_452 (rfl)
                        · skip
                          have hlt_390 := lt_i (n := ng) (by omega) hi_390 c_396
                          refine lv_aload_n hx hb dX6_storm_399 rfl (lv_at hl 1 rfl) ?_
                          refine q_getr hx hb hts hown hW (r := S) hJ.q.mS hJ.q.kS k_7 5 (by decide) rfl t_877 (a := ad (B + 5)) (hJ.q.oB 5 rfl) dX6_storm_400 ?_
                          refine lv_iload hx hb dX6_storm_403 (lv_at hl 0 rfl) ?_
                          refine lv_dup2_11 hx hb dX6_storm_405 rfl rfl ?_
                          refine q_iald hx hb hW (r := (B + 5)) (hJ.q.mB 5 rfl) (hJ.q.k9 5 rfl (by decide)) (i) rfl (by rw [hJ.q.ln 5 rfl]; show _ < 6; omega) (by rw [hJ.q.ln 5 rfl]; decide) (x := ((itr (rP B S) i (itr (rL B S (itr (rG B gw gd nh) ng ((rBlow v B gx gy gw gd ng nh sx sy dx dy rad F st), 0)).2) nl (rEnd3 (rBlow v B gx gy gw gd ng nh sx sy dx dy rad F st) B gw gd ng nh))) (B + 5) (i))) rfl dX6_storm_406 ?_
                          refine lv_aload_n hx hb dX6_storm_407 rfl (lv_at hl 1 rfl) ?_
                          refine q_getr hx hb hts hown hW (r := S) hJ.q.mS hJ.q.kS k_7 18 (by decide) rfl t_902 (a := ad (B + 18)) (hJ.q.oB 18 rfl) dX6_storm_408 ?_
                          refine lv_iload hx hb dX6_storm_411 (lv_at hl 0 rfl) ?_
                          refine q_iald hx hb hW (r := (B + 18)) (hJ.q.mB 18 rfl) (hJ.q.k9 18 rfl (by decide)) (i) rfl (by rw [hJ.q.ln 18 rfl]; show _ < 6; omega) (by rw [hJ.q.ln 18 rfl]; decide) (x := ((itr (rP B S) i (itr (rL B S (itr (rG B gw gd nh) ng ((rBlow v B gx gy gw gd ng nh sx sy dx dy rad F st), 0)).2) nl (rEnd3 (rBlow v B gx gy gw gd ng nh sx sy dx dy rad F st) B gw gd ng nh))) (B + 18) (i))) rfl dX6_storm_413 ?_
                          refine lv_iadd hx hb dX6_storm_414 ?_
                          refine q_iast hx hb hW hS (r := (B + 5)) (hJ.q.mB 5 rfl) (hJ.q.k9 5 rfl (by decide)) (i) rfl (by rw [hJ.q.ln 5 rfl]; show _ < 6; omega) (by rw [hJ.q.ln 5 rfl]; decide) dX6_storm_415 (fun H locs hW hS => ?_)
                          have hJ : PJ L ad (up2 (itr (rP B S) i (itr (rL B S (itr (rG B gw gd nh) ng ((rBlow v B gx gy gw gd ng nh sx sy dx dy rad F st), 0)).2) nl (rEnd3 (rBlow v B gx gy gw gd ng nh sx sy dx dy rad F st) B gw gd ng nh))) (B + 5) (i) (((itr (rP B S) i (itr (rL B S (itr (rG B gw gd nh) ng ((rBlow v B gx gy gw gd ng nh sx sy dx dy rad F st), 0)).2) nl (rEnd3 (rBlow v B gx gy gw gd ng nh sx sy dx dy rad F st) B gw gd ng nh))) (B + 5) (i)) + ((itr (rP B S) i (itr (rL B S (itr (rG B gw gd nh) ng ((rBlow v B gx gy gw gd ng nh sx sy dx dy rad F st), 0)).2) nl (rEnd3 (rBlow v B gx gy gw gd ng nh sx sy dx dy rad F st) B gw gd ng nh))) (B + 18) (i)))) o S B ng nh nl ns ow gx gy gw gd := hJ.kp (kr_b hJ.q.1 (by omega))
                          generalize hv1 : (up2 (itr (rP B S) i (itr (rL B S (itr (rG B gw gd nh) ng ((rBlow v B gx gy gw gd ng nh sx sy dx dy rad F st), 0)).2) nl (rEnd3 (rBlow v B gx gy gw gd ng nh sx sy dx dy rad F st) B gw gd ng nh))) (B + 5) (i) (((itr (rP B S) i (itr (rL B S (itr (rG B gw gd nh) ng ((rBlow v B gx gy gw gd ng nh sx sy dx dy rad F st), 0)).2) nl (rEnd3 (rBlow v B gx gy gw gd ng nh sx sy dx dy rad F st) B gw gd ng nh))) (B + 5) (i)) + ((itr (rP B S) i (itr (rL B S (itr (rG B gw gd nh) ng ((rBlow v B gx gy gw gd ng nh sx sy dx dy rad F st), 0)).2) nl (rEnd3 (rBlow v B gx gy gw gd ng nh sx sy dx dy rad F st) B gw gd ng nh))) (B + 18) (i)))) = v1 at hW hJ
                          refine lv_aload_n hx hb dX6_storm_416 rfl (lv_at hl 1 rfl) ?_
                          refine q_getr hx hb hts hown hW (r := S) hJ.q.mS hJ.q.kS k_7 16 (by decide) rfl t_899 (a := ad (B + 16)) (hJ.q.oB 16 rfl) dX6_storm_417 ?_
                          refine lv_iconst (v := 5) hx hb dX6_storm_420 (by decide) ?_
                          refine lv_dup2_11 hx hb dX6_storm_421 rfl rfl ?_
                          refine q_iald hx hb hW (r := (B + 16)) (hJ.q.mB 16 rfl) (hJ.q.k9 16 rfl (by decide)) (5) rfl (by rw [hJ.q.ln 16 rfl]; show _ < 6; omega) (by rw [hJ.q.ln 16 rfl]; decide) (x := (v1 (B + 16) (5))) rfl dX6_storm_422 ?_
                          refine lv_aload_n hx hb dX6_storm_423 rfl (lv_at hl 1 rfl) ?_
                          refine q_getr hx hb hts hown hW (r := S) hJ.q.mS hJ.q.kS k_7 18 (by decide) rfl t_902 (a := ad (B + 18)) (hJ.q.oB 18 rfl) dX6_storm_424 ?_
                          refine lv_iload hx hb dX6_storm_427 (lv_at hl 0 rfl) ?_
                          refine q_iald hx hb hW (r := (B + 18)) (hJ.q.mB 18 rfl) (hJ.q.k9 18 rfl (by decide)) (i) rfl (by rw [hJ.q.ln 18 rfl]; show _ < 6; omega) (by rw [hJ.q.ln 18 rfl]; decide) (x := (v1 (B + 18) (i))) rfl dX6_storm_429 ?_
                          refine lv_aload_n hx hb dX6_storm_430 rfl (lv_at hl 1 rfl) ?_
                          refine lv_iload hx hb dX6_storm_431 (lv_at hl 0 rfl) ?_
                          refine lv_aload_n hx hb dX6_storm_433 rfl (lv_at hl 1 rfl) ?_
                          refine q_getr hx hb hts hown hW (r := S) hJ.q.mS hJ.q.kS k_7 18 (by decide) rfl t_902 (a := ad (B + 18)) (hJ.q.oB 18 rfl) dX6_storm_434 ?_
                          refine lv_iload hx hb dX6_storm_437 (lv_at hl 0 rfl) ?_
                          refine q_iald hx hb hW (r := (B + 18)) (hJ.q.mB 18 rfl) (hJ.q.k9 18 rfl (by decide)) (i) rfl (by rw [hJ.q.ln 18 rfl]; show _ < 6; omega) (by rw [hJ.q.ln 18 rfl]; decide) (x := (v1 (B + 18) (i))) rfl dX6_storm_439 ?_
                          refine q_cViE (As := [.int (nI i), .int (v1 (B + 18) (i))]) (rest := [.int (v1 (B + 18) (i)), .int (v1 (B + 16) (5)), .int 5, .ref (ad (B + 16))]) (r := S) hx hb hml hts hown hE h0 hW hS (c_X6_pay l hJ hlt_390 (v1 (B + 18) (i))) mw_X6_pay hJ.q.mS hJ.q.kS k_7 t_1077 ⟨Nat.le_of_ble_eq_true rfl, Nat.le_of_ble_eq_true rfl⟩ rfl hl.1 (Nat.le_of_ble_eq_true rfl) dX6_storm_440 ⟨Nat.zero_le _, Nat.zero_le _⟩ ⟨rfl, rfl⟩ (fun H locs hW hS => ?_)
                          have hJ : PJ L ad (rPay v1 B S i (v1 (B + 18) (i))) o S B ng nh nl ns ow gx gy gw gd := hJ.kp (kr_rPay hJ.q.1)
                          generalize hv2 : (rPay v1 B S i (v1 (B + 18) (i))) = v2 at hW hJ
                          refine lv_isub hx hb dX6_storm_443 ?_
                          refine lv_iadd hx hb dX6_storm_444 ?_
                          refine q_iast hx hb hW hS (r := (B + 16)) (hJ.q.mB 16 rfl) (hJ.q.k9 16 rfl (by decide)) (5) rfl (by rw [hJ.q.ln 16 rfl]; show _ < 6; omega) (by rw [hJ.q.ln 16 rfl]; decide) dX6_storm_445 (fun H locs hW hS => ?_)
                          have hJ : PJ L ad (up2 v2 (B + 16) (5) ((v1 (B + 16) (5)) + ((v1 (B + 18) (i)) - (imin (v1 S 10) (v1 (B + 18) (i)))))) o S B ng nh nl ns ow gx gy gw gd := hJ.kp (kr_b hJ.q.1 (by omega))
                          generalize hv3 : (up2 v2 (B + 16) (5) ((v1 (B + 16) (5)) + ((v1 (B + 18) (i)) - (imin (v1 S 10) (v1 (B + 18) (i)))))) = v3 at hW hJ
                          refine lv_iinc (v := (nI (i + 1))) (lv' := [(9, .int (nI (i + 1))), (0, .ref (ad S))]) hx hb dX6_storm_446 hl (k := 0) rfl (inc_nI _) (by decide) rfl (fun ls hl => ?_)
                          refine lv_goto (tgt := 390) hx hb dX6_storm_449 (by decide) ?_
                          subst hv3
                          subst hv2
                          subst hv1
                          exact ih_390 (i + 1) _   _ H locs ls (by omega) (by omega) (by rfl) (by rfl)  hW hS (lv_sub hl [0, 1] rfl)
                    · skip
                      have hlt_263 := lt_i (n := nl) (by omega) hi_263 c_269
                      refine lv_iconst (v := 5) hx hb dX6_storm_272 (by decide) ?_
                      refine lv_iload hx hb dX6_storm_273 (lv_at hl 0 rfl) ?_
                      refine lv_imul hx hb dX6_storm_275 ?_
                      refine lv_istore (lv' := [(10, .int (5 * (nI i))), (9, .int (nI i)), (8, .int ((itr (rG B gw gd nh) ng ((rBlow v B gx gy gw gd ng nh sx sy dx dy rad F st), 0)).2)), (0, .ref (ad S))]) hx hb dX6_storm_276 hl (by decide) rfl (fun ls hl => ?_)
                      refine lv_aload_n hx hb dX6_storm_278 rfl (lv_at hl 3 rfl) ?_
                      refine q_getr hx hb hts hown hW (r := S) hJ.q.mS hJ.q.kS k_7 12 (by decide) rfl t_891 (a := ad (B + 12)) (hJ.q.oB 12 rfl) dX6_storm_279 ?_
                      refine lv_iload hx hb dX6_storm_282 (lv_at hl 0 rfl) ?_
                      refine lv_iconst (v := 3) hx hb dX6_storm_284 (by decide) ?_
                      refine lv_iadd hx hb dX6_storm_285 ?_
                      refine q_iald hx hb hW (r := (B + 12)) (hJ.q.mB 12 rfl) (hJ.q.k9 12 rfl (by decide)) (5 * i + 3) (ix_add (ix_mul rfl rfl) rfl) (by rw [hJ.q.ln 12 rfl]; show _ < 30; omega) (by rw [hJ.q.ln 12 rfl]; decide) (x := ((itr (rL B S (itr (rG B gw gd nh) ng ((rBlow v B gx gy gw gd ng nh sx sy dx dy rad F st), 0)).2) i (rEnd3 (rBlow v B gx gy gw gd ng nh sx sy dx dy rad F st) B gw gd ng nh)) (B + 12) (5 * i + 3))) rfl dX6_storm_286 ?_
                      refine lv_aload_n hx hb dX6_storm_287 rfl (lv_at hl 3 rfl) ?_
                      refine q_getr hx hb hts hown hW (r := S) hJ.q.mS hJ.q.kS k_7 12 (by decide) rfl t_891 (a := ad (B + 12)) (hJ.q.oB 12 rfl) dX6_storm_288 ?_
                      refine lv_iload hx hb dX6_storm_291 (lv_at hl 0 rfl) ?_
                      refine lv_iconst (v := 1) hx hb dX6_storm_293 (by decide) ?_
                      refine lv_iadd hx hb dX6_storm_294 ?_
                      refine q_iald hx hb hW (r := (B + 12)) (hJ.q.mB 12 rfl) (hJ.q.k9 12 rfl (by decide)) (5 * i + 1) (ix_add (ix_mul rfl rfl) rfl) (by rw [hJ.q.ln 12 rfl]; show _ < 30; omega) (by rw [hJ.q.ln 12 rfl]; decide) (x := ((itr (rL B S (itr (rG B gw gd nh) ng ((rBlow v B gx gy gw gd ng nh sx sy dx dy rad F st), 0)).2) i (rEnd3 (rBlow v B gx gy gw gd ng nh sx sy dx dy rad F st) B gw gd ng nh)) (B + 12) (5 * i + 1))) rfl dX6_storm_295 ?_
                      refine lv_iconst (v := 0) hx hb dX6_storm_296 (by decide) ?_
                      refine lv_iload hx hb dX6_storm_297 (lv_at hl 2 rfl) ?_
                      refine lv_aload_n hx hb dX6_storm_299 rfl (lv_at hl 3 rfl) ?_
                      refine q_getr hx hb hts hown hW (r := S) hJ.q.mS hJ.q.kS k_7 12 (by decide) rfl t_891 (a := ad (B + 12)) (hJ.q.oB 12 rfl) dX6_storm_300 ?_
                      refine lv_iload hx hb dX6_storm_303 (lv_at hl 0 rfl) ?_
                      refine q_iald hx hb hW (r := (B + 12)) (hJ.q.mB 12 rfl) (hJ.q.k9 12 rfl (by decide)) (5 * i) (ix_mul rfl rfl) (by rw [hJ.q.ln 12 rfl]; show _ < 30; omega) (by rw [hJ.q.ln 12 rfl]; decide) (x := ((itr (rL B S (itr (rG B gw gd nh) ng ((rBlow v B gx gy gw gd ng nh sx sy dx dy rad F st), 0)).2) i (rEnd3 (rBlow v B gx gy gw gd ng nh sx sy dx dy rad F st) B gw gd ng nh)) (B + 12) (5 * i))) rfl dX6_storm_305 ?_
                      refine lv_isub hx hb dX6_storm_306 ?_
                      refine q_max hx hb hml hl.1 hts hown m_max t_1076 (Nat.le_of_ble_eq_true rfl) (Nat.le_of_ble_eq_true rfl) (Nat.zero_le _) (Nat.zero_le _) dX6_storm_307 ?_
                      refine q_min hx hb hml hl.1 hts hown m_min t_1075 (Nat.le_of_ble_eq_true rfl) (Nat.le_of_ble_eq_true rfl) (Nat.zero_le _) (Nat.zero_le _) dX6_storm_310 ?_
                      refine lv_aload_n hx hb dX6_storm_313 rfl (lv_at hl 3 rfl) ?_
                      refine q_getr hx hb hts hown hW (r := S) hJ.q.mS hJ.q.kS k_7 12 (by decide) rfl t_891 (a := ad (B + 12)) (hJ.q.oB 12 rfl) dX6_storm_314 ?_
                      refine lv_iload hx hb dX6_storm_317 (lv_at hl 0 rfl) ?_
                      refine lv_iconst (v := 2) hx hb dX6_storm_319 (by decide) ?_
                      refine lv_iadd hx hb dX6_storm_320 ?_
                      refine q_iald hx hb hW (r := (B + 12)) (hJ.q.mB 12 rfl) (hJ.q.k9 12 rfl (by decide)) (5 * i + 2) (ix_add (ix_mul rfl rfl) rfl) (by rw [hJ.q.ln 12 rfl]; show _ < 30; omega) (by rw [hJ.q.ln 12 rfl]; decide) (x := ((itr (rL B S (itr (rG B gw gd nh) ng ((rBlow v B gx gy gw gd ng nh sx sy dx dy rad F st), 0)).2) i (rEnd3 (rBlow v B gx gy gw gd ng nh sx sy dx dy rad F st) B gw gd ng nh)) (B + 12) (5 * i + 2))) rfl dX6_storm_321 ?_
                      refine lv_imul hx hb dX6_storm_322 ?_
                      refine lv_bipush (v := 100) hx hb dX6_storm_323 (by decide) ?_
                      refine lv_idiv hx hb dX6_storm_325 (by decide) ?_
                      refine q_min hx hb hml hl.1 hts hown m_min t_1075 (Nat.le_of_ble_eq_true rfl) (Nat.le_of_ble_eq_true rfl) (Nat.zero_le _) (Nat.zero_le _) dX6_storm_326 ?_
                      refine lv_istore (lv' := [(11, .int (imin ((itr (rL B S (itr (rG B gw gd nh) ng ((rBlow v B gx gy gw gd ng nh sx sy dx dy rad F st), 0)).2) i (rEnd3 (rBlow v B gx gy gw gd ng nh sx sy dx dy rad F st) B gw gd ng nh)) (B + 12) (5 * i + 3)) (((imin ((itr (rL B S (itr (rG B gw gd nh) ng ((rBlow v B gx gy gw gd ng nh sx sy dx dy rad F st), 0)).2) i (rEnd3 (rBlow v B gx gy gw gd ng nh sx sy dx dy rad F st) B gw gd ng nh)) (B + 12) (5 * i + 1)) (imax 0 (((itr (rG B gw gd nh) ng ((rBlow v B gx gy gw gd ng nh sx sy dx dy rad F st), 0)).2) - ((itr (rL B S (itr (rG B gw gd nh) ng ((rBlow v B gx gy gw gd ng nh sx sy dx dy rad F st), 0)).2) i (rEnd3 (rBlow v B gx gy gw gd ng nh sx sy dx dy rad F st) B gw gd ng nh)) (B + 12) (5 * i))))) * ((itr (rL B S (itr (rG B gw gd nh) ng ((rBlow v B gx gy gw gd ng nh sx sy dx dy rad F st), 0)).2) i (rEnd3 (rBlow v B gx gy gw gd ng nh sx sy dx dy rad F st) B gw gd ng nh)) (B + 12) (5 * i + 2))) / 100))), (10, .int (5 * (nI i))), (9, .int (nI i)), (8, .int ((itr (rG B gw gd nh) ng ((rBlow v B gx gy gw gd ng nh sx sy dx dy rad F st), 0)).2)), (0, .ref (ad S))]) hx hb dX6_storm_329 hl (by decide) rfl (fun ls hl => ?_)
                      refine lv_aload_n hx hb dX6_storm_331 rfl (lv_at hl 4 rfl) ?_
                      refine q_getr hx hb hts hown hW (r := S) hJ.q.mS hJ.q.kS k_7 12 (by decide) rfl t_891 (a := ad (B + 12)) (hJ.q.oB 12 rfl) dX6_storm_332 ?_
                      refine lv_iload hx hb dX6_storm_335 (lv_at hl 1 rfl) ?_
                      refine lv_iconst (v := 3) hx hb dX6_storm_337 (by decide) ?_
                      refine lv_iadd hx hb dX6_storm_338 ?_
                      refine lv_dup2_11 hx hb dX6_storm_339 rfl rfl ?_
                      refine q_iald hx hb hW (r := (B + 12)) (hJ.q.mB 12 rfl) (hJ.q.k9 12 rfl (by decide)) (5 * i + 3) (ix_add (ix_mul rfl rfl) rfl) (by rw [hJ.q.ln 12 rfl]; show _ < 30; omega) (by rw [hJ.q.ln 12 rfl]; decide) (x := ((itr (rL B S (itr (rG B gw gd nh) ng ((rBlow v B gx gy gw gd ng nh sx sy dx dy rad F st), 0)).2) i (rEnd3 (rBlow v B gx gy gw gd ng nh sx sy dx dy rad F st) B gw gd ng nh)) (B + 12) (5 * i + 3))) rfl dX6_storm_340 ?_
                      refine lv_iload hx hb dX6_storm_341 (lv_at hl 0 rfl) ?_
                      refine lv_isub hx hb dX6_storm_343 ?_
                      refine q_iast hx hb hW hS (r := (B + 12)) (hJ.q.mB 12 rfl) (hJ.q.k9 12 rfl (by decide)) (5 * i + 3) (ix_add (ix_mul rfl rfl) rfl) (by rw [hJ.q.ln 12 rfl]; show _ < 30; omega) (by rw [hJ.q.ln 12 rfl]; decide) dX6_storm_344 (fun H locs hW hS => ?_)
                      have hJ : PJ L ad (up2 (itr (rL B S (itr (rG B gw gd nh) ng ((rBlow v B gx gy gw gd ng nh sx sy dx dy rad F st), 0)).2) i (rEnd3 (rBlow v B gx gy gw gd ng nh sx sy dx dy rad F st) B gw gd ng nh)) (B + 12) (5 * i + 3) (((itr (rL B S (itr (rG B gw gd nh) ng ((rBlow v B gx gy gw gd ng nh sx sy dx dy rad F st), 0)).2) i (rEnd3 (rBlow v B gx gy gw gd ng nh sx sy dx dy rad F st) B gw gd ng nh)) (B + 12) (5 * i + 3)) - (imin ((itr (rL B S (itr (rG B gw gd nh) ng ((rBlow v B gx gy gw gd ng nh sx sy dx dy rad F st), 0)).2) i (rEnd3 (rBlow v B gx gy gw gd ng nh sx sy dx dy rad F st) B gw gd ng nh)) (B + 12) (5 * i + 3)) (((imin ((itr (rL B S (itr (rG B gw gd nh) ng ((rBlow v B gx gy gw gd ng nh sx sy dx dy rad F st), 0)).2) i (rEnd3 (rBlow v B gx gy gw gd ng nh sx sy dx dy rad F st) B gw gd ng nh)) (B + 12) (5 * i + 1)) (imax 0 (((itr (rG B gw gd nh) ng ((rBlow v B gx gy gw gd ng nh sx sy dx dy rad F st), 0)).2) - ((itr (rL B S (itr (rG B gw gd nh) ng ((rBlow v B gx gy gw gd ng nh sx sy dx dy rad F st), 0)).2) i (rEnd3 (rBlow v B gx gy gw gd ng nh sx sy dx dy rad F st) B gw gd ng nh)) (B + 12) (5 * i))))) * ((itr (rL B S (itr (rG B gw gd nh) ng ((rBlow v B gx gy gw gd ng nh sx sy dx dy rad F st), 0)).2) i (rEnd3 (rBlow v B gx gy gw gd ng nh sx sy dx dy rad F st) B gw gd ng nh)) (B + 12) (5 * i + 2))) / 100)))) o S B ng nh nl ns ow gx gy gw gd := hJ.kp (kr_b hJ.q.1 (by omega))
                      generalize hv4 : (up2 (itr (rL B S (itr (rG B gw gd nh) ng ((rBlow v B gx gy gw gd ng nh sx sy dx dy rad F st), 0)).2) i (rEnd3 (rBlow v B gx gy gw gd ng nh sx sy dx dy rad F st) B gw gd ng nh)) (B + 12) (5 * i + 3) (((itr (rL B S (itr (rG B gw gd nh) ng ((rBlow v B gx gy gw gd ng nh sx sy dx dy rad F st), 0)).2) i (rEnd3 (rBlow v B gx gy gw gd ng nh sx sy dx dy rad F st) B gw gd ng nh)) (B + 12) (5 * i + 3)) - (imin ((itr (rL B S (itr (rG B gw gd nh) ng ((rBlow v B gx gy gw gd ng nh sx sy dx dy rad F st), 0)).2) i (rEnd3 (rBlow v B gx gy gw gd ng nh sx sy dx dy rad F st) B gw gd ng nh)) (B + 12) (5 * i + 3)) (((imin ((itr (rL B S (itr (rG B gw gd nh) ng ((rBlow v B gx gy gw gd ng nh sx sy dx dy rad F st), 0)).2) i (rEnd3 (rBlow v B gx gy gw gd ng nh sx sy dx dy rad F st) B gw gd ng nh)) (B + 12) (5 * i + 1)) (imax 0 (((itr (rG B gw gd nh) ng ((rBlow v B gx gy gw gd ng nh sx sy dx dy rad F st), 0)).2) - ((itr (rL B S (itr (rG B gw gd nh) ng ((rBlow v B gx gy gw gd ng nh sx sy dx dy rad F st), 0)).2) i (rEnd3 (rBlow v B gx gy gw gd ng nh sx sy dx dy rad F st) B gw gd ng nh)) (B + 12) (5 * i))))) * ((itr (rL B S (itr (rG B gw gd nh) ng ((rBlow v B gx gy gw gd ng nh sx sy dx dy rad F st), 0)).2) i (rEnd3 (rBlow v B gx gy gw gd ng nh sx sy dx dy rad F st) B gw gd ng nh)) (B + 12) (5 * i + 2))) / 100)))) = v4 at hW hJ
                      refine lv_aload_n hx hb dX6_storm_345 rfl (lv_at hl 4 rfl) ?_
                      refine q_getr hx hb hts hown hW (r := S) hJ.q.mS hJ.q.kS k_7 12 (by decide) rfl t_891 (a := ad (B + 12)) (hJ.q.oB 12 rfl) dX6_storm_346 ?_
                      refine lv_iload hx hb dX6_storm_349 (lv_at hl 1 rfl) ?_
                      refine lv_iconst (v := 4) hx hb dX6_storm_351 (by decide) ?_
                      refine lv_iadd hx hb dX6_storm_352 ?_
                      refine lv_dup2_11 hx hb dX6_storm_353 rfl rfl ?_
                      refine q_iald hx hb hW (r := (B + 12)) (hJ.q.mB 12 rfl) (hJ.q.k9 12 rfl (by decide)) (5 * i + 4) (ix_add (ix_mul rfl rfl) rfl) (by rw [hJ.q.ln 12 rfl]; show _ < 30; omega) (by rw [hJ.q.ln 12 rfl]; decide) (x := (v4 (B + 12) (5 * i + 4))) rfl dX6_storm_354 ?_
                      refine lv_iload hx hb dX6_storm_355 (lv_at hl 0 rfl) ?_
                      refine lv_iadd hx hb dX6_storm_357 ?_
                      refine q_iast hx hb hW hS (r := (B + 12)) (hJ.q.mB 12 rfl) (hJ.q.k9 12 rfl (by decide)) (5 * i + 4) (ix_add (ix_mul rfl rfl) rfl) (by rw [hJ.q.ln 12 rfl]; show _ < 30; omega) (by rw [hJ.q.ln 12 rfl]; decide) dX6_storm_358 (fun H locs hW hS => ?_)
                      have hJ : PJ L ad (up2 v4 (B + 12) (5 * i + 4) ((v4 (B + 12) (5 * i + 4)) + (imin ((itr (rL B S (itr (rG B gw gd nh) ng ((rBlow v B gx gy gw gd ng nh sx sy dx dy rad F st), 0)).2) i (rEnd3 (rBlow v B gx gy gw gd ng nh sx sy dx dy rad F st) B gw gd ng nh)) (B + 12) (5 * i + 3)) (((imin ((itr (rL B S (itr (rG B gw gd nh) ng ((rBlow v B gx gy gw gd ng nh sx sy dx dy rad F st), 0)).2) i (rEnd3 (rBlow v B gx gy gw gd ng nh sx sy dx dy rad F st) B gw gd ng nh)) (B + 12) (5 * i + 1)) (imax 0 (((itr (rG B gw gd nh) ng ((rBlow v B gx gy gw gd ng nh sx sy dx dy rad F st), 0)).2) - ((itr (rL B S (itr (rG B gw gd nh) ng ((rBlow v B gx gy gw gd ng nh sx sy dx dy rad F st), 0)).2) i (rEnd3 (rBlow v B gx gy gw gd ng nh sx sy dx dy rad F st) B gw gd ng nh)) (B + 12) (5 * i))))) * ((itr (rL B S (itr (rG B gw gd nh) ng ((rBlow v B gx gy gw gd ng nh sx sy dx dy rad F st), 0)).2) i (rEnd3 (rBlow v B gx gy gw gd ng nh sx sy dx dy rad F st) B gw gd ng nh)) (B + 12) (5 * i + 2))) / 100)))) o S B ng nh nl ns ow gx gy gw gd := hJ.kp (kr_b hJ.q.1 (by omega))
                      generalize hv5 : (up2 v4 (B + 12) (5 * i + 4) ((v4 (B + 12) (5 * i + 4)) + (imin ((itr (rL B S (itr (rG B gw gd nh) ng ((rBlow v B gx gy gw gd ng nh sx sy dx dy rad F st), 0)).2) i (rEnd3 (rBlow v B gx gy gw gd ng nh sx sy dx dy rad F st) B gw gd ng nh)) (B + 12) (5 * i + 3)) (((imin ((itr (rL B S (itr (rG B gw gd nh) ng ((rBlow v B gx gy gw gd ng nh sx sy dx dy rad F st), 0)).2) i (rEnd3 (rBlow v B gx gy gw gd ng nh sx sy dx dy rad F st) B gw gd ng nh)) (B + 12) (5 * i + 1)) (imax 0 (((itr (rG B gw gd nh) ng ((rBlow v B gx gy gw gd ng nh sx sy dx dy rad F st), 0)).2) - ((itr (rL B S (itr (rG B gw gd nh) ng ((rBlow v B gx gy gw gd ng nh sx sy dx dy rad F st), 0)).2) i (rEnd3 (rBlow v B gx gy gw gd ng nh sx sy dx dy rad F st) B gw gd ng nh)) (B + 12) (5 * i))))) * ((itr (rL B S (itr (rG B gw gd nh) ng ((rBlow v B gx gy gw gd ng nh sx sy dx dy rad F st), 0)).2) i (rEnd3 (rBlow v B gx gy gw gd ng nh sx sy dx dy rad F st) B gw gd ng nh)) (B + 12) (5 * i + 2))) / 100)))) = v5 at hW hJ
                      refine lv_aload_n hx hb dX6_storm_359 rfl (lv_at hl 4 rfl) ?_
                      refine lv_dup hx hb dX6_storm_360 rfl ?_
                      refine q_get hx hb hts hown hW (r := S) hJ.q.mS hJ.q.kS k_7 10 (by decide) rfl t_887 (x := (v5 S 10)) rfl dX6_storm_361 ?_
                      refine lv_iload hx hb dX6_storm_364 (lv_at hl 0 rfl) ?_
                      refine lv_iadd hx hb dX6_storm_366 ?_
                      refine q_put hx hb hts hown hW hS (r := S) hJ.q.mS hJ.q.kS k_7 10 (by decide) rfl t_887 rfl (t := .int) (by decide +kernel) rfl rfl dX6_storm_367 (fun H locs hW hS => ?_)
                      have hJ : PJ L ad (up2 v5 S 10 ((v5 S 10) + (imin ((itr (rL B S (itr (rG B gw gd nh) ng ((rBlow v B gx gy gw gd ng nh sx sy dx dy rad F st), 0)).2) i (rEnd3 (rBlow v B gx gy gw gd ng nh sx sy dx dy rad F st) B gw gd ng nh)) (B + 12) (5 * i + 3)) (((imin ((itr (rL B S (itr (rG B gw gd nh) ng ((rBlow v B gx gy gw gd ng nh sx sy dx dy rad F st), 0)).2) i (rEnd3 (rBlow v B gx gy gw gd ng nh sx sy dx dy rad F st) B gw gd ng nh)) (B + 12) (5 * i + 1)) (imax 0 (((itr (rG B gw gd nh) ng ((rBlow v B gx gy gw gd ng nh sx sy dx dy rad F st), 0)).2) - ((itr (rL B S (itr (rG B gw gd nh) ng ((rBlow v B gx gy gw gd ng nh sx sy dx dy rad F st), 0)).2) i (rEnd3 (rBlow v B gx gy gw gd ng nh sx sy dx dy rad F st) B gw gd ng nh)) (B + 12) (5 * i))))) * ((itr (rL B S (itr (rG B gw gd nh) ng ((rBlow v B gx gy gw gd ng nh sx sy dx dy rad F st), 0)).2) i (rEnd3 (rBlow v B gx gy gw gd ng nh sx sy dx dy rad F st) B gw gd ng nh)) (B + 12) (5 * i + 2))) / 100)))) o S B ng nh nl ns ow gx gy gw gd := hJ.kp (kr_b hJ.q.1 (by omega))
                      generalize hv6 : (up2 v5 S 10 ((v5 S 10) + (imin ((itr (rL B S (itr (rG B gw gd nh) ng ((rBlow v B gx gy gw gd ng nh sx sy dx dy rad F st), 0)).2) i (rEnd3 (rBlow v B gx gy gw gd ng nh sx sy dx dy rad F st) B gw gd ng nh)) (B + 12) (5 * i + 3)) (((imin ((itr (rL B S (itr (rG B gw gd nh) ng ((rBlow v B gx gy gw gd ng nh sx sy dx dy rad F st), 0)).2) i (rEnd3 (rBlow v B gx gy gw gd ng nh sx sy dx dy rad F st) B gw gd ng nh)) (B + 12) (5 * i + 1)) (imax 0 (((itr (rG B gw gd nh) ng ((rBlow v B gx gy gw gd ng nh sx sy dx dy rad F st), 0)).2) - ((itr (rL B S (itr (rG B gw gd nh) ng ((rBlow v B gx gy gw gd ng nh sx sy dx dy rad F st), 0)).2) i (rEnd3 (rBlow v B gx gy gw gd ng nh sx sy dx dy rad F st) B gw gd ng nh)) (B + 12) (5 * i))))) * ((itr (rL B S (itr (rG B gw gd nh) ng ((rBlow v B gx gy gw gd ng nh sx sy dx dy rad F st), 0)).2) i (rEnd3 (rBlow v B gx gy gw gd ng nh sx sy dx dy rad F st) B gw gd ng nh)) (B + 12) (5 * i + 2))) / 100)))) = v6 at hW hJ
                      refine lv_aload_n hx hb dX6_storm_370 rfl (lv_at hl 4 rfl) ?_
                      refine q_getr hx hb hts hown hW (r := S) hJ.q.mS hJ.q.kS k_7 16 (by decide) rfl t_899 (a := ad (B + 16)) (hJ.q.oB 16 rfl) dX6_storm_371 ?_
                      refine lv_iconst (v := 4) hx hb dX6_storm_374 (by decide) ?_
                      refine lv_dup2_11 hx hb dX6_storm_375 rfl rfl ?_
                      refine q_iald hx hb hW (r := (B + 16)) (hJ.q.mB 16 rfl) (hJ.q.k9 16 rfl (by decide)) (4) rfl (by rw [hJ.q.ln 16 rfl]; show _ < 6; omega) (by rw [hJ.q.ln 16 rfl]; decide) (x := (v6 (B + 16) (4))) rfl dX6_storm_376 ?_
                      refine lv_iload hx hb dX6_storm_377 (lv_at hl 0 rfl) ?_
                      refine lv_iadd hx hb dX6_storm_379 ?_
                      refine q_iast hx hb hW hS (r := (B + 16)) (hJ.q.mB 16 rfl) (hJ.q.k9 16 rfl (by decide)) (4) rfl (by rw [hJ.q.ln 16 rfl]; show _ < 6; omega) (by rw [hJ.q.ln 16 rfl]; decide) dX6_storm_380 (fun H locs hW hS => ?_)
                      have hJ : PJ L ad (up2 v6 (B + 16) (4) ((v6 (B + 16) (4)) + (imin ((itr (rL B S (itr (rG B gw gd nh) ng ((rBlow v B gx gy gw gd ng nh sx sy dx dy rad F st), 0)).2) i (rEnd3 (rBlow v B gx gy gw gd ng nh sx sy dx dy rad F st) B gw gd ng nh)) (B + 12) (5 * i + 3)) (((imin ((itr (rL B S (itr (rG B gw gd nh) ng ((rBlow v B gx gy gw gd ng nh sx sy dx dy rad F st), 0)).2) i (rEnd3 (rBlow v B gx gy gw gd ng nh sx sy dx dy rad F st) B gw gd ng nh)) (B + 12) (5 * i + 1)) (imax 0 (((itr (rG B gw gd nh) ng ((rBlow v B gx gy gw gd ng nh sx sy dx dy rad F st), 0)).2) - ((itr (rL B S (itr (rG B gw gd nh) ng ((rBlow v B gx gy gw gd ng nh sx sy dx dy rad F st), 0)).2) i (rEnd3 (rBlow v B gx gy gw gd ng nh sx sy dx dy rad F st) B gw gd ng nh)) (B + 12) (5 * i))))) * ((itr (rL B S (itr (rG B gw gd nh) ng ((rBlow v B gx gy gw gd ng nh sx sy dx dy rad F st), 0)).2) i (rEnd3 (rBlow v B gx gy gw gd ng nh sx sy dx dy rad F st) B gw gd ng nh)) (B + 12) (5 * i + 2))) / 100)))) o S B ng nh nl ns ow gx gy gw gd := hJ.kp (kr_b hJ.q.1 (by omega))
                      generalize hv7 : (up2 v6 (B + 16) (4) ((v6 (B + 16) (4)) + (imin ((itr (rL B S (itr (rG B gw gd nh) ng ((rBlow v B gx gy gw gd ng nh sx sy dx dy rad F st), 0)).2) i (rEnd3 (rBlow v B gx gy gw gd ng nh sx sy dx dy rad F st) B gw gd ng nh)) (B + 12) (5 * i + 3)) (((imin ((itr (rL B S (itr (rG B gw gd nh) ng ((rBlow v B gx gy gw gd ng nh sx sy dx dy rad F st), 0)).2) i (rEnd3 (rBlow v B gx gy gw gd ng nh sx sy dx dy rad F st) B gw gd ng nh)) (B + 12) (5 * i + 1)) (imax 0 (((itr (rG B gw gd nh) ng ((rBlow v B gx gy gw gd ng nh sx sy dx dy rad F st), 0)).2) - ((itr (rL B S (itr (rG B gw gd nh) ng ((rBlow v B gx gy gw gd ng nh sx sy dx dy rad F st), 0)).2) i (rEnd3 (rBlow v B gx gy gw gd ng nh sx sy dx dy rad F st) B gw gd ng nh)) (B + 12) (5 * i))))) * ((itr (rL B S (itr (rG B gw gd nh) ng ((rBlow v B gx gy gw gd ng nh sx sy dx dy rad F st), 0)).2) i (rEnd3 (rBlow v B gx gy gw gd ng nh sx sy dx dy rad F st) B gw gd ng nh)) (B + 12) (5 * i + 2))) / 100)))) = v7 at hW hJ
                      refine lv_iinc (v := (nI (i + 1))) (lv' := [(9, .int (nI (i + 1))), (11, .int (imin ((itr (rL B S (itr (rG B gw gd nh) ng ((rBlow v B gx gy gw gd ng nh sx sy dx dy rad F st), 0)).2) i (rEnd3 (rBlow v B gx gy gw gd ng nh sx sy dx dy rad F st) B gw gd ng nh)) (B + 12) (5 * i + 3)) (((imin ((itr (rL B S (itr (rG B gw gd nh) ng ((rBlow v B gx gy gw gd ng nh sx sy dx dy rad F st), 0)).2) i (rEnd3 (rBlow v B gx gy gw gd ng nh sx sy dx dy rad F st) B gw gd ng nh)) (B + 12) (5 * i + 1)) (imax 0 (((itr (rG B gw gd nh) ng ((rBlow v B gx gy gw gd ng nh sx sy dx dy rad F st), 0)).2) - ((itr (rL B S (itr (rG B gw gd nh) ng ((rBlow v B gx gy gw gd ng nh sx sy dx dy rad F st), 0)).2) i (rEnd3 (rBlow v B gx gy gw gd ng nh sx sy dx dy rad F st) B gw gd ng nh)) (B + 12) (5 * i))))) * ((itr (rL B S (itr (rG B gw gd nh) ng ((rBlow v B gx gy gw gd ng nh sx sy dx dy rad F st), 0)).2) i (rEnd3 (rBlow v B gx gy gw gd ng nh sx sy dx dy rad F st) B gw gd ng nh)) (B + 12) (5 * i + 2))) / 100))), (10, .int (5 * (nI i))), (8, .int ((itr (rG B gw gd nh) ng ((rBlow v B gx gy gw gd ng nh sx sy dx dy rad F st), 0)).2)), (0, .ref (ad S))]) hx hb dX6_storm_381 hl (k := 2) rfl (inc_nI _) (by decide) rfl (fun ls hl => ?_)
                      refine lv_goto (tgt := 263) hx hb dX6_storm_384 (by decide) ?_
                      subst hv7
                      subst hv6
                      subst hv5
                      subst hv4
                      exact ih_263 (i + 1) _   _ H locs ls (by omega) (by omega) (by rfl) (by rfl)  hW hS (lv_sub hl [0, 3, 4] rfl)
                · skip
                  have hlt_118 := lt_i (n := ng) (by omega) hi_118 c_124
                  refine lv_aload_n hx hb dX6_storm_127 rfl (lv_at hl 2 rfl) ?_
                  refine lv_iload hx hb dX6_storm_128 (lv_at hl 0 rfl) ?_
                  refine q_cViE (As := [.int (nI i)]) (rest := []) (r := S) hx hb hml hts hown hE h0 hW hS (c_X6_lostBy l hJ (nI i)) mw_X6_lostBy hJ.q.mS hJ.q.kS k_7 t_1092 ⟨Nat.le_of_ble_eq_true rfl, Nat.le_of_ble_eq_true rfl⟩ rfl hl.1 (Nat.le_of_ble_eq_true rfl) dX6_storm_130 ⟨Nat.zero_le _, Nat.zero_le _⟩ ⟨rfl, rfl⟩ (fun H locs hW hS => ?_)
                  refine lv_aload_n hx hb dX6_storm_133 rfl (lv_at hl 2 rfl) ?_
                  refine q_getr hx hb hts hown hW (r := S) hJ.q.mS hJ.q.kS k_7 17 (by decide) rfl t_901 (a := ad (B + 17)) (hJ.q.oB 17 rfl) dX6_storm_134 ?_
                  refine lv_iload hx hb dX6_storm_137 (lv_at hl 0 rfl) ?_
                  refine q_iald hx hb hW (r := (B + 17)) (hJ.q.mB 17 rfl) (hJ.q.k9 17 rfl (by decide)) (i) rfl (by rw [hJ.q.ln 17 rfl]; show _ < 6; omega) (by rw [hJ.q.ln 17 rfl]; decide) (x := (((itr (rG B gw gd nh) i ((rBlow v B gx gy gw gd ng nh sx sy dx dy rad F st), 0)).1) (B + 17) (i))) rfl dX6_storm_139 ?_
                  refine lv_isub hx hb dX6_storm_140 ?_
                  refine lv_istore (lv' := [(10, .int ((rBy ((itr (rG B gw gd nh) i ((rBlow v B gx gy gw gd ng nh sx sy dx dy rad F st), 0)).1) B gw gd nh (nI i)) - (((itr (rG B gw gd nh) i ((rBlow v B gx gy gw gd ng nh sx sy dx dy rad F st), 0)).1) (B + 17) (i)))), (9, .int (nI i)), (8, .int ((itr (rG B gw gd nh) i ((rBlow v B gx gy gw gd ng nh sx sy dx dy rad F st), 0)).2)), (0, .ref (ad S)), (1, .int (iI sx)), (2, .int (iI sy)), (3, .int (iI dx)), (4, .int (iI dy)), (5, .int (iI rad)), (6, .int F), (7, .int (nI st))]) hx hb dX6_storm_141 hl (by decide) rfl (fun ls hl => ?_)
                  refine lv_aload_n hx hb dX6_storm_143 rfl (lv_at hl 3 rfl) ?_
                  refine q_getr hx hb hts hown hW (r := S) hJ.q.mS hJ.q.kS k_7 16 (by decide) rfl t_899 (a := ad (B + 16)) (hJ.q.oB 16 rfl) dX6_storm_144 ?_
                  refine lv_iconst (v := 2) hx hb dX6_storm_147 (by decide) ?_
                  refine lv_dup2_11 hx hb dX6_storm_148 rfl rfl ?_
                  refine q_iald hx hb hW (r := (B + 16)) (hJ.q.mB 16 rfl) (hJ.q.k9 16 rfl (by decide)) (2) rfl (by rw [hJ.q.ln 16 rfl]; show _ < 6; omega) (by rw [hJ.q.ln 16 rfl]; decide) (x := (((itr (rG B gw gd nh) i ((rBlow v B gx gy gw gd ng nh sx sy dx dy rad F st), 0)).1) (B + 16) (2))) rfl dX6_storm_149 ?_
                  refine lv_iload hx hb dX6_storm_150 (lv_at hl 0 rfl) ?_
                  refine lv_iadd hx hb dX6_storm_152 ?_
                  refine q_iast hx hb hW hS (r := (B + 16)) (hJ.q.mB 16 rfl) (hJ.q.k9 16 rfl (by decide)) (2) rfl (by rw [hJ.q.ln 16 rfl]; show _ < 6; omega) (by rw [hJ.q.ln 16 rfl]; decide) dX6_storm_153 (fun H locs hW hS => ?_)
                  have hJ : PJ L ad (up2 ((itr (rG B gw gd nh) i ((rBlow v B gx gy gw gd ng nh sx sy dx dy rad F st), 0)).1) (B + 16) (2) ((((itr (rG B gw gd nh) i ((rBlow v B gx gy gw gd ng nh sx sy dx dy rad F st), 0)).1) (B + 16) (2)) + ((rBy ((itr (rG B gw gd nh) i ((rBlow v B gx gy gw gd ng nh sx sy dx dy rad F st), 0)).1) B gw gd nh (nI i)) - (((itr (rG B gw gd nh) i ((rBlow v B gx gy gw gd ng nh sx sy dx dy rad F st), 0)).1) (B + 17) (i))))) o S B ng nh nl ns ow gx gy gw gd := hJ.kp (kr_b hJ.q.1 (by omega))
                  generalize hv8 : (up2 ((itr (rG B gw gd nh) i ((rBlow v B gx gy gw gd ng nh sx sy dx dy rad F st), 0)).1) (B + 16) (2) ((((itr (rG B gw gd nh) i ((rBlow v B gx gy gw gd ng nh sx sy dx dy rad F st), 0)).1) (B + 16) (2)) + ((rBy ((itr (rG B gw gd nh) i ((rBlow v B gx gy gw gd ng nh sx sy dx dy rad F st), 0)).1) B gw gd nh (nI i)) - (((itr (rG B gw gd nh) i ((rBlow v B gx gy gw gd ng nh sx sy dx dy rad F st), 0)).1) (B + 17) (i))))) = v8 at hW hJ
                  refine lv_aload_n hx hb dX6_storm_154 rfl (lv_at hl 3 rfl) ?_
                  refine q_getr hx hb hts hown hW (r := S) hJ.q.mS hJ.q.kS k_7 18 (by decide) rfl t_902 (a := ad (B + 18)) (hJ.q.oB 18 rfl) dX6_storm_155 ?_
                  refine lv_iload hx hb dX6_storm_158 (lv_at hl 1 rfl) ?_
                  refine lv_aload_n hx hb dX6_storm_160 rfl (lv_at hl 3 rfl) ?_
                  refine q_getr hx hb hts hown hW (r := S) hJ.q.mS hJ.q.kS k_7 2 (by decide) rfl t_871 (a := ad (B + 2)) (hJ.q.oB 2 rfl) dX6_storm_161 ?_
                  refine lv_iconst (v := 3) hx hb dX6_storm_164 (by decide) ?_
                  refine lv_iload hx hb dX6_storm_165 (lv_at hl 1 rfl) ?_
                  refine lv_imul hx hb dX6_storm_167 ?_
                  refine lv_iconst (v := 1) hx hb dX6_storm_168 (by decide) ?_
                  refine lv_iadd hx hb dX6_storm_169 ?_
                  refine q_iald hx hb hW (r := (B + 2)) (hJ.q.mB 2 rfl) (hJ.q.k9 2 rfl (by decide)) (3 * i + 1) (ix_add (ix_mul rfl rfl) rfl) (by rw [hJ.q.ln 2 rfl]; show _ < 18; omega) (by rw [hJ.q.ln 2 rfl]; decide) (x := (v8 (B + 2) (3 * i + 1))) rfl dX6_storm_170 ?_
                  refine lv_if_ne (tgt := 178) hx hb dX6_storm_171 (by decide) (fun c_171 => ?_) (fun c_171 => ?_)
                  · skip
                    refine lv_iconst (v := 0) hx hb dX6_storm_178 (by decide) ?_
                    refine lv_iload hx hb dX6_storm_179 (lv_at hl 0 rfl) ?_
                    refine lv_aload_n hx hb dX6_storm_181 rfl (lv_at hl 3 rfl) ?_
                    refine q_getr hx hb hts hown hW (r := S) hJ.q.mS hJ.q.kS k_7 2 (by decide) rfl t_871 (a := ad (B + 2)) (hJ.q.oB 2 rfl) dX6_storm_182 ?_
                    refine lv_iconst (v := 3) hx hb dX6_storm_185 (by decide) ?_
                    refine lv_iload hx hb dX6_storm_186 (lv_at hl 1 rfl) ?_
                    refine lv_imul hx hb dX6_storm_188 ?_
                    refine q_iald hx hb hW (r := (B + 2)) (hJ.q.mB 2 rfl) (hJ.q.k9 2 rfl (by decide)) (3 * i) (ix_mul rfl rfl) (by rw [hJ.q.ln 2 rfl]; show _ < 18; omega) (by rw [hJ.q.ln 2 rfl]; decide) (x := (v8 (B + 2) (3 * i))) rfl dX6_storm_189 ?_
                    refine lv_isub hx hb dX6_storm_190 ?_
                    refine lv_aload_n hx hb dX6_storm_191 rfl (lv_at hl 3 rfl) ?_
                    refine q_getr hx hb hts hown hW (r := S) hJ.q.mS hJ.q.kS k_7 2 (by decide) rfl t_871 (a := ad (B + 2)) (hJ.q.oB 2 rfl) dX6_storm_192 ?_
                    refine lv_iconst (v := 3) hx hb dX6_storm_195 (by decide) ?_
                    refine lv_iload hx hb dX6_storm_196 (lv_at hl 1 rfl) ?_
                    refine lv_imul hx hb dX6_storm_198 ?_
                    refine lv_iconst (v := 1) hx hb dX6_storm_199 (by decide) ?_
                    refine lv_iadd hx hb dX6_storm_200 ?_
                    refine q_iald hx hb hW (r := (B + 2)) (hJ.q.mB 2 rfl) (hJ.q.k9 2 rfl (by decide)) (3 * i + 1) (ix_add (ix_mul rfl rfl) rfl) (by rw [hJ.q.ln 2 rfl]; show _ < 18; omega) (by rw [hJ.q.ln 2 rfl]; decide) (x := (v8 (B + 2) (3 * i + 1))) rfl dX6_storm_201 ?_
                    refine lv_aload_n hx hb dX6_storm_202 rfl (lv_at hl 3 rfl) ?_
                    refine q_getr hx hb hts hown hW (r := S) hJ.q.mS hJ.q.kS k_7 4 (by decide) rfl t_875 (a := ad (B + 4)) (hJ.q.oB 4 rfl) dX6_storm_203 ?_
                    refine lv_iload hx hb dX6_storm_206 (lv_at hl 1 rfl) ?_
                    refine q_iald hx hb hW (r := (B + 4)) (hJ.q.mB 4 rfl) (hJ.q.k9 4 rfl (by decide)) (i) rfl (by rw [hJ.q.ln 4 rfl]; show _ < 6; omega) (by rw [hJ.q.ln 4 rfl]; decide) (x := (v8 (B + 4) (i))) rfl dX6_storm_208 ?_
                    refine lv_isub hx hb dX6_storm_209 ?_
                    refine q_min hx hb hml hl.1 hts hown m_min t_1075 (Nat.le_of_ble_eq_true rfl) (Nat.le_of_ble_eq_true rfl) (Nat.zero_le _) (Nat.zero_le _) dX6_storm_210 ?_
                    refine q_max hx hb hml hl.1 hts hown m_max t_1076 (Nat.le_of_ble_eq_true rfl) (Nat.le_of_ble_eq_true rfl) (Nat.zero_le _) (Nat.zero_le _) dX6_storm_213 ?_
                    refine lv_topi (fun xt et => ?_)
                    obtain rfl : xt = if v8 (B + 2) (3 * i + 1) = 0 then 0 else imax 0 (imin (rBy ((itr (rG B gw gd nh) i ((rBlow v B gx gy gw gd ng nh sx sy dx dy rad F st), 0))).1 B gw gd nh (nI i) - ((itr (rG B gw gd nh) i ((rBlow v B gx gy gw gd ng nh sx sy dx dy rad F st), 0))).1 (B + 17) i - v8 (B + 2) (3 * i)) (v8 (B + 2) (3 * i + 1) - v8 (B + 4) i)) := et.trans (by first | rw [if_pos c_171] | rw [if_neg c_171])
                    clear et
                    refine q_iast hx hb hW hS (r := (B + 18)) (hJ.q.mB 18 rfl) (hJ.q.k9 18 rfl (by decide)) (i) rfl (by rw [hJ.q.ln 18 rfl]; show _ < 6; omega) (by rw [hJ.q.ln 18 rfl]; decide) dX6_storm_216 (fun H locs hW hS => ?_)
                    have hJ : PJ L ad (up2 v8 (B + 18) (i) (if v8 (B + 2) (3 * i + 1) = 0 then 0 else imax 0 (imin (rBy ((itr (rG B gw gd nh) i ((rBlow v B gx gy gw gd ng nh sx sy dx dy rad F st), 0))).1 B gw gd nh (nI i) - ((itr (rG B gw gd nh) i ((rBlow v B gx gy gw gd ng nh sx sy dx dy rad F st), 0))).1 (B + 17) i - v8 (B + 2) (3 * i)) (v8 (B + 2) (3 * i + 1) - v8 (B + 4) i)))) o S B ng nh nl ns ow gx gy gw gd := hJ.kp (kr_b hJ.q.1 (by omega))
                    generalize hv9 : (up2 v8 (B + 18) (i) (if v8 (B + 2) (3 * i + 1) = 0 then 0 else imax 0 (imin (rBy ((itr (rG B gw gd nh) i ((rBlow v B gx gy gw gd ng nh sx sy dx dy rad F st), 0))).1 B gw gd nh (nI i) - ((itr (rG B gw gd nh) i ((rBlow v B gx gy gw gd ng nh sx sy dx dy rad F st), 0))).1 (B + 17) i - v8 (B + 2) (3 * i)) (v8 (B + 2) (3 * i + 1) - v8 (B + 4) i)))) = v9 at hW hJ
                    refine lv_aload_n hx hb dX6_storm_217 rfl (lv_at hl 3 rfl) ?_
                    refine q_getr hx hb hts hown hW (r := S) hJ.q.mS hJ.q.kS k_7 4 (by decide) rfl t_875 (a := ad (B + 4)) (hJ.q.oB 4 rfl) dX6_storm_218 ?_
                    refine lv_iload hx hb dX6_storm_221 (lv_at hl 1 rfl) ?_
                    refine lv_dup2_11 hx hb dX6_storm_223 rfl rfl ?_
                    refine q_iald hx hb hW (r := (B + 4)) (hJ.q.mB 4 rfl) (hJ.q.k9 4 rfl (by decide)) (i) rfl (by rw [hJ.q.ln 4 rfl]; show _ < 6; omega) (by rw [hJ.q.ln 4 rfl]; decide) (x := (v9 (B + 4) (i))) rfl dX6_storm_224 ?_
                    refine lv_aload_n hx hb dX6_storm_225 rfl (lv_at hl 3 rfl) ?_
                    refine q_getr hx hb hts hown hW (r := S) hJ.q.mS hJ.q.kS k_7 18 (by decide) rfl t_902 (a := ad (B + 18)) (hJ.q.oB 18 rfl) dX6_storm_226 ?_
                    refine lv_iload hx hb dX6_storm_229 (lv_at hl 1 rfl) ?_
                    refine q_iald hx hb hW (r := (B + 18)) (hJ.q.mB 18 rfl) (hJ.q.k9 18 rfl (by decide)) (i) rfl (by rw [hJ.q.ln 18 rfl]; show _ < 6; omega) (by rw [hJ.q.ln 18 rfl]; decide) (x := (v9 (B + 18) (i))) rfl dX6_storm_231 ?_
                    refine lv_iadd hx hb dX6_storm_232 ?_
                    refine q_iast hx hb hW hS (r := (B + 4)) (hJ.q.mB 4 rfl) (hJ.q.k9 4 rfl (by decide)) (i) rfl (by rw [hJ.q.ln 4 rfl]; show _ < 6; omega) (by rw [hJ.q.ln 4 rfl]; decide) dX6_storm_233 (fun H locs hW hS => ?_)
                    have hJ : PJ L ad (up2 v9 (B + 4) (i) ((v9 (B + 4) (i)) + (v9 (B + 18) (i)))) o S B ng nh nl ns ow gx gy gw gd := hJ.kp (kr_b hJ.q.1 (by omega))
                    generalize hv10 : (up2 v9 (B + 4) (i) ((v9 (B + 4) (i)) + (v9 (B + 18) (i)))) = v10 at hW hJ
                    refine lv_iload hx hb dX6_storm_234 (lv_at hl 2 rfl) ?_
                    refine lv_aload_n hx hb dX6_storm_236 rfl (lv_at hl 3 rfl) ?_
                    refine q_getr hx hb hts hown hW (r := S) hJ.q.mS hJ.q.kS k_7 18 (by decide) rfl t_902 (a := ad (B + 18)) (hJ.q.oB 18 rfl) dX6_storm_237 ?_
                    refine lv_iload hx hb dX6_storm_240 (lv_at hl 1 rfl) ?_
                    refine q_iald hx hb hW (r := (B + 18)) (hJ.q.mB 18 rfl) (hJ.q.k9 18 rfl (by decide)) (i) rfl (by rw [hJ.q.ln 18 rfl]; show _ < 6; omega) (by rw [hJ.q.ln 18 rfl]; decide) (x := (v10 (B + 18) (i))) rfl dX6_storm_242 ?_
                    refine lv_iadd hx hb dX6_storm_243 ?_
                    refine lv_istore (lv' := [(8, .int (((itr (rG B gw gd nh) i ((rBlow v B gx gy gw gd ng nh sx sy dx dy rad F st), 0)).2) + (v10 (B + 18) (i)))), (10, .int ((rBy ((itr (rG B gw gd nh) i ((rBlow v B gx gy gw gd ng nh sx sy dx dy rad F st), 0)).1) B gw gd nh (nI i)) - (((itr (rG B gw gd nh) i ((rBlow v B gx gy gw gd ng nh sx sy dx dy rad F st), 0)).1) (B + 17) (i)))), (9, .int (nI i)), (0, .ref (ad S)), (1, .int (iI sx)), (2, .int (iI sy)), (3, .int (iI dx)), (4, .int (iI dy)), (5, .int (iI rad)), (6, .int F), (7, .int (nI st))]) hx hb dX6_storm_244 hl (by decide) rfl (fun ls hl => ?_)
                    refine lv_iinc (v := (nI (i + 1))) (lv' := [(9, .int (nI (i + 1))), (8, .int (((itr (rG B gw gd nh) i ((rBlow v B gx gy gw gd ng nh sx sy dx dy rad F st), 0)).2) + (v10 (B + 18) (i)))), (10, .int ((rBy ((itr (rG B gw gd nh) i ((rBlow v B gx gy gw gd ng nh sx sy dx dy rad F st), 0)).1) B gw gd nh (nI i)) - (((itr (rG B gw gd nh) i ((rBlow v B gx gy gw gd ng nh sx sy dx dy rad F st), 0)).1) (B + 17) (i)))), (0, .ref (ad S)), (1, .int (iI sx)), (2, .int (iI sy)), (3, .int (iI dx)), (4, .int (iI dy)), (5, .int (iI rad)), (6, .int F), (7, .int (nI st))]) hx hb dX6_storm_246 hl (k := 2) rfl (inc_nI _) (by decide) rfl (fun ls hl => ?_)
                    refine lv_goto (tgt := 118) hx hb dX6_storm_249 (by decide) ?_
                    subst hv10
                    subst hv9
                    subst hv8
                    exact ih_118 (i + 1) _ _   _ H locs ls (by omega) (by omega) (by rfl) (by rfl) (by rfl)  hW hS (lv_sub hl [0, 1, 3, 4, 5, 6, 7, 8, 9, 10] rfl)
                  · skip
                    refine lv_iconst (v := 0) hx hb dX6_storm_174 (by decide) ?_
                    refine lv_goto (tgt := 216) hx hb dX6_storm_175 (by decide) ?_
                    refine lv_topi (fun xt et => ?_)
                    obtain rfl : xt = if v8 (B + 2) (3 * i + 1) = 0 then 0 else imax 0 (imin (rBy ((itr (rG B gw gd nh) i ((rBlow v B gx gy gw gd ng nh sx sy dx dy rad F st), 0))).1 B gw gd nh (nI i) - ((itr (rG B gw gd nh) i ((rBlow v B gx gy gw gd ng nh sx sy dx dy rad F st), 0))).1 (B + 17) i - v8 (B + 2) (3 * i)) (v8 (B + 2) (3 * i + 1) - v8 (B + 4) i)) := et.trans (by first | rw [if_pos c_171] | rw [if_neg c_171])
                    clear et
                    refine q_iast hx hb hW hS (r := (B + 18)) (hJ.q.mB 18 rfl) (hJ.q.k9 18 rfl (by decide)) (i) rfl (by rw [hJ.q.ln 18 rfl]; show _ < 6; omega) (by rw [hJ.q.ln 18 rfl]; decide) dX6_storm_216 (fun H locs hW hS => ?_)
                    have hJ : PJ L ad (up2 v8 (B + 18) (i) (if v8 (B + 2) (3 * i + 1) = 0 then 0 else imax 0 (imin (rBy ((itr (rG B gw gd nh) i ((rBlow v B gx gy gw gd ng nh sx sy dx dy rad F st), 0))).1 B gw gd nh (nI i) - ((itr (rG B gw gd nh) i ((rBlow v B gx gy gw gd ng nh sx sy dx dy rad F st), 0))).1 (B + 17) i - v8 (B + 2) (3 * i)) (v8 (B + 2) (3 * i + 1) - v8 (B + 4) i)))) o S B ng nh nl ns ow gx gy gw gd := hJ.kp (kr_b hJ.q.1 (by omega))
                    generalize hv11 : (up2 v8 (B + 18) (i) (if v8 (B + 2) (3 * i + 1) = 0 then 0 else imax 0 (imin (rBy ((itr (rG B gw gd nh) i ((rBlow v B gx gy gw gd ng nh sx sy dx dy rad F st), 0))).1 B gw gd nh (nI i) - ((itr (rG B gw gd nh) i ((rBlow v B gx gy gw gd ng nh sx sy dx dy rad F st), 0))).1 (B + 17) i - v8 (B + 2) (3 * i)) (v8 (B + 2) (3 * i + 1) - v8 (B + 4) i)))) = v11 at hW hJ
                    refine lv_aload_n hx hb dX6_storm_217 rfl (lv_at hl 3 rfl) ?_
                    refine q_getr hx hb hts hown hW (r := S) hJ.q.mS hJ.q.kS k_7 4 (by decide) rfl t_875 (a := ad (B + 4)) (hJ.q.oB 4 rfl) dX6_storm_218 ?_
                    refine lv_iload hx hb dX6_storm_221 (lv_at hl 1 rfl) ?_
                    refine lv_dup2_11 hx hb dX6_storm_223 rfl rfl ?_
                    refine q_iald hx hb hW (r := (B + 4)) (hJ.q.mB 4 rfl) (hJ.q.k9 4 rfl (by decide)) (i) rfl (by rw [hJ.q.ln 4 rfl]; show _ < 6; omega) (by rw [hJ.q.ln 4 rfl]; decide) (x := (v11 (B + 4) (i))) rfl dX6_storm_224 ?_
                    refine lv_aload_n hx hb dX6_storm_225 rfl (lv_at hl 3 rfl) ?_
                    refine q_getr hx hb hts hown hW (r := S) hJ.q.mS hJ.q.kS k_7 18 (by decide) rfl t_902 (a := ad (B + 18)) (hJ.q.oB 18 rfl) dX6_storm_226 ?_
                    refine lv_iload hx hb dX6_storm_229 (lv_at hl 1 rfl) ?_
                    refine q_iald hx hb hW (r := (B + 18)) (hJ.q.mB 18 rfl) (hJ.q.k9 18 rfl (by decide)) (i) rfl (by rw [hJ.q.ln 18 rfl]; show _ < 6; omega) (by rw [hJ.q.ln 18 rfl]; decide) (x := (v11 (B + 18) (i))) rfl dX6_storm_231 ?_
                    refine lv_iadd hx hb dX6_storm_232 ?_
                    refine q_iast hx hb hW hS (r := (B + 4)) (hJ.q.mB 4 rfl) (hJ.q.k9 4 rfl (by decide)) (i) rfl (by rw [hJ.q.ln 4 rfl]; show _ < 6; omega) (by rw [hJ.q.ln 4 rfl]; decide) dX6_storm_233 (fun H locs hW hS => ?_)
                    have hJ : PJ L ad (up2 v11 (B + 4) (i) ((v11 (B + 4) (i)) + (v11 (B + 18) (i)))) o S B ng nh nl ns ow gx gy gw gd := hJ.kp (kr_b hJ.q.1 (by omega))
                    generalize hv12 : (up2 v11 (B + 4) (i) ((v11 (B + 4) (i)) + (v11 (B + 18) (i)))) = v12 at hW hJ
                    refine lv_iload hx hb dX6_storm_234 (lv_at hl 2 rfl) ?_
                    refine lv_aload_n hx hb dX6_storm_236 rfl (lv_at hl 3 rfl) ?_
                    refine q_getr hx hb hts hown hW (r := S) hJ.q.mS hJ.q.kS k_7 18 (by decide) rfl t_902 (a := ad (B + 18)) (hJ.q.oB 18 rfl) dX6_storm_237 ?_
                    refine lv_iload hx hb dX6_storm_240 (lv_at hl 1 rfl) ?_
                    refine q_iald hx hb hW (r := (B + 18)) (hJ.q.mB 18 rfl) (hJ.q.k9 18 rfl (by decide)) (i) rfl (by rw [hJ.q.ln 18 rfl]; show _ < 6; omega) (by rw [hJ.q.ln 18 rfl]; decide) (x := (v12 (B + 18) (i))) rfl dX6_storm_242 ?_
                    refine lv_iadd hx hb dX6_storm_243 ?_
                    refine lv_istore (lv' := [(8, .int (((itr (rG B gw gd nh) i ((rBlow v B gx gy gw gd ng nh sx sy dx dy rad F st), 0)).2) + (v12 (B + 18) (i)))), (10, .int ((rBy ((itr (rG B gw gd nh) i ((rBlow v B gx gy gw gd ng nh sx sy dx dy rad F st), 0)).1) B gw gd nh (nI i)) - (((itr (rG B gw gd nh) i ((rBlow v B gx gy gw gd ng nh sx sy dx dy rad F st), 0)).1) (B + 17) (i)))), (9, .int (nI i)), (0, .ref (ad S)), (1, .int (iI sx)), (2, .int (iI sy)), (3, .int (iI dx)), (4, .int (iI dy)), (5, .int (iI rad)), (6, .int F), (7, .int (nI st))]) hx hb dX6_storm_244 hl (by decide) rfl (fun ls hl => ?_)
                    refine lv_iinc (v := (nI (i + 1))) (lv' := [(9, .int (nI (i + 1))), (8, .int (((itr (rG B gw gd nh) i ((rBlow v B gx gy gw gd ng nh sx sy dx dy rad F st), 0)).2) + (v12 (B + 18) (i)))), (10, .int ((rBy ((itr (rG B gw gd nh) i ((rBlow v B gx gy gw gd ng nh sx sy dx dy rad F st), 0)).1) B gw gd nh (nI i)) - (((itr (rG B gw gd nh) i ((rBlow v B gx gy gw gd ng nh sx sy dx dy rad F st), 0)).1) (B + 17) (i)))), (0, .ref (ad S)), (1, .int (iI sx)), (2, .int (iI sy)), (3, .int (iI dx)), (4, .int (iI dy)), (5, .int (iI rad)), (6, .int F), (7, .int (nI st))]) hx hb dX6_storm_246 hl (k := 2) rfl (inc_nI _) (by decide) rfl (fun ls hl => ?_)
                    refine lv_goto (tgt := 118) hx hb dX6_storm_249 (by decide) ?_
                    subst hv12
                    subst hv11
                    subst hv8
                    exact ih_118 (i + 1) _ _   _ H locs ls (by omega) (by omega) (by rfl) (by rfl) (by rfl)  hW hS (lv_sub hl [0, 1, 3, 4, 5, 6, 7, 8, 9, 10] rfl)
            · skip
              have hx1 := mul_b (k := i) (a := dx) (by omega) (by omega) (by omega)
              have hy1 := mul_b (k := i) (a := dy) (by omega) (by omega) (by omega)
              have hlt_58 := lt_i (n := st) (by omega) hi_58 c_62
              refine lv_iconst (v := 0) hx hb dX6_storm_65 (by decide) ?_
              refine lv_istore (lv' := [(9, .int 0), (8, .int (nI i)), (0, .ref (ad S)), (1, .int (iI sx)), (2, .int (iI sy)), (3, .int (iI dx)), (4, .int (iI dy)), (5, .int (iI rad)), (6, .int F), (7, .int (nI st))]) hx hb dX6_storm_66 hl (by decide) rfl (fun ls hl => ?_)
              suffices LP_68 : ∀ (n_68 j : Nat) (x9_68 : Int32)  (u_68 : Nat → Nat → Int32) (H : Heap) (locs : List Loc) (ls : Array Slot), nh + 1 ≤ j + n_68 → j ≤ nh → nI j = x9_68 → itr (fun h u => rHouse u B gx gy gw gd rad F h (sx + i * dx) (sy + i * dy)) j (itr (fun k u => rStep u B gx gy gw gd nh rad F (sx + k * dx) (sy + k * dy)) i (rBefore v B gw gd ng nh)) = u_68 → WD G L ad u_68 o w s H → va_S (Ab G.2.2.1) s.heap H locs → lv_has ls 12 [(9, .int x9_68), (8, .int (nI i)), (0, .ref (ad S)), (1, .int (iI sx)), (2, .int (iI sy)), (3, .int (iI dx)), (4, .int (iI dy)), (5, .int (iI rad)), (6, .int F), (7, .int (nI st))] → W p l e ({ frames := 3, cells := 0, slots := 0, locals := 68 } : Room) s m ([.ref (ad S), .int (iI sx), .int (iI sy), .int (iI dx), .int (iI dy), .int (iI rad), .int F, .int (nI st)] : List Value).toArray below meth c H locs 0 0 (MQ below (va_Qv (fun u => u = rStorm v B S gx gy gw gd ng nh nl sx sy dx dy rad F st) (fun u t => WD G L ad u o w t t.heap) (Ab G.2.2.1)) ([.ref (ad S), .int (iI sx), .int (iI sy), .int (iI dx), .int (iI dy), .int (iI rad), .int F, .int (nI st)] : List Value).toArray s ({ frames := 3, cells := 0, slots := 0, locals := 68 } : Room).cells ({ frames := 3, cells := 0, slots := 0, locals := 68 } : Room).slots (Ab G.2.2.1)) (F0 m 68 ls []) from LP_68 (nh + 1) 0 _   _ H locs ls (by omega) (by omega) (by rfl) (by rfl)  hW hS (lv_sub hl [0, 1, 2, 3, 4, 5, 6, 7, 8, 9] rfl)
              intro n_68
              induction n_68 with
              | zero => intro j x9_68  u_68 H locs ls h1 h2; exact absurd h1 (by omega)
              | succ n_68 ih_68 =>
                intro j x9_68  u_68 H locs ls hn_68 hi_68 ex9_68 eu_68  hW hS hl
                subst ex9_68
                subst eu_68
                have hJ : PJ L ad (itr (fun h u => rHouse u B gx gy gw gd rad F h (sx + i * dx) (sy + i * dy)) j (itr (fun k u => rStep u B gx gy gw gd nh rad F (sx + k * dx) (sy + k * dy)) i (rBefore v B gw gd ng nh))) o S B ng nh nl ns ow gx gy gw gd := hJ.kp (kr_itr (fun _ _ _ => kr_rHouse hJ.q.1))
                refine lv_iload hx hb dX6_storm_68 (lv_at hl 0 rfl) ?_
                refine lv_aload_n hx hb dX6_storm_70 rfl (lv_at hl 2 rfl) ?_
                refine q_get hx hb hts hown hW (r := S) hJ.q.mS hJ.q.kS k_7 6 (by decide) rfl t_879 (x := (nI nh)) hJ.eH dX6_storm_71 ?_
                refine lv_icmp_ge (tgt := 106) hx hb dX6_storm_74 (by decide) (fun c_74 => ?_) (fun c_74 => ?_)
                · skip
                  have hq_68 := (ge_i (n := nh) (by omega) hi_68 c_74).symm
                  subst hq_68
                  refine lv_iinc (v := (nI (i + 1))) (lv' := [(8, .int (nI (i + 1))), (9, .int (nI nh)), (0, .ref (ad S)), (1, .int (iI sx)), (2, .int (iI sy)), (3, .int (iI dx)), (4, .int (iI dy)), (5, .int (iI rad)), (6, .int F), (7, .int (nI st))]) hx hb dX6_storm_106 hl (k := 1) rfl (inc_nI _) (by decide) rfl (fun ls hl => ?_)
                  refine lv_goto (tgt := 58) hx hb dX6_storm_109 (by decide) ?_
                  exact ih_58 (i + 1) _   _ H locs ls (by omega) (by omega) (by rfl) (by rfl)  hW hS (lv_sub hl [0, 2, 3, 4, 5, 6, 7, 8, 9] rfl)
                · skip
                  have hlt_68 := lt_i (n := nh) (by omega) hi_68 c_74
                  refine lv_aload_n hx hb dX6_storm_77 rfl (lv_at hl 2 rfl) ?_
                  refine lv_iload hx hb dX6_storm_78 (lv_at hl 0 rfl) ?_
                  refine lv_iload_n hx hb dX6_storm_80 rfl (lv_at hl 3 rfl) ?_
                  refine lv_iload hx hb dX6_storm_81 (lv_at hl 1 rfl) ?_
                  refine lv_iload_n hx hb dX6_storm_83 rfl (lv_at hl 5 rfl) ?_
                  refine lv_imul hx hb dX6_storm_84 ?_
                  refine lv_iadd hx hb dX6_storm_85 ?_
                  refine lv_topi (fun xt et => ?_)
                  obtain rfl : xt = iI (sx + (i : Int) * dx) := et.trans (by rw [← iI_n, iI_mul, iI_add])
                  clear et
                  refine lv_iload_n hx hb dX6_storm_86 rfl (lv_at hl 4 rfl) ?_
                  refine lv_iload hx hb dX6_storm_87 (lv_at hl 1 rfl) ?_
                  refine lv_iload hx hb dX6_storm_89 (lv_at hl 6 rfl) ?_
                  refine lv_imul hx hb dX6_storm_91 ?_
                  refine lv_iadd hx hb dX6_storm_92 ?_
                  refine lv_topi (fun xt et => ?_)
                  obtain rfl : xt = iI (sy + (i : Int) * dy) := et.trans (by rw [← iI_n, iI_mul, iI_add])
                  clear et
                  refine lv_iload hx hb dX6_storm_93 (lv_at hl 7 rfl) ?_
                  refine lv_iload hx hb dX6_storm_95 (lv_at hl 8 rfl) ?_
                  refine q_cVvE (As := [.int (nI j), .int (iI (sx + (i : Int) * dx)), .int (iI (sy + (i : Int) * dy)), .int (iI rad), .int F]) (rest := []) (r := S) hx hb hml hts hown hE h0 hW hS (c_X6_hail l hJ hlt_68 F (by omega) (by omega) (by omega) (by omega) (by omega) (by omega)) mw_X6_hail hJ.q.mS hJ.q.kS k_7 t_1093 ⟨Nat.le_of_ble_eq_true rfl, Nat.le_of_ble_eq_true rfl⟩ rfl hl.1 (Nat.le_of_ble_eq_true rfl) dX6_storm_97 ⟨Nat.zero_le _, Nat.zero_le _⟩ ⟨rfl, rfl⟩ (fun H locs hW hS => ?_)
                  have hJ : PJ L ad (rHouse (itr (fun h u => rHouse u B gx gy gw gd rad F h (sx + i * dx) (sy + i * dy)) j (itr (fun k u => rStep u B gx gy gw gd nh rad F (sx + k * dx) (sy + k * dy)) i (rBefore v B gw gd ng nh))) B gx gy gw gd rad F j (sx + (i : Int) * dx) (sy + (i : Int) * dy)) o S B ng nh nl ns ow gx gy gw gd := hJ.kp (kr_rHouse hJ.q.1)
                  generalize hv13 : (rHouse (itr (fun h u => rHouse u B gx gy gw gd rad F h (sx + i * dx) (sy + i * dy)) j (itr (fun k u => rStep u B gx gy gw gd nh rad F (sx + k * dx) (sy + k * dy)) i (rBefore v B gw gd ng nh))) B gx gy gw gd rad F j (sx + (i : Int) * dx) (sy + (i : Int) * dy)) = v13 at hW hJ
                  refine lv_iinc (v := (nI (j + 1))) (lv' := [(9, .int (nI (j + 1))), (8, .int (nI i)), (0, .ref (ad S)), (1, .int (iI sx)), (2, .int (iI sy)), (3, .int (iI dx)), (4, .int (iI dy)), (5, .int (iI rad)), (6, .int F), (7, .int (nI st))]) hx hb dX6_storm_100 hl (k := 0) rfl (inc_nI _) (by decide) rfl (fun ls hl => ?_)
                  refine lv_goto (tgt := 68) hx hb dX6_storm_103 (by decide) ?_
                  subst hv13
                  exact ih_68 (j + 1) _   _ H locs ls (by omega) (by omega) (by rfl) (by rfl)  hW hS (lv_sub hl [0, 1, 2, 3, 4, 5, 6, 7, 8, 9] rfl)
        · skip
          have hlt_27 := lt_i (n := ng) (by omega) hi_27 c_33
          refine lv_aload_n hx hb dX6_storm_36 rfl (lv_at hl 1 rfl) ?_
          refine q_getr hx hb hts hown hW (r := S) hJ.q.mS hJ.q.kS k_7 17 (by decide) rfl t_901 (a := ad (B + 17)) (hJ.q.oB 17 rfl) dX6_storm_37 ?_
          refine lv_iload hx hb dX6_storm_40 (lv_at hl 0 rfl) ?_
          refine lv_aload_n hx hb dX6_storm_42 rfl (lv_at hl 1 rfl) ?_
          refine lv_iload hx hb dX6_storm_43 (lv_at hl 0 rfl) ?_
          refine q_cViE (As := [.int (nI i)]) (rest := [.int (nI i), .ref (ad (B + 17))]) (r := S) hx hb hml hts hown hE h0 hW hS (c_X6_lostBy l hJ (nI i)) mw_X6_lostBy hJ.q.mS hJ.q.kS k_7 t_1092 ⟨Nat.le_of_ble_eq_true rfl, Nat.le_of_ble_eq_true rfl⟩ rfl hl.1 (Nat.le_of_ble_eq_true rfl) dX6_storm_45 ⟨Nat.zero_le _, Nat.zero_le _⟩ ⟨rfl, rfl⟩ (fun H locs hW hS => ?_)
          refine q_iast hx hb hW hS (r := (B + 17)) (hJ.q.mB 17 rfl) (hJ.q.k9 17 rfl (by decide)) (i) rfl (by rw [hJ.q.ln 17 rfl]; show _ < 6; omega) (by rw [hJ.q.ln 17 rfl]; decide) dX6_storm_48 (fun H locs hW hS => ?_)
          have hJ : PJ L ad (up2 (itr (fun g u => up2 u (B + 17) g (rBy u B gw gd nh (nI g))) i (itr (fun k u => up2 u (B + 16) k 0) 6 v)) (B + 17) (i) (rBy (itr (fun g u => up2 u (B + 17) g (rBy u B gw gd nh (nI g))) i (itr (fun k u => up2 u (B + 16) k 0) 6 v)) B gw gd nh (nI i))) o S B ng nh nl ns ow gx gy gw gd := hJ.kp (kr_b hJ.q.1 (by omega))
          generalize hv14 : (up2 (itr (fun g u => up2 u (B + 17) g (rBy u B gw gd nh (nI g))) i (itr (fun k u => up2 u (B + 16) k 0) 6 v)) (B + 17) (i) (rBy (itr (fun g u => up2 u (B + 17) g (rBy u B gw gd nh (nI g))) i (itr (fun k u => up2 u (B + 16) k 0) 6 v)) B gw gd nh (nI i))) = v14 at hW hJ
          refine lv_iinc (v := (nI (i + 1))) (lv' := [(8, .int (nI (i + 1))), (0, .ref (ad S)), (1, .int (iI sx)), (2, .int (iI sy)), (3, .int (iI dx)), (4, .int (iI dy)), (5, .int (iI rad)), (6, .int F), (7, .int (nI st))]) hx hb dX6_storm_49 hl (k := 0) rfl (inc_nI _) (by decide) rfl (fun ls hl => ?_)
          refine lv_goto (tgt := 27) hx hb dX6_storm_52 (by decide) ?_
          subst hv14
          exact ih_27 (i + 1) _   _ H locs ls (by omega) (by omega) (by rfl) (by rfl)  hW hS (lv_sub hl [0, 1, 2, 3, 4, 5, 6, 7, 8] rfl)
    · skip
      have hlt_3 := lt_i (n := 6) (by omega) hi_3 c_7
      refine lv_aload_n hx hb dX6_storm_10 rfl (lv_at hl 1 rfl) ?_
      refine q_getr hx hb hts hown hW (r := S) hJ.q.mS hJ.q.kS k_7 16 (by decide) rfl t_899 (a := ad (B + 16)) (hJ.q.oB 16 rfl) dX6_storm_11 ?_
      refine lv_iload hx hb dX6_storm_14 (lv_at hl 0 rfl) ?_
      refine lv_iconst (v := 0) hx hb dX6_storm_16 (by decide) ?_
      refine q_iast hx hb hW hS (r := (B + 16)) (hJ.q.mB 16 rfl) (hJ.q.k9 16 rfl (by decide)) (i) rfl (by rw [hJ.q.ln 16 rfl]; show _ < 6; omega) (by rw [hJ.q.ln 16 rfl]; decide) dX6_storm_17 (fun H locs hW hS => ?_)
      have hJ : PJ L ad (up2 (itr (fun k u => up2 u (B + 16) k 0) i v) (B + 16) (i) 0) o S B ng nh nl ns ow gx gy gw gd := hJ.kp (kr_b hJ.q.1 (by omega))
      generalize hv15 : (up2 (itr (fun k u => up2 u (B + 16) k 0) i v) (B + 16) (i) 0) = v15 at hW hJ
      refine lv_iinc (v := (nI (i + 1))) (lv' := [(8, .int (nI (i + 1))), (0, .ref (ad S)), (1, .int (iI sx)), (2, .int (iI sy)), (3, .int (iI dx)), (4, .int (iI dy)), (5, .int (iI rad)), (6, .int F), (7, .int (nI st))]) hx hb dX6_storm_18 hl (k := 0) rfl (inc_nI _) (by decide) rfl (fun ls hl => ?_)
      refine lv_goto (tgt := 3) hx hb dX6_storm_21 (by decide) ?_
      subst hv15
      exact ih_3 (i + 1) _   _ H locs ls (by omega) (by omega) (by rfl) (by rfl)  hW hS (lv_sub hl [0, 1, 2, 3, 4, 5, 6, 7, 8] rfl)

set_option maxHeartbeats 4000000 in
set_option maxRecDepth 100000 in
theorem c_X6_endYear (l : Launch) {G : GG} {L : List Nat} {ad : Nat → Nat} {v : Nat → Nat → Int32} {o : Nat → Nat → Option Nat} {w : Nat → Int64} {S B ng nh nl ns : Nat} {ow gx gy gw gd : Nat → Nat} (hJ : PJ L ad v o S B ng nh nl ns ow gx gy gw gd) : CtI l G L ad v o w yX6_endYear cX6_endYear 4 .int ({ frames := 2, cells := 0, slots := 0, locals := 44 }) [.ref (ad S)] (fun r u => r = (rYs v B gw gd ng nh).2 ∧ u = rYear v B S gw gd ng nh nl) := by
  have hsb := hJ.q.sb; have hbd := hJ.bd
  refine q_ofI (by decide) (Nat.le_of_ble_eq_true rfl) ?_
  intro p e s m below meth c hx hb hr hml hts hown hlocks hE h0 hW hS ls hl
  generalize hH : s.heap = H at hW
  have hS : va_S (Ab G.2.2.1) s.heap H [] := hH ▸ hS
  obtain ⟨locs, hlc⟩ : ∃ z : List Loc, z = [] := ⟨_, rfl⟩
  rw [← hlc] at hS ⊢
  have hl : lv_has ls 4 [(0, .ref (ad S))] := hl
  refine lv_iconst (v := 0) hx hb dX6_endYear_0 (by decide) ?_
  refine lv_istore_n (lv' := [(1, .int 0), (0, .ref (ad S))]) hx hb dX6_endYear_1 rfl hl (by decide) rfl (fun ls hl => ?_)
  refine lv_iconst (v := 0) hx hb dX6_endYear_2 (by decide) ?_
  refine lv_istore_n (lv' := [(2, .int 0), (1, .int 0), (0, .ref (ad S))]) hx hb dX6_endYear_3 rfl hl (by decide) rfl (fun ls hl => ?_)
  suffices LP_4 : ∀ (n_4 i : Nat) (x1_4 : Int32) (x2_4 : Int32)  (u_4 : Nat → Nat → Int32) (H : Heap) (locs : List Loc) (ls : Array Slot), ng + 1 ≤ i + n_4 → i ≤ ng → (itr (rY B gw gd nh) i (v, 0)).2 = x1_4 → nI i = x2_4 → (itr (rY B gw gd nh) i (v, 0)).1 = u_4 → WD G L ad u_4 o w s H → va_S (Ab G.2.2.1) s.heap H locs → lv_has ls 4 [(2, .int x2_4), (1, .int x1_4), (0, .ref (ad S))] → W p l e ({ frames := 2, cells := 0, slots := 0, locals := 44 } : Room) s m ([.ref (ad S)] : List Value).toArray below meth c H locs 0 0 (MQ below (va_Qi (fun r u => r = (rYs v B gw gd ng nh).2 ∧ u = rYear v B S gw gd ng nh nl) (fun u t => WD G L ad u o w t t.heap) (Ab G.2.2.1)) ([.ref (ad S)] : List Value).toArray s ({ frames := 2, cells := 0, slots := 0, locals := 44 } : Room).cells ({ frames := 2, cells := 0, slots := 0, locals := 44 } : Room).slots (Ab G.2.2.1)) (F0 m 4 ls []) from LP_4 (ng + 1) 0 _ _   _ H locs ls (by omega) (by omega) (by rfl) (by rfl) (by rfl)  hW hS (lv_sub hl [0, 1, 2] rfl)
  intro n_4
  induction n_4 with
  | zero => intro i x1_4 x2_4  u_4 H locs ls h1 h2; exact absurd h1 (by omega)
  | succ n_4 ih_4 =>
    intro i x1_4 x2_4  u_4 H locs ls hn_4 hi_4 ex1_4 ex2_4 eu_4  hW hS hl
    subst ex1_4
    subst ex2_4
    subst eu_4
    have hJ : PJ L ad ((itr (rY B gw gd nh) i (v, 0)).1) o S B ng nh nl ns ow gx gy gw gd := hJ.kp (kr_rYs (t := (v, 0)) hJ.q.1)
    refine lv_iload_n hx hb dX6_endYear_4 rfl (lv_at hl 0 rfl) ?_
    refine lv_aload_n hx hb dX6_endYear_5 rfl (lv_at hl 2 rfl) ?_
    refine q_get hx hb hts hown hW (r := S) hJ.q.mS hJ.q.kS k_7 0 (by decide) rfl t_867 (x := (nI ng)) hJ.eG dX6_endYear_6 ?_
    refine lv_icmp_ge (tgt := 135) hx hb dX6_endYear_9 (by decide) (fun c_9 => ?_) (fun c_9 => ?_)
    · skip
      have hq_4 := (ge_i (n := ng) (by omega) hi_4 c_9).symm
      subst hq_4
      refine lv_aload_n hx hb dX6_endYear_135 rfl (lv_at hl 2 rfl) ?_
      refine lv_dup hx hb dX6_endYear_136 rfl ?_
      refine q_get hx hb hts hown hW (r := S) hJ.q.mS hJ.q.kS k_7 10 (by decide) rfl t_887 (x := (((itr (rY B gw gd nh) ng (v, 0)).1) S 10)) rfl dX6_endYear_137 ?_
      refine lv_iload_n hx hb dX6_endYear_140 rfl (lv_at hl 1 rfl) ?_
      refine lv_iadd hx hb dX6_endYear_141 ?_
      refine q_put hx hb hts hown hW hS (r := S) hJ.q.mS hJ.q.kS k_7 10 (by decide) rfl t_887 rfl (t := .int) (by decide +kernel) rfl rfl dX6_endYear_142 (fun H locs hW hS => ?_)
      have hJ : PJ L ad (up2 ((itr (rY B gw gd nh) ng (v, 0)).1) S 10 ((((itr (rY B gw gd nh) ng (v, 0)).1) S 10) + ((itr (rY B gw gd nh) ng (v, 0)).2))) o S B ng nh nl ns ow gx gy gw gd := hJ.kp (kr_b hJ.q.1 (by omega))
      refine lv_iconst (v := 0) hx hb dX6_endYear_145 (by decide) ?_
      refine lv_istore_n (lv' := [(2, .int 0), (1, .int ((itr (rY B gw gd nh) ng (v, 0)).2)), (0, .ref (ad S))]) hx hb dX6_endYear_146 rfl hl (by decide) rfl (fun ls hl => ?_)
      suffices LP_147 : ∀ (n_147 i : Nat) (x2_147 : Int32)  (u_147 : Nat → Nat → Int32) (H : Heap) (locs : List Loc) (ls : Array Slot), ng + 1 ≤ i + n_147 → i ≤ ng → nI i = x2_147 → itr (rD B S) i (up2 (itr (rY B gw gd nh) ng (v, 0)).1 S 10 ((itr (rY B gw gd nh) ng (v, 0)).1 S 10 + (itr (rY B gw gd nh) ng (v, 0)).2)) = u_147 → WD G L ad u_147 o w s H → va_S (Ab G.2.2.1) s.heap H locs → lv_has ls 4 [(2, .int x2_147), (1, .int ((itr (rY B gw gd nh) ng (v, 0)).2)), (0, .ref (ad S))] → W p l e ({ frames := 2, cells := 0, slots := 0, locals := 44 } : Room) s m ([.ref (ad S)] : List Value).toArray below meth c H locs 0 0 (MQ below (va_Qi (fun r u => r = (rYs v B gw gd ng nh).2 ∧ u = rYear v B S gw gd ng nh nl) (fun u t => WD G L ad u o w t t.heap) (Ab G.2.2.1)) ([.ref (ad S)] : List Value).toArray s ({ frames := 2, cells := 0, slots := 0, locals := 44 } : Room).cells ({ frames := 2, cells := 0, slots := 0, locals := 44 } : Room).slots (Ab G.2.2.1)) (F0 m 147 ls []) from LP_147 (ng + 1) 0 _   _ H locs ls (by omega) (by omega) (by rfl) (by rfl)  hW hS (lv_sub hl [0, 1, 2] rfl)
      intro n_147
      induction n_147 with
      | zero => intro i x2_147  u_147 H locs ls h1 h2; exact absurd h1 (by omega)
      | succ n_147 ih_147 =>
        intro i x2_147  u_147 H locs ls hn_147 hi_147 ex2_147 eu_147  hW hS hl
        subst ex2_147
        subst eu_147
        have hJ : PJ L ad (itr (rD B S) i (up2 (itr (rY B gw gd nh) ng (v, 0)).1 S 10 ((itr (rY B gw gd nh) ng (v, 0)).1 S 10 + (itr (rY B gw gd nh) ng (v, 0)).2))) o S B ng nh nl ns ow gx gy gw gd := hJ.kp (kr_itr (fun _ _ _ => kr_rD hJ.q.1))
        refine lv_iload_n hx hb dX6_endYear_147 rfl (lv_at hl 0 rfl) ?_
        refine lv_aload_n hx hb dX6_endYear_148 rfl (lv_at hl 2 rfl) ?_
        refine q_get hx hb hts hown hW (r := S) hJ.q.mS hJ.q.kS k_7 0 (by decide) rfl t_867 (x := (nI ng)) hJ.eG dX6_endYear_149 ?_
        refine lv_icmp_ge (tgt := 180) hx hb dX6_endYear_152 (by decide) (fun c_152 => ?_) (fun c_152 => ?_)
        · skip
          have hq_147 := (ge_i (n := ng) (by omega) hi_147 c_152).symm
          subst hq_147
          refine lv_iconst (v := 0) hx hb dX6_endYear_180 (by decide) ?_
          refine lv_istore_n (lv' := [(2, .int 0), (1, .int ((itr (rY B gw gd nh) ng (v, 0)).2)), (0, .ref (ad S))]) hx hb dX6_endYear_181 rfl hl (by decide) rfl (fun ls hl => ?_)
          suffices LP_182 : ∀ (n_182 i : Nat) (x2_182 : Int32)  (u_182 : Nat → Nat → Int32) (H : Heap) (locs : List Loc) (ls : Array Slot), nl + 1 ≤ i + n_182 → i ≤ nl → nI i = x2_182 → itr (fun k u => up2 u (B + 12) (5 * k + 3) (2 * u (B + 12) (5 * k + 1))) i (itr (rD B S) ng (up2 (itr (rY B gw gd nh) ng (v, 0)).1 S 10 ((itr (rY B gw gd nh) ng (v, 0)).1 S 10 + (itr (rY B gw gd nh) ng (v, 0)).2))) = u_182 → WD G L ad u_182 o w s H → va_S (Ab G.2.2.1) s.heap H locs → lv_has ls 4 [(2, .int x2_182), (1, .int ((itr (rY B gw gd nh) ng (v, 0)).2)), (0, .ref (ad S))] → W p l e ({ frames := 2, cells := 0, slots := 0, locals := 44 } : Room) s m ([.ref (ad S)] : List Value).toArray below meth c H locs 0 0 (MQ below (va_Qi (fun r u => r = (rYs v B gw gd ng nh).2 ∧ u = rYear v B S gw gd ng nh nl) (fun u t => WD G L ad u o w t t.heap) (Ab G.2.2.1)) ([.ref (ad S)] : List Value).toArray s ({ frames := 2, cells := 0, slots := 0, locals := 44 } : Room).cells ({ frames := 2, cells := 0, slots := 0, locals := 44 } : Room).slots (Ab G.2.2.1)) (F0 m 182 ls []) from LP_182 (nl + 1) 0 _   _ H locs ls (by omega) (by omega) (by rfl) (by rfl)  hW hS (lv_sub hl [0, 1, 2] rfl)
          intro n_182
          induction n_182 with
          | zero => intro i x2_182  u_182 H locs ls h1 h2; exact absurd h1 (by omega)
          | succ n_182 ih_182 =>
            intro i x2_182  u_182 H locs ls hn_182 hi_182 ex2_182 eu_182  hW hS hl
            subst ex2_182
            subst eu_182
            have hJ : PJ L ad (itr (fun k u => up2 u (B + 12) (5 * k + 3) (2 * u (B + 12) (5 * k + 1))) i (itr (rD B S) ng (up2 (itr (rY B gw gd nh) ng (v, 0)).1 S 10 ((itr (rY B gw gd nh) ng (v, 0)).1 S 10 + (itr (rY B gw gd nh) ng (v, 0)).2)))) o S B ng nh nl ns ow gx gy gw gd := hJ.kp (kr_itr (fun _ _ _ => kr_b hJ.q.1 (by omega)))
            refine lv_iload_n hx hb dX6_endYear_182 rfl (lv_at hl 0 rfl) ?_
            refine lv_aload_n hx hb dX6_endYear_183 rfl (lv_at hl 2 rfl) ?_
            refine q_get hx hb hts hown hW (r := S) hJ.q.mS hJ.q.kS k_7 11 (by decide) rfl t_889 (x := (nI nl)) hJ.eL dX6_endYear_184 ?_
            refine lv_icmp_ge (tgt := 218) hx hb dX6_endYear_187 (by decide) (fun c_187 => ?_) (fun c_187 => ?_)
            · skip
              have hq_182 := (ge_i (n := nl) (by omega) hi_182 c_187).symm
              subst hq_182
              refine lv_aload_n hx hb dX6_endYear_218 rfl (lv_at hl 2 rfl) ?_
              refine lv_iconst (v := 0) hx hb dX6_endYear_219 (by decide) ?_
              refine q_put hx hb hts hown hW hS (r := S) hJ.q.mS hJ.q.kS k_7 13 (by decide) rfl t_893 rfl (t := .int) (by decide +kernel) rfl rfl dX6_endYear_220 (fun H locs hW hS => ?_)
              generalize hv1 : (up2 (itr (fun k u => up2 u (B + 12) (5 * k + 3) (2 * u (B + 12) (5 * k + 1))) nl (itr (rD B S) ng (up2 (itr (rY B gw gd nh) ng (v, 0)).1 S 10 ((itr (rY B gw gd nh) ng (v, 0)).1 S 10 + (itr (rY B gw gd nh) ng (v, 0)).2)))) S 13 0) = v1 at hW
              refine lv_aload_n hx hb dX6_endYear_223 rfl (lv_at hl 2 rfl) ?_
              refine lv_dup hx hb dX6_endYear_224 rfl ?_
              refine q_get hx hb hts hown hW (r := S) hJ.q.mS hJ.q.kS k_7 15 (by decide) rfl t_897 (x := (v1 S 15)) rfl dX6_endYear_225 ?_
              refine lv_iconst (v := 1) hx hb dX6_endYear_228 (by decide) ?_
              refine lv_iadd hx hb dX6_endYear_229 ?_
              refine q_put hx hb hts hown hW hS (r := S) hJ.q.mS hJ.q.kS k_7 15 (by decide) rfl t_897 rfl (t := .int) (by decide +kernel) rfl rfl dX6_endYear_230 (fun H locs hW hS => ?_)
              generalize hv2 : (up2 v1 S 15 ((v1 S 15) + 1)) = v2 at hW
              refine lv_iload_n hx hb dX6_endYear_233 rfl (lv_at hl 1 rfl) ?_
              subst hv2
              subst hv1
              exact q_iret hx hb hr hlocks hW hS (Nat.le_refl _) (Nat.le_refl _) dX6_endYear_234 (⟨rfl, rfl⟩)
            · skip
              have hlt_182 := lt_i (n := nl) (by omega) hi_182 c_187
              refine lv_aload_n hx hb dX6_endYear_190 rfl (lv_at hl 2 rfl) ?_
              refine q_getr hx hb hts hown hW (r := S) hJ.q.mS hJ.q.kS k_7 12 (by decide) rfl t_891 (a := ad (B + 12)) (hJ.q.oB 12 rfl) dX6_endYear_191 ?_
              refine lv_iconst (v := 5) hx hb dX6_endYear_194 (by decide) ?_
              refine lv_iload_n hx hb dX6_endYear_195 rfl (lv_at hl 0 rfl) ?_
              refine lv_imul hx hb dX6_endYear_196 ?_
              refine lv_iconst (v := 3) hx hb dX6_endYear_197 (by decide) ?_
              refine lv_iadd hx hb dX6_endYear_198 ?_
              refine lv_iconst (v := 2) hx hb dX6_endYear_199 (by decide) ?_
              refine lv_aload_n hx hb dX6_endYear_200 rfl (lv_at hl 2 rfl) ?_
              refine q_getr hx hb hts hown hW (r := S) hJ.q.mS hJ.q.kS k_7 12 (by decide) rfl t_891 (a := ad (B + 12)) (hJ.q.oB 12 rfl) dX6_endYear_201 ?_
              refine lv_iconst (v := 5) hx hb dX6_endYear_204 (by decide) ?_
              refine lv_iload_n hx hb dX6_endYear_205 rfl (lv_at hl 0 rfl) ?_
              refine lv_imul hx hb dX6_endYear_206 ?_
              refine lv_iconst (v := 1) hx hb dX6_endYear_207 (by decide) ?_
              refine lv_iadd hx hb dX6_endYear_208 ?_
              refine q_iald hx hb hW (r := (B + 12)) (hJ.q.mB 12 rfl) (hJ.q.k9 12 rfl (by decide)) (5 * i + 1) (ix_add (ix_mul rfl rfl) rfl) (by rw [hJ.q.ln 12 rfl]; show _ < 30; omega) (by rw [hJ.q.ln 12 rfl]; decide) (x := ((itr (fun k u => up2 u (B + 12) (5 * k + 3) (2 * u (B + 12) (5 * k + 1))) i (itr (rD B S) ng (up2 (itr (rY B gw gd nh) ng (v, 0)).1 S 10 ((itr (rY B gw gd nh) ng (v, 0)).1 S 10 + (itr (rY B gw gd nh) ng (v, 0)).2)))) (B + 12) (5 * i + 1))) rfl dX6_endYear_209 ?_
              refine lv_imul hx hb dX6_endYear_210 ?_
              refine q_iast hx hb hW hS (r := (B + 12)) (hJ.q.mB 12 rfl) (hJ.q.k9 12 rfl (by decide)) (5 * i + 3) (ix_add (ix_mul rfl rfl) rfl) (by rw [hJ.q.ln 12 rfl]; show _ < 30; omega) (by rw [hJ.q.ln 12 rfl]; decide) dX6_endYear_211 (fun H locs hW hS => ?_)
              have hJ : PJ L ad (up2 (itr (fun k u => up2 u (B + 12) (5 * k + 3) (2 * u (B + 12) (5 * k + 1))) i (itr (rD B S) ng (up2 (itr (rY B gw gd nh) ng (v, 0)).1 S 10 ((itr (rY B gw gd nh) ng (v, 0)).1 S 10 + (itr (rY B gw gd nh) ng (v, 0)).2)))) (B + 12) (5 * i + 3) (2 * ((itr (fun k u => up2 u (B + 12) (5 * k + 3) (2 * u (B + 12) (5 * k + 1))) i (itr (rD B S) ng (up2 (itr (rY B gw gd nh) ng (v, 0)).1 S 10 ((itr (rY B gw gd nh) ng (v, 0)).1 S 10 + (itr (rY B gw gd nh) ng (v, 0)).2)))) (B + 12) (5 * i + 1)))) o S B ng nh nl ns ow gx gy gw gd := hJ.kp (kr_b hJ.q.1 (by omega))
              generalize hv3 : (up2 (itr (fun k u => up2 u (B + 12) (5 * k + 3) (2 * u (B + 12) (5 * k + 1))) i (itr (rD B S) ng (up2 (itr (rY B gw gd nh) ng (v, 0)).1 S 10 ((itr (rY B gw gd nh) ng (v, 0)).1 S 10 + (itr (rY B gw gd nh) ng (v, 0)).2)))) (B + 12) (5 * i + 3) (2 * ((itr (fun k u => up2 u (B + 12) (5 * k + 3) (2 * u (B + 12) (5 * k + 1))) i (itr (rD B S) ng (up2 (itr (rY B gw gd nh) ng (v, 0)).1 S 10 ((itr (rY B gw gd nh) ng (v, 0)).1 S 10 + (itr (rY B gw gd nh) ng (v, 0)).2)))) (B + 12) (5 * i + 1)))) = v3 at hW hJ
              refine lv_iinc (v := (nI (i + 1))) (lv' := [(2, .int (nI (i + 1))), (1, .int ((itr (rY B gw gd nh) ng (v, 0)).2)), (0, .ref (ad S))]) hx hb dX6_endYear_212 hl (k := 0) rfl (inc_nI _) (by decide) rfl (fun ls hl => ?_)
              refine lv_goto (tgt := 182) hx hb dX6_endYear_215 (by decide) ?_
              subst hv3
              exact ih_182 (i + 1) _   _ H locs ls (by omega) (by omega) (by rfl) (by rfl)  hW hS (lv_sub hl [0, 1, 2] rfl)
        · skip
          have hlt_147 := lt_i (n := ng) (by omega) hi_147 c_152
          refine lv_aload_n hx hb dX6_endYear_155 rfl (lv_at hl 2 rfl) ?_
          refine lv_iload_n hx hb dX6_endYear_156 rfl (lv_at hl 0 rfl) ?_
          refine lv_aload_n hx hb dX6_endYear_157 rfl (lv_at hl 2 rfl) ?_
          refine q_getr hx hb hts hown hW (r := S) hJ.q.mS hJ.q.kS k_7 5 (by decide) rfl t_877 (a := ad (B + 5)) (hJ.q.oB 5 rfl) dX6_endYear_158 ?_
          refine lv_iload_n hx hb dX6_endYear_161 rfl (lv_at hl 0 rfl) ?_
          refine q_iald hx hb hW (r := (B + 5)) (hJ.q.mB 5 rfl) (hJ.q.k9 5 rfl (by decide)) (i) rfl (by rw [hJ.q.ln 5 rfl]; show _ < 6; omega) (by rw [hJ.q.ln 5 rfl]; decide) (x := ((itr (rD B S) i (up2 (itr (rY B gw gd nh) ng (v, 0)).1 S 10 ((itr (rY B gw gd nh) ng (v, 0)).1 S 10 + (itr (rY B gw gd nh) ng (v, 0)).2))) (B + 5) (i))) rfl dX6_endYear_162 ?_
          refine q_cViE (As := [.int (nI i), .int ((itr (rD B S) i (up2 (itr (rY B gw gd nh) ng (v, 0)).1 S 10 ((itr (rY B gw gd nh) ng (v, 0)).1 S 10 + (itr (rY B gw gd nh) ng (v, 0)).2))) (B + 5) (i))]) (rest := []) (r := S) hx hb hml hts hown hE h0 hW hS (c_X6_pay l hJ hlt_147 ((itr (rD B S) i (up2 (itr (rY B gw gd nh) ng (v, 0)).1 S 10 ((itr (rY B gw gd nh) ng (v, 0)).1 S 10 + (itr (rY B gw gd nh) ng (v, 0)).2))) (B + 5) (i))) mw_X6_pay hJ.q.mS hJ.q.kS k_7 t_1077 ⟨Nat.le_of_ble_eq_true rfl, Nat.le_of_ble_eq_true rfl⟩ rfl hl.1 (Nat.le_of_ble_eq_true rfl) dX6_endYear_163 ⟨Nat.zero_le _, Nat.zero_le _⟩ ⟨rfl, rfl⟩ (fun H locs hW hS => ?_)
          have hJ : PJ L ad (rPay (itr (rD B S) i (up2 (itr (rY B gw gd nh) ng (v, 0)).1 S 10 ((itr (rY B gw gd nh) ng (v, 0)).1 S 10 + (itr (rY B gw gd nh) ng (v, 0)).2))) B S i ((itr (rD B S) i (up2 (itr (rY B gw gd nh) ng (v, 0)).1 S 10 ((itr (rY B gw gd nh) ng (v, 0)).1 S 10 + (itr (rY B gw gd nh) ng (v, 0)).2))) (B + 5) (i))) o S B ng nh nl ns ow gx gy gw gd := hJ.kp (kr_rPay hJ.q.1)
          generalize hv4 : (rPay (itr (rD B S) i (up2 (itr (rY B gw gd nh) ng (v, 0)).1 S 10 ((itr (rY B gw gd nh) ng (v, 0)).1 S 10 + (itr (rY B gw gd nh) ng (v, 0)).2))) B S i ((itr (rD B S) i (up2 (itr (rY B gw gd nh) ng (v, 0)).1 S 10 ((itr (rY B gw gd nh) ng (v, 0)).1 S 10 + (itr (rY B gw gd nh) ng (v, 0)).2))) (B + 5) (i))) = v4 at hW hJ
          refine lv_pop hx hb dX6_endYear_166 rfl ?_
          refine lv_aload_n hx hb dX6_endYear_167 rfl (lv_at hl 2 rfl) ?_
          refine q_getr hx hb hts hown hW (r := S) hJ.q.mS hJ.q.kS k_7 4 (by decide) rfl t_875 (a := ad (B + 4)) (hJ.q.oB 4 rfl) dX6_endYear_168 ?_
          refine lv_iload_n hx hb dX6_endYear_171 rfl (lv_at hl 0 rfl) ?_
          refine lv_iconst (v := 0) hx hb dX6_endYear_172 (by decide) ?_
          refine q_iast hx hb hW hS (r := (B + 4)) (hJ.q.mB 4 rfl) (hJ.q.k9 4 rfl (by decide)) (i) rfl (by rw [hJ.q.ln 4 rfl]; show _ < 6; omega) (by rw [hJ.q.ln 4 rfl]; decide) dX6_endYear_173 (fun H locs hW hS => ?_)
          have hJ : PJ L ad (up2 v4 (B + 4) (i) 0) o S B ng nh nl ns ow gx gy gw gd := hJ.kp (kr_b hJ.q.1 (by omega))
          generalize hv5 : (up2 v4 (B + 4) (i) 0) = v5 at hW hJ
          refine lv_iinc (v := (nI (i + 1))) (lv' := [(2, .int (nI (i + 1))), (1, .int ((itr (rY B gw gd nh) ng (v, 0)).2)), (0, .ref (ad S))]) hx hb dX6_endYear_174 hl (k := 0) rfl (inc_nI _) (by decide) rfl (fun ls hl => ?_)
          refine lv_goto (tgt := 147) hx hb dX6_endYear_177 (by decide) ?_
          subst hv5
          subst hv4
          exact ih_147 (i + 1) _   _ H locs ls (by omega) (by omega) (by rfl) (by rfl)  hW hS (lv_sub hl [0, 1, 2] rfl)
    · skip
      have hlt_4 := lt_i (n := ng) (by omega) hi_4 c_9
      refine lv_aload_n hx hb dX6_endYear_12 rfl (lv_at hl 2 rfl) ?_
      refine q_getr hx hb hts hown hW (r := S) hJ.q.mS hJ.q.kS k_7 2 (by decide) rfl t_871 (a := ad (B + 2)) (hJ.q.oB 2 rfl) dX6_endYear_13 ?_
      refine lv_iconst (v := 3) hx hb dX6_endYear_16 (by decide) ?_
      refine lv_iload_n hx hb dX6_endYear_17 rfl (lv_at hl 0 rfl) ?_
      refine lv_imul hx hb dX6_endYear_18 ?_
      refine lv_iconst (v := 1) hx hb dX6_endYear_19 (by decide) ?_
      refine lv_iadd hx hb dX6_endYear_20 ?_
      refine q_iald hx hb hW (r := (B + 2)) (hJ.q.mB 2 rfl) (hJ.q.k9 2 rfl (by decide)) (3 * i + 1) (ix_add (ix_mul rfl rfl) rfl) (by rw [hJ.q.ln 2 rfl]; show _ < 18; omega) (by rw [hJ.q.ln 2 rfl]; decide) (x := (((itr (rY B gw gd nh) i (v, 0)).1) (B + 2) (3 * i + 1))) rfl dX6_endYear_21 ?_
      refine lv_if_ne (tgt := 28) hx hb dX6_endYear_22 (by decide) (fun c_22 => ?_) (fun c_22 => ?_)
      · skip
        refine lv_aload_n hx hb dX6_endYear_28 rfl (lv_at hl 2 rfl) ?_
        refine q_getr hx hb hts hown hW (r := S) hJ.q.mS hJ.q.kS k_7 1 (by decide) rfl t_869 (a := ad (B + 1)) (hJ.q.oB 1 rfl) dX6_endYear_29 ?_
        refine lv_iload_n hx hb dX6_endYear_32 rfl (lv_at hl 0 rfl) ?_
        refine q_iald hx hb hW (r := (B + 1)) (hJ.q.mB 1 rfl) (hJ.q.k9 1 rfl (by decide)) (i) rfl (by rw [hJ.q.ln 1 rfl]; show _ < 6; omega) (by rw [hJ.q.ln 1 rfl]; decide) (x := (((itr (rY B gw gd nh) i (v, 0)).1) (B + 1) (i))) rfl dX6_endYear_33 ?_
        refine lv_aload_n hx hb dX6_endYear_34 rfl (lv_at hl 2 rfl) ?_
        refine lv_iload_n hx hb dX6_endYear_35 rfl (lv_at hl 0 rfl) ?_
        refine q_cViE (As := [.int (nI i)]) (rest := [.int (((itr (rY B gw gd nh) i (v, 0)).1) (B + 1) (i))]) (r := S) hx hb hml hts hown hE h0 hW hS (c_X6_valuesOf l hJ (nI i)) mw_X6_valuesOf hJ.q.mS hJ.q.kS k_7 t_1074 ⟨Nat.le_of_ble_eq_true rfl, Nat.le_of_ble_eq_true rfl⟩ rfl hl.1 (Nat.le_of_ble_eq_true rfl) dX6_endYear_36 ⟨Nat.zero_le _, Nat.zero_le _⟩ ⟨rfl, rfl⟩ (fun H locs hW hS => ?_)
        refine lv_aload_n hx hb dX6_endYear_39 rfl (lv_at hl 2 rfl) ?_
        refine q_getr hx hb hts hown hW (r := S) hJ.q.mS hJ.q.kS k_7 2 (by decide) rfl t_871 (a := ad (B + 2)) (hJ.q.oB 2 rfl) dX6_endYear_40 ?_
        refine lv_iconst (v := 3) hx hb dX6_endYear_43 (by decide) ?_
        refine lv_iload_n hx hb dX6_endYear_44 rfl (lv_at hl 0 rfl) ?_
        refine lv_imul hx hb dX6_endYear_45 ?_
        refine lv_iconst (v := 2) hx hb dX6_endYear_46 (by decide) ?_
        refine lv_iadd hx hb dX6_endYear_47 ?_
        refine q_iald hx hb hW (r := (B + 2)) (hJ.q.mB 2 rfl) (hJ.q.k9 2 rfl (by decide)) (3 * i + 2) (ix_add (ix_mul rfl rfl) rfl) (by rw [hJ.q.ln 2 rfl]; show _ < 18; omega) (by rw [hJ.q.ln 2 rfl]; decide) (x := (((itr (rY B gw gd nh) i (v, 0)).1) (B + 2) (3 * i + 2))) rfl dX6_endYear_48 ?_
        refine lv_imul hx hb dX6_endYear_49 ?_
        refine lv_sipush (v := 1000) hx hb dX6_endYear_50 (by decide) ?_
        refine lv_idiv hx hb dX6_endYear_53 (by decide) ?_
        refine lv_aload_n hx hb dX6_endYear_54 rfl (lv_at hl 2 rfl) ?_
        refine q_getr hx hb hts hown hW (r := S) hJ.q.mS hJ.q.kS k_7 3 (by decide) rfl t_873 (a := ad (B + 3)) (hJ.q.oB 3 rfl) dX6_endYear_55 ?_
        refine lv_iload_n hx hb dX6_endYear_58 rfl (lv_at hl 0 rfl) ?_
        refine q_iald hx hb hW (r := (B + 3)) (hJ.q.mB 3 rfl) (hJ.q.k9 3 rfl (by decide)) (i) rfl (by rw [hJ.q.ln 3 rfl]; show _ < 6; omega) (by rw [hJ.q.ln 3 rfl]; decide) (x := (((itr (rY B gw gd nh) i (v, 0)).1) (B + 3) (i))) rfl dX6_endYear_59 ?_
        refine lv_imul hx hb dX6_endYear_60 ?_
        refine lv_bipush (v := 100) hx hb dX6_endYear_61 (by decide) ?_
        refine lv_idiv hx hb dX6_endYear_63 (by decide) ?_
        refine q_min hx hb hml hl.1 hts hown m_min t_1075 (Nat.le_of_ble_eq_true rfl) (Nat.le_of_ble_eq_true rfl) (Nat.zero_le _) (Nat.zero_le _) dX6_endYear_64 ?_
        refine lv_istore_n (lv' := [(3, .int (imin (((itr (rY B gw gd nh) i (v, 0)).1) (B + 1) (i)) (((((rVals ((itr (rY B gw gd nh) i (v, 0)).1) B gw gd nh (nI i)) * (((itr (rY B gw gd nh) i (v, 0)).1) (B + 2) (3 * i + 2))) / 1000) * (((itr (rY B gw gd nh) i (v, 0)).1) (B + 3) (i))) / 100))), (2, .int (nI i)), (1, .int ((itr (rY B gw gd nh) i (v, 0)).2)), (0, .ref (ad S))]) hx hb dX6_endYear_67 rfl hl (by decide) rfl (fun ls hl => ?_)
        refine lv_aload_n hx hb dX6_endYear_68 rfl (lv_at hl 3 rfl) ?_
        refine q_getr hx hb hts hown hW (r := S) hJ.q.mS hJ.q.kS k_7 1 (by decide) rfl t_869 (a := ad (B + 1)) (hJ.q.oB 1 rfl) dX6_endYear_69 ?_
        refine lv_iload_n hx hb dX6_endYear_72 rfl (lv_at hl 1 rfl) ?_
        refine lv_dup2_11 hx hb dX6_endYear_73 rfl rfl ?_
        refine q_iald hx hb hW (r := (B + 1)) (hJ.q.mB 1 rfl) (hJ.q.k9 1 rfl (by decide)) (i) rfl (by rw [hJ.q.ln 1 rfl]; show _ < 6; omega) (by rw [hJ.q.ln 1 rfl]; decide) (x := (((itr (rY B gw gd nh) i (v, 0)).1) (B + 1) (i))) rfl dX6_endYear_74 ?_
        refine lv_iload_n hx hb dX6_endYear_75 rfl (lv_at hl 0 rfl) ?_
        refine lv_isub hx hb dX6_endYear_76 ?_
        refine q_iast hx hb hW hS (r := (B + 1)) (hJ.q.mB 1 rfl) (hJ.q.k9 1 rfl (by decide)) (i) rfl (by rw [hJ.q.ln 1 rfl]; show _ < 6; omega) (by rw [hJ.q.ln 1 rfl]; decide) dX6_endYear_77 (fun H locs hW hS => ?_)
        have hJ : PJ L ad (up2 ((itr (rY B gw gd nh) i (v, 0)).1) (B + 1) (i) ((((itr (rY B gw gd nh) i (v, 0)).1) (B + 1) (i)) - (imin (((itr (rY B gw gd nh) i (v, 0)).1) (B + 1) (i)) (((((rVals ((itr (rY B gw gd nh) i (v, 0)).1) B gw gd nh (nI i)) * (((itr (rY B gw gd nh) i (v, 0)).1) (B + 2) (3 * i + 2))) / 1000) * (((itr (rY B gw gd nh) i (v, 0)).1) (B + 3) (i))) / 100)))) o S B ng nh nl ns ow gx gy gw gd := hJ.kp (kr_b hJ.q.1 (by omega))
        generalize hv6 : (up2 ((itr (rY B gw gd nh) i (v, 0)).1) (B + 1) (i) ((((itr (rY B gw gd nh) i (v, 0)).1) (B + 1) (i)) - (imin (((itr (rY B gw gd nh) i (v, 0)).1) (B + 1) (i)) (((((rVals ((itr (rY B gw gd nh) i (v, 0)).1) B gw gd nh (nI i)) * (((itr (rY B gw gd nh) i (v, 0)).1) (B + 2) (3 * i + 2))) / 1000) * (((itr (rY B gw gd nh) i (v, 0)).1) (B + 3) (i))) / 100)))) = v6 at hW hJ
        refine lv_iload_n hx hb dX6_endYear_78 rfl (lv_at hl 2 rfl) ?_
        refine lv_iload_n hx hb dX6_endYear_79 rfl (lv_at hl 0 rfl) ?_
        refine lv_iadd hx hb dX6_endYear_80 ?_
        refine lv_istore_n (lv' := [(1, .int (((itr (rY B gw gd nh) i (v, 0)).2) + (imin (((itr (rY B gw gd nh) i (v, 0)).1) (B + 1) (i)) (((((rVals ((itr (rY B gw gd nh) i (v, 0)).1) B gw gd nh (nI i)) * (((itr (rY B gw gd nh) i (v, 0)).1) (B + 2) (3 * i + 2))) / 1000) * (((itr (rY B gw gd nh) i (v, 0)).1) (B + 3) (i))) / 100)))), (3, .int (imin (((itr (rY B gw gd nh) i (v, 0)).1) (B + 1) (i)) (((((rVals ((itr (rY B gw gd nh) i (v, 0)).1) B gw gd nh (nI i)) * (((itr (rY B gw gd nh) i (v, 0)).1) (B + 2) (3 * i + 2))) / 1000) * (((itr (rY B gw gd nh) i (v, 0)).1) (B + 3) (i))) / 100))), (2, .int (nI i)), (0, .ref (ad S))]) hx hb dX6_endYear_81 rfl hl (by decide) rfl (fun ls hl => ?_)
        refine lv_aload_n hx hb dX6_endYear_82 rfl (lv_at hl 3 rfl) ?_
        refine q_getr hx hb hts hown hW (r := S) hJ.q.mS hJ.q.kS k_7 3 (by decide) rfl t_873 (a := ad (B + 3)) (hJ.q.oB 3 rfl) dX6_endYear_83 ?_
        refine lv_iload_n hx hb dX6_endYear_86 rfl (lv_at hl 2 rfl) ?_
        refine lv_aload_n hx hb dX6_endYear_87 rfl (lv_at hl 3 rfl) ?_
        refine q_getr hx hb hts hown hW (r := S) hJ.q.mS hJ.q.kS k_7 4 (by decide) rfl t_875 (a := ad (B + 4)) (hJ.q.oB 4 rfl) dX6_endYear_88 ?_
        refine lv_iload_n hx hb dX6_endYear_91 rfl (lv_at hl 2 rfl) ?_
        refine q_iald hx hb hW (r := (B + 4)) (hJ.q.mB 4 rfl) (hJ.q.k9 4 rfl (by decide)) (i) rfl (by rw [hJ.q.ln 4 rfl]; show _ < 6; omega) (by rw [hJ.q.ln 4 rfl]; decide) (x := (v6 (B + 4) (i))) rfl dX6_endYear_92 ?_
        refine lv_if_le (tgt := 114) hx hb dX6_endYear_93 (by decide) (fun c_93 => ?_) (fun c_93 => ?_)
        · skip
          refine lv_bipush (v := 50) hx hb dX6_endYear_114 (by decide) ?_
          refine lv_aload_n hx hb dX6_endYear_116 rfl (lv_at hl 3 rfl) ?_
          refine q_getr hx hb hts hown hW (r := S) hJ.q.mS hJ.q.kS k_7 3 (by decide) rfl t_873 (a := ad (B + 3)) (hJ.q.oB 3 rfl) dX6_endYear_117 ?_
          refine lv_iload_n hx hb dX6_endYear_120 rfl (lv_at hl 2 rfl) ?_
          refine q_iald hx hb hW (r := (B + 3)) (hJ.q.mB 3 rfl) (hJ.q.k9 3 rfl (by decide)) (i) rfl (by rw [hJ.q.ln 3 rfl]; show _ < 6; omega) (by rw [hJ.q.ln 3 rfl]; decide) (x := (v6 (B + 3) (i))) rfl dX6_endYear_121 ?_
          refine lv_bipush (v := 10) hx hb dX6_endYear_122 (by decide) ?_
          refine lv_isub hx hb dX6_endYear_124 ?_
          refine q_max hx hb hml hl.1 hts hown m_max t_1076 (Nat.le_of_ble_eq_true rfl) (Nat.le_of_ble_eq_true rfl) (Nat.zero_le _) (Nat.zero_le _) dX6_endYear_125 ?_
          refine lv_topi (fun xt et => ?_)
          obtain rfl : xt = if 0 < v6 (B + 4) i then imin 200 (v6 (B + 3) i + 20) else imax 50 (v6 (B + 3) i - 10) := et.trans (by first | rw [if_pos (Int32.not_le.mp c_93)] | rw [if_neg (Int32.not_lt.mpr c_93)])
          clear et
          refine q_iast hx hb hW hS (r := (B + 3)) (hJ.q.mB 3 rfl) (hJ.q.k9 3 rfl (by decide)) (i) rfl (by rw [hJ.q.ln 3 rfl]; show _ < 6; omega) (by rw [hJ.q.ln 3 rfl]; decide) dX6_endYear_128 (fun H locs hW hS => ?_)
          have hJ : PJ L ad (up2 v6 (B + 3) (i) (if 0 < v6 (B + 4) i then imin 200 (v6 (B + 3) i + 20) else imax 50 (v6 (B + 3) i - 10))) o S B ng nh nl ns ow gx gy gw gd := hJ.kp (kr_b hJ.q.1 (by omega))
          generalize hv7 : (up2 v6 (B + 3) (i) (if 0 < v6 (B + 4) i then imin 200 (v6 (B + 3) i + 20) else imax 50 (v6 (B + 3) i - 10))) = v7 at hW hJ
          refine lv_iinc (v := (nI (i + 1))) (lv' := [(2, .int (nI (i + 1))), (1, .int (((itr (rY B gw gd nh) i (v, 0)).2) + (imin (((itr (rY B gw gd nh) i (v, 0)).1) (B + 1) (i)) (((((rVals ((itr (rY B gw gd nh) i (v, 0)).1) B gw gd nh (nI i)) * (((itr (rY B gw gd nh) i (v, 0)).1) (B + 2) (3 * i + 2))) / 1000) * (((itr (rY B gw gd nh) i (v, 0)).1) (B + 3) (i))) / 100)))), (3, .int (imin (((itr (rY B gw gd nh) i (v, 0)).1) (B + 1) (i)) (((((rVals ((itr (rY B gw gd nh) i (v, 0)).1) B gw gd nh (nI i)) * (((itr (rY B gw gd nh) i (v, 0)).1) (B + 2) (3 * i + 2))) / 1000) * (((itr (rY B gw gd nh) i (v, 0)).1) (B + 3) (i))) / 100))), (0, .ref (ad S))]) hx hb dX6_endYear_129 hl (k := 2) rfl (inc_nI _) (by decide) rfl (fun ls hl => ?_)
          refine lv_goto (tgt := 4) hx hb dX6_endYear_132 (by decide) ?_
          subst hv7
          subst hv6
          exact ih_4 (i + 1) _ _   _ H locs ls (by omega) (by omega) (by rw [itr_s]; first | exact congrArg Prod.snd (rY_0 c_22) | exact (congrArg Prod.snd (rY_1 c_22)).trans rfl) (by rfl) (by rw [itr_s]; first | exact congrArg Prod.fst (rY_0 c_22) | exact (congrArg Prod.fst (rY_1 c_22)).trans rfl)  hW hS (lv_sub hl [0, 1, 3] rfl)
        · skip
          refine lv_sipush (v := 200) hx hb dX6_endYear_96 (by decide) ?_
          refine lv_aload_n hx hb dX6_endYear_99 rfl (lv_at hl 3 rfl) ?_
          refine q_getr hx hb hts hown hW (r := S) hJ.q.mS hJ.q.kS k_7 3 (by decide) rfl t_873 (a := ad (B + 3)) (hJ.q.oB 3 rfl) dX6_endYear_100 ?_
          refine lv_iload_n hx hb dX6_endYear_103 rfl (lv_at hl 2 rfl) ?_
          refine q_iald hx hb hW (r := (B + 3)) (hJ.q.mB 3 rfl) (hJ.q.k9 3 rfl (by decide)) (i) rfl (by rw [hJ.q.ln 3 rfl]; show _ < 6; omega) (by rw [hJ.q.ln 3 rfl]; decide) (x := (v6 (B + 3) (i))) rfl dX6_endYear_104 ?_
          refine lv_bipush (v := 20) hx hb dX6_endYear_105 (by decide) ?_
          refine lv_iadd hx hb dX6_endYear_107 ?_
          refine q_min hx hb hml hl.1 hts hown m_min t_1075 (Nat.le_of_ble_eq_true rfl) (Nat.le_of_ble_eq_true rfl) (Nat.zero_le _) (Nat.zero_le _) dX6_endYear_108 ?_
          refine lv_goto (tgt := 128) hx hb dX6_endYear_111 (by decide) ?_
          refine lv_topi (fun xt et => ?_)
          obtain rfl : xt = if 0 < v6 (B + 4) i then imin 200 (v6 (B + 3) i + 20) else imax 50 (v6 (B + 3) i - 10) := et.trans (by first | rw [if_pos (Int32.not_le.mp c_93)] | rw [if_neg (Int32.not_lt.mpr c_93)])
          clear et
          refine q_iast hx hb hW hS (r := (B + 3)) (hJ.q.mB 3 rfl) (hJ.q.k9 3 rfl (by decide)) (i) rfl (by rw [hJ.q.ln 3 rfl]; show _ < 6; omega) (by rw [hJ.q.ln 3 rfl]; decide) dX6_endYear_128 (fun H locs hW hS => ?_)
          have hJ : PJ L ad (up2 v6 (B + 3) (i) (if 0 < v6 (B + 4) i then imin 200 (v6 (B + 3) i + 20) else imax 50 (v6 (B + 3) i - 10))) o S B ng nh nl ns ow gx gy gw gd := hJ.kp (kr_b hJ.q.1 (by omega))
          generalize hv8 : (up2 v6 (B + 3) (i) (if 0 < v6 (B + 4) i then imin 200 (v6 (B + 3) i + 20) else imax 50 (v6 (B + 3) i - 10))) = v8 at hW hJ
          refine lv_iinc (v := (nI (i + 1))) (lv' := [(2, .int (nI (i + 1))), (1, .int (((itr (rY B gw gd nh) i (v, 0)).2) + (imin (((itr (rY B gw gd nh) i (v, 0)).1) (B + 1) (i)) (((((rVals ((itr (rY B gw gd nh) i (v, 0)).1) B gw gd nh (nI i)) * (((itr (rY B gw gd nh) i (v, 0)).1) (B + 2) (3 * i + 2))) / 1000) * (((itr (rY B gw gd nh) i (v, 0)).1) (B + 3) (i))) / 100)))), (3, .int (imin (((itr (rY B gw gd nh) i (v, 0)).1) (B + 1) (i)) (((((rVals ((itr (rY B gw gd nh) i (v, 0)).1) B gw gd nh (nI i)) * (((itr (rY B gw gd nh) i (v, 0)).1) (B + 2) (3 * i + 2))) / 1000) * (((itr (rY B gw gd nh) i (v, 0)).1) (B + 3) (i))) / 100))), (0, .ref (ad S))]) hx hb dX6_endYear_129 hl (k := 2) rfl (inc_nI _) (by decide) rfl (fun ls hl => ?_)
          refine lv_goto (tgt := 4) hx hb dX6_endYear_132 (by decide) ?_
          subst hv8
          subst hv6
          exact ih_4 (i + 1) _ _   _ H locs ls (by omega) (by omega) (by rw [itr_s]; first | exact congrArg Prod.snd (rY_0 c_22) | exact (congrArg Prod.snd (rY_1 c_22)).trans rfl) (by rfl) (by rw [itr_s]; first | exact congrArg Prod.fst (rY_0 c_22) | exact (congrArg Prod.fst (rY_1 c_22)).trans rfl)  hW hS (lv_sub hl [0, 1, 3] rfl)
      · skip
        refine lv_goto (tgt := 129) hx hb dX6_endYear_25 (by decide) ?_
        refine lv_iinc (v := (nI (i + 1))) (lv' := [(2, .int (nI (i + 1))), (1, .int ((itr (rY B gw gd nh) i (v, 0)).2)), (0, .ref (ad S))]) hx hb dX6_endYear_129 hl (k := 0) rfl (inc_nI _) (by decide) rfl (fun ls hl => ?_)
        refine lv_goto (tgt := 4) hx hb dX6_endYear_132 (by decide) ?_
        exact ih_4 (i + 1) _ _   _ H locs ls (by omega) (by omega) (by rw [itr_s]; first | exact congrArg Prod.snd (rY_0 c_22) | exact (congrArg Prod.snd (rY_1 c_22)).trans rfl) (by rfl) (by rw [itr_s]; first | exact congrArg Prod.fst (rY_0 c_22) | exact (congrArg Prod.fst (rY_1 c_22)).trans rfl)  hW hS (lv_sub hl [0, 1, 2] rfl)
