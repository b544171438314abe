/-! the class: small methods, and those that only read -/
set_option maxHeartbeats 4000000 in
set_option maxRecDepth 100000 in
theorem c_X0_claimFor (l : Launch) {G : GG} {L : List Nat} {ad : Nat → Nat} {v : Nat → Nat → Int32} {o : Nat → Nat → Option Nat} {w : Nat → Int64} {ng nh nl ns : Nat} {ow gx gy gw gd : Nat → Nat} (hI : PI G.2.2.2 L ad v o ng nh nl ns ow gx gy gw gd) {g : Nat} (hg : g < ng) (d : Int32) : CtI l G L ad v o w yX0_claimFor cX0_claimFor 2 .int ({ frames := 1, cells := 0, slots := 0, locals := 14 }) [.ref (ad (50 + g)), .int d] (fun r u => r = fClaim v (50 + g) d ∧ u = v) := by
  refine q_ofI (by decide) (Nat.le_of_ble_eq_true rfl) ?_
  intro p e s m below meth c hx hb hr hml hts hown hlocks hE h0 hW hS ls hl
  generalize hH : s.heap = H at hW
  have hS : va_S (Ab G.2.2.1) s.heap H [] := hH ▸ hS
  obtain ⟨locs, hlc⟩ : ∃ z : List Loc, z = [] := ⟨_, rfl⟩
  rw [← hlc] at hS ⊢
  have hl : lv_has ls 2 [(0, .ref (ad (50 + g))), (1, .int d)] := hl
  refine lv_aload_n hx hb dX0_claimFor_0 rfl (lv_at hl 0 rfl) ?_
  refine q_get hx hb hts hown hW (r := (50 + g)) (hI.mg hg) (hI.kg hg) k_1 1 (by decide) rfl t_412 (x := (v (50 + g) 1)) rfl dX0_claimFor_1 ?_
  refine lv_if_ne (tgt := 9) hx hb dX0_claimFor_4 (by decide) (fun c_4 => ?_) (fun c_4 => ?_)
  · skip
    refine lv_iconst (v := 0) hx hb dX0_claimFor_9 (by decide) ?_
    refine lv_iload_n hx hb dX0_claimFor_10 rfl (lv_at hl 1 rfl) ?_
    refine lv_aload_n hx hb dX0_claimFor_11 rfl (lv_at hl 0 rfl) ?_
    refine q_get hx hb hts hown hW (r := (50 + g)) (hI.mg hg) (hI.kg hg) k_1 2 (by decide) rfl t_414 (x := (v (50 + g) 2)) rfl dX0_claimFor_12 ?_
    refine lv_isub hx hb dX0_claimFor_15 ?_
    refine lv_aload_n hx hb dX0_claimFor_16 rfl (lv_at hl 0 rfl) ?_
    refine q_get hx hb hts hown hW (r := (50 + g)) (hI.mg hg) (hI.kg hg) k_1 3 (by decide) rfl t_416 (x := (v (50 + g) 3)) rfl dX0_claimFor_17 ?_
    refine lv_aload_n hx hb dX0_claimFor_20 rfl (lv_at hl 0 rfl) ?_
    refine q_get hx hb hts hown hW (r := (50 + g)) (hI.mg hg) (hI.kg hg) k_1 6 (by decide) rfl t_422 (x := (v (50 + g) 6)) rfl dX0_claimFor_21 ?_
    refine lv_isub hx hb dX0_claimFor_24 ?_
    refine q_min hx hb hml hl.1 hts hown m_min t_216 (Nat.le_of_ble_eq_true rfl) (Nat.le_of_ble_eq_true rfl) (Nat.zero_le _) (Nat.zero_le _) dX0_claimFor_25 ?_
    refine q_max hx hb hml hl.1 hts hown m_max t_223 (Nat.le_of_ble_eq_true rfl) (Nat.le_of_ble_eq_true rfl) (Nat.zero_le _) (Nat.zero_le _) dX0_claimFor_28 ?_
    exact q_iret hx hb hr hlocks hW hS (Nat.le_refl _) (Nat.le_refl _) dX0_claimFor_31 (⟨by simp [fClaim, c_4], rfl⟩)
  · skip
    refine lv_iconst (v := 0) hx hb dX0_claimFor_7 (by decide) ?_
    exact q_iret hx hb hr hlocks hW hS (Nat.le_refl _) (Nat.le_refl _) dX0_claimFor_8 (⟨by simp [fClaim, c_4], rfl⟩)

set_option maxHeartbeats 4000000 in
set_option maxRecDepth 100000 in
theorem c_X0_premiumFor (l : Launch) {G : GG} {L : List Nat} {ad : Nat → Nat} {v : Nat → Nat → Int32} {o : Nat → Nat → Option Nat} {w : Nat → Int64} {ng nh nl ns : Nat} {ow gx gy gw gd : Nat → Nat} (hI : PI G.2.2.2 L ad v o ng nh nl ns ow gx gy gw gd) {g : Nat} (hg : g < ng) (d : Int32) : CtI l G L ad v o w yX0_premiumFor cX0_premiumFor 2 .int ({ frames := 1, cells := 0, slots := 0, locals := 13 }) [.ref (ad (50 + g)), .int d] (fun r u => r = fPrem v (50 + g) d ∧ u = v) := by
  refine q_ofI (by decide) (Nat.le_of_ble_eq_true rfl) ?_
  intro p e s m below meth c hx hb hr hml hts hown hlocks hE h0 hW hS ls hl
  generalize hH : s.heap = H at hW
  have hS : va_S (Ab G.2.2.1) s.heap H [] := hH ▸ hS
  obtain ⟨locs, hlc⟩ : ∃ z : List Loc, z = [] := ⟨_, rfl⟩
  rw [← hlc] at hS ⊢
  have hl : lv_has ls 2 [(0, .ref (ad (50 + g))), (1, .int d)] := hl
  refine lv_aload_n hx hb dX0_premiumFor_0 rfl (lv_at hl 0 rfl) ?_
  refine q_get hx hb hts hown hW (r := (50 + g)) (hI.mg hg) (hI.kg hg) k_1 1 (by decide) rfl t_412 (x := (v (50 + g) 1)) rfl dX0_premiumFor_1 ?_
  refine lv_if_ne (tgt := 9) hx hb dX0_premiumFor_4 (by decide) (fun c_4 => ?_) (fun c_4 => ?_)
  · skip
    refine lv_iload_n hx hb dX0_premiumFor_9 rfl (lv_at hl 1 rfl) ?_
    refine lv_aload_n hx hb dX0_premiumFor_10 rfl (lv_at hl 0 rfl) ?_
    refine q_get hx hb hts hown hW (r := (50 + g)) (hI.mg hg) (hI.kg hg) k_1 4 (by decide) rfl t_418 (x := (v (50 + g) 4)) rfl dX0_premiumFor_11 ?_
    refine lv_imul hx hb dX0_premiumFor_14 ?_
    refine lv_sipush (v := 1000) hx hb dX0_premiumFor_15 (by decide) ?_
    refine lv_idiv hx hb dX0_premiumFor_18 (by decide) ?_
    refine lv_aload_n hx hb dX0_premiumFor_19 rfl (lv_at hl 0 rfl) ?_
    refine q_get hx hb hts hown hW (r := (50 + g)) (hI.mg hg) (hI.kg hg) k_1 5 (by decide) rfl t_420 (x := (v (50 + g) 5)) rfl dX0_premiumFor_20 ?_
    refine lv_imul hx hb dX0_premiumFor_23 ?_
    refine lv_bipush (v := 100) hx hb dX0_premiumFor_24 (by decide) ?_
    refine lv_idiv hx hb dX0_premiumFor_26 (by decide) ?_
    refine lv_aload_n hx hb dX0_premiumFor_27 rfl (lv_at hl 0 rfl) ?_
    refine q_get hx hb hts hown hW (r := (50 + g)) (hI.mg hg) (hI.kg hg) k_1 0 (by decide) rfl t_410 (x := (v (50 + g) 0)) rfl dX0_premiumFor_28 ?_
    refine q_min hx hb hml hl.1 hts hown m_min t_216 (Nat.le_of_ble_eq_true rfl) (Nat.le_of_ble_eq_true rfl) (Nat.zero_le _) (Nat.zero_le _) dX0_premiumFor_31 ?_
    exact q_iret hx hb hr hlocks hW hS (Nat.le_refl _) (Nat.le_refl _) dX0_premiumFor_34 (⟨by simp [fPrem, c_4], rfl⟩)
  · skip
    refine lv_iconst (v := 0) hx hb dX0_premiumFor_7 (by decide) ?_
    exact q_iret hx hb hr hlocks hW hS (Nat.le_refl _) (Nat.le_refl _) dX0_premiumFor_8 (⟨by simp [fPrem, c_4], rfl⟩)

set_option maxHeartbeats 4000000 in
set_option maxRecDepth 100000 in
theorem c_X0_changeFactor (l : Launch) {G : GG} {L : List Nat} {ad : Nat → Nat} {v : Nat → Nat → Int32} {o : Nat → Nat → Option Nat} {w : Nat → Int64} {ng nh nl ns : Nat} {ow gx gy gw gd : Nat → Nat} (hI : PI G.2.2.2 L ad v o ng nh nl ns ow gx gy gw gd) {g : Nat} (hg : g < ng) : CtV l G L ad v o w yX0_changeFactor cX0_changeFactor 1 ({ frames := 1, cells := 0, slots := 0, locals := 14 }) [.ref (ad (50 + g))] (fun u => u = fChg v (50 + g)) := by
  refine q_ofV (by decide) (Nat.le_of_ble_eq_true rfl) ?_
  intro p e s m below meth c hx hb hr hml hts hown hlocks hE h0 hW hS hin ls hl
  generalize hH : s.heap = H at hW
  have hS : va_S (Ab G.2.2.1) s.heap H [] := hH ▸ hS
  obtain ⟨locs, hlc⟩ : ∃ z : List Loc, z = [] := ⟨_, rfl⟩
  rw [← hlc] at hS ⊢
  have hl : lv_has ls 1 [(0, .ref (ad (50 + g)))] := hl
  refine lv_aload_n hx hb dX0_changeFactor_0 rfl (lv_at hl 0 rfl) ?_
  refine q_get hx hb hts hown hW (r := (50 + g)) (hI.mg hg) (hI.kg hg) k_1 1 (by decide) rfl t_412 (x := (v (50 + g) 1)) rfl dX0_changeFactor_1 ?_
  refine lv_if_ne (tgt := 8) hx hb dX0_changeFactor_4 (by decide) (fun c_4 => ?_) (fun c_4 => ?_)
  · skip
    refine lv_aload_n hx hb dX0_changeFactor_8 rfl (lv_at hl 0 rfl) ?_
    refine lv_aload_n hx hb dX0_changeFactor_9 rfl (lv_at hl 0 rfl) ?_
    refine q_get hx hb hts hown hW (r := (50 + g)) (hI.mg hg) (hI.kg hg) k_1 6 (by decide) rfl t_422 (x := (v (50 + g) 6)) rfl dX0_changeFactor_10 ?_
    refine lv_if_le (tgt := 32) hx hb dX0_changeFactor_13 (by decide) (fun c_13 => ?_) (fun c_13 => ?_)
    · skip
      refine lv_bipush (v := 50) hx hb dX0_changeFactor_32 (by decide) ?_
      refine lv_aload_n hx hb dX0_changeFactor_34 rfl (lv_at hl 0 rfl) ?_
      refine q_get hx hb hts hown hW (r := (50 + g)) (hI.mg hg) (hI.kg hg) k_1 5 (by decide) rfl t_420 (x := (v (50 + g) 5)) rfl dX0_changeFactor_35 ?_
      refine lv_bipush (v := 10) hx hb dX0_changeFactor_38 (by decide) ?_
      refine lv_isub hx hb dX0_changeFactor_40 ?_
      refine q_max hx hb hml hl.1 hts hown m_max t_223 (Nat.le_of_ble_eq_true rfl) (Nat.le_of_ble_eq_true rfl) (Nat.zero_le _) (Nat.zero_le _) dX0_changeFactor_41 ?_
      refine q_put hx hb hts hown hW hS (r := (50 + g)) (hI.mg hg) (hI.kg hg) k_1 5 (by decide) rfl t_420 rfl (t := .int) (by decide +kernel) rfl rfl dX0_changeFactor_44 (fun H locs hW hS => ?_)
      generalize hv1 : (up2 v (50 + g) 5 (imax 50 ((v (50 + g) 5) - 10))) = v1 at hW
      subst hv1
      exact q_vret hx hb hr hlocks hW hS (Nat.le_refl _) (Nat.le_refl _) dX0_changeFactor_47 (by first | (simp [fChg, c_4]; done) | (simp only [fChg]; rw [if_neg c_4, if_pos (Int32.not_le.mp c_13)]) | (simp only [fChg]; rw [if_neg c_4, if_neg (Int32.not_lt.mpr c_13)]))
    · skip
      refine lv_sipush (v := 200) hx hb dX0_changeFactor_16 (by decide) ?_
      refine lv_aload_n hx hb dX0_changeFactor_19 rfl (lv_at hl 0 rfl) ?_
      refine q_get hx hb hts hown hW (r := (50 + g)) (hI.mg hg) (hI.kg hg) k_1 5 (by decide) rfl t_420 (x := (v (50 + g) 5)) rfl dX0_changeFactor_20 ?_
      refine lv_bipush (v := 20) hx hb dX0_changeFactor_23 (by decide) ?_
      refine lv_iadd hx hb dX0_changeFactor_25 ?_
      refine q_min hx hb hml hl.1 hts hown m_min t_216 (Nat.le_of_ble_eq_true rfl) (Nat.le_of_ble_eq_true rfl) (Nat.zero_le _) (Nat.zero_le _) dX0_changeFactor_26 ?_
      refine lv_goto (tgt := 44) hx hb dX0_changeFactor_29 (by decide) ?_
      refine q_put hx hb hts hown hW hS (r := (50 + g)) (hI.mg hg) (hI.kg hg) k_1 5 (by decide) rfl t_420 rfl (t := .int) (by decide +kernel) rfl rfl dX0_changeFactor_44 (fun H locs hW hS => ?_)
      generalize hv2 : (up2 v (50 + g) 5 (imin 200 ((v (50 + g) 5) + 20))) = v2 at hW
      subst hv2
      exact q_vret hx hb hr hlocks hW hS (Nat.le_refl _) (Nat.le_refl _) dX0_changeFactor_47 (by first | (simp [fChg, c_4]; done) | (simp only [fChg]; rw [if_neg c_4, if_pos (Int32.not_le.mp c_13)]) | (simp only [fChg]; rw [if_neg c_4, if_neg (Int32.not_lt.mpr c_13)]))
  · skip
    exact q_vret hx hb hr hlocks hW hS (Nat.le_refl _) (Nat.le_refl _) dX0_changeFactor_7 (by first | (simp [fChg, c_4]; done) | (simp only [fChg]; rw [if_neg c_4, if_pos (Int32.not_le.mp c_13)]) | (simp only [fChg]; rw [if_neg c_4, if_neg (Int32.not_lt.mpr c_13)]))

set_option maxHeartbeats 4000000 in
set_option maxRecDepth 100000 in
theorem c_X1_paneCount (l : Launch) {G : GG} {L : List Nat} {ad : Nat → Nat} {v : Nat → Nat → Int32} {o : Nat → Nat → Option Nat} {w : Nat → Int64} {ng nh nl ns : Nat} {ow gx gy gw gd : Nat → Nat} (hI : PI G.2.2.2 L ad v o ng nh nl ns ow gx gy gw gd) {h : Nat} (hh : h < nh) : CtI l G L ad v o w yX1_paneCount cX1_paneCount 1 .int ({ frames := 0, cells := 0, slots := 0, locals := 0 }) [.ref (ad (60 + h))] (fun r u => r = v (60 + h) 3 * v (60 + h) 4 ∧ u = v) := by
  refine q_ofI (by decide) (Nat.le_of_ble_eq_true rfl) ?_
  intro p e s m below meth c hx hb hr hml hts hown hlocks hE h0 hW hS ls hl
  generalize hH : s.heap = H at hW
  have hS : va_S (Ab G.2.2.1) s.heap H [] := hH ▸ hS
  obtain ⟨locs, hlc⟩ : ∃ z : List Loc, z = [] := ⟨_, rfl⟩
  rw [← hlc] at hS ⊢
  have hl : lv_has ls 1 [(0, .ref (ad (60 + h)))] := hl
  refine lv_aload_n hx hb dX1_paneCount_0 rfl (lv_at hl 0 rfl) ?_
  refine q_get hx hb hts hown hW (r := (60 + h)) (hI.mh hh) (hI.kh hh) k_2 3 (by decide) rfl t_556 (x := (v (60 + h) 3)) rfl dX1_paneCount_1 ?_
  refine lv_aload_n hx hb dX1_paneCount_4 rfl (lv_at hl 0 rfl) ?_
  refine q_get hx hb hts hown hW (r := (60 + h)) (hI.mh hh) (hI.kh hh) k_2 4 (by decide) rfl t_558 (x := (v (60 + h) 4)) rfl dX1_paneCount_5 ?_
  refine lv_imul hx hb dX1_paneCount_8 ?_
  exact q_iret hx hb hr hlocks hW hS (Nat.le_refl _) (Nat.le_refl _) dX1_paneCount_9 (⟨rfl, rfl⟩)

set_option maxHeartbeats 4000000 in
set_option maxRecDepth 100000 in
theorem c_X1_values (l : Launch) {G : GG} {L : List Nat} {ad : Nat → Nat} {v : Nat → Nat → Int32} {o : Nat → Nat → Option Nat} {w : Nat → Int64} {ng nh nl ns : Nat} {ow gx gy gw gd : Nat → Nat} (hI : PI G.2.2.2 L ad v o ng nh nl ns ow gx gy gw gd) {h : Nat} (hh : h < nh) : CtI l G L ad v o w yX1_values cX1_values 1 .int ({ frames := 0, cells := 0, slots := 0, locals := 0 }) [.ref (ad (60 + h))] (fun r u => r = hVal v h ∧ u = v) := by
  refine q_ofI (by decide) (Nat.le_of_ble_eq_true rfl) ?_
  intro p e s m below meth c hx hb hr hml hts hown hlocks hE h0 hW hS ls hl
  generalize hH : s.heap = H at hW
  have hS : va_S (Ab G.2.2.1) s.heap H [] := hH ▸ hS
  obtain ⟨locs, hlc⟩ : ∃ z : List Loc, z = [] := ⟨_, rfl⟩
  rw [← hlc] at hS ⊢
  have hl : lv_has ls 1 [(0, .ref (ad (60 + h)))] := hl
  refine lv_aload_n hx hb dX1_values_0 rfl (lv_at hl 0 rfl) ?_
  refine q_get hx hb hts hown hW (r := (60 + h)) (hI.mh hh) (hI.kh hh) k_2 3 (by decide) rfl t_556 (x := (v (60 + h) 3)) rfl dX1_values_1 ?_
  refine lv_aload_n hx hb dX1_values_4 rfl (lv_at hl 0 rfl) ?_
  refine q_get hx hb hts hown hW (r := (60 + h)) (hI.mh hh) (hI.kh hh) k_2 4 (by decide) rfl t_558 (x := (v (60 + h) 4)) rfl dX1_values_5 ?_
  refine lv_imul hx hb dX1_values_8 ?_
  refine lv_aload_n hx hb dX1_values_9 rfl (lv_at hl 0 rfl) ?_
  refine q_get hx hb hts hown hW (r := (60 + h)) (hI.mh hh) (hI.kh hh) k_2 6 (by decide) rfl t_563 (x := (v (60 + h) 6)) rfl dX1_values_10 ?_
  refine lv_imul hx hb dX1_values_13 ?_
  exact q_iret hx hb hr hlocks hW hS (Nat.le_refl _) (Nat.le_refl _) dX1_values_14 (⟨rfl, rfl⟩)

set_option maxHeartbeats 4000000 in
set_option maxRecDepth 100000 in
theorem c_X1_lostByCrack (l : Launch) {G : GG} {L : List Nat} {ad : Nat → Nat} {v : Nat → Nat → Int32} {o : Nat → Nat → Option Nat} {w : Nat → Int64} {ng nh nl ns : Nat} {ow gx gy gw gd : Nat → Nat} (hI : PI G.2.2.2 L ad v o ng nh nl ns ow gx gy gw gd) {h : Nat} (hh : h < nh) : CtI l G L ad v o w yX1_lostByCrack cX1_lostByCrack 1 .int ({ frames := 0, cells := 0, slots := 0, locals := 0 }) [.ref (ad (60 + h))] (fun r u => r = v (60 + h) 6 / 2 ∧ u = v) := by
  refine q_ofI (by decide) (Nat.le_of_ble_eq_true rfl) ?_
  intro p e s m below meth c hx hb hr hml hts hown hlocks hE h0 hW hS ls hl
  generalize hH : s.heap = H at hW
  have hS : va_S (Ab G.2.2.1) s.heap H [] := hH ▸ hS
  obtain ⟨locs, hlc⟩ : ∃ z : List Loc, z = [] := ⟨_, rfl⟩
  rw [← hlc] at hS ⊢
  have hl : lv_has ls 1 [(0, .ref (ad (60 + h)))] := hl
  refine lv_aload_n hx hb dX1_lostByCrack_0 rfl (lv_at hl 0 rfl) ?_
  refine q_get hx hb hts hown hW (r := (60 + h)) (hI.mh hh) (hI.kh hh) k_2 6 (by decide) rfl t_563 (x := (v (60 + h) 6)) rfl dX1_lostByCrack_1 ?_
  refine lv_iconst (v := 2) hx hb dX1_lostByCrack_4 (by decide) ?_
  refine lv_idiv hx hb dX1_lostByCrack_5 (by decide) ?_
  exact q_iret hx hb hr hlocks hW hS (Nat.le_refl _) (Nat.le_refl _) dX1_lostByCrack_6 (⟨rfl, rfl⟩)

set_option maxHeartbeats 4000000 in
set_option maxRecDepth 100000 in
theorem c_X1_overlaps (l : Launch) {G : GG} {L : List Nat} {ad : Nat → Nat} {v : Nat → Nat → Int32} {o : Nat → Nat → Option Nat} {w : Nat → Int64} {ng nh nl ns : Nat} {ow gx gy gw gd : Nat → Nat} (hI : PI G.2.2.2 L ad v o ng nh nl ns ow gx gy gw gd) {h : Nat} (hh : h < nh) (a b c0 d : Int32) : CtI l G L ad v o w yX1_overlaps cX1_overlaps 5 .boolean ({ frames := 0, cells := 0, slots := 0, locals := 0 }) [.ref (ad (60 + h)), .int a, .int b, .int c0, .int d] (fun r u => r = fOver v (60 + h) a b c0 d ∧ u = v) := by
  refine q_ofI (by decide) (Nat.le_of_ble_eq_true rfl) ?_
  intro p e s m below meth c hx hb hr hml hts hown hlocks hE h0 hW hS ls hl
  generalize hH : s.heap = H at hW
  have hS : va_S (Ab G.2.2.1) s.heap H [] := hH ▸ hS
  obtain ⟨locs, hlc⟩ : ∃ z : List Loc, z = [] := ⟨_, rfl⟩
  rw [← hlc] at hS ⊢
  have hl : lv_has ls 5 [(0, .ref (ad (60 + h))), (1, .int a), (2, .int b), (3, .int c0), (4, .int d)] := hl
  refine lv_aload_n hx hb dX1_overlaps_0 rfl (lv_at hl 0 rfl) ?_
  refine q_get hx hb hts hown hW (r := (60 + h)) (hI.mh hh) (hI.kh hh) k_2 1 (by decide) rfl t_552 (x := (v (60 + h) 1)) rfl dX1_overlaps_1 ?_
  refine lv_iload_n hx hb dX1_overlaps_4 rfl (lv_at hl 1 rfl) ?_
  refine lv_iload_n hx hb dX1_overlaps_5 rfl (lv_at hl 3 rfl) ?_
  refine lv_iadd hx hb dX1_overlaps_6 ?_
  refine lv_icmp_ge (tgt := 51) hx hb dX1_overlaps_7 (by decide) (fun c_7 => ?_) (fun c_7 => ?_)
  · skip
    refine lv_iconst (v := 0) hx hb dX1_overlaps_51 (by decide) ?_
    exact q_zret hx hb hr hlocks hW hS (Nat.le_refl _) (Nat.le_refl _) (by decide) dX1_overlaps_52 (⟨by simp only [fOver]; first | (rw [if_pos ⟨by first | assumption | exact Int32.not_le.mp (by assumption), by first | assumption | exact Int32.not_le.mp (by assumption), by first | assumption | exact Int32.not_le.mp (by assumption), by first | assumption | exact Int32.not_le.mp (by assumption)⟩]) | (rw [if_neg]; rintro ⟨q1, q2, q3, q4⟩; first | exact absurd q1 (by first | assumption | exact Int32.not_lt.mpr (by assumption)) | exact absurd q2 (by first | assumption | exact Int32.not_lt.mpr (by assumption)) | exact absurd q3 (by first | assumption | exact Int32.not_lt.mpr (by assumption)) | exact absurd q4 (by first | assumption | exact Int32.not_lt.mpr (by assumption))), rfl⟩)
  · skip
    refine lv_iload_n hx hb dX1_overlaps_10 rfl (lv_at hl 1 rfl) ?_
    refine lv_aload_n hx hb dX1_overlaps_11 rfl (lv_at hl 0 rfl) ?_
    refine q_get hx hb hts hown hW (r := (60 + h)) (hI.mh hh) (hI.kh hh) k_2 1 (by decide) rfl t_552 (x := (v (60 + h) 1)) rfl dX1_overlaps_12 ?_
    refine lv_aload_n hx hb dX1_overlaps_15 rfl (lv_at hl 0 rfl) ?_
    refine q_get hx hb hts hown hW (r := (60 + h)) (hI.mh hh) (hI.kh hh) k_2 3 (by decide) rfl t_556 (x := (v (60 + h) 3)) rfl dX1_overlaps_16 ?_
    refine lv_iadd hx hb dX1_overlaps_19 ?_
    refine lv_icmp_ge (tgt := 51) hx hb dX1_overlaps_20 (by decide) (fun c_20 => ?_) (fun c_20 => ?_)
    · skip
      refine lv_iconst (v := 0) hx hb dX1_overlaps_51 (by decide) ?_
      exact q_zret hx hb hr hlocks hW hS (Nat.le_refl _) (Nat.le_refl _) (by decide) dX1_overlaps_52 (⟨by simp only [fOver]; first | (rw [if_pos ⟨by first | assumption | exact Int32.not_le.mp (by assumption), by first | assumption | exact Int32.not_le.mp (by assumption), by first | assumption | exact Int32.not_le.mp (by assumption), by first | assumption | exact Int32.not_le.mp (by assumption)⟩]) | (rw [if_neg]; rintro ⟨q1, q2, q3, q4⟩; first | exact absurd q1 (by first | assumption | exact Int32.not_lt.mpr (by assumption)) | exact absurd q2 (by first | assumption | exact Int32.not_lt.mpr (by assumption)) | exact absurd q3 (by first | assumption | exact Int32.not_lt.mpr (by assumption)) | exact absurd q4 (by first | assumption | exact Int32.not_lt.mpr (by assumption))), rfl⟩)
    · skip
      refine lv_aload_n hx hb dX1_overlaps_23 rfl (lv_at hl 0 rfl) ?_
      refine q_get hx hb hts hown hW (r := (60 + h)) (hI.mh hh) (hI.kh hh) k_2 2 (by decide) rfl t_554 (x := (v (60 + h) 2)) rfl dX1_overlaps_24 ?_
      refine lv_iload_n hx hb dX1_overlaps_27 rfl (lv_at hl 2 rfl) ?_
      refine lv_iload hx hb dX1_overlaps_28 (lv_at hl 4 rfl) ?_
      refine lv_iadd hx hb dX1_overlaps_30 ?_
      refine lv_icmp_ge (tgt := 51) hx hb dX1_overlaps_31 (by decide) (fun c_31 => ?_) (fun c_31 => ?_)
      · skip
        refine lv_iconst (v := 0) hx hb dX1_overlaps_51 (by decide) ?_
        exact q_zret hx hb hr hlocks hW hS (Nat.le_refl _) (Nat.le_refl _) (by decide) dX1_overlaps_52 (⟨by simp only [fOver]; first | (rw [if_pos ⟨by first | assumption | exact Int32.not_le.mp (by assumption), by first | assumption | exact Int32.not_le.mp (by assumption), by first | assumption | exact Int32.not_le.mp (by assumption), by first | assumption | exact Int32.not_le.mp (by assumption)⟩]) | (rw [if_neg]; rintro ⟨q1, q2, q3, q4⟩; first | exact absurd q1 (by first | assumption | exact Int32.not_lt.mpr (by assumption)) | exact absurd q2 (by first | assumption | exact Int32.not_lt.mpr (by assumption)) | exact absurd q3 (by first | assumption | exact Int32.not_lt.mpr (by assumption)) | exact absurd q4 (by first | assumption | exact Int32.not_lt.mpr (by assumption))), rfl⟩)
      · skip
        refine lv_iload_n hx hb dX1_overlaps_34 rfl (lv_at hl 2 rfl) ?_
        refine lv_aload_n hx hb dX1_overlaps_35 rfl (lv_at hl 0 rfl) ?_
        refine q_get hx hb hts hown hW (r := (60 + h)) (hI.mh hh) (hI.kh hh) k_2 2 (by decide) rfl t_554 (x := (v (60 + h) 2)) rfl dX1_overlaps_36 ?_
        refine lv_aload_n hx hb dX1_overlaps_39 rfl (lv_at hl 0 rfl) ?_
        refine q_get hx hb hts hown hW (r := (60 + h)) (hI.mh hh) (hI.kh hh) k_2 4 (by decide) rfl t_558 (x := (v (60 + h) 4)) rfl dX1_overlaps_40 ?_
        refine lv_iadd hx hb dX1_overlaps_43 ?_
        refine lv_icmp_ge (tgt := 51) hx hb dX1_overlaps_44 (by decide) (fun c_44 => ?_) (fun c_44 => ?_)
        · skip
          refine lv_iconst (v := 0) hx hb dX1_overlaps_51 (by decide) ?_
          exact q_zret hx hb hr hlocks hW hS (Nat.le_refl _) (Nat.le_refl _) (by decide) dX1_overlaps_52 (⟨by simp only [fOver]; first | (rw [if_pos ⟨by first | assumption | exact Int32.not_le.mp (by assumption), by first | assumption | exact Int32.not_le.mp (by assumption), by first | assumption | exact Int32.not_le.mp (by assumption), by first | assumption | exact Int32.not_le.mp (by assumption)⟩]) | (rw [if_neg]; rintro ⟨q1, q2, q3, q4⟩; first | exact absurd q1 (by first | assumption | exact Int32.not_lt.mpr (by assumption)) | exact absurd q2 (by first | assumption | exact Int32.not_lt.mpr (by assumption)) | exact absurd q3 (by first | assumption | exact Int32.not_lt.mpr (by assumption)) | exact absurd q4 (by first | assumption | exact Int32.not_lt.mpr (by assumption))), rfl⟩)
        · skip
          refine lv_iconst (v := 1) hx hb dX1_overlaps_47 (by decide) ?_
          refine lv_goto (tgt := 52) hx hb dX1_overlaps_48 (by decide) ?_
          exact q_zret hx hb hr hlocks hW hS (Nat.le_refl _) (Nat.le_refl _) (by decide) dX1_overlaps_52 (⟨by simp only [fOver]; first | (rw [if_pos ⟨by first | assumption | exact Int32.not_le.mp (by assumption), by first | assumption | exact Int32.not_le.mp (by assumption), by first | assumption | exact Int32.not_le.mp (by assumption), by first | assumption | exact Int32.not_le.mp (by assumption)⟩]) | (rw [if_neg]; rintro ⟨q1, q2, q3, q4⟩; first | exact absurd q1 (by first | assumption | exact Int32.not_lt.mpr (by assumption)) | exact absurd q2 (by first | assumption | exact Int32.not_lt.mpr (by assumption)) | exact absurd q3 (by first | assumption | exact Int32.not_lt.mpr (by assumption)) | exact absurd q4 (by first | assumption | exact Int32.not_lt.mpr (by assumption))), rfl⟩)

set_option maxHeartbeats 4000000 in
set_option maxRecDepth 100000 in
theorem c_X2_payFor (l : Launch) {G : GG} {L : List Nat} {ad : Nat → Nat} {v : Nat → Nat → Int32} {o : Nat → Nat → Option Nat} {w : Nat → Int64} {ng nh nl ns : Nat} {ow gx gy gw gd : Nat → Nat} (hI : PI G.2.2.2 L ad v o ng nh nl ns ow gx gy gw gd) {k : Nat} (hk : k < nl) (d : Int32) : CtI l G L ad v o w yX2_payFor cX2_payFor 3 .int ({ frames := 1, cells := 0, slots := 0, locals := 13 }) [.ref (ad (80 + k)), .int d] (fun r u => r = fPay v (80 + k) d ∧ u = v) := by
  refine q_ofI (by decide) (Nat.le_of_ble_eq_true rfl) ?_
  intro p e s m below meth c hx hb hr hml hts hown hlocks hE h0 hW hS ls hl
  generalize hH : s.heap = H at hW
  have hS : va_S (Ab G.2.2.1) s.heap H [] := hH ▸ hS
  obtain ⟨locs, hlc⟩ : ∃ z : List Loc, z = [] := ⟨_, rfl⟩
  rw [← hlc] at hS ⊢
  have hl : lv_has ls 3 [(0, .ref (ad (80 + k))), (1, .int d)] := hl
  refine lv_iconst (v := 0) hx hb dX2_payFor_0 (by decide) ?_
  refine lv_iload_n hx hb dX2_payFor_1 rfl (lv_at hl 1 rfl) ?_
  refine lv_aload_n hx hb dX2_payFor_2 rfl (lv_at hl 0 rfl) ?_
  refine q_get hx hb hts hown hW (r := (80 + k)) (hI.ml hk) (hI.kl hk) k_3 0 (by decide) rfl t_670 (x := (v (80 + k) 0)) rfl dX2_payFor_3 ?_
  refine lv_isub hx hb dX2_payFor_6 ?_
  refine q_max hx hb hml hl.1 hts hown m_max t_803 (Nat.le_of_ble_eq_true rfl) (Nat.le_of_ble_eq_true rfl) (Nat.zero_le _) (Nat.zero_le _) dX2_payFor_7 ?_
  refine lv_topi (fun x1 ex1 => ?_)
  refine lv_istore_n (lv' := [(2, .int x1), (0, .ref (ad (80 + k))), (1, .int d)]) hx hb dX2_payFor_10 rfl hl (by decide) rfl (fun ls hl => ?_)
  refine lv_iload_n hx hb dX2_payFor_11 rfl (lv_at hl 0 rfl) ?_
  refine lv_aload_n hx hb dX2_payFor_12 rfl (lv_at hl 1 rfl) ?_
  refine q_get hx hb hts hown hW (r := (80 + k)) (hI.ml hk) (hI.kl hk) k_3 1 (by decide) rfl t_672 (x := (v (80 + k) 1)) rfl dX2_payFor_13 ?_
  refine q_min hx hb hml hl.1 hts hown m_min t_804 (Nat.le_of_ble_eq_true rfl) (Nat.le_of_ble_eq_true rfl) (Nat.zero_le _) (Nat.zero_le _) dX2_payFor_16 ?_
  refine lv_aload_n hx hb dX2_payFor_19 rfl (lv_at hl 1 rfl) ?_
  refine q_get hx hb hts hown hW (r := (80 + k)) (hI.ml hk) (hI.kl hk) k_3 2 (by decide) rfl t_674 (x := (v (80 + k) 2)) rfl dX2_payFor_20 ?_
  refine lv_imul hx hb dX2_payFor_23 ?_
  refine lv_bipush (v := 100) hx hb dX2_payFor_24 (by decide) ?_
  refine lv_idiv hx hb dX2_payFor_26 (by decide) ?_
  refine lv_aload_n hx hb dX2_payFor_27 rfl (lv_at hl 1 rfl) ?_
  refine q_get hx hb hts hown hW (r := (80 + k)) (hI.ml hk) (hI.kl hk) k_3 3 (by decide) rfl t_676 (x := (v (80 + k) 3)) rfl dX2_payFor_28 ?_
  refine q_min hx hb hml hl.1 hts hown m_min t_804 (Nat.le_of_ble_eq_true rfl) (Nat.le_of_ble_eq_true rfl) (Nat.zero_le _) (Nat.zero_le _) dX2_payFor_31 ?_
  subst ex1
  exact q_iret hx hb hr hlocks hW hS (Nat.le_refl _) (Nat.le_refl _) dX2_payFor_34 (⟨rfl, rfl⟩)

set_option maxHeartbeats 4000000 in
set_option maxRecDepth 100000 in
theorem c_X5_isIn (l : Launch) {G : GG} {L : List Nat} {ad : Nat → Nat} {v : Nat → Nat → Int32} {o : Nat → Nat → Option Nat} {w : Nat → Int64} (a b c0 : Int32) : CtI l G L ad v o w yX5_isIn cX5_isIn 3 .boolean ({ frames := 0, cells := 0, slots := 0, locals := 0 }) [.int a, .int b, .int c0] (fun r u => r = fIn a b c0 ∧ u = v) := by
  refine q_ofI (by decide) (Nat.le_of_ble_eq_true rfl) ?_
  intro p e s m below meth c hx hb hr hml hts hown hlocks hE h0 hW hS ls hl
  generalize hH : s.heap = H at hW
  have hS : va_S (Ab G.2.2.1) s.heap H [] := hH ▸ hS
  obtain ⟨locs, hlc⟩ : ∃ z : List Loc, z = [] := ⟨_, rfl⟩
  rw [← hlc] at hS ⊢
  have hl : lv_has ls 3 [(0, .int a), (1, .int b), (2, .int c0)] := hl
  refine lv_iload_n hx hb dX5_isIn_0 rfl (lv_at hl 0 rfl) ?_
  refine lv_iload_n hx hb dX5_isIn_1 rfl (lv_at hl 1 rfl) ?_
  refine lv_icmp_lt (tgt := 14) hx hb dX5_isIn_2 (by decide) (fun c_2 => ?_) (fun c_2 => ?_)
  · skip
    refine lv_iconst (v := 0) hx hb dX5_isIn_14 (by decide) ?_
    exact q_zret hx hb hr hlocks hW hS (Nat.le_refl _) (Nat.le_refl _) (by decide) dX5_isIn_15 (⟨by simp only [fIn]; first | (rw [if_pos ⟨by first | assumption | exact Int32.not_lt.mp (by assumption), by first | assumption | exact Int32.not_lt.mp (by assumption)⟩]) | (rw [if_neg]; rintro ⟨q1, q2⟩; first | exact absurd q1 (by first | assumption | exact Int32.not_le.mpr (by assumption)) | exact absurd q2 (by first | assumption | exact Int32.not_le.mpr (by assumption))), rfl⟩)
  · skip
    refine lv_iload_n hx hb dX5_isIn_5 rfl (lv_at hl 0 rfl) ?_
    refine lv_iload_n hx hb dX5_isIn_6 rfl (lv_at hl 2 rfl) ?_
    refine lv_icmp_gt (tgt := 14) hx hb dX5_isIn_7 (by decide) (fun c_7 => ?_) (fun c_7 => ?_)
    · skip
      refine lv_iconst (v := 0) hx hb dX5_isIn_14 (by decide) ?_
      exact q_zret hx hb hr hlocks hW hS (Nat.le_refl _) (Nat.le_refl _) (by decide) dX5_isIn_15 (⟨by simp only [fIn]; first | (rw [if_pos ⟨by first | assumption | exact Int32.not_lt.mp (by assumption), by first | assumption | exact Int32.not_lt.mp (by assumption)⟩]) | (rw [if_neg]; rintro ⟨q1, q2⟩; first | exact absurd q1 (by first | assumption | exact Int32.not_le.mpr (by assumption)) | exact absurd q2 (by first | assumption | exact Int32.not_le.mpr (by assumption))), rfl⟩)
    · skip
      refine lv_iconst (v := 1) hx hb dX5_isIn_10 (by decide) ?_
      refine lv_goto (tgt := 15) hx hb dX5_isIn_11 (by decide) ?_
      exact q_zret hx hb hr hlocks hW hS (Nat.le_refl _) (Nat.le_refl _) (by decide) dX5_isIn_15 (⟨by simp only [fIn]; first | (rw [if_pos ⟨by first | assumption | exact Int32.not_lt.mp (by assumption), by first | assumption | exact Int32.not_lt.mp (by assumption)⟩]) | (rw [if_neg]; rintro ⟨q1, q2⟩; first | exact absurd q1 (by first | assumption | exact Int32.not_le.mpr (by assumption)) | exact absurd q2 (by first | assumption | exact Int32.not_le.mpr (by assumption))), rfl⟩)

set_option maxHeartbeats 4000000 in
set_option maxRecDepth 100000 in
theorem c_X5_cellAt (l : Launch) {G : GG} {L : List Nat} {ad : Nat → Nat} {v : Nat → Nat → Int32} {o : Nat → Nat → Option Nat} {w : Nat → Int64} (x y : Nat) : CtI l G L ad v o w yX5_cellAt cX5_cellAt 2 .int ({ frames := 0, cells := 0, slots := 0, locals := 0 }) [.int (nI x), .int (nI y)] (fun r u => r = nI (y * 20 + x) ∧ u = v) := by
  refine q_ofI (by decide) (Nat.le_of_ble_eq_true rfl) ?_
  intro p e s m below meth c hx hb hr hml hts hown hlocks hE h0 hW hS ls hl
  generalize hH : s.heap = H at hW
  have hS : va_S (Ab G.2.2.1) s.heap H [] := hH ▸ hS
  obtain ⟨locs, hlc⟩ : ∃ z : List Loc, z = [] := ⟨_, rfl⟩
  rw [← hlc] at hS ⊢
  have hl : lv_has ls 2 [(0, .int (nI x)), (1, .int (nI y))] := hl
  refine lv_iload_n hx hb dX5_cellAt_0 rfl (lv_at hl 1 rfl) ?_
  refine lv_bipush (v := 20) hx hb dX5_cellAt_1 (by decide) ?_
  refine lv_imul hx hb dX5_cellAt_3 ?_
  refine lv_iload_n hx hb dX5_cellAt_4 rfl (lv_at hl 0 rfl) ?_
  refine lv_iadd hx hb dX5_cellAt_5 ?_
  exact q_iret hx hb hr hlocks hW hS (Nat.le_refl _) (Nat.le_refl _) dX5_cellAt_6 (⟨cel_nI x y, rfl⟩)

set_option maxHeartbeats 4000000 in
set_option maxRecDepth 100000 in
theorem c_X5_panesOfHouse (l : Launch) {G : GG} {L : List Nat} {ad : Nat → Nat} {v : Nat → Nat → Int32} {o : Nat → Nat → Option Nat} {w : Nat → Int64} {ng nh nl ns : Nat} {ow gx gy gw gd : Nat → Nat} (hI : PI G.2.2.2 L ad v o ng nh nl ns ow gx gy gw gd) {h : Nat} (hh : h < nh) (t : Int32) : CtI l G L ad v o w yX5_panesOfHouse cX5_panesOfHouse 6 .int ({ frames := 1, cells := 0, slots := 0, locals := 21 }) [.ref (ad 0), .ref (ad (60 + h)), .int t] (fun r u => r = hCnt v gx gy gw gd h t ∧ u = v) := by
  have hgeo := (hI.hs h hh).1
  refine q_ofI (by decide) (Nat.le_of_ble_eq_true rfl) ?_
  intro p e s m below meth c hx hb hr hml hts hown hlocks hE h0 hW hS ls hl
  generalize hH : s.heap = H at hW
  have hS : va_S (Ab G.2.2.1) s.heap H [] := hH ▸ hS
  obtain ⟨locs, hlc⟩ : ∃ z : List Loc, z = [] := ⟨_, rfl⟩
  rw [← hlc] at hS ⊢
  have hl : lv_has ls 6 [(0, .ref (ad 0)), (1, .ref (ad (60 + h))), (2, .int t)] := hl
  refine lv_iconst (v := 0) hx hb dX5_panesOfHouse_0 (by decide) ?_
  refine lv_istore_n (lv' := [(3, .int 0), (0, .ref (ad 0)), (1, .ref (ad (60 + h))), (2, .int t)]) hx hb dX5_panesOfHouse_1 rfl hl (by decide) rfl (fun ls hl => ?_)
  refine lv_aload_n hx hb dX5_panesOfHouse_2 rfl (lv_at hl 2 rfl) ?_
  refine q_get hx hb hts hown hW (r := (60 + h)) (hI.mh hh) (hI.kh hh) k_2 2 (by decide) rfl t_555 (x := (nI (gy h))) (hI.eY hh) dX5_panesOfHouse_3 ?_
  refine lv_istore (lv' := [(4, .int (nI (gy h))), (3, .int 0), (0, .ref (ad 0)), (1, .ref (ad (60 + h))), (2, .int t)]) hx hb dX5_panesOfHouse_6 hl (by decide) rfl (fun ls hl => ?_)
  suffices LP_8 : ∀ (n_8 i : Nat) (x3_8 : Int32) (x4_8 : Int32)  (u_8 : Nat → Nat → Int32) (H : Heap) (locs : List Loc) (ls : Array Slot), gd h + 1 ≤ i + n_8 → i ≤ gd h → sumI (fun i => sumI (fun j => if v 4 ((gy h + i) * 20 + (gx h + j)) = t then 1 else 0) (gw h)) i = x3_8 → nI (gy h + i) = x4_8 → v = u_8 → WD G L ad u_8 o w s H → va_S (Ab G.2.2.1) s.heap H locs → lv_has ls 6 [(4, .int x4_8), (3, .int x3_8), (0, .ref (ad 0)), (1, .ref (ad (60 + h))), (2, .int t)] → W p l e ({ frames := 1, cells := 0, slots := 0, locals := 21 } : Room) s m ([.ref (ad 0), .ref (ad (60 + h)), .int t] : List Value).toArray below meth c H locs 0 0 (MQ below (va_Qi (fun r u => r = hCnt v gx gy gw gd h t ∧ u = v) (fun u t => WD G L ad u o w t t.heap) (Ab G.2.2.1)) ([.ref (ad 0), .ref (ad (60 + h)), .int t] : List Value).toArray s ({ frames := 1, cells := 0, slots := 0, locals := 21 } : Room).cells ({ frames := 1, cells := 0, slots := 0, locals := 21 } : Room).slots (Ab G.2.2.1)) (F0 m 8 ls []) from LP_8 (gd h + 1) 0 _ _   _ H locs ls (by omega) (by omega) (by rfl) (by rfl) (by rfl)  hW hS (lv_sub hl [0, 1, 2, 3, 4] rfl)
  intro n_8
  induction n_8 with
  | zero => intro i x3_8 x4_8  u_8 H locs ls h1 h2; exact absurd h1 (by omega)
  | succ n_8 ih_8 =>
    intro i x3_8 x4_8  u_8 H locs ls hn_8 hi_8 ex3_8 ex4_8 eu_8  hW hS hl
    subst ex3_8
    subst ex4_8
    subst eu_8
    refine lv_iload hx hb dX5_panesOfHouse_8 (lv_at hl 0 rfl) ?_
    refine lv_aload_n hx hb dX5_panesOfHouse_10 rfl (lv_at hl 3 rfl) ?_
    refine q_get hx hb hts hown hW (r := (60 + h)) (hI.mh hh) (hI.kh hh) k_2 2 (by decide) rfl t_555 (x := (nI (gy h))) (hI.eY hh) dX5_panesOfHouse_11 ?_
    refine lv_aload_n hx hb dX5_panesOfHouse_14 rfl (lv_at hl 3 rfl) ?_
    refine q_get hx hb hts hown hW (r := (60 + h)) (hI.mh hh) (hI.kh hh) k_2 4 (by decide) rfl t_559 (x := (nI (gd h))) (hI.eD hh) dX5_panesOfHouse_15 ?_
    refine lv_iadd hx hb dX5_panesOfHouse_18 ?_
    refine lv_icmp_ge (tgt := 73) hx hb dX5_panesOfHouse_19 (by decide) (fun c_19 => ?_) (fun c_19 => ?_)
    · skip
      have hq := ge_off (by omega) hi_8 c_19
      refine lv_iload_n hx hb dX5_panesOfHouse_73 rfl (lv_at hl 1 rfl) ?_
      exact q_iret hx hb hr hlocks hW hS (Nat.le_refl _) (Nat.le_refl _) dX5_panesOfHouse_74 (⟨by rw [hq]; rfl, rfl⟩)
    · skip
      have hlt := lt_off (by omega) hi_8 c_19
      refine lv_aload_n hx hb dX5_panesOfHouse_22 rfl (lv_at hl 3 rfl) ?_
      refine q_get hx hb hts hown hW (r := (60 + h)) (hI.mh hh) (hI.kh hh) k_2 1 (by decide) rfl t_553 (x := (nI (gx h))) (hI.eX hh) dX5_panesOfHouse_23 ?_
      refine lv_istore (lv' := [(5, .int (nI (gx h))), (4, .int (nI (gy h + i))), (3, .int (sumI (fun i => sumI (fun j => if v 4 ((gy h + i) * 20 + (gx h + j)) = t then 1 else 0) (gw h)) i)), (0, .ref (ad 0)), (1, .ref (ad (60 + h))), (2, .int t)]) hx hb dX5_panesOfHouse_26 hl (by decide) rfl (fun ls hl => ?_)
      suffices LP_28 : ∀ (n_28 j : Nat) (x3_28 : Int32) (x5_28 : Int32)  (u_28 : Nat → Nat → Int32) (H : Heap) (locs : List Loc) (ls : Array Slot), gw h + 1 ≤ j + n_28 → j ≤ gw h → sumI (fun i => sumI (fun j => if v 4 ((gy h + i) * 20 + (gx h + j)) = t then 1 else 0) (gw h)) i + sumI (fun j => if v 4 ((gy h + i) * 20 + (gx h + j)) = t then 1 else 0) j = x3_28 → nI (gx h + j) = x5_28 → v = u_28 → WD G L ad u_28 o w s H → va_S (Ab G.2.2.1) s.heap H locs → lv_has ls 6 [(5, .int x5_28), (4, .int (nI (gy h + i))), (3, .int x3_28), (0, .ref (ad 0)), (1, .ref (ad (60 + h))), (2, .int t)] → W p l e ({ frames := 1, cells := 0, slots := 0, locals := 21 } : Room) s m ([.ref (ad 0), .ref (ad (60 + h)), .int t] : List Value).toArray below meth c H locs 0 0 (MQ below (va_Qi (fun r u => r = hCnt v gx gy gw gd h t ∧ u = v) (fun u t => WD G L ad u o w t t.heap) (Ab G.2.2.1)) ([.ref (ad 0), .ref (ad (60 + h)), .int t] : List Value).toArray s ({ frames := 1, cells := 0, slots := 0, locals := 21 } : Room).cells ({ frames := 1, cells := 0, slots := 0, locals := 21 } : Room).slots (Ab G.2.2.1)) (F0 m 28 ls []) from LP_28 (gw h + 1) 0 _ _   _ H locs ls (by omega) (by omega) (by rw [sumI, Int32.add_zero]) (by rfl) (by rfl)  hW hS (lv_sub hl [0, 1, 2, 3, 4, 5] rfl)
      intro n_28
      induction n_28 with
      | zero => intro j x3_28 x5_28  u_28 H locs ls h1 h2; exact absurd h1 (by omega)
      | succ n_28 ih_28 =>
        intro j x3_28 x5_28  u_28 H locs ls hn_28 hi_28 ex3_28 ex5_28 eu_28  hW hS hl
        subst ex3_28
        subst ex5_28
        subst eu_28
        refine lv_iload hx hb dX5_panesOfHouse_28 (lv_at hl 0 rfl) ?_
        refine lv_aload_n hx hb dX5_panesOfHouse_30 rfl (lv_at hl 4 rfl) ?_
        refine q_get hx hb hts hown hW (r := (60 + h)) (hI.mh hh) (hI.kh hh) k_2 1 (by decide) rfl t_553 (x := (nI (gx h))) (hI.eX hh) dX5_panesOfHouse_31 ?_
        refine lv_aload_n hx hb dX5_panesOfHouse_34 rfl (lv_at hl 4 rfl) ?_
        refine q_get hx hb hts hown hW (r := (60 + h)) (hI.mh hh) (hI.kh hh) k_2 3 (by decide) rfl t_557 (x := (nI (gw h))) (hI.eW hh) dX5_panesOfHouse_35 ?_
        refine lv_iadd hx hb dX5_panesOfHouse_38 ?_
        refine lv_icmp_ge (tgt := 67) hx hb dX5_panesOfHouse_39 (by decide) (fun c_39 => ?_) (fun c_39 => ?_)
        · skip
          have hq2 := ge_off (by omega) hi_28 c_39
          refine lv_iinc (v := (nI ((gy h + i) + 1))) (lv' := [(4, .int (nI ((gy h + i) + 1))), (5, .int (nI (gx h + j))), (3, .int (sumI (fun i => sumI (fun j => if v 4 ((gy h + i) * 20 + (gx h + j)) = t then 1 else 0) (gw h)) i + sumI (fun j => if v 4 ((gy h + i) * 20 + (gx h + j)) = t then 1 else 0) j)), (0, .ref (ad 0)), (1, .ref (ad (60 + h))), (2, .int t)]) hx hb dX5_panesOfHouse_67 hl (k := 1) rfl (inc_nI _) (by decide) rfl (fun ls hl => ?_)
          refine lv_goto (tgt := 8) hx hb dX5_panesOfHouse_70 (by decide) ?_
          exact ih_8 (i + 1) _ _   _ H locs ls (by omega) (by omega) (by rw [sumI, hq2]) (by rfl) (by rfl)  hW hS (lv_sub hl [0, 2, 3, 4, 5] rfl)
        · skip
          have hlt2 := lt_off (by omega) hi_28 c_39
          refine lv_aload_n hx hb dX5_panesOfHouse_42 rfl (lv_at hl 3 rfl) ?_
          refine q_getr hx hb hts hown hW (r := 0) (hI.c 0 (by decide)) rfl k_6 3 (by decide) rfl t_140 (a := ad 4) (hI.o0 3 (by decide)) dX5_panesOfHouse_43 ?_
          refine lv_iload hx hb dX5_panesOfHouse_46 (lv_at hl 0 rfl) ?_
          refine lv_iload hx hb dX5_panesOfHouse_48 (lv_at hl 1 rfl) ?_
          refine q_cSiE (As := [.int (nI (gx h + j)), .int (nI (gy h + i))]) (rest := [.ref (ad 4)]) hx hb hml hts hown hE h0 hW hS (c_X5_cellAt l (gx h + j) (gy h + i)) mw_X5_cellAt t_252 ⟨Nat.le_of_ble_eq_true rfl, Nat.le_of_ble_eq_true rfl⟩ rfl hl.1 (Nat.le_of_ble_eq_true rfl) dX5_panesOfHouse_50 ⟨Nat.zero_le _, Nat.zero_le _⟩ ⟨rfl, rfl⟩ (fun H locs hW hS => ?_)
          refine q_iald hx hb hW (r := 4) (hI.c 4 (by decide)) rfl ((gy h + i) * 20 + (gx h + j)) rfl (show _ < 400 by omega) (by decide) (x := (v 4 ((gy h + i) * 20 + (gx h + j)))) rfl dX5_panesOfHouse_53 ?_
          refine lv_iload_n hx hb dX5_panesOfHouse_54 rfl (lv_at hl 5 rfl) ?_
          refine lv_icmp_ne (tgt := 61) hx hb dX5_panesOfHouse_55 (by decide) (fun c_55 => ?_) (fun c_55 => ?_)
          · skip
            refine lv_iinc (v := (nI ((gx h + j) + 1))) (lv' := [(5, .int (nI ((gx h + j) + 1))), (4, .int (nI (gy h + i))), (3, .int (sumI (fun i => sumI (fun j => if v 4 ((gy h + i) * 20 + (gx h + j)) = t then 1 else 0) (gw h)) i + sumI (fun j => if v 4 ((gy h + i) * 20 + (gx h + j)) = t then 1 else 0) j)), (0, .ref (ad 0)), (1, .ref (ad (60 + h))), (2, .int t)]) hx hb dX5_panesOfHouse_61 hl (k := 0) rfl (inc_nI _) (by decide) rfl (fun ls hl => ?_)
            refine lv_goto (tgt := 28) hx hb dX5_panesOfHouse_64 (by decide) ?_
            exact ih_28 (j + 1) _ _   _ H locs ls (by omega) (by omega) (by simp [sumI, c_55, Int32.add_assoc]) (by rfl) (by rfl)  hW hS (lv_sub hl [0, 1, 2, 3, 4, 5] rfl)
          · skip
            refine lv_iinc (v := ((sumI (fun i => sumI (fun j => if v 4 ((gy h + i) * 20 + (gx h + j)) = t then 1 else 0) (gw h)) i + sumI (fun j => if v 4 ((gy h + i) * 20 + (gx h + j)) = t then 1 else 0) j) + 1)) (lv' := [(3, .int ((sumI (fun i => sumI (fun j => if v 4 ((gy h + i) * 20 + (gx h + j)) = t then 1 else 0) (gw h)) i + sumI (fun j => if v 4 ((gy h + i) * 20 + (gx h + j)) = t then 1 else 0) j) + 1)), (5, .int (nI (gx h + j))), (4, .int (nI (gy h + i))), (0, .ref (ad 0)), (1, .ref (ad (60 + h))), (2, .int t)]) hx hb dX5_panesOfHouse_58 hl (k := 2) rfl rfl (by decide) rfl (fun ls hl => ?_)
            refine lv_iinc (v := (nI ((gx h + j) + 1))) (lv' := [(5, .int (nI ((gx h + j) + 1))), (3, .int ((sumI (fun i => sumI (fun j => if v 4 ((gy h + i) * 20 + (gx h + j)) = t then 1 else 0) (gw h)) i + sumI (fun j => if v 4 ((gy h + i) * 20 + (gx h + j)) = t then 1 else 0) j) + 1)), (4, .int (nI (gy h + i))), (0, .ref (ad 0)), (1, .ref (ad (60 + h))), (2, .int t)]) hx hb dX5_panesOfHouse_61 hl (k := 1) rfl (inc_nI _) (by decide) rfl (fun ls hl => ?_)
            refine lv_goto (tgt := 28) hx hb dX5_panesOfHouse_64 (by decide) ?_
            exact ih_28 (j + 1) _ _   _ H locs ls (by omega) (by omega) (by simp [sumI, c_55, Int32.add_assoc]) (by rfl) (by rfl)  hW hS (lv_sub hl [0, 2, 1, 3, 4, 5] rfl)

set_option maxHeartbeats 4000000 in
set_option maxRecDepth 100000 in
theorem c_X5_lostOfHouse (l : Launch) {G : GG} {L : List Nat} {ad : Nat → Nat} {v : Nat → Nat → Int32} {o : Nat → Nat → Option Nat} {w : Nat → Int64} {ng nh nl ns : Nat} {ow gx gy gw gd : Nat → Nat} (hI : PI G.2.2.2 L ad v o ng nh nl ns ow gx gy gw gd) {h : Nat} (hh : h < nh) : CtI l G L ad v o w yX5_lostOfHouse cX5_lostOfHouse 2 .int ({ frames := 2, cells := 0, slots := 0, locals := 46 }) [.ref (ad 0), .ref (ad (60 + h))] (fun r u => r = hLost v gx gy gw gd h ∧ u = v) := by
  refine q_ofI (by decide) (Nat.le_of_ble_eq_true rfl) ?_
  intro p e s m below meth c hx hb hr hml hts hown hlocks hE h0 hW hS ls hl
  generalize hH : s.heap = H at hW
  have hS : va_S (Ab G.2.2.1) s.heap H [] := hH ▸ hS
  obtain ⟨locs, hlc⟩ : ∃ z : List Loc, z = [] := ⟨_, rfl⟩
  rw [← hlc] at hS ⊢
  have hl : lv_has ls 2 [(0, .ref (ad 0)), (1, .ref (ad (60 + h)))] := hl
  refine lv_aload_n hx hb dX5_lostOfHouse_0 rfl (lv_at hl 0 rfl) ?_
  refine lv_aload_n hx hb dX5_lostOfHouse_1 rfl (lv_at hl 1 rfl) ?_
  refine lv_iconst (v := 1) hx hb dX5_lostOfHouse_2 (by decide) ?_
  refine q_cViE (As := [.ref (ad (60 + h)), .int 1]) (rest := []) (r := 0) hx hb hml hts hown hE h0 hW hS (c_X5_panesOfHouse l hI hh 1) mw_X5_panesOfHouse (hI.c 0 (by decide)) rfl k_6 t_248 ⟨Nat.le_of_ble_eq_true rfl, Nat.le_of_ble_eq_true rfl⟩ rfl hl.1 (Nat.le_of_ble_eq_true rfl) dX5_lostOfHouse_3 ⟨Nat.zero_le _, Nat.zero_le _⟩ ⟨rfl, rfl⟩ (fun H locs hW hS => ?_)
  refine lv_aload_n hx hb dX5_lostOfHouse_6 rfl (lv_at hl 1 rfl) ?_
  refine q_cViE (As := []) (rest := [.int (hCnt v gx gy gw gd h 1)]) (r := (60 + h)) hx hb hml hts hown hE h0 hW hS (c_X1_lostByCrack l hI hh) mw_X1_lostByCrack (hI.mh hh) (hI.kh hh) k_2 t_255 ⟨Nat.le_of_ble_eq_true rfl, Nat.le_of_ble_eq_true rfl⟩ rfl hl.1 (Nat.le_of_ble_eq_true rfl) dX5_lostOfHouse_7 ⟨Nat.zero_le _, Nat.zero_le _⟩ ⟨rfl, rfl⟩ (fun H locs hW hS => ?_)
  refine lv_imul hx hb dX5_lostOfHouse_10 ?_
  refine lv_aload_n hx hb dX5_lostOfHouse_11 rfl (lv_at hl 0 rfl) ?_
  refine lv_aload_n hx hb dX5_lostOfHouse_12 rfl (lv_at hl 1 rfl) ?_
  refine lv_iconst (v := 2) hx hb dX5_lostOfHouse_13 (by decide) ?_
  refine q_cViE (As := [.ref (ad (60 + h)), .int 2]) (rest := [.int ((hCnt v gx gy gw gd h 1) * (v (60 + h) 6 / 2))]) (r := 0) hx hb hml hts hown hE h0 hW hS (c_X5_panesOfHouse l hI hh 2) mw_X5_panesOfHouse (hI.c 0 (by decide)) rfl k_6 t_248 ⟨Nat.le_of_ble_eq_true rfl, Nat.le_of_ble_eq_true rfl⟩ rfl hl.1 (Nat.le_of_ble_eq_true rfl) dX5_lostOfHouse_14 ⟨Nat.zero_le _, Nat.zero_le _⟩ ⟨rfl, rfl⟩ (fun H locs hW hS => ?_)
  refine lv_aload_n hx hb dX5_lostOfHouse_17 rfl (lv_at hl 1 rfl) ?_
  refine q_get hx hb hts hown hW (r := (60 + h)) (hI.mh hh) (hI.kh hh) k_2 6 (by decide) rfl t_565 (x := (v (60 + h) 6)) rfl dX5_lostOfHouse_18 ?_
  refine lv_imul hx hb dX5_lostOfHouse_21 ?_
  refine lv_iadd hx hb dX5_lostOfHouse_22 ?_
  exact q_iret hx hb hr hlocks hW hS (Nat.le_refl _) (Nat.le_refl _) dX5_lostOfHouse_23 (⟨rfl, rfl⟩)
