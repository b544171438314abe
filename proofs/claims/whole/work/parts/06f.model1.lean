/-! the model: its methods -/
set_option maxHeartbeats 4000000 in
set_option maxRecDepth 100000 in
theorem c_X7_thrown (l : Launch) {G : GG} {L : List Nat} {ad : Nat → Nat} {v : Nat → Nat → Int32} {o : Nat → Nat → Option Nat} {w : Nat → Int64} (h100 : 100 ∈ L) : CtI l G L ad v o w yX7_thrown cX7_thrown 1 .int ({ frames := 0, cells := 0, slots := 0, locals := 0 }) [.ref (ad 100)] (fun r u => r = v 100 0 ∧ u = v) := by
  skip
  refine q_ofI (by decide) (Nat.le_of_ble_eq_true rfl) ?_
  intro p e s m below meth c hx hb hr hml hts hown hlocks hE h0 hW hS ls hl
  generalize hH : s.heap = H at hW
  have hS : va_S (Ab G.2.2.1) s.heap H [] := hH ▸ hS
  obtain ⟨locs, hlc⟩ : ∃ z : List Loc, z = [] := ⟨_, rfl⟩
  rw [← hlc] at hS ⊢
  have hl : lv_has ls 1 [(0, .ref (ad 100))] := hl
  refine lv_aload_n hx hb dX7_thrown_0 rfl (lv_at hl 0 rfl) ?_
  refine q_get hx hb hts hown hW (r := 100) h100 rfl k_8 0 (by decide) rfl t_943 (x := (v 100 0)) rfl dX7_thrown_1 ?_
  exact q_iret hx hb hr hlocks hW hS (Nat.le_refl _) (Nat.le_refl _) dX7_thrown_4 (⟨rfl, rfl⟩)

set_option maxHeartbeats 4000000 in
set_option maxRecDepth 100000 in
theorem c_X7_no (l : Launch) {G : GG} {L : List Nat} {ad : Nat → Nat} {v : Nat → Nat → Int32} {o : Nat → Nat → Option Nat} {w : Nat → Int64} (h100 : 100 ∈ L) (n : Int32) : CtI l G L ad v o w yX7_no cX7_no 2 .int ({ frames := 0, cells := 0, slots := 0, locals := 0 }) [.ref (ad 100), .int n] (fun r u => r = 0 ∧ u = up2 v 100 0 n) := by
  skip
  refine q_ofI (by decide) (Nat.le_of_ble_eq_true rfl) ?_
  intro p e s m below meth c hx hb hr hml hts hown hlocks hE h0 hW hS ls hl
  generalize hH : s.heap = H at hW
  have hS : va_S (Ab G.2.2.1) s.heap H [] := hH ▸ hS
  obtain ⟨locs, hlc⟩ : ∃ z : List Loc, z = [] := ⟨_, rfl⟩
  rw [← hlc] at hS ⊢
  have hl : lv_has ls 2 [(0, .ref (ad 100)), (1, .int n)] := hl
  refine lv_aload_n hx hb dX7_no_0 rfl (lv_at hl 0 rfl) ?_
  refine lv_iload_n hx hb dX7_no_1 rfl (lv_at hl 1 rfl) ?_
  refine q_put hx hb hts hown hW hS (r := 100) h100 rfl k_8 0 (by decide) rfl t_943 rfl (t := .int) (by decide +kernel) rfl rfl dX7_no_2 (fun H locs hW hS => ?_)
  generalize hv1 : (up2 v 100 0 n) = v1 at hW
  refine lv_iconst (v := 0) hx hb dX7_no_5 (by decide) ?_
  subst hv1
  exact q_iret hx hb hr hlocks hW hS (Nat.le_refl _) (Nat.le_refl _) dX7_no_6 (⟨rfl, rfl⟩)

set_option maxHeartbeats 4000000 in
set_option maxRecDepth 100000 in
theorem c_X7_isIn (l : Launch) {G : GG} {L : List Nat} {ad : Nat → Nat} {v : Nat → Nat → Int32} {o : Nat → Nat → Option Nat} {w : Nat → Int64} (a b c0 : Int32) : CtI l G L ad v o w yX7_isIn cX7_isIn 3 .boolean ({ frames := 0, cells := 0, slots := 0, locals := 0 }) [.int a, .int b, .int c0] (fun r u => r = fIn a b c0 ∧ u = v) := by
  skip
  refine q_ofI (by decide) (Nat.le_of_ble_eq_true rfl) ?_
  intro p e s m below meth c hx hb hr hml hts hown hlocks hE h0 hW hS ls hl
  generalize hH : s.heap = H at hW
  have hS : va_S (Ab G.2.2.1) s.heap H [] := hH ▸ hS
  obtain ⟨locs, hlc⟩ : ∃ z : List Loc, z = [] := ⟨_, rfl⟩
  rw [← hlc] at hS ⊢
  have hl : lv_has ls 3 [(0, .int a), (1, .int b), (2, .int c0)] := hl
  refine lv_iload_n hx hb dX7_isIn_0 rfl (lv_at hl 0 rfl) ?_
  refine lv_iload_n hx hb dX7_isIn_1 rfl (lv_at hl 1 rfl) ?_
  refine lv_icmp_lt (tgt := 14) hx hb dX7_isIn_2 (by decide) (fun c_2 => ?_) (fun c_2 => ?_)
  · skip
    refine lv_iconst (v := 0) hx hb dX7_isIn_14 (by decide) ?_
    exact q_zret hx hb hr hlocks hW hS (Nat.le_refl _) (Nat.le_refl _) (by decide) dX7_isIn_15 (⟨by simp only [fIn]; first | (rw [if_pos ⟨by first | assumption | exact Int32.not_lt.mp (by assumption), by first | assumption | exact Int32.not_lt.mp (by assumption)⟩]) | (rw [if_neg]; rintro ⟨q1, q2⟩; first | exact absurd q1 (by first | assumption | exact Int32.not_le.mpr (by assumption)) | exact absurd q2 (by first | assumption | exact Int32.not_le.mpr (by assumption))), rfl⟩)
  · skip
    refine lv_iload_n hx hb dX7_isIn_5 rfl (lv_at hl 0 rfl) ?_
    refine lv_iload_n hx hb dX7_isIn_6 rfl (lv_at hl 2 rfl) ?_
    refine lv_icmp_gt (tgt := 14) hx hb dX7_isIn_7 (by decide) (fun c_7 => ?_) (fun c_7 => ?_)
    · skip
      refine lv_iconst (v := 0) hx hb dX7_isIn_14 (by decide) ?_
      exact q_zret hx hb hr hlocks hW hS (Nat.le_refl _) (Nat.le_refl _) (by decide) dX7_isIn_15 (⟨by simp only [fIn]; first | (rw [if_pos ⟨by first | assumption | exact Int32.not_lt.mp (by assumption), by first | assumption | exact Int32.not_lt.mp (by assumption)⟩]) | (rw [if_neg]; rintro ⟨q1, q2⟩; first | exact absurd q1 (by first | assumption | exact Int32.not_le.mpr (by assumption)) | exact absurd q2 (by first | assumption | exact Int32.not_le.mpr (by assumption))), rfl⟩)
    · skip
      refine lv_iconst (v := 1) hx hb dX7_isIn_10 (by decide) ?_
      refine lv_goto (tgt := 15) hx hb dX7_isIn_11 (by decide) ?_
      exact q_zret hx hb hr hlocks hW hS (Nat.le_refl _) (Nat.le_refl _) (by decide) dX7_isIn_15 (⟨by simp only [fIn]; first | (rw [if_pos ⟨by first | assumption | exact Int32.not_lt.mp (by assumption), by first | assumption | exact Int32.not_lt.mp (by assumption)⟩]) | (rw [if_neg]; rintro ⟨q1, q2⟩; first | exact absurd q1 (by first | assumption | exact Int32.not_le.mpr (by assumption)) | exact absurd q2 (by first | assumption | exact Int32.not_le.mpr (by assumption))), rfl⟩)

set_option maxHeartbeats 4000000 in
set_option maxRecDepth 100000 in
theorem c_X7_isGrower (l : Launch) {G : GG} {L : List Nat} {ad : Nat → Nat} {v : Nat → Nat → Int32} {o : Nat → Nat → Option Nat} {w : Nat → Int64} {ng nh nl ns : Nat} {ow gx gy gw gd : Nat → Nat} (hJ : PJ L ad v o 101 110 ng nh nl ns ow gx gy gw gd) (hO1 : o 100 1 = some (ad 101)) (a : Int32) : CtI l G L ad v o w yX7_isGrower cX7_isGrower 2 .boolean ({ frames := 1, cells := 0, slots := 0, locals := 22 }) [.ref (ad 100), .int a] (fun r u => r = fIn a 0 (nI ng - 1) ∧ u = v) := by
  have hsb := hJ.q.sb; have hbd := hJ.bd
  refine q_ofI (by decide) (Nat.le_of_ble_eq_true rfl) ?_
  intro p e s m below meth c hx hb hr hml hts hown hlocks hE h0 hW hS ls hl
  generalize hH : s.heap = H at hW
  have hS : va_S (Ab G.2.2.1) s.heap H [] := hH ▸ hS
  obtain ⟨locs, hlc⟩ : ∃ z : List Loc, z = [] := ⟨_, rfl⟩
  rw [← hlc] at hS ⊢
  have hl : lv_has ls 2 [(0, .ref (ad 100)), (1, .int a)] := hl
  refine lv_iload_n hx hb dX7_isGrower_0 rfl (lv_at hl 1 rfl) ?_
  refine lv_iconst (v := 0) hx hb dX7_isGrower_1 (by decide) ?_
  refine lv_aload_n hx hb dX7_isGrower_2 rfl (lv_at hl 0 rfl) ?_
  refine q_getr hx hb hts hown hW (r := 100) hJ.q.m0 rfl k_8 1 (by decide) rfl t_944 (a := ad 101) hO1 dX7_isGrower_3 ?_
  refine q_getN hx hb hts hown hW (r := 101) hJ.q.mS hJ.q.kS k_7 0 (by decide) rfl t_868 (x := (nI ng)) hJ.eG dX7_isGrower_6 ?_
  refine lv_iconst (v := 1) hx hb dX7_isGrower_9 (by decide) ?_
  refine lv_isub hx hb dX7_isGrower_10 ?_
  refine q_cSiE (As := [.int a, .int 0, .int ((nI ng) - 1)]) (rest := []) hx hb hml hts hown hE h0 hW hS (c_X7_isIn l a 0 ((nI ng) - 1)) mw_X7_isIn t_962 ⟨Nat.le_of_ble_eq_true rfl, Nat.le_of_ble_eq_true rfl⟩ rfl hl.1 (Nat.le_of_ble_eq_true rfl) dX7_isGrower_11 ⟨Nat.zero_le _, Nat.zero_le _⟩ ⟨rfl, rfl⟩ (fun H locs hW hS => ?_)
  exact q_zret hx hb hr hlocks hW hS (Nat.le_refl _) (Nat.le_refl _) fIn_01 dX7_isGrower_14 (⟨rfl, rfl⟩)

set_option maxHeartbeats 4000000 in
set_option maxRecDepth 100000 in
theorem c_X7_isHouse (l : Launch) {G : GG} {L : List Nat} {ad : Nat → Nat} {v : Nat → Nat → Int32} {o : Nat → Nat → Option Nat} {w : Nat → Int64} {ng nh nl ns : Nat} {ow gx gy gw gd : Nat → Nat} (hJ : PJ L ad v o 101 110 ng nh nl ns ow gx gy gw gd) (hO1 : o 100 1 = some (ad 101)) (a : Int32) : CtI l G L ad v o w yX7_isHouse cX7_isHouse 2 .boolean ({ frames := 1, cells := 0, slots := 0, locals := 22 }) [.ref (ad 100), .int a] (fun r u => r = fIn a 0 (nI nh - 1) ∧ u = v) := by
  have hsb := hJ.q.sb; have hbd := hJ.bd
  refine q_ofI (by decide) (Nat.le_of_ble_eq_true rfl) ?_
  intro p e s m below meth c hx hb hr hml hts hown hlocks hE h0 hW hS ls hl
  generalize hH : s.heap = H at hW
  have hS : va_S (Ab G.2.2.1) s.heap H [] := hH ▸ hS
  obtain ⟨locs, hlc⟩ : ∃ z : List Loc, z = [] := ⟨_, rfl⟩
  rw [← hlc] at hS ⊢
  have hl : lv_has ls 2 [(0, .ref (ad 100)), (1, .int a)] := hl
  refine lv_iload_n hx hb dX7_isHouse_0 rfl (lv_at hl 1 rfl) ?_
  refine lv_iconst (v := 0) hx hb dX7_isHouse_1 (by decide) ?_
  refine lv_aload_n hx hb dX7_isHouse_2 rfl (lv_at hl 0 rfl) ?_
  refine q_getr hx hb hts hown hW (r := 100) hJ.q.m0 rfl k_8 1 (by decide) rfl t_944 (a := ad 101) hO1 dX7_isHouse_3 ?_
  refine q_getN hx hb hts hown hW (r := 101) hJ.q.mS hJ.q.kS k_7 6 (by decide) rfl t_880 (x := (nI nh)) hJ.eH dX7_isHouse_6 ?_
  refine lv_iconst (v := 1) hx hb dX7_isHouse_9 (by decide) ?_
  refine lv_isub hx hb dX7_isHouse_10 ?_
  refine q_cSiE (As := [.int a, .int 0, .int ((nI nh) - 1)]) (rest := []) hx hb hml hts hown hE h0 hW hS (c_X7_isIn l a 0 ((nI nh) - 1)) mw_X7_isIn t_962 ⟨Nat.le_of_ble_eq_true rfl, Nat.le_of_ble_eq_true rfl⟩ rfl hl.1 (Nat.le_of_ble_eq_true rfl) dX7_isHouse_11 ⟨Nat.zero_le _, Nat.zero_le _⟩ ⟨rfl, rfl⟩ (fun H locs hW hS => ?_)
  exact q_zret hx hb hr hlocks hW hS (Nat.le_refl _) (Nat.le_refl _) fIn_01 dX7_isHouse_14 (⟨rfl, rfl⟩)

set_option maxHeartbeats 4000000 in
set_option maxRecDepth 100000 in
theorem c_X7_addGrower (l : Launch) {G : GG} {L : List Nat} {ad : Nat → Nat} {v : Nat → Nat → Int32} {o : Nat → Nat → Option Nat} {w : Nat → Int64} {ng nh nl ns : Nat} {ow gx gy gw gd : Nat → Nat} (hJ : PJ L ad v o 101 110 ng nh nl ns ow gx gy gw gd) (hO1 : o 100 1 = some (ad 101)) {cn : Int32} (k1 : fIn cn 0 1000000 = 1) (k2 : ng < 6) : CtI l G L ad v o w yX7_addGrower cX7_addGrower 2 .int ({ frames := 1, cells := 0, slots := 0, locals := 22 }) [.ref (ad 100), .int cn] (fun r u => r = nI ng ∧ u = rAdd v ng cn) := by
  have hsb := hJ.q.sb; have hbd := hJ.bd
  refine q_ofI (by decide) (Nat.le_of_ble_eq_true rfl) ?_
  intro p e s m below meth c hx hb hr hml hts hown hlocks hE h0 hW hS ls hl
  generalize hH : s.heap = H at hW
  have hS : va_S (Ab G.2.2.1) s.heap H [] := hH ▸ hS
  obtain ⟨locs, hlc⟩ : ∃ z : List Loc, z = [] := ⟨_, rfl⟩
  rw [← hlc] at hS ⊢
  have hl : lv_has ls 2 [(0, .ref (ad 100)), (1, .int cn)] := hl
  refine lv_aload_n hx hb dX7_addGrower_0 rfl (lv_at hl 0 rfl) ?_
  refine lv_iconst (v := 0) hx hb dX7_addGrower_1 (by decide) ?_
  refine q_put hx hb hts hown hW hS (r := 100) hJ.q.m0 rfl k_8 0 (by decide) rfl t_943 rfl (t := .int) (by decide +kernel) rfl rfl dX7_addGrower_2 (fun H locs hW hS => ?_)
  have hJ : PJ L ad (up2 v 100 0 0) o 101 110 ng nh nl ns ow gx gy gw gd := hJ.kp kr_t
  generalize hv1 : (up2 v 100 0 0) = v1 at hW hJ
  refine lv_iload_n hx hb dX7_addGrower_5 rfl (lv_at hl 1 rfl) ?_
  refine lv_iconst (v := 0) hx hb dX7_addGrower_6 (by decide) ?_
  refine lv_ldc (v := 1000000) hx hb hown (hts _ t_961) dX7_addGrower_7 ?_
  refine q_cSiE (As := [.int cn, .int 0, .int 1000000]) (rest := []) hx hb hml hts hown hE h0 hW hS (c_X7_isIn l cn 0 1000000) mw_X7_isIn t_962 ⟨Nat.le_of_ble_eq_true rfl, Nat.le_of_ble_eq_true rfl⟩ rfl hl.1 (Nat.le_of_ble_eq_true rfl) dX7_addGrower_9 ⟨Nat.zero_le _, Nat.zero_le _⟩ ⟨rfl, rfl⟩ (fun H locs hW hS => ?_)
  refine lv_if_ne (tgt := 21) hx hb dX7_addGrower_12 (by decide) (fun c_12 => ?_) (fun c_12 => ?_)
  · skip
    refine lv_aload_n hx hb dX7_addGrower_21 rfl (lv_at hl 0 rfl) ?_
    refine q_getr hx hb hts hown hW (r := 100) hJ.q.m0 rfl k_8 1 (by decide) rfl t_944 (a := ad 101) hO1 dX7_addGrower_22 ?_
    refine q_getN hx hb hts hown hW (r := 101) hJ.q.mS hJ.q.kS k_7 0 (by decide) rfl t_868 (x := (nI ng)) hJ.eG dX7_addGrower_25 ?_
    refine lv_bipush (v := 6) hx hb dX7_addGrower_28 (by decide) ?_
    refine lv_icmp_ne (tgt := 39) hx hb dX7_addGrower_30 (by decide) (fun c_30 => ?_) (fun c_30 => ?_)
    · skip
      refine lv_aload_n hx hb dX7_addGrower_39 rfl (lv_at hl 0 rfl) ?_
      refine q_getr hx hb hts hown hW (r := 100) hJ.q.m0 rfl k_8 1 (by decide) rfl t_944 (a := ad 101) hO1 dX7_addGrower_40 ?_
      refine q_getrN hx hb hts hown hW (r := 101) hJ.q.mS hJ.q.kS k_7 1 (by decide) rfl t_870 (a := ad (110 + 1)) (hJ.q.oB 1 rfl) dX7_addGrower_43 ?_
      refine lv_aload_n hx hb dX7_addGrower_46 rfl (lv_at hl 0 rfl) ?_
      refine q_getr hx hb hts hown hW (r := 100) hJ.q.m0 rfl k_8 1 (by decide) rfl t_944 (a := ad 101) hO1 dX7_addGrower_47 ?_
      refine q_getN hx hb hts hown hW (r := 101) hJ.q.mS hJ.q.kS k_7 0 (by decide) rfl t_868 (x := (nI ng)) hJ.eG dX7_addGrower_50 ?_
      refine lv_iload_n hx hb dX7_addGrower_53 rfl (lv_at hl 1 rfl) ?_
      refine q_iast hx hb hW hS (r := (110 + 1)) (hJ.q.mB 1 rfl) (hJ.q.k9 1 rfl (by decide)) (ng) rfl (by rw [hJ.q.ln 1 rfl]; show _ < 6; omega) (by rw [hJ.q.ln 1 rfl]; decide) dX7_addGrower_54 (fun H locs hW hS => ?_)
      have hJ : PJ L ad (up2 v1 (110 + 1) (ng) cn) o 101 110 ng nh nl ns ow gx gy gw gd := hJ.kp (kr_b hJ.q.1 (by omega))
      generalize hv2 : (up2 v1 (110 + 1) (ng) cn) = v2 at hW hJ
      refine lv_aload_n hx hb dX7_addGrower_55 rfl (lv_at hl 0 rfl) ?_
      refine q_getr hx hb hts hown hW (r := 100) hJ.q.m0 rfl k_8 1 (by decide) rfl t_944 (a := ad 101) hO1 dX7_addGrower_56 ?_
      refine q_getrN hx hb hts hown hW (r := 101) hJ.q.mS hJ.q.kS k_7 3 (by decide) rfl t_874 (a := ad (110 + 3)) (hJ.q.oB 3 rfl) dX7_addGrower_59 ?_
      refine lv_aload_n hx hb dX7_addGrower_62 rfl (lv_at hl 0 rfl) ?_
      refine q_getr hx hb hts hown hW (r := 100) hJ.q.m0 rfl k_8 1 (by decide) rfl t_944 (a := ad 101) hO1 dX7_addGrower_63 ?_
      refine q_getN hx hb hts hown hW (r := 101) hJ.q.mS hJ.q.kS k_7 0 (by decide) rfl t_868 (x := (nI ng)) hJ.eG dX7_addGrower_66 ?_
      refine lv_bipush (v := 100) hx hb dX7_addGrower_69 (by decide) ?_
      refine q_iast hx hb hW hS (r := (110 + 3)) (hJ.q.mB 3 rfl) (hJ.q.k9 3 rfl (by decide)) (ng) rfl (by rw [hJ.q.ln 3 rfl]; show _ < 6; omega) (by rw [hJ.q.ln 3 rfl]; decide) dX7_addGrower_71 (fun H locs hW hS => ?_)
      have hJ : PJ L ad (up2 v2 (110 + 3) (ng) 100) o 101 110 ng nh nl ns ow gx gy gw gd := hJ.kp (kr_b hJ.q.1 (by omega))
      generalize hv3 : (up2 v2 (110 + 3) (ng) 100) = v3 at hW hJ
      refine lv_aload_n hx hb dX7_addGrower_72 rfl (lv_at hl 0 rfl) ?_
      refine q_getr hx hb hts hown hW (r := 100) hJ.q.m0 rfl k_8 1 (by decide) rfl t_944 (a := ad 101) hO1 dX7_addGrower_73 ?_
      refine lv_dup hx hb dX7_addGrower_76 rfl ?_
      refine q_getN hx hb hts hown hW (r := 101) hJ.q.mS hJ.q.kS k_7 0 (by decide) rfl t_868 (x := (nI ng)) hJ.eG dX7_addGrower_77 ?_
      refine lv_iconst (v := 1) hx hb dX7_addGrower_80 (by decide) ?_
      refine lv_iadd hx hb dX7_addGrower_81 ?_
      refine q_putN hx hb hts hown hW hS (r := 101) hJ.q.mS hJ.q.kS k_7 0 (by decide) rfl t_868 rfl (t := .int) (by decide +kernel) rfl rfl dX7_addGrower_82 (fun H locs hW hS => ?_)
      generalize hv4 : (up2 v3 101 0 ((nI ng) + 1)) = v4 at hW
      refine lv_aload_n hx hb dX7_addGrower_85 rfl (lv_at hl 0 rfl) ?_
      refine q_getr hx hb hts hown hW (r := 100) hJ.q.m0 rfl k_8 1 (by decide) rfl t_944 (a := ad 101) hO1 dX7_addGrower_86 ?_
      refine q_getN hx hb hts hown hW (r := 101) hJ.q.mS hJ.q.kS k_7 0 (by decide) rfl t_868 (x := (v4 101 0)) rfl dX7_addGrower_89 ?_
      refine lv_iconst (v := 1) hx hb dX7_addGrower_92 (by decide) ?_
      refine lv_isub hx hb dX7_addGrower_93 ?_
      subst hv4
      subst hv3
      subst hv2
      subst hv1
      exact q_iret hx hb hr hlocks hW hS (Nat.le_refl _) (Nat.le_refl _) dX7_addGrower_94 (⟨by show nI ng + 1 - 1 = nI ng; rw [nI_1, nI_pred], by rw [nI_1]; rfl⟩)
    · skip
      exact absurd c_30 (nI_six k2)
  · skip
    exact absurd (k1.symm.trans c_12) (by decide)

set_option maxHeartbeats 4000000 in
set_option maxRecDepth 100000 in
theorem c_X7_addGrower_1 (l : Launch) {G : GG} {L : List Nat} {ad : Nat → Nat} {v : Nat → Nat → Int32} {o : Nat → Nat → Option Nat} {w : Nat → Int64} {ng nh nl ns : Nat} {ow gx gy gw gd : Nat → Nat} (hJ : PJ L ad v o 101 110 ng nh nl ns ow gx gy gw gd) (hO1 : o 100 1 = some (ad 101)) {cn : Int32} (k1 : fIn cn 0 1000000 = 0) : CtI l G L ad v o w yX7_addGrower cX7_addGrower 2 .int ({ frames := 1, cells := 0, slots := 0, locals := 22 }) [.ref (ad 100), .int cn] (fun r u => r = 0 ∧ u = up2 (tz v) 100 0 1) := by
  have hsb := hJ.q.sb; have hbd := hJ.bd
  refine q_ofI (by decide) (Nat.le_of_ble_eq_true rfl) ?_
  intro p e s m below meth c hx hb hr hml hts hown hlocks hE h0 hW hS ls hl
  generalize hH : s.heap = H at hW
  have hS : va_S (Ab G.2.2.1) s.heap H [] := hH ▸ hS
  obtain ⟨locs, hlc⟩ : ∃ z : List Loc, z = [] := ⟨_, rfl⟩
  rw [← hlc] at hS ⊢
  have hl : lv_has ls 2 [(0, .ref (ad 100)), (1, .int cn)] := hl
  refine lv_aload_n hx hb dX7_addGrower_0 rfl (lv_at hl 0 rfl) ?_
  refine lv_iconst (v := 0) hx hb dX7_addGrower_1 (by decide) ?_
  refine q_put hx hb hts hown hW hS (r := 100) hJ.q.m0 rfl k_8 0 (by decide) rfl t_943 rfl (t := .int) (by decide +kernel) rfl rfl dX7_addGrower_2 (fun H locs hW hS => ?_)
  have hJ : PJ L ad (up2 v 100 0 0) o 101 110 ng nh nl ns ow gx gy gw gd := hJ.kp kr_t
  generalize hv1 : (up2 v 100 0 0) = v1 at hW hJ
  refine lv_iload_n hx hb dX7_addGrower_5 rfl (lv_at hl 1 rfl) ?_
  refine lv_iconst (v := 0) hx hb dX7_addGrower_6 (by decide) ?_
  refine lv_ldc (v := 1000000) hx hb hown (hts _ t_961) dX7_addGrower_7 ?_
  refine q_cSiE (As := [.int cn, .int 0, .int 1000000]) (rest := []) hx hb hml hts hown hE h0 hW hS (c_X7_isIn l cn 0 1000000) mw_X7_isIn t_962 ⟨Nat.le_of_ble_eq_true rfl, Nat.le_of_ble_eq_true rfl⟩ rfl hl.1 (Nat.le_of_ble_eq_true rfl) dX7_addGrower_9 ⟨Nat.zero_le _, Nat.zero_le _⟩ ⟨rfl, rfl⟩ (fun H locs hW hS => ?_)
  refine lv_if_ne (tgt := 21) hx hb dX7_addGrower_12 (by decide) (fun c_12 => ?_) (fun c_12 => ?_)
  · skip
    exact absurd k1 c_12
  · skip
    refine lv_aload_n hx hb dX7_addGrower_15 rfl (lv_at hl 0 rfl) ?_
    refine lv_iconst (v := 1) hx hb dX7_addGrower_16 (by decide) ?_
    refine q_cViE (As := [.int 1]) (rest := []) (r := 100) hx hb hml hts hown hE h0 hW hS (c_X7_no l hJ.q.m0 1) mw_X7_no hJ.q.m0 rfl k_8 t_965 ⟨Nat.le_of_ble_eq_true rfl, Nat.le_of_ble_eq_true rfl⟩ rfl hl.1 (Nat.le_of_ble_eq_true rfl) dX7_addGrower_17 ⟨Nat.zero_le _, Nat.zero_le _⟩ ⟨rfl, rfl⟩ (fun H locs hW hS => ?_)
    have hJ : PJ L ad (up2 v1 100 0 1) o 101 110 ng nh nl ns ow gx gy gw gd := hJ.kp kr_t
    generalize hv2 : (up2 v1 100 0 1) = v2 at hW hJ
    subst hv2
    subst hv1
    exact q_iret hx hb hr hlocks hW hS (Nat.le_refl _) (Nat.le_refl _) dX7_addGrower_20 (⟨rfl, rfl⟩)

set_option maxHeartbeats 4000000 in
set_option maxRecDepth 100000 in
theorem c_X7_addGrower_2 (l : Launch) {G : GG} {L : List Nat} {ad : Nat → Nat} {v : Nat → Nat → Int32} {o : Nat → Nat → Option Nat} {w : Nat → Int64} {ng nh nl ns : Nat} {ow gx gy gw gd : Nat → Nat} (hJ : PJ L ad v o 101 110 ng nh nl ns ow gx gy gw gd) (hO1 : o 100 1 = some (ad 101)) {cn : Int32} (k1 : fIn cn 0 1000000 = 1) (k2 : ng = 6) : CtI l G L ad v o w yX7_addGrower cX7_addGrower 2 .int ({ frames := 1, cells := 0, slots := 0, locals := 22 }) [.ref (ad 100), .int cn] (fun r u => r = 0 ∧ u = up2 (tz v) 100 0 2) := by
  have hsb := hJ.q.sb; have hbd := hJ.bd
  refine q_ofI (by decide) (Nat.le_of_ble_eq_true rfl) ?_
  intro p e s m below meth c hx hb hr hml hts hown hlocks hE h0 hW hS ls hl
  generalize hH : s.heap = H at hW
  have hS : va_S (Ab G.2.2.1) s.heap H [] := hH ▸ hS
  obtain ⟨locs, hlc⟩ : ∃ z : List Loc, z = [] := ⟨_, rfl⟩
  rw [← hlc] at hS ⊢
  have hl : lv_has ls 2 [(0, .ref (ad 100)), (1, .int cn)] := hl
  refine lv_aload_n hx hb dX7_addGrower_0 rfl (lv_at hl 0 rfl) ?_
  refine lv_iconst (v := 0) hx hb dX7_addGrower_1 (by decide) ?_
  refine q_put hx hb hts hown hW hS (r := 100) hJ.q.m0 rfl k_8 0 (by decide) rfl t_943 rfl (t := .int) (by decide +kernel) rfl rfl dX7_addGrower_2 (fun H locs hW hS => ?_)
  have hJ : PJ L ad (up2 v 100 0 0) o 101 110 ng nh nl ns ow gx gy gw gd := hJ.kp kr_t
  generalize hv1 : (up2 v 100 0 0) = v1 at hW hJ
  refine lv_iload_n hx hb dX7_addGrower_5 rfl (lv_at hl 1 rfl) ?_
  refine lv_iconst (v := 0) hx hb dX7_addGrower_6 (by decide) ?_
  refine lv_ldc (v := 1000000) hx hb hown (hts _ t_961) dX7_addGrower_7 ?_
  refine q_cSiE (As := [.int cn, .int 0, .int 1000000]) (rest := []) hx hb hml hts hown hE h0 hW hS (c_X7_isIn l cn 0 1000000) mw_X7_isIn t_962 ⟨Nat.le_of_ble_eq_true rfl, Nat.le_of_ble_eq_true rfl⟩ rfl hl.1 (Nat.le_of_ble_eq_true rfl) dX7_addGrower_9 ⟨Nat.zero_le _, Nat.zero_le _⟩ ⟨rfl, rfl⟩ (fun H locs hW hS => ?_)
  refine lv_if_ne (tgt := 21) hx hb dX7_addGrower_12 (by decide) (fun c_12 => ?_) (fun c_12 => ?_)
  · skip
    refine lv_aload_n hx hb dX7_addGrower_21 rfl (lv_at hl 0 rfl) ?_
    refine q_getr hx hb hts hown hW (r := 100) hJ.q.m0 rfl k_8 1 (by decide) rfl t_944 (a := ad 101) hO1 dX7_addGrower_22 ?_
    refine q_getN hx hb hts hown hW (r := 101) hJ.q.mS hJ.q.kS k_7 0 (by decide) rfl t_868 (x := (nI ng)) hJ.eG dX7_addGrower_25 ?_
    refine lv_bipush (v := 6) hx hb dX7_addGrower_28 (by decide) ?_
    refine lv_icmp_ne (tgt := 39) hx hb dX7_addGrower_30 (by decide) (fun c_30 => ?_) (fun c_30 => ?_)
    · skip
      exact absurd (by rw [k2]; rfl) c_30
    · skip
      refine lv_aload_n hx hb dX7_addGrower_33 rfl (lv_at hl 0 rfl) ?_
      refine lv_iconst (v := 2) hx hb dX7_addGrower_34 (by decide) ?_
      refine q_cViE (As := [.int 2]) (rest := []) (r := 100) hx hb hml hts hown hE h0 hW hS (c_X7_no l hJ.q.m0 2) mw_X7_no hJ.q.m0 rfl k_8 t_965 ⟨Nat.le_of_ble_eq_true rfl, Nat.le_of_ble_eq_true rfl⟩ rfl hl.1 (Nat.le_of_ble_eq_true rfl) dX7_addGrower_35 ⟨Nat.zero_le _, Nat.zero_le _⟩ ⟨rfl, rfl⟩ (fun H locs hW hS => ?_)
      have hJ : PJ L ad (up2 v1 100 0 2) o 101 110 ng nh nl ns ow gx gy gw gd := hJ.kp kr_t
      generalize hv2 : (up2 v1 100 0 2) = v2 at hW hJ
      subst hv2
      subst hv1
      exact q_iret hx hb hr hlocks hW hS (Nat.le_refl _) (Nat.le_refl _) dX7_addGrower_38 (⟨rfl, rfl⟩)
  · skip
    exact absurd (k1.symm.trans c_12) (by decide)

set_option maxHeartbeats 4000000 in
set_option maxRecDepth 100000 in
theorem c_X7_setNet (l : Launch) {G : GG} {L : List Nat} {ad : Nat → Nat} {v : Nat → Nat → Int32} {o : Nat → Nat → Option Nat} {w : Nat → Int64} {ng nh nl ns : Nat} {ow gx gy gw gd : Nat → Nat} (hJ : PJ L ad v o 101 110 ng nh nl ns ow gx gy gw gd) (hO1 : o 100 1 = some (ad 101)) {h : Nat} (hh : h < nh) {b : Int32} (hb01 : b = 0 ∨ b = 1) (hz : v 118 h = 0 ∨ v 118 h = 1) : CtI l G L ad v o w yX7_setNet cX7_setNet 4 .boolean ({ frames := 2, cells := 0, slots := 0, locals := 43 }) [.ref (ad 100), .int (nI h), .int b] (fun r u => r = v 118 h ∧ u = up2 (tz v) 118 h b) := by
  have hsb := hJ.q.sb; have hbd := hJ.bd; have hck := fIn_nat hh (by omega)
  refine q_ofI (by decide) (Nat.le_of_ble_eq_true rfl) ?_
  intro p e s m below meth c hx hb hr hml hts hown hlocks hE h0 hW hS ls hl
  generalize hH : s.heap = H at hW
  have hS : va_S (Ab G.2.2.1) s.heap H [] := hH ▸ hS
  obtain ⟨locs, hlc⟩ : ∃ z : List Loc, z = [] := ⟨_, rfl⟩
  rw [← hlc] at hS ⊢
  have hl : lv_has ls 4 [(0, .ref (ad 100)), (1, .int (nI h)), (2, .int b)] := hl
  refine lv_aload_n hx hb dX7_setNet_0 rfl (lv_at hl 0 rfl) ?_
  refine lv_iconst (v := 0) hx hb dX7_setNet_1 (by decide) ?_
  refine q_put hx hb hts hown hW hS (r := 100) hJ.q.m0 rfl k_8 0 (by decide) rfl t_943 rfl (t := .int) (by decide +kernel) rfl rfl dX7_setNet_2 (fun H locs hW hS => ?_)
  have hJ : PJ L ad (up2 v 100 0 0) o 101 110 ng nh nl ns ow gx gy gw gd := hJ.kp kr_t
  generalize hv1 : (up2 v 100 0 0) = v1 at hW hJ
  refine lv_aload_n hx hb dX7_setNet_5 rfl (lv_at hl 0 rfl) ?_
  refine lv_iload_n hx hb dX7_setNet_6 rfl (lv_at hl 1 rfl) ?_
  refine q_cViE (As := [.int (nI h)]) (rest := []) (r := 100) hx hb hml hts hown hE h0 hW hS (c_X7_isHouse l hJ hO1 (nI h)) mw_X7_isHouse hJ.q.m0 rfl k_8 t_986 ⟨Nat.le_of_ble_eq_true rfl, Nat.le_of_ble_eq_true rfl⟩ rfl hl.1 (Nat.le_of_ble_eq_true rfl) dX7_setNet_7 ⟨Nat.zero_le _, Nat.zero_le _⟩ ⟨rfl, rfl⟩ (fun H locs hW hS => ?_)
  refine lv_if_ne (tgt := 20) hx hb dX7_setNet_10 (by decide) (fun c_10 => ?_) (fun c_10 => ?_)
  · skip
    refine lv_aload_n hx hb dX7_setNet_20 rfl (lv_at hl 0 rfl) ?_
    refine q_getr hx hb hts hown hW (r := 100) hJ.q.m0 rfl k_8 1 (by decide) rfl t_944 (a := ad 101) hO1 dX7_setNet_21 ?_
    refine q_getrN hx hb hts hown hW (r := 101) hJ.q.mS hJ.q.kS k_7 8 (by decide) rfl t_884 (a := ad (110 + 8)) (hJ.q.oB 8 rfl) dX7_setNet_24 ?_
    refine lv_iload_n hx hb dX7_setNet_27 rfl (lv_at hl 1 rfl) ?_
    refine q_zald hx hb hW (r := (110 + 8)) (hJ.q.mB 8 rfl) hJ.q.k10 (h) rfl (by rw [hJ.q.ln 8 rfl]; show _ < 12; omega) (by rw [hJ.q.ln 8 rfl]; decide) (x := (v1 (110 + 8) (h))) rfl dX7_setNet_28 ?_
    refine lv_istore_n (lv' := [(3, .int (v1 (110 + 8) (h))), (0, .ref (ad 100)), (1, .int (nI h)), (2, .int b)]) hx hb dX7_setNet_29 rfl hl (by decide) rfl (fun ls hl => ?_)
    refine lv_aload_n hx hb dX7_setNet_30 rfl (lv_at hl 1 rfl) ?_
    refine q_getr hx hb hts hown hW (r := 100) hJ.q.m0 rfl k_8 1 (by decide) rfl t_944 (a := ad 101) hO1 dX7_setNet_31 ?_
    refine q_getrN hx hb hts hown hW (r := 101) hJ.q.mS hJ.q.kS k_7 8 (by decide) rfl t_884 (a := ad (110 + 8)) (hJ.q.oB 8 rfl) dX7_setNet_34 ?_
    refine lv_iload_n hx hb dX7_setNet_37 rfl (lv_at hl 2 rfl) ?_
    refine lv_iload_n hx hb dX7_setNet_38 rfl (lv_at hl 3 rfl) ?_
    refine q_zast hx hb hW hS (r := (110 + 8)) (hJ.q.mB 8 rfl) hJ.q.k10 (h) rfl (by rw [hJ.q.ln 8 rfl]; show _ < 12; omega) (by rw [hJ.q.ln 8 rfl]; decide) hb01 dX7_setNet_39 (fun H locs hW hS => ?_)
    have hJ : PJ L ad (up2 v1 (110 + 8) (h) b) o 101 110 ng nh nl ns ow gx gy gw gd := hJ.kp (kr_b hJ.q.1 (by omega))
    generalize hv2 : (up2 v1 (110 + 8) (h) b) = v2 at hW hJ
    refine lv_iload_n hx hb dX7_setNet_40 rfl (lv_at hl 0 rfl) ?_
    subst hv2
    subst hv1
    exact q_zret hx hb hr hlocks hW hS (Nat.le_refl _) (Nat.le_refl _) hz dX7_setNet_41 (⟨rfl, rfl⟩)
  · skip
    exact absurd (hck.symm.trans c_10) (by decide)

set_option maxHeartbeats 4000000 in
set_option maxRecDepth 100000 in
theorem c_X7_setNet_1 (l : Launch) {G : GG} {L : List Nat} {ad : Nat → Nat} {v : Nat → Nat → Int32} {o : Nat → Nat → Option Nat} {w : Nat → Int64} {ng nh nl ns : Nat} {ow gx gy gw gd : Nat → Nat} (hJ : PJ L ad v o 101 110 ng nh nl ns ow gx gy gw gd) (hO1 : o 100 1 = some (ad 101)) {a b : Int32} (k1 : fIn a 0 (nI nh - 1) = 0) : CtI l G L ad v o w yX7_setNet cX7_setNet 4 .boolean ({ frames := 2, cells := 0, slots := 0, locals := 43 }) [.ref (ad 100), .int a, .int b] (fun r u => r = 0 ∧ u = up2 (tz v) 100 0 1) := by
  have hsb := hJ.q.sb; have hbd := hJ.bd
  refine q_ofI (by decide) (Nat.le_of_ble_eq_true rfl) ?_
  intro p e s m below meth c hx hb hr hml hts hown hlocks hE h0 hW hS ls hl
  generalize hH : s.heap = H at hW
  have hS : va_S (Ab G.2.2.1) s.heap H [] := hH ▸ hS
  obtain ⟨locs, hlc⟩ : ∃ z : List Loc, z = [] := ⟨_, rfl⟩
  rw [← hlc] at hS ⊢
  have hl : lv_has ls 4 [(0, .ref (ad 100)), (1, .int a), (2, .int b)] := hl
  refine lv_aload_n hx hb dX7_setNet_0 rfl (lv_at hl 0 rfl) ?_
  refine lv_iconst (v := 0) hx hb dX7_setNet_1 (by decide) ?_
  refine q_put hx hb hts hown hW hS (r := 100) hJ.q.m0 rfl k_8 0 (by decide) rfl t_943 rfl (t := .int) (by decide +kernel) rfl rfl dX7_setNet_2 (fun H locs hW hS => ?_)
  have hJ : PJ L ad (up2 v 100 0 0) o 101 110 ng nh nl ns ow gx gy gw gd := hJ.kp kr_t
  generalize hv1 : (up2 v 100 0 0) = v1 at hW hJ
  refine lv_aload_n hx hb dX7_setNet_5 rfl (lv_at hl 0 rfl) ?_
  refine lv_iload_n hx hb dX7_setNet_6 rfl (lv_at hl 1 rfl) ?_
  refine q_cViE (As := [.int a]) (rest := []) (r := 100) hx hb hml hts hown hE h0 hW hS (c_X7_isHouse l hJ hO1 a) mw_X7_isHouse hJ.q.m0 rfl k_8 t_986 ⟨Nat.le_of_ble_eq_true rfl, Nat.le_of_ble_eq_true rfl⟩ rfl hl.1 (Nat.le_of_ble_eq_true rfl) dX7_setNet_7 ⟨Nat.zero_le _, Nat.zero_le _⟩ ⟨rfl, rfl⟩ (fun H locs hW hS => ?_)
  refine lv_if_ne (tgt := 20) hx hb dX7_setNet_10 (by decide) (fun c_10 => ?_) (fun c_10 => ?_)
  · skip
    exact absurd k1 c_10
  · skip
    refine lv_aload_n hx hb dX7_setNet_13 rfl (lv_at hl 0 rfl) ?_
    refine lv_iconst (v := 1) hx hb dX7_setNet_14 (by decide) ?_
    refine q_put hx hb hts hown hW hS (r := 100) hJ.q.m0 rfl k_8 0 (by decide) rfl t_943 rfl (t := .int) (by decide +kernel) rfl rfl dX7_setNet_15 (fun H locs hW hS => ?_)
    have hJ : PJ L ad (up2 v1 100 0 1) o 101 110 ng nh nl ns ow gx gy gw gd := hJ.kp kr_t
    generalize hv2 : (up2 v1 100 0 1) = v2 at hW hJ
    refine lv_iconst (v := 0) hx hb dX7_setNet_18 (by decide) ?_
    subst hv2
    subst hv1
    exact q_zret hx hb hr hlocks hW hS (Nat.le_refl _) (Nat.le_refl _) (by decide) dX7_setNet_19 (⟨rfl, rfl⟩)

set_option maxHeartbeats 4000000 in
set_option maxRecDepth 100000 in
theorem c_X7_insure (l : Launch) {G : GG} {L : List Nat} {ad : Nat → Nat} {v : Nat → Nat → Int32} {o : Nat → Nat → Option Nat} {w : Nat → Int64} {ng nh nl ns : Nat} {ow gx gy gw gd : Nat → Nat} (hJ : PJ L ad v o 101 110 ng nh nl ns ow gx gy gw gd) (hO1 : o 100 1 = some (ad 101)) {g : Nat} (hg : g < ng) {d li ra : Int32} (k1 : fIn d 0 10000 = 1) (k2 : fIn li 1 100000 = 1) (k3 : fIn ra 1 100 = 1) : CtI l G L ad v o w yX7_insure cX7_insure 6 .int ({ frames := 2, cells := 0, slots := 0, locals := 43 }) [.ref (ad 100), .int (nI g), .int d, .int li, .int ra] (fun r u => r = v 112 (3 * g + 1) ∧ u = rInsure v g d li ra) := by
  have hsb := hJ.q.sb; have hbd := hJ.bd; have hck := fIn_nat hg (by omega)
  refine q_ofI (by decide) (Nat.le_of_ble_eq_true rfl) ?_
  intro p e s m below meth c hx hb hr hml hts hown hlocks hE h0 hW hS ls hl
  generalize hH : s.heap = H at hW
  have hS : va_S (Ab G.2.2.1) s.heap H [] := hH ▸ hS
  obtain ⟨locs, hlc⟩ : ∃ z : List Loc, z = [] := ⟨_, rfl⟩
  rw [← hlc] at hS ⊢
  have hl : lv_has ls 6 [(0, .ref (ad 100)), (1, .int (nI g)), (2, .int d), (3, .int li), (4, .int ra)] := hl
  refine lv_aload_n hx hb dX7_insure_0 rfl (lv_at hl 0 rfl) ?_
  refine lv_iconst (v := 0) hx hb dX7_insure_1 (by decide) ?_
  refine q_put hx hb hts hown hW hS (r := 100) hJ.q.m0 rfl k_8 0 (by decide) rfl t_943 rfl (t := .int) (by decide +kernel) rfl rfl dX7_insure_2 (fun H locs hW hS => ?_)
  have hJ : PJ L ad (up2 v 100 0 0) o 101 110 ng nh nl ns ow gx gy gw gd := hJ.kp kr_t
  generalize hv1 : (up2 v 100 0 0) = v1 at hW hJ
  refine lv_aload_n hx hb dX7_insure_5 rfl (lv_at hl 0 rfl) ?_
  refine lv_iload_n hx hb dX7_insure_6 rfl (lv_at hl 1 rfl) ?_
  refine q_cViE (As := [.int (nI g)]) (rest := []) (r := 100) hx hb hml hts hown hE h0 hW hS (c_X7_isGrower l hJ hO1 (nI g)) mw_X7_isGrower hJ.q.m0 rfl k_8 t_973 ⟨Nat.le_of_ble_eq_true rfl, Nat.le_of_ble_eq_true rfl⟩ rfl hl.1 (Nat.le_of_ble_eq_true rfl) dX7_insure_7 ⟨Nat.zero_le _, Nat.zero_le _⟩ ⟨rfl, rfl⟩ (fun H locs hW hS => ?_)
  refine lv_if_ne (tgt := 19) hx hb dX7_insure_10 (by decide) (fun c_10 => ?_) (fun c_10 => ?_)
  · skip
    refine lv_iload_n hx hb dX7_insure_19 rfl (lv_at hl 2 rfl) ?_
    refine lv_iconst (v := 0) hx hb dX7_insure_20 (by decide) ?_
    refine lv_sipush (v := 10000) hx hb dX7_insure_21 (by decide) ?_
    refine q_cSiE (As := [.int d, .int 0, .int 10000]) (rest := []) hx hb hml hts hown hE h0 hW hS (c_X7_isIn l d 0 10000) mw_X7_isIn t_962 ⟨Nat.le_of_ble_eq_true rfl, Nat.le_of_ble_eq_true rfl⟩ rfl hl.1 (Nat.le_of_ble_eq_true rfl) dX7_insure_24 ⟨Nat.zero_le _, Nat.zero_le _⟩ ⟨rfl, rfl⟩ (fun H locs hW hS => ?_)
    refine lv_if_eq (tgt := 51) hx hb dX7_insure_27 (by decide) (fun c_27 => ?_) (fun c_27 => ?_)
    · skip
      exact absurd (k1.symm.trans c_27) (by decide)
    · skip
      refine lv_iload_n hx hb dX7_insure_30 rfl (lv_at hl 3 rfl) ?_
      refine lv_iconst (v := 1) hx hb dX7_insure_31 (by decide) ?_
      refine lv_ldc (v := 100000) hx hb hown (hts _ t_994) dX7_insure_32 ?_
      refine q_cSiE (As := [.int li, .int 1, .int 100000]) (rest := []) hx hb hml hts hown hE h0 hW hS (c_X7_isIn l li 1 100000) mw_X7_isIn t_962 ⟨Nat.le_of_ble_eq_true rfl, Nat.le_of_ble_eq_true rfl⟩ rfl hl.1 (Nat.le_of_ble_eq_true rfl) dX7_insure_34 ⟨Nat.zero_le _, Nat.zero_le _⟩ ⟨rfl, rfl⟩ (fun H locs hW hS => ?_)
      refine lv_if_eq (tgt := 51) hx hb dX7_insure_37 (by decide) (fun c_37 => ?_) (fun c_37 => ?_)
      · skip
        exact absurd (k2.symm.trans c_37) (by decide)
      · skip
        refine lv_iload hx hb dX7_insure_40 (lv_at hl 4 rfl) ?_
        refine lv_iconst (v := 1) hx hb dX7_insure_42 (by decide) ?_
        refine lv_bipush (v := 100) hx hb dX7_insure_43 (by decide) ?_
        refine q_cSiE (As := [.int ra, .int 1, .int 100]) (rest := []) hx hb hml hts hown hE h0 hW hS (c_X7_isIn l ra 1 100) mw_X7_isIn t_962 ⟨Nat.le_of_ble_eq_true rfl, Nat.le_of_ble_eq_true rfl⟩ rfl hl.1 (Nat.le_of_ble_eq_true rfl) dX7_insure_45 ⟨Nat.zero_le _, Nat.zero_le _⟩ ⟨rfl, rfl⟩ (fun H locs hW hS => ?_)
        refine lv_if_ne (tgt := 57) hx hb dX7_insure_48 (by decide) (fun c_48 => ?_) (fun c_48 => ?_)
        · skip
          refine lv_aload_n hx hb dX7_insure_57 rfl (lv_at hl 0 rfl) ?_
          refine q_getr hx hb hts hown hW (r := 100) hJ.q.m0 rfl k_8 1 (by decide) rfl t_944 (a := ad 101) hO1 dX7_insure_58 ?_
          refine q_getrN hx hb hts hown hW (r := 101) hJ.q.mS hJ.q.kS k_7 2 (by decide) rfl t_872 (a := ad (110 + 2)) (hJ.q.oB 2 rfl) dX7_insure_61 ?_
          refine lv_iconst (v := 3) hx hb dX7_insure_64 (by decide) ?_
          refine lv_iload_n hx hb dX7_insure_65 rfl (lv_at hl 1 rfl) ?_
          refine lv_imul hx hb dX7_insure_66 ?_
          refine lv_iconst (v := 1) hx hb dX7_insure_67 (by decide) ?_
          refine lv_iadd hx hb dX7_insure_68 ?_
          refine q_iald hx hb hW (r := (110 + 2)) (hJ.q.mB 2 rfl) (hJ.q.k9 2 rfl (by decide)) (3 * g + 1) (ix_add (ix_mul rfl rfl) rfl) (by rw [hJ.q.ln 2 rfl]; show _ < 18; omega) (by rw [hJ.q.ln 2 rfl]; decide) (x := (v1 (110 + 2) (3 * g + 1))) rfl dX7_insure_69 ?_
          refine lv_istore (lv' := [(5, .int (v1 (110 + 2) (3 * g + 1))), (0, .ref (ad 100)), (1, .int (nI g)), (2, .int d), (3, .int li), (4, .int ra)]) hx hb dX7_insure_70 hl (by decide) rfl (fun ls hl => ?_)
          refine lv_aload_n hx hb dX7_insure_72 rfl (lv_at hl 1 rfl) ?_
          refine q_getr hx hb hts hown hW (r := 100) hJ.q.m0 rfl k_8 1 (by decide) rfl t_944 (a := ad 101) hO1 dX7_insure_73 ?_
          refine q_getrN hx hb hts hown hW (r := 101) hJ.q.mS hJ.q.kS k_7 2 (by decide) rfl t_872 (a := ad (110 + 2)) (hJ.q.oB 2 rfl) dX7_insure_76 ?_
          refine lv_iconst (v := 3) hx hb dX7_insure_79 (by decide) ?_
          refine lv_iload_n hx hb dX7_insure_80 rfl (lv_at hl 2 rfl) ?_
          refine lv_imul hx hb dX7_insure_81 ?_
          refine lv_iload_n hx hb dX7_insure_82 rfl (lv_at hl 3 rfl) ?_
          refine q_iast hx hb hW hS (r := (110 + 2)) (hJ.q.mB 2 rfl) (hJ.q.k9 2 rfl (by decide)) (3 * g) (ix_mul rfl rfl) (by rw [hJ.q.ln 2 rfl]; show _ < 18; omega) (by rw [hJ.q.ln 2 rfl]; decide) dX7_insure_83 (fun H locs hW hS => ?_)
          have hJ : PJ L ad (up2 v1 (110 + 2) (3 * g) d) o 101 110 ng nh nl ns ow gx gy gw gd := hJ.kp (kr_b hJ.q.1 (by omega))
          generalize hv2 : (up2 v1 (110 + 2) (3 * g) d) = v2 at hW hJ
          refine lv_aload_n hx hb dX7_insure_84 rfl (lv_at hl 1 rfl) ?_
          refine q_getr hx hb hts hown hW (r := 100) hJ.q.m0 rfl k_8 1 (by decide) rfl t_944 (a := ad 101) hO1 dX7_insure_85 ?_
          refine q_getrN hx hb hts hown hW (r := 101) hJ.q.mS hJ.q.kS k_7 2 (by decide) rfl t_872 (a := ad (110 + 2)) (hJ.q.oB 2 rfl) dX7_insure_88 ?_
          refine lv_iconst (v := 3) hx hb dX7_insure_91 (by decide) ?_
          refine lv_iload_n hx hb dX7_insure_92 rfl (lv_at hl 2 rfl) ?_
          refine lv_imul hx hb dX7_insure_93 ?_
          refine lv_iconst (v := 1) hx hb dX7_insure_94 (by decide) ?_
          refine lv_iadd hx hb dX7_insure_95 ?_
          refine lv_iload_n hx hb dX7_insure_96 rfl (lv_at hl 4 rfl) ?_
          refine q_iast hx hb hW hS (r := (110 + 2)) (hJ.q.mB 2 rfl) (hJ.q.k9 2 rfl (by decide)) (3 * g + 1) (ix_add (ix_mul rfl rfl) rfl) (by rw [hJ.q.ln 2 rfl]; show _ < 18; omega) (by rw [hJ.q.ln 2 rfl]; decide) dX7_insure_97 (fun H locs hW hS => ?_)
          have hJ : PJ L ad (up2 v2 (110 + 2) (3 * g + 1) li) o 101 110 ng nh nl ns ow gx gy gw gd := hJ.kp (kr_b hJ.q.1 (by omega))
          generalize hv3 : (up2 v2 (110 + 2) (3 * g + 1) li) = v3 at hW hJ
          refine lv_aload_n hx hb dX7_insure_98 rfl (lv_at hl 1 rfl) ?_
          refine q_getr hx hb hts hown hW (r := 100) hJ.q.m0 rfl k_8 1 (by decide) rfl t_944 (a := ad 101) hO1 dX7_insure_99 ?_
          refine q_getrN hx hb hts hown hW (r := 101) hJ.q.mS hJ.q.kS k_7 2 (by decide) rfl t_872 (a := ad (110 + 2)) (hJ.q.oB 2 rfl) dX7_insure_102 ?_
          refine lv_iconst (v := 3) hx hb dX7_insure_105 (by decide) ?_
          refine lv_iload_n hx hb dX7_insure_106 rfl (lv_at hl 2 rfl) ?_
          refine lv_imul hx hb dX7_insure_107 ?_
          refine lv_iconst (v := 2) hx hb dX7_insure_108 (by decide) ?_
          refine lv_iadd hx hb dX7_insure_109 ?_
          refine lv_iload hx hb dX7_insure_110 (lv_at hl 5 rfl) ?_
          refine q_iast hx hb hW hS (r := (110 + 2)) (hJ.q.mB 2 rfl) (hJ.q.k9 2 rfl (by decide)) (3 * g + 2) (ix_add (ix_mul rfl rfl) rfl) (by rw [hJ.q.ln 2 rfl]; show _ < 18; omega) (by rw [hJ.q.ln 2 rfl]; decide) dX7_insure_112 (fun H locs hW hS => ?_)
          have hJ : PJ L ad (up2 v3 (110 + 2) (3 * g + 2) ra) o 101 110 ng nh nl ns ow gx gy gw gd := hJ.kp (kr_b hJ.q.1 (by omega))
          generalize hv4 : (up2 v3 (110 + 2) (3 * g + 2) ra) = v4 at hW hJ
          refine lv_iload hx hb dX7_insure_113 (lv_at hl 0 rfl) ?_
          subst hv4
          subst hv3
          subst hv2
          subst hv1
          exact q_iret hx hb hr hlocks hW hS (Nat.le_refl _) (Nat.le_refl _) dX7_insure_115 (⟨rfl, rfl⟩)
        · skip
          exact absurd (k3.symm.trans c_48) (by decide)
  · skip
    exact absurd (hck.symm.trans c_10) (by decide)

set_option maxHeartbeats 4000000 in
set_option maxRecDepth 100000 in
theorem c_X7_insure_1 (l : Launch) {G : GG} {L : List Nat} {ad : Nat → Nat} {v : Nat → Nat → Int32} {o : Nat → Nat → Option Nat} {w : Nat → Int64} {ng nh nl ns : Nat} {ow gx gy gw gd : Nat → Nat} (hJ : PJ L ad v o 101 110 ng nh nl ns ow gx gy gw gd) (hO1 : o 100 1 = some (ad 101)) {a d li ra : Int32} (k1 : fIn a 0 (nI ng - 1) = 0) : CtI l G L ad v o w yX7_insure cX7_insure 6 .int ({ frames := 2, cells := 0, slots := 0, locals := 43 }) [.ref (ad 100), .int a, .int d, .int li, .int ra] (fun r u => r = 0 ∧ u = up2 (tz v) 100 0 1) := by
  have hsb := hJ.q.sb; have hbd := hJ.bd
  refine q_ofI (by decide) (Nat.le_of_ble_eq_true rfl) ?_
  intro p e s m below meth c hx hb hr hml hts hown hlocks hE h0 hW hS ls hl
  generalize hH : s.heap = H at hW
  have hS : va_S (Ab G.2.2.1) s.heap H [] := hH ▸ hS
  obtain ⟨locs, hlc⟩ : ∃ z : List Loc, z = [] := ⟨_, rfl⟩
  rw [← hlc] at hS ⊢
  have hl : lv_has ls 6 [(0, .ref (ad 100)), (1, .int a), (2, .int d), (3, .int li), (4, .int ra)] := hl
  refine lv_aload_n hx hb dX7_insure_0 rfl (lv_at hl 0 rfl) ?_
  refine lv_iconst (v := 0) hx hb dX7_insure_1 (by decide) ?_
  refine q_put hx hb hts hown hW hS (r := 100) hJ.q.m0 rfl k_8 0 (by decide) rfl t_943 rfl (t := .int) (by decide +kernel) rfl rfl dX7_insure_2 (fun H locs hW hS => ?_)
  have hJ : PJ L ad (up2 v 100 0 0) o 101 110 ng nh nl ns ow gx gy gw gd := hJ.kp kr_t
  generalize hv1 : (up2 v 100 0 0) = v1 at hW hJ
  refine lv_aload_n hx hb dX7_insure_5 rfl (lv_at hl 0 rfl) ?_
  refine lv_iload_n hx hb dX7_insure_6 rfl (lv_at hl 1 rfl) ?_
  refine q_cViE (As := [.int a]) (rest := []) (r := 100) hx hb hml hts hown hE h0 hW hS (c_X7_isGrower l hJ hO1 a) mw_X7_isGrower hJ.q.m0 rfl k_8 t_973 ⟨Nat.le_of_ble_eq_true rfl, Nat.le_of_ble_eq_true rfl⟩ rfl hl.1 (Nat.le_of_ble_eq_true rfl) dX7_insure_7 ⟨Nat.zero_le _, Nat.zero_le _⟩ ⟨rfl, rfl⟩ (fun H locs hW hS => ?_)
  refine lv_if_ne (tgt := 19) hx hb dX7_insure_10 (by decide) (fun c_10 => ?_) (fun c_10 => ?_)
  · skip
    exact absurd k1 c_10
  · skip
    refine lv_aload_n hx hb dX7_insure_13 rfl (lv_at hl 0 rfl) ?_
    refine lv_iconst (v := 1) hx hb dX7_insure_14 (by decide) ?_
    refine q_cViE (As := [.int 1]) (rest := []) (r := 100) hx hb hml hts hown hE h0 hW hS (c_X7_no l hJ.q.m0 1) mw_X7_no hJ.q.m0 rfl k_8 t_965 ⟨Nat.le_of_ble_eq_true rfl, Nat.le_of_ble_eq_true rfl⟩ rfl hl.1 (Nat.le_of_ble_eq_true rfl) dX7_insure_15 ⟨Nat.zero_le _, Nat.zero_le _⟩ ⟨rfl, rfl⟩ (fun H locs hW hS => ?_)
    have hJ : PJ L ad (up2 v1 100 0 1) o 101 110 ng nh nl ns ow gx gy gw gd := hJ.kp kr_t
    generalize hv2 : (up2 v1 100 0 1) = v2 at hW hJ
    subst hv2
    subst hv1
    exact q_iret hx hb hr hlocks hW hS (Nat.le_refl _) (Nat.le_refl _) dX7_insure_18 (⟨rfl, rfl⟩)

set_option maxHeartbeats 4000000 in
set_option maxRecDepth 100000 in
theorem c_X7_insure_2a (l : Launch) {G : GG} {L : List Nat} {ad : Nat → Nat} {v : Nat → Nat → Int32} {o : Nat → Nat → Option Nat} {w : Nat → Int64} {ng nh nl ns : Nat} {ow gx gy gw gd : Nat → Nat} (hJ : PJ L ad v o 101 110 ng nh nl ns ow gx gy gw gd) (hO1 : o 100 1 = some (ad 101)) {g : Nat} (hg : g < ng) {d li ra : Int32} (k1 : fIn d 0 10000 = 0) : CtI l G L ad v o w yX7_insure cX7_insure 6 .int ({ frames := 2, cells := 0, slots := 0, locals := 43 }) [.ref (ad 100), .int (nI g), .int d, .int li, .int ra] (fun r u => r = 0 ∧ u = up2 (tz v) 100 0 2) := by
  have hsb := hJ.q.sb; have hbd := hJ.bd; have hck := fIn_nat hg (by omega)
  refine q_ofI (by decide) (Nat.le_of_ble_eq_true rfl) ?_
  intro p e s m below meth c hx hb hr hml hts hown hlocks hE h0 hW hS ls hl
  generalize hH : s.heap = H at hW
  have hS : va_S (Ab G.2.2.1) s.heap H [] := hH ▸ hS
  obtain ⟨locs, hlc⟩ : ∃ z : List Loc, z = [] := ⟨_, rfl⟩
  rw [← hlc] at hS ⊢
  have hl : lv_has ls 6 [(0, .ref (ad 100)), (1, .int (nI g)), (2, .int d), (3, .int li), (4, .int ra)] := hl
  refine lv_aload_n hx hb dX7_insure_0 rfl (lv_at hl 0 rfl) ?_
  refine lv_iconst (v := 0) hx hb dX7_insure_1 (by decide) ?_
  refine q_put hx hb hts hown hW hS (r := 100) hJ.q.m0 rfl k_8 0 (by decide) rfl t_943 rfl (t := .int) (by decide +kernel) rfl rfl dX7_insure_2 (fun H locs hW hS => ?_)
  have hJ : PJ L ad (up2 v 100 0 0) o 101 110 ng nh nl ns ow gx gy gw gd := hJ.kp kr_t
  generalize hv1 : (up2 v 100 0 0) = v1 at hW hJ
  refine lv_aload_n hx hb dX7_insure_5 rfl (lv_at hl 0 rfl) ?_
  refine lv_iload_n hx hb dX7_insure_6 rfl (lv_at hl 1 rfl) ?_
  refine q_cViE (As := [.int (nI g)]) (rest := []) (r := 100) hx hb hml hts hown hE h0 hW hS (c_X7_isGrower l hJ hO1 (nI g)) mw_X7_isGrower hJ.q.m0 rfl k_8 t_973 ⟨Nat.le_of_ble_eq_true rfl, Nat.le_of_ble_eq_true rfl⟩ rfl hl.1 (Nat.le_of_ble_eq_true rfl) dX7_insure_7 ⟨Nat.zero_le _, Nat.zero_le _⟩ ⟨rfl, rfl⟩ (fun H locs hW hS => ?_)
  refine lv_if_ne (tgt := 19) hx hb dX7_insure_10 (by decide) (fun c_10 => ?_) (fun c_10 => ?_)
  · skip
    refine lv_iload_n hx hb dX7_insure_19 rfl (lv_at hl 2 rfl) ?_
    refine lv_iconst (v := 0) hx hb dX7_insure_20 (by decide) ?_
    refine lv_sipush (v := 10000) hx hb dX7_insure_21 (by decide) ?_
    refine q_cSiE (As := [.int d, .int 0, .int 10000]) (rest := []) hx hb hml hts hown hE h0 hW hS (c_X7_isIn l d 0 10000) mw_X7_isIn t_962 ⟨Nat.le_of_ble_eq_true rfl, Nat.le_of_ble_eq_true rfl⟩ rfl hl.1 (Nat.le_of_ble_eq_true rfl) dX7_insure_24 ⟨Nat.zero_le _, Nat.zero_le _⟩ ⟨rfl, rfl⟩ (fun H locs hW hS => ?_)
    refine lv_if_eq (tgt := 51) hx hb dX7_insure_27 (by decide) (fun c_27 => ?_) (fun c_27 => ?_)
    · skip
      refine lv_aload_n hx hb dX7_insure_51 rfl (lv_at hl 0 rfl) ?_
      refine lv_iconst (v := 2) hx hb dX7_insure_52 (by decide) ?_
      refine q_cViE (As := [.int 2]) (rest := []) (r := 100) hx hb hml hts hown hE h0 hW hS (c_X7_no l hJ.q.m0 2) mw_X7_no hJ.q.m0 rfl k_8 t_965 ⟨Nat.le_of_ble_eq_true rfl, Nat.le_of_ble_eq_true rfl⟩ rfl hl.1 (Nat.le_of_ble_eq_true rfl) dX7_insure_53 ⟨Nat.zero_le _, Nat.zero_le _⟩ ⟨rfl, rfl⟩ (fun H locs hW hS => ?_)
      have hJ : PJ L ad (up2 v1 100 0 2) o 101 110 ng nh nl ns ow gx gy gw gd := hJ.kp kr_t
      generalize hv2 : (up2 v1 100 0 2) = v2 at hW hJ
      subst hv2
      subst hv1
      exact q_iret hx hb hr hlocks hW hS (Nat.le_refl _) (Nat.le_refl _) dX7_insure_56 (⟨rfl, rfl⟩)
    · skip
      exact absurd k1 c_27
  · skip
    exact absurd (hck.symm.trans c_10) (by decide)

set_option maxHeartbeats 4000000 in
set_option maxRecDepth 100000 in
theorem c_X7_insure_2b (l : Launch) {G : GG} {L : List Nat} {ad : Nat → Nat} {v : Nat → Nat → Int32} {o : Nat → Nat → Option Nat} {w : Nat → Int64} {ng nh nl ns : Nat} {ow gx gy gw gd : Nat → Nat} (hJ : PJ L ad v o 101 110 ng nh nl ns ow gx gy gw gd) (hO1 : o 100 1 = some (ad 101)) {g : Nat} (hg : g < ng) {d li ra : Int32} (k1 : fIn d 0 10000 = 1) (k2 : fIn li 1 100000 = 0) : CtI l G L ad v o w yX7_insure cX7_insure 6 .int ({ frames := 2, cells := 0, slots := 0, locals := 43 }) [.ref (ad 100), .int (nI g), .int d, .int li, .int ra] (fun r u => r = 0 ∧ u = up2 (tz v) 100 0 2) := by
  have hsb := hJ.q.sb; have hbd := hJ.bd; have hck := fIn_nat hg (by omega)
  refine q_ofI (by decide) (Nat.le_of_ble_eq_true rfl) ?_
  intro p e s m below meth c hx hb hr hml hts hown hlocks hE h0 hW hS ls hl
  generalize hH : s.heap = H at hW
  have hS : va_S (Ab G.2.2.1) s.heap H [] := hH ▸ hS
  obtain ⟨locs, hlc⟩ : ∃ z : List Loc, z = [] := ⟨_, rfl⟩
  rw [← hlc] at hS ⊢
  have hl : lv_has ls 6 [(0, .ref (ad 100)), (1, .int (nI g)), (2, .int d), (3, .int li), (4, .int ra)] := hl
  refine lv_aload_n hx hb dX7_insure_0 rfl (lv_at hl 0 rfl) ?_
  refine lv_iconst (v := 0) hx hb dX7_insure_1 (by decide) ?_
  refine q_put hx hb hts hown hW hS (r := 100) hJ.q.m0 rfl k_8 0 (by decide) rfl t_943 rfl (t := .int) (by decide +kernel) rfl rfl dX7_insure_2 (fun H locs hW hS => ?_)
  have hJ : PJ L ad (up2 v 100 0 0) o 101 110 ng nh nl ns ow gx gy gw gd := hJ.kp kr_t
  generalize hv1 : (up2 v 100 0 0) = v1 at hW hJ
  refine lv_aload_n hx hb dX7_insure_5 rfl (lv_at hl 0 rfl) ?_
  refine lv_iload_n hx hb dX7_insure_6 rfl (lv_at hl 1 rfl) ?_
  refine q_cViE (As := [.int (nI g)]) (rest := []) (r := 100) hx hb hml hts hown hE h0 hW hS (c_X7_isGrower l hJ hO1 (nI g)) mw_X7_isGrower hJ.q.m0 rfl k_8 t_973 ⟨Nat.le_of_ble_eq_true rfl, Nat.le_of_ble_eq_true rfl⟩ rfl hl.1 (Nat.le_of_ble_eq_true rfl) dX7_insure_7 ⟨Nat.zero_le _, Nat.zero_le _⟩ ⟨rfl, rfl⟩ (fun H locs hW hS => ?_)
  refine lv_if_ne (tgt := 19) hx hb dX7_insure_10 (by decide) (fun c_10 => ?_) (fun c_10 => ?_)
  · skip
    refine lv_iload_n hx hb dX7_insure_19 rfl (lv_at hl 2 rfl) ?_
    refine lv_iconst (v := 0) hx hb dX7_insure_20 (by decide) ?_
    refine lv_sipush (v := 10000) hx hb dX7_insure_21 (by decide) ?_
    refine q_cSiE (As := [.int d, .int 0, .int 10000]) (rest := []) hx hb hml hts hown hE h0 hW hS (c_X7_isIn l d 0 10000) mw_X7_isIn t_962 ⟨Nat.le_of_ble_eq_true rfl, Nat.le_of_ble_eq_true rfl⟩ rfl hl.1 (Nat.le_of_ble_eq_true rfl) dX7_insure_24 ⟨Nat.zero_le _, Nat.zero_le _⟩ ⟨rfl, rfl⟩ (fun H locs hW hS => ?_)
    refine lv_if_eq (tgt := 51) hx hb dX7_insure_27 (by decide) (fun c_27 => ?_) (fun c_27 => ?_)
    · skip
      exact absurd (k1.symm.trans c_27) (by decide)
    · skip
      refine lv_iload_n hx hb dX7_insure_30 rfl (lv_at hl 3 rfl) ?_
      refine lv_iconst (v := 1) hx hb dX7_insure_31 (by decide) ?_
      refine lv_ldc (v := 100000) hx hb hown (hts _ t_994) dX7_insure_32 ?_
      refine q_cSiE (As := [.int li, .int 1, .int 100000]) (rest := []) hx hb hml hts hown hE h0 hW hS (c_X7_isIn l li 1 100000) mw_X7_isIn t_962 ⟨Nat.le_of_ble_eq_true rfl, Nat.le_of_ble_eq_true rfl⟩ rfl hl.1 (Nat.le_of_ble_eq_true rfl) dX7_insure_34 ⟨Nat.zero_le _, Nat.zero_le _⟩ ⟨rfl, rfl⟩ (fun H locs hW hS => ?_)
      refine lv_if_eq (tgt := 51) hx hb dX7_insure_37 (by decide) (fun c_37 => ?_) (fun c_37 => ?_)
      · skip
        refine lv_aload_n hx hb dX7_insure_51 rfl (lv_at hl 0 rfl) ?_
        refine lv_iconst (v := 2) hx hb dX7_insure_52 (by decide) ?_
        refine q_cViE (As := [.int 2]) (rest := []) (r := 100) hx hb hml hts hown hE h0 hW hS (c_X7_no l hJ.q.m0 2) mw_X7_no hJ.q.m0 rfl k_8 t_965 ⟨Nat.le_of_ble_eq_true rfl, Nat.le_of_ble_eq_true rfl⟩ rfl hl.1 (Nat.le_of_ble_eq_true rfl) dX7_insure_53 ⟨Nat.zero_le _, Nat.zero_le _⟩ ⟨rfl, rfl⟩ (fun H locs hW hS => ?_)
        have hJ : PJ L ad (up2 v1 100 0 2) o 101 110 ng nh nl ns ow gx gy gw gd := hJ.kp kr_t
        generalize hv2 : (up2 v1 100 0 2) = v2 at hW hJ
        subst hv2
        subst hv1
        exact q_iret hx hb hr hlocks hW hS (Nat.le_refl _) (Nat.le_refl _) dX7_insure_56 (⟨rfl, rfl⟩)
      · skip
        exact absurd k2 c_37
  · skip
    exact absurd (hck.symm.trans c_10) (by decide)

set_option maxHeartbeats 4000000 in
set_option maxRecDepth 100000 in
theorem c_X7_insure_2c (l : Launch) {G : GG} {L : List Nat} {ad : Nat → Nat} {v : Nat → Nat → Int32} {o : Nat → Nat → Option Nat} {w : Nat → Int64} {ng nh nl ns : Nat} {ow gx gy gw gd : Nat → Nat} (hJ : PJ L ad v o 101 110 ng nh nl ns ow gx gy gw gd) (hO1 : o 100 1 = some (ad 101)) {g : Nat} (hg : g < ng) {d li ra : Int32} (k1 : fIn d 0 10000 = 1) (k2 : fIn li 1 100000 = 1) (k3 : fIn ra 1 100 = 0) : CtI l G L ad v o w yX7_insure cX7_insure 6 .int ({ frames := 2, cells := 0, slots := 0, locals := 43 }) [.ref (ad 100), .int (nI g), .int d, .int li, .int ra] (fun r u => r = 0 ∧ u = up2 (tz v) 100 0 2) := by
  have hsb := hJ.q.sb; have hbd := hJ.bd; have hck := fIn_nat hg (by omega)
  refine q_ofI (by decide) (Nat.le_of_ble_eq_true rfl) ?_
  intro p e s m below meth c hx hb hr hml hts hown hlocks hE h0 hW hS ls hl
  generalize hH : s.heap = H at hW
  have hS : va_S (Ab G.2.2.1) s.heap H [] := hH ▸ hS
  obtain ⟨locs, hlc⟩ : ∃ z : List Loc, z = [] := ⟨_, rfl⟩
  rw [← hlc] at hS ⊢
  have hl : lv_has ls 6 [(0, .ref (ad 100)), (1, .int (nI g)), (2, .int d), (3, .int li), (4, .int ra)] := hl
  refine lv_aload_n hx hb dX7_insure_0 rfl (lv_at hl 0 rfl) ?_
  refine lv_iconst (v := 0) hx hb dX7_insure_1 (by decide) ?_
  refine q_put hx hb hts hown hW hS (r := 100) hJ.q.m0 rfl k_8 0 (by decide) rfl t_943 rfl (t := .int) (by decide +kernel) rfl rfl dX7_insure_2 (fun H locs hW hS => ?_)
  have hJ : PJ L ad (up2 v 100 0 0) o 101 110 ng nh nl ns ow gx gy gw gd := hJ.kp kr_t
  generalize hv1 : (up2 v 100 0 0) = v1 at hW hJ
  refine lv_aload_n hx hb dX7_insure_5 rfl (lv_at hl 0 rfl) ?_
  refine lv_iload_n hx hb dX7_insure_6 rfl (lv_at hl 1 rfl) ?_
  refine q_cViE (As := [.int (nI g)]) (rest := []) (r := 100) hx hb hml hts hown hE h0 hW hS (c_X7_isGrower l hJ hO1 (nI g)) mw_X7_isGrower hJ.q.m0 rfl k_8 t_973 ⟨Nat.le_of_ble_eq_true rfl, Nat.le_of_ble_eq_true rfl⟩ rfl hl.1 (Nat.le_of_ble_eq_true rfl) dX7_insure_7 ⟨Nat.zero_le _, Nat.zero_le _⟩ ⟨rfl, rfl⟩ (fun H locs hW hS => ?_)
  refine lv_if_ne (tgt := 19) hx hb dX7_insure_10 (by decide) (fun c_10 => ?_) (fun c_10 => ?_)
  · skip
    refine lv_iload_n hx hb dX7_insure_19 rfl (lv_at hl 2 rfl) ?_
    refine lv_iconst (v := 0) hx hb dX7_insure_20 (by decide) ?_
    refine lv_sipush (v := 10000) hx hb dX7_insure_21 (by decide) ?_
    refine q_cSiE (As := [.int d, .int 0, .int 10000]) (rest := []) hx hb hml hts hown hE h0 hW hS (c_X7_isIn l d 0 10000) mw_X7_isIn t_962 ⟨Nat.le_of_ble_eq_true rfl, Nat.le_of_ble_eq_true rfl⟩ rfl hl.1 (Nat.le_of_ble_eq_true rfl) dX7_insure_24 ⟨Nat.zero_le _, Nat.zero_le _⟩ ⟨rfl, rfl⟩ (fun H locs hW hS => ?_)
    refine lv_if_eq (tgt := 51) hx hb dX7_insure_27 (by decide) (fun c_27 => ?_) (fun c_27 => ?_)
    · skip
      exact absurd (k1.symm.trans c_27) (by decide)
    · skip
      refine lv_iload_n hx hb dX7_insure_30 rfl (lv_at hl 3 rfl) ?_
      refine lv_iconst (v := 1) hx hb dX7_insure_31 (by decide) ?_
      refine lv_ldc (v := 100000) hx hb hown (hts _ t_994) dX7_insure_32 ?_
      refine q_cSiE (As := [.int li, .int 1, .int 100000]) (rest := []) hx hb hml hts hown hE h0 hW hS (c_X7_isIn l li 1 100000) mw_X7_isIn t_962 ⟨Nat.le_of_ble_eq_true rfl, Nat.le_of_ble_eq_true rfl⟩ rfl hl.1 (Nat.le_of_ble_eq_true rfl) dX7_insure_34 ⟨Nat.zero_le _, Nat.zero_le _⟩ ⟨rfl, rfl⟩ (fun H locs hW hS => ?_)
      refine lv_if_eq (tgt := 51) hx hb dX7_insure_37 (by decide) (fun c_37 => ?_) (fun c_37 => ?_)
      · skip
        exact absurd (k2.symm.trans c_37) (by decide)
      · skip
        refine lv_iload hx hb dX7_insure_40 (lv_at hl 4 rfl) ?_
        refine lv_iconst (v := 1) hx hb dX7_insure_42 (by decide) ?_
        refine lv_bipush (v := 100) hx hb dX7_insure_43 (by decide) ?_
        refine q_cSiE (As := [.int ra, .int 1, .int 100]) (rest := []) hx hb hml hts hown hE h0 hW hS (c_X7_isIn l ra 1 100) mw_X7_isIn t_962 ⟨Nat.le_of_ble_eq_true rfl, Nat.le_of_ble_eq_true rfl⟩ rfl hl.1 (Nat.le_of_ble_eq_true rfl) dX7_insure_45 ⟨Nat.zero_le _, Nat.zero_le _⟩ ⟨rfl, rfl⟩ (fun H locs hW hS => ?_)
        refine lv_if_ne (tgt := 57) hx hb dX7_insure_48 (by decide) (fun c_48 => ?_) (fun c_48 => ?_)
        · skip
          exact absurd k3 c_48
        · skip
          refine lv_aload_n hx hb dX7_insure_51 rfl (lv_at hl 0 rfl) ?_
          refine lv_iconst (v := 2) hx hb dX7_insure_52 (by decide) ?_
          refine q_cViE (As := [.int 2]) (rest := []) (r := 100) hx hb hml hts hown hE h0 hW hS (c_X7_no l hJ.q.m0 2) mw_X7_no hJ.q.m0 rfl k_8 t_965 ⟨Nat.le_of_ble_eq_true rfl, Nat.le_of_ble_eq_true rfl⟩ rfl hl.1 (Nat.le_of_ble_eq_true rfl) dX7_insure_53 ⟨Nat.zero_le _, Nat.zero_le _⟩ ⟨rfl, rfl⟩ (fun H locs hW hS => ?_)
          have hJ : PJ L ad (up2 v1 100 0 2) o 101 110 ng nh nl ns ow gx gy gw gd := hJ.kp kr_t
          generalize hv2 : (up2 v1 100 0 2) = v2 at hW hJ
          subst hv2
          subst hv1
          exact q_iret hx hb hr hlocks hW hS (Nat.le_refl _) (Nat.le_refl _) dX7_insure_56 (⟨rfl, rfl⟩)
  · skip
    exact absurd (hck.symm.trans c_10) (by decide)

set_option maxHeartbeats 4000000 in
set_option maxRecDepth 100000 in
theorem c_X7_mend (l : Launch) {G : GG} {L : List Nat} {ad : Nat → Nat} {v : Nat → Nat → Int32} {o : Nat → Nat → Option Nat} {w : Nat → Int64} {ng nh nl ns : Nat} {ow gx gy gw gd : Nat → Nat} (hJ : PJ L ad v o 101 110 ng nh nl ns ow gx gy gw gd) (hO1 : o 100 1 = some (ad 101)) {h : Nat} (hh : h < nh) (k1 : rLost (tz v) 110 (gw h * gd h) h ≤ v 111 (ow h)) : CtI l G L ad v o w yX7_mend cX7_mend 5 .int ({ frames := 2, cells := 0, slots := 0, locals := 45 }) [.ref (ad 100), .int (nI h)] (fun r u => r = rLost (tz v) 110 (gw h * gd h) h ∧ u = rMend v ow gw gd h) := by
  have hsb := hJ.q.sb; have hbd := hJ.bd; have hck := fIn_nat hh (by omega); have hgeo := (hJ.hs h hh).1; have hz36 := hJ.z36 hh
  refine q_ofI (by decide) (Nat.le_of_ble_eq_true rfl) ?_
  intro p e s m below meth c hx hb hr hml hts hown hlocks hE h0 hW hS ls hl
  generalize hH : s.heap = H at hW
  have hS : va_S (Ab G.2.2.1) s.heap H [] := hH ▸ hS
  obtain ⟨locs, hlc⟩ : ∃ z : List Loc, z = [] := ⟨_, rfl⟩
  rw [← hlc] at hS ⊢
  have hl : lv_has ls 5 [(0, .ref (ad 100)), (1, .int (nI h))] := hl
  refine lv_aload_n hx hb dX7_mend_0 rfl (lv_at hl 0 rfl) ?_
  refine lv_iconst (v := 0) hx hb dX7_mend_1 (by decide) ?_
  refine q_put hx hb hts hown hW hS (r := 100) hJ.q.m0 rfl k_8 0 (by decide) rfl t_943 rfl (t := .int) (by decide +kernel) rfl rfl dX7_mend_2 (fun H locs hW hS => ?_)
  have hJ : PJ L ad (up2 v 100 0 0) o 101 110 ng nh nl ns ow gx gy gw gd := hJ.kp kr_t
  refine lv_aload_n hx hb dX7_mend_5 rfl (lv_at hl 0 rfl) ?_
  refine lv_iload_n hx hb dX7_mend_6 rfl (lv_at hl 1 rfl) ?_
  refine q_cViE (As := [.int (nI h)]) (rest := []) (r := 100) hx hb hml hts hown hE h0 hW hS (c_X7_isHouse l hJ hO1 (nI h)) mw_X7_isHouse hJ.q.m0 rfl k_8 t_986 ⟨Nat.le_of_ble_eq_true rfl, Nat.le_of_ble_eq_true rfl⟩ rfl hl.1 (Nat.le_of_ble_eq_true rfl) dX7_mend_7 ⟨Nat.zero_le _, Nat.zero_le _⟩ ⟨rfl, rfl⟩ (fun H locs hW hS => ?_)
  refine lv_if_ne (tgt := 19) hx hb dX7_mend_10 (by decide) (fun c_10 => ?_) (fun c_10 => ?_)
  · skip
    refine lv_aload_n hx hb dX7_mend_19 rfl (lv_at hl 0 rfl) ?_
    refine q_getr hx hb hts hown hW (r := 100) hJ.q.m0 rfl k_8 1 (by decide) rfl t_944 (a := ad 101) hO1 dX7_mend_20 ?_
    refine q_getrN hx hb hts hown hW (r := 101) hJ.q.mS hJ.q.kS k_7 7 (by decide) rfl t_882 (a := ad (110 + 7)) (hJ.q.oB 7 rfl) dX7_mend_23 ?_
    refine lv_bipush (v := 7) hx hb dX7_mend_26 (by decide) ?_
    refine lv_iload_n hx hb dX7_mend_28 rfl (lv_at hl 1 rfl) ?_
    refine lv_imul hx hb dX7_mend_29 ?_
    refine q_iald hx hb hW (r := (110 + 7)) (hJ.q.mB 7 rfl) (hJ.q.k9 7 rfl (by decide)) (7 * h) (ix_mul rfl rfl) (by rw [hJ.q.ln 7 rfl]; show _ < 84; omega) (by rw [hJ.q.ln 7 rfl]; decide) (x := (nI (ow h))) (hJ.eO hh) dX7_mend_30 ?_
    refine lv_istore_n (lv' := [(2, .int (nI (ow h))), (0, .ref (ad 100)), (1, .int (nI h))]) hx hb dX7_mend_31 rfl hl (by decide) rfl (fun ls hl => ?_)
    refine lv_aload_n hx hb dX7_mend_32 rfl (lv_at hl 1 rfl) ?_
    refine q_getr hx hb hts hown hW (r := 100) hJ.q.m0 rfl k_8 1 (by decide) rfl t_944 (a := ad 101) hO1 dX7_mend_33 ?_
    refine lv_iload_n hx hb dX7_mend_36 rfl (lv_at hl 2 rfl) ?_
    refine q_cViE (As := [.int (nI h)]) (rest := []) (r := 101) hx hb hml hts hown hE h0 hW hS (c_X6_lostOf l hJ hh) mw_X6_lostOf hJ.q.mS hJ.q.kS k_7 t_999 ⟨Nat.le_of_ble_eq_true rfl, Nat.le_of_ble_eq_true rfl⟩ rfl hl.1 (Nat.le_of_ble_eq_true rfl) dX7_mend_37 ⟨Nat.zero_le _, Nat.zero_le _⟩ ⟨rfl, rfl⟩ (fun H locs hW hS => ?_)
    refine lv_istore_n (lv' := [(3, .int (rLost (up2 v 100 0 0) 110 (gw h * gd h) h)), (2, .int (nI (ow h))), (0, .ref (ad 100)), (1, .int (nI h))]) hx hb dX7_mend_40 rfl hl (by decide) rfl (fun ls hl => ?_)
    refine lv_iload_n hx hb dX7_mend_41 rfl (lv_at hl 0 rfl) ?_
    refine lv_aload_n hx hb dX7_mend_42 rfl (lv_at hl 2 rfl) ?_
    refine q_getr hx hb hts hown hW (r := 100) hJ.q.m0 rfl k_8 1 (by decide) rfl t_944 (a := ad 101) hO1 dX7_mend_43 ?_
    refine q_getrN hx hb hts hown hW (r := 101) hJ.q.mS hJ.q.kS k_7 1 (by decide) rfl t_870 (a := ad (110 + 1)) (hJ.q.oB 1 rfl) dX7_mend_46 ?_
    refine lv_iload_n hx hb dX7_mend_49 rfl (lv_at hl 1 rfl) ?_
    refine q_iald hx hb hW (r := (110 + 1)) (hJ.q.mB 1 rfl) (hJ.q.k9 1 rfl (by decide)) (ow h) rfl (by rw [hJ.q.ln 1 rfl]; show _ < 6; omega) (by rw [hJ.q.ln 1 rfl]; decide) (x := ((up2 v 100 0 0) (110 + 1) (ow h))) rfl dX7_mend_50 ?_
    refine lv_icmp_le (tgt := 60) hx hb dX7_mend_51 (by decide) (fun c_51 => ?_) (fun c_51 => ?_)
    · skip
      refine lv_aload_n hx hb dX7_mend_60 rfl (lv_at hl 2 rfl) ?_
      refine q_getr hx hb hts hown hW (r := 100) hJ.q.m0 rfl k_8 1 (by decide) rfl t_944 (a := ad 101) hO1 dX7_mend_61 ?_
      refine q_getrN hx hb hts hown hW (r := 101) hJ.q.mS hJ.q.kS k_7 1 (by decide) rfl t_870 (a := ad (110 + 1)) (hJ.q.oB 1 rfl) dX7_mend_64 ?_
      refine lv_iload_n hx hb dX7_mend_67 rfl (lv_at hl 1 rfl) ?_
      refine lv_dup2_11 hx hb dX7_mend_68 rfl rfl ?_
      refine q_iald hx hb hW (r := (110 + 1)) (hJ.q.mB 1 rfl) (hJ.q.k9 1 rfl (by decide)) (ow h) rfl (by rw [hJ.q.ln 1 rfl]; show _ < 6; omega) (by rw [hJ.q.ln 1 rfl]; decide) (x := ((up2 v 100 0 0) (110 + 1) (ow h))) rfl dX7_mend_69 ?_
      refine lv_iload_n hx hb dX7_mend_70 rfl (lv_at hl 0 rfl) ?_
      refine lv_isub hx hb dX7_mend_71 ?_
      refine q_iast hx hb hW hS (r := (110 + 1)) (hJ.q.mB 1 rfl) (hJ.q.k9 1 rfl (by decide)) (ow h) rfl (by rw [hJ.q.ln 1 rfl]; show _ < 6; omega) (by rw [hJ.q.ln 1 rfl]; decide) dX7_mend_72 (fun H locs hW hS => ?_)
      have hJ : PJ L ad (up2 (up2 v 100 0 0) (110 + 1) (ow h) (((up2 v 100 0 0) (110 + 1) (ow h)) - (rLost (up2 v 100 0 0) 110 (gw h * gd h) h))) o 101 110 ng nh nl ns ow gx gy gw gd := hJ.kp (kr_b hJ.q.1 (by omega))
      refine lv_iconst (v := 0) hx hb dX7_mend_73 (by decide) ?_
      refine lv_istore (lv' := [(4, .int 0), (3, .int (rLost (up2 v 100 0 0) 110 (gw h * gd h) h)), (2, .int (nI (ow h))), (0, .ref (ad 100)), (1, .int (nI h))]) hx hb dX7_mend_74 hl (by decide) rfl (fun ls hl => ?_)
      suffices LP_76 : ∀ (n_76 k1 : Nat) (x4_76 : Int32)  (u_76 : Nat → Nat → Int32) (H : Heap) (locs : List Loc) (ls : Array Slot), gw h * gd h + 1 ≤ k1 + n_76 → k1 ≤ gw h * gd h → nI k1 = x4_76 → (itr (fun k u => up2 u 119 (36 * h + k) 0) k1 (up2 (tz v) 111 (ow h) (tz v 111 (ow h) - rLost (tz v) 110 (gw h * gd h) h))) = u_76 → WD G L ad u_76 o w s H → va_S (Ab G.2.2.1) s.heap H locs → lv_has ls 5 [(4, .int x4_76), (3, .int (rLost (up2 v 100 0 0) 110 (gw h * gd h) h)), (0, .ref (ad 100)), (1, .int (nI h))] → W p l e ({ frames := 2, cells := 0, slots := 0, locals := 45 } : Room) s m ([.ref (ad 100), .int (nI h)] : List Value).toArray below meth c H locs 0 0 (MQ below (va_Qi (fun r u => r = rLost (tz v) 110 (gw h * gd h) h ∧ u = rMend v ow gw gd h) (fun u t => WD G L ad u o w t t.heap) (Ab G.2.2.1)) ([.ref (ad 100), .int (nI h)] : List Value).toArray s ({ frames := 2, cells := 0, slots := 0, locals := 45 } : Room).cells ({ frames := 2, cells := 0, slots := 0, locals := 45 } : Room).slots (Ab G.2.2.1)) (F0 m 76 ls []) from LP_76 (gw h * gd h + 1) 0 _   _ H locs ls (by omega) (by omega) (by rfl) (by rfl)  hW hS (lv_sub hl [0, 1, 3, 4] rfl)
      intro n_76
      induction n_76 with
      | zero => intro k1 x4_76  u_76 H locs ls h1 h2; exact absurd h1 (by omega)
      | succ n_76 ih_76 =>
        intro k1 x4_76  u_76 H locs ls hn_76 hi_76 ex4_76 eu_76  hW hS hl
        subst ex4_76
        subst eu_76
        have hJ : PJ L ad (itr (fun k u => up2 u 119 (36 * h + k) 0) k1 (up2 (tz v) 111 (ow h) (tz v 111 (ow h) - rLost (tz v) 110 (gw h * gd h) h))) o 101 110 ng nh nl ns ow gx gy gw gd := hJ.kp (kr_itr (fun _ _ _ => kr_b hJ.q.1 (by omega)))
        refine lv_iload hx hb dX7_mend_76 (lv_at hl 0 rfl) ?_
        refine lv_aload_n hx hb dX7_mend_78 rfl (lv_at hl 2 rfl) ?_
        refine q_getr hx hb hts hown hW (r := 100) hJ.q.m0 rfl k_8 1 (by decide) rfl t_944 (a := ad 101) hO1 dX7_mend_79 ?_
        refine lv_iload_n hx hb dX7_mend_82 rfl (lv_at hl 3 rfl) ?_
        refine q_cViE (As := [.int (nI h)]) (rest := [.int (nI k1)]) (r := 101) hx hb hml hts hown hE h0 hW hS (c_X6_size l hJ hh) mw_X6_size hJ.q.mS hJ.q.kS k_7 t_1011 ⟨Nat.le_of_ble_eq_true rfl, Nat.le_of_ble_eq_true rfl⟩ rfl hl.1 (Nat.le_of_ble_eq_true rfl) dX7_mend_83 ⟨Nat.zero_le _, Nat.zero_le _⟩ ⟨rfl, rfl⟩ (fun H locs hW hS => ?_)
        refine lv_icmp_ge (tgt := 111) hx hb dX7_mend_86 (by decide) (fun c_86 => ?_) (fun c_86 => ?_)
        · skip
          have hq_76 := (ge_i (n := (gw h * gd h)) (by omega) hi_76 c_86).symm
          subst hq_76
          refine lv_iload_n hx hb dX7_mend_111 rfl (lv_at hl 1 rfl) ?_
          exact q_iret hx hb hr hlocks hW hS (Nat.le_refl _) (Nat.le_refl _) dX7_mend_112 (⟨rfl, rfl⟩)
        · skip
          have hlt_76 := lt_i (n := (gw h * gd h)) (by omega) hi_76 c_86
          refine lv_aload_n hx hb dX7_mend_89 rfl (lv_at hl 2 rfl) ?_
          refine q_getr hx hb hts hown hW (r := 100) hJ.q.m0 rfl k_8 1 (by decide) rfl t_944 (a := ad 101) hO1 dX7_mend_90 ?_
          refine q_getrN hx hb hts hown hW (r := 101) hJ.q.mS hJ.q.kS k_7 9 (by decide) rfl t_886 (a := ad (110 + 9)) (hJ.q.oB 9 rfl) dX7_mend_93 ?_
          refine lv_bipush (v := 36) hx hb dX7_mend_96 (by decide) ?_
          refine lv_iload_n hx hb dX7_mend_98 rfl (lv_at hl 3 rfl) ?_
          refine lv_imul hx hb dX7_mend_99 ?_
          refine lv_iload hx hb dX7_mend_100 (lv_at hl 0 rfl) ?_
          refine lv_iadd hx hb dX7_mend_102 ?_
          refine lv_iconst (v := 0) hx hb dX7_mend_103 (by decide) ?_
          refine q_iast hx hb hW hS (r := (110 + 9)) (hJ.q.mB 9 rfl) (hJ.q.k9 9 rfl (by decide)) (36 * h + k1) (ix_add (ix_mul rfl rfl) rfl) (by rw [hJ.q.ln 9 rfl]; show _ < 432; omega) (by rw [hJ.q.ln 9 rfl]; decide) dX7_mend_104 (fun H locs hW hS => ?_)
          have hJ : PJ L ad (up2 (itr (fun k u => up2 u 119 (36 * h + k) 0) k1 (up2 (tz v) 111 (ow h) (tz v 111 (ow h) - rLost (tz v) 110 (gw h * gd h) h))) (110 + 9) (36 * h + k1) 0) o 101 110 ng nh nl ns ow gx gy gw gd := hJ.kp (kr_b hJ.q.1 (by omega))
          generalize hv1 : (up2 (itr (fun k u => up2 u 119 (36 * h + k) 0) k1 (up2 (tz v) 111 (ow h) (tz v 111 (ow h) - rLost (tz v) 110 (gw h * gd h) h))) (110 + 9) (36 * h + k1) 0) = v1 at hW hJ
          refine lv_iinc (v := (nI (k1 + 1))) (lv' := [(4, .int (nI (k1 + 1))), (3, .int (rLost (up2 v 100 0 0) 110 (gw h * gd h) h)), (0, .ref (ad 100)), (1, .int (nI h))]) hx hb dX7_mend_105 hl (k := 0) rfl (inc_nI _) (by decide) rfl (fun ls hl => ?_)
          refine lv_goto (tgt := 76) hx hb dX7_mend_108 (by decide) ?_
          subst hv1
          exact ih_76 (k1 + 1) _   _ H locs ls (by omega) (by omega) (by rfl) (by rfl)  hW hS (lv_sub hl [0, 1, 2, 3] rfl)
    · skip
      exact absurd k1 c_51
  · skip
    exact absurd (hck.symm.trans c_10) (by decide)

set_option maxHeartbeats 4000000 in
set_option maxRecDepth 100000 in
theorem c_X7_mend_1 (l : Launch) {G : GG} {L : List Nat} {ad : Nat → Nat} {v : Nat → Nat → Int32} {o : Nat → Nat → Option Nat} {w : Nat → Int64} {ng nh nl ns : Nat} {ow gx gy gw gd : Nat → Nat} (hJ : PJ L ad v o 101 110 ng nh nl ns ow gx gy gw gd) (hO1 : o 100 1 = some (ad 101)) {a : Int32} (k1 : fIn a 0 (nI nh - 1) = 0) : CtI l G L ad v o w yX7_mend cX7_mend 5 .int ({ frames := 2, cells := 0, slots := 0, locals := 43 }) [.ref (ad 100), .int a] (fun r u => r = 0 ∧ u = up2 (tz v) 100 0 1) := by
  have hsb := hJ.q.sb; have hbd := hJ.bd
  refine q_ofI (by decide) (Nat.le_of_ble_eq_true rfl) ?_
  intro p e s m below meth c hx hb hr hml hts hown hlocks hE h0 hW hS ls hl
  generalize hH : s.heap = H at hW
  have hS : va_S (Ab G.2.2.1) s.heap H [] := hH ▸ hS
  obtain ⟨locs, hlc⟩ : ∃ z : List Loc, z = [] := ⟨_, rfl⟩
  rw [← hlc] at hS ⊢
  have hl : lv_has ls 5 [(0, .ref (ad 100)), (1, .int a)] := hl
  refine lv_aload_n hx hb dX7_mend_0 rfl (lv_at hl 0 rfl) ?_
  refine lv_iconst (v := 0) hx hb dX7_mend_1 (by decide) ?_
  refine q_put hx hb hts hown hW hS (r := 100) hJ.q.m0 rfl k_8 0 (by decide) rfl t_943 rfl (t := .int) (by decide +kernel) rfl rfl dX7_mend_2 (fun H locs hW hS => ?_)
  have hJ : PJ L ad (up2 v 100 0 0) o 101 110 ng nh nl ns ow gx gy gw gd := hJ.kp kr_t
  generalize hv1 : (up2 v 100 0 0) = v1 at hW hJ
  refine lv_aload_n hx hb dX7_mend_5 rfl (lv_at hl 0 rfl) ?_
  refine lv_iload_n hx hb dX7_mend_6 rfl (lv_at hl 1 rfl) ?_
  refine q_cViE (As := [.int a]) (rest := []) (r := 100) hx hb hml hts hown hE h0 hW hS (c_X7_isHouse l hJ hO1 a) mw_X7_isHouse hJ.q.m0 rfl k_8 t_986 ⟨Nat.le_of_ble_eq_true rfl, Nat.le_of_ble_eq_true rfl⟩ rfl hl.1 (Nat.le_of_ble_eq_true rfl) dX7_mend_7 ⟨Nat.zero_le _, Nat.zero_le _⟩ ⟨rfl, rfl⟩ (fun H locs hW hS => ?_)
  refine lv_if_ne (tgt := 19) hx hb dX7_mend_10 (by decide) (fun c_10 => ?_) (fun c_10 => ?_)
  · skip
    exact absurd k1 c_10
  · skip
    refine lv_aload_n hx hb dX7_mend_13 rfl (lv_at hl 0 rfl) ?_
    refine lv_iconst (v := 1) hx hb dX7_mend_14 (by decide) ?_
    refine q_cViE (As := [.int 1]) (rest := []) (r := 100) hx hb hml hts hown hE h0 hW hS (c_X7_no l hJ.q.m0 1) mw_X7_no hJ.q.m0 rfl k_8 t_965 ⟨Nat.le_of_ble_eq_true rfl, Nat.le_of_ble_eq_true rfl⟩ rfl hl.1 (Nat.le_of_ble_eq_true rfl) dX7_mend_15 ⟨Nat.zero_le _, Nat.zero_le _⟩ ⟨rfl, rfl⟩ (fun H locs hW hS => ?_)
    have hJ : PJ L ad (up2 v1 100 0 1) o 101 110 ng nh nl ns ow gx gy gw gd := hJ.kp kr_t
    generalize hv2 : (up2 v1 100 0 1) = v2 at hW hJ
    subst hv2
    subst hv1
    exact q_iret hx hb hr hlocks hW hS (Nat.le_refl _) (Nat.le_refl _) dX7_mend_18 (⟨rfl, rfl⟩)

set_option maxHeartbeats 4000000 in
set_option maxRecDepth 100000 in
theorem c_X7_mend_2 (l : Launch) {G : GG} {L : List Nat} {ad : Nat → Nat} {v : Nat → Nat → Int32} {o : Nat → Nat → Option Nat} {w : Nat → Int64} {ng nh nl ns : Nat} {ow gx gy gw gd : Nat → Nat} (hJ : PJ L ad v o 101 110 ng nh nl ns ow gx gy gw gd) (hO1 : o 100 1 = some (ad 101)) {h : Nat} (hh : h < nh) (k1 : ¬ rLost (tz v) 110 (gw h * gd h) h ≤ v 111 (ow h)) : CtI l G L ad v o w yX7_mend cX7_mend 5 .int ({ frames := 2, cells := 0, slots := 0, locals := 45 }) [.ref (ad 100), .int (nI h)] (fun r u => r = 0 ∧ u = up2 (tz v) 100 0 2) := by
  have hsb := hJ.q.sb; have hbd := hJ.bd; have hck := fIn_nat hh (by omega); have hgeo := (hJ.hs h hh).1; have hz36 := hJ.z36 hh
  refine q_ofI (by decide) (Nat.le_of_ble_eq_true rfl) ?_
  intro p e s m below meth c hx hb hr hml hts hown hlocks hE h0 hW hS ls hl
  generalize hH : s.heap = H at hW
  have hS : va_S (Ab G.2.2.1) s.heap H [] := hH ▸ hS
  obtain ⟨locs, hlc⟩ : ∃ z : List Loc, z = [] := ⟨_, rfl⟩
  rw [← hlc] at hS ⊢
  have hl : lv_has ls 5 [(0, .ref (ad 100)), (1, .int (nI h))] := hl
  refine lv_aload_n hx hb dX7_mend_0 rfl (lv_at hl 0 rfl) ?_
  refine lv_iconst (v := 0) hx hb dX7_mend_1 (by decide) ?_
  refine q_put hx hb hts hown hW hS (r := 100) hJ.q.m0 rfl k_8 0 (by decide) rfl t_943 rfl (t := .int) (by decide +kernel) rfl rfl dX7_mend_2 (fun H locs hW hS => ?_)
  have hJ : PJ L ad (up2 v 100 0 0) o 101 110 ng nh nl ns ow gx gy gw gd := hJ.kp kr_t
  refine lv_aload_n hx hb dX7_mend_5 rfl (lv_at hl 0 rfl) ?_
  refine lv_iload_n hx hb dX7_mend_6 rfl (lv_at hl 1 rfl) ?_
  refine q_cViE (As := [.int (nI h)]) (rest := []) (r := 100) hx hb hml hts hown hE h0 hW hS (c_X7_isHouse l hJ hO1 (nI h)) mw_X7_isHouse hJ.q.m0 rfl k_8 t_986 ⟨Nat.le_of_ble_eq_true rfl, Nat.le_of_ble_eq_true rfl⟩ rfl hl.1 (Nat.le_of_ble_eq_true rfl) dX7_mend_7 ⟨Nat.zero_le _, Nat.zero_le _⟩ ⟨rfl, rfl⟩ (fun H locs hW hS => ?_)
  refine lv_if_ne (tgt := 19) hx hb dX7_mend_10 (by decide) (fun c_10 => ?_) (fun c_10 => ?_)
  · skip
    refine lv_aload_n hx hb dX7_mend_19 rfl (lv_at hl 0 rfl) ?_
    refine q_getr hx hb hts hown hW (r := 100) hJ.q.m0 rfl k_8 1 (by decide) rfl t_944 (a := ad 101) hO1 dX7_mend_20 ?_
    refine q_getrN hx hb hts hown hW (r := 101) hJ.q.mS hJ.q.kS k_7 7 (by decide) rfl t_882 (a := ad (110 + 7)) (hJ.q.oB 7 rfl) dX7_mend_23 ?_
    refine lv_bipush (v := 7) hx hb dX7_mend_26 (by decide) ?_
    refine lv_iload_n hx hb dX7_mend_28 rfl (lv_at hl 1 rfl) ?_
    refine lv_imul hx hb dX7_mend_29 ?_
    refine q_iald hx hb hW (r := (110 + 7)) (hJ.q.mB 7 rfl) (hJ.q.k9 7 rfl (by decide)) (7 * h) (ix_mul rfl rfl) (by rw [hJ.q.ln 7 rfl]; show _ < 84; omega) (by rw [hJ.q.ln 7 rfl]; decide) (x := (nI (ow h))) (hJ.eO hh) dX7_mend_30 ?_
    refine lv_istore_n (lv' := [(2, .int (nI (ow h))), (0, .ref (ad 100)), (1, .int (nI h))]) hx hb dX7_mend_31 rfl hl (by decide) rfl (fun ls hl => ?_)
    refine lv_aload_n hx hb dX7_mend_32 rfl (lv_at hl 1 rfl) ?_
    refine q_getr hx hb hts hown hW (r := 100) hJ.q.m0 rfl k_8 1 (by decide) rfl t_944 (a := ad 101) hO1 dX7_mend_33 ?_
    refine lv_iload_n hx hb dX7_mend_36 rfl (lv_at hl 2 rfl) ?_
    refine q_cViE (As := [.int (nI h)]) (rest := []) (r := 101) hx hb hml hts hown hE h0 hW hS (c_X6_lostOf l hJ hh) mw_X6_lostOf hJ.q.mS hJ.q.kS k_7 t_999 ⟨Nat.le_of_ble_eq_true rfl, Nat.le_of_ble_eq_true rfl⟩ rfl hl.1 (Nat.le_of_ble_eq_true rfl) dX7_mend_37 ⟨Nat.zero_le _, Nat.zero_le _⟩ ⟨rfl, rfl⟩ (fun H locs hW hS => ?_)
    refine lv_istore_n (lv' := [(3, .int (rLost (up2 v 100 0 0) 110 (gw h * gd h) h)), (2, .int (nI (ow h))), (0, .ref (ad 100)), (1, .int (nI h))]) hx hb dX7_mend_40 rfl hl (by decide) rfl (fun ls hl => ?_)
    refine lv_iload_n hx hb dX7_mend_41 rfl (lv_at hl 0 rfl) ?_
    refine lv_aload_n hx hb dX7_mend_42 rfl (lv_at hl 2 rfl) ?_
    refine q_getr hx hb hts hown hW (r := 100) hJ.q.m0 rfl k_8 1 (by decide) rfl t_944 (a := ad 101) hO1 dX7_mend_43 ?_
    refine q_getrN hx hb hts hown hW (r := 101) hJ.q.mS hJ.q.kS k_7 1 (by decide) rfl t_870 (a := ad (110 + 1)) (hJ.q.oB 1 rfl) dX7_mend_46 ?_
    refine lv_iload_n hx hb dX7_mend_49 rfl (lv_at hl 1 rfl) ?_
    refine q_iald hx hb hW (r := (110 + 1)) (hJ.q.mB 1 rfl) (hJ.q.k9 1 rfl (by decide)) (ow h) rfl (by rw [hJ.q.ln 1 rfl]; show _ < 6; omega) (by rw [hJ.q.ln 1 rfl]; decide) (x := ((up2 v 100 0 0) (110 + 1) (ow h))) rfl dX7_mend_50 ?_
    refine lv_icmp_le (tgt := 60) hx hb dX7_mend_51 (by decide) (fun c_51 => ?_) (fun c_51 => ?_)
    · skip
      exact absurd c_51 k1
    · skip
      refine lv_aload_n hx hb dX7_mend_54 rfl (lv_at hl 2 rfl) ?_
      refine lv_iconst (v := 2) hx hb dX7_mend_55 (by decide) ?_
      refine q_cViE (As := [.int 2]) (rest := []) (r := 100) hx hb hml hts hown hE h0 hW hS (c_X7_no l hJ.q.m0 2) mw_X7_no hJ.q.m0 rfl k_8 t_965 ⟨Nat.le_of_ble_eq_true rfl, Nat.le_of_ble_eq_true rfl⟩ rfl hl.1 (Nat.le_of_ble_eq_true rfl) dX7_mend_56 ⟨Nat.zero_le _, Nat.zero_le _⟩ ⟨rfl, rfl⟩ (fun H locs hW hS => ?_)
      have hJ : PJ L ad (up2 (up2 v 100 0 0) 100 0 2) o 101 110 ng nh nl ns ow gx gy gw gd := hJ.kp kr_t
      generalize hv1 : (up2 (up2 v 100 0 0) 100 0 2) = v1 at hW hJ
      subst hv1
      exact q_iret hx hb hr hlocks hW hS (Nat.le_refl _) (Nat.le_refl _) dX7_mend_59 (⟨rfl, rfl⟩)
  · skip
    exact absurd (hck.symm.trans c_10) (by decide)

set_option maxHeartbeats 4000000 in
set_option maxRecDepth 100000 in
theorem c_X7_growerTold (l : Launch) {G : GG} {L : List Nat} {ad : Nat → Nat} {v : Nat → Nat → Int32} {o : Nat → Nat → Option Nat} {w : Nat → Int64} {ng nh nl ns : Nat} {ow gx gy gw gd : Nat → Nat} (hJ : PJ L ad v o 101 110 ng nh nl ns ow gx gy gw gd) (hO1 : o 100 1 = some (ad 101)) (hr9 : 183 ∉ L) {g : Nat} (hg : g < ng) {what : Nat} (hw9 : what < 10) : CtI l G L ad v o w yX7_growerTold cX7_growerTold 5 .int ({ frames := 3, cells := 1, slots := 10, locals := 68 }) [.ref (ad 100), .int (nI g), .int (nI what)] (fun r u => r = rGr v gw gd nh g what ∧ u = v) := by
  have hsb := hJ.q.sb; have hbd := hJ.bd
  refine q_ofI (by decide) (Nat.le_of_ble_eq_true rfl) ?_
  intro p e s m below meth c hx hb hr hml hts hown hlocks hE h0 hW hS ls hl
  generalize hH : s.heap = H at hW
  have hS : va_S (Ab G.2.2.1) s.heap H [] := hH ▸ hS
  obtain ⟨locs, hlc⟩ : ∃ z : List Loc, z = [] := ⟨_, rfl⟩
  rw [← hlc] at hS ⊢
  have hl : lv_has ls 5 [(0, .ref (ad 100)), (1, .int (nI g)), (2, .int (nI what))] := hl
  refine lv_iconst (v := 0) hx hb dX7_growerTold_0 (by decide) ?_
  refine lv_istore_n (lv' := [(3, .int 0), (0, .ref (ad 100)), (1, .int (nI g)), (2, .int (nI what))]) hx hb dX7_growerTold_1 rfl hl (by decide) rfl (fun ls hl => ?_)
  refine lv_iconst (v := 0) hx hb dX7_growerTold_2 (by decide) ?_
  refine lv_istore (lv' := [(4, .int 0), (3, .int 0), (0, .ref (ad 100)), (1, .int (nI g)), (2, .int (nI what))]) hx hb dX7_growerTold_3 hl (by decide) rfl (fun ls hl => ?_)
  suffices LP_5 : ∀ (n_5 i : Nat) (x3_5 : Int32) (x4_5 : Int32)  (u_5 : Nat → Nat → Int32) (H : Heap) (locs : List Loc) (ls : Array Slot), nh + 1 ≤ i + n_5 → i ≤ nh → sumI (fun h => if v 117 (7 * h) = nI g then 1 else 0) i = x3_5 → nI i = x4_5 → v = u_5 → WD G L ad u_5 o w s H → va_S (Ab G.2.2.1) s.heap H locs → lv_has ls 5 [(4, .int x4_5), (3, .int x3_5), (0, .ref (ad 100)), (1, .int (nI g)), (2, .int (nI what))] → W p l e ({ frames := 3, cells := 1, slots := 10, locals := 68 } : Room) s m ([.ref (ad 100), .int (nI g), .int (nI what)] : List Value).toArray below meth c H locs 0 0 (MQ below (va_Qi (fun r u => r = rGr v gw gd nh g what ∧ u = v) (fun u t => WD G L ad u o w t t.heap) (Ab G.2.2.1)) ([.ref (ad 100), .int (nI g), .int (nI what)] : List Value).toArray s ({ frames := 3, cells := 1, slots := 10, locals := 68 } : Room).cells ({ frames := 3, cells := 1, slots := 10, locals := 68 } : Room).slots (Ab G.2.2.1)) (F0 m 5 ls []) from LP_5 (nh + 1) 0 _ _   _ H locs ls (by omega) (by omega) (by rfl) (by rfl) (by rfl)  hW hS (lv_sub hl [0, 1, 2, 3, 4] rfl)
  intro n_5
  induction n_5 with
  | zero => intro i x3_5 x4_5  u_5 H locs ls h1 h2; exact absurd h1 (by omega)
  | succ n_5 ih_5 =>
    intro i x3_5 x4_5  u_5 H locs ls hn_5 hi_5 ex3_5 ex4_5 eu_5  hW hS hl
    subst ex3_5
    subst ex4_5
    subst eu_5
    refine lv_iload hx hb dX7_growerTold_5 (lv_at hl 0 rfl) ?_
    refine lv_aload_n hx hb dX7_growerTold_7 rfl (lv_at hl 2 rfl) ?_
    refine q_getr hx hb hts hown hW (r := 100) hJ.q.m0 rfl k_8 1 (by decide) rfl t_944 (a := ad 101) hO1 dX7_growerTold_8 ?_
    refine q_getN hx hb hts hown hW (r := 101) hJ.q.mS hJ.q.kS k_7 6 (by decide) rfl t_880 (x := (nI nh)) hJ.eH dX7_growerTold_11 ?_
    refine lv_icmp_ge (tgt := 48) hx hb dX7_growerTold_14 (by decide) (fun c_14 => ?_) (fun c_14 => ?_)
    · skip
      have hq_5 := (ge_i (n := nh) (by omega) hi_5 c_14).symm
      subst hq_5
      refine lv_bipush (v := 10) hx hb dX7_growerTold_48 (by decide) ?_
      refine q_newa hx hb hts t_136 h0 hW hS 183 hr9 rfl rfl (by decide) (by decide) (by decide) dX7_growerTold_50 (fun ad1 H q9 had hW hS => ?_)
      have hJ := hJ.new (a := z32) (b := nOp) (r := 183) (by decide) had
      have hO1 : up1 o 183 nOp 100 1 = some (ad1 101) := by subst had; exact hO1
      have hF : offR 183 (up1 v 183 z32) v := off_new
      generalize ho9 : up1 o 183 nOp = o1 at hW hJ hO1
      generalize hv1 : up1 v 183 z32 = v1 at hW hJ hF
      have hl : lv_has ls 5 [(4, .int (nI nh)), (3, .int (sumI (fun h => if v 117 (7 * h) = nI g then 1 else 0) nh)), (0, .ref (ad1 100)), (1, .int (nI g)), (2, .int (nI what))] := by subst had; exact hl
      refine lv_dup hx hb dX7_growerTold_52 rfl ?_
      refine lv_iconst (v := 0) hx hb dX7_growerTold_53 (by decide) ?_
      refine lv_aload_n hx hb dX7_growerTold_54 rfl (lv_at hl 2 rfl) ?_
      refine q_getr hx hb hts hown hW (r := 100) hJ.q.m0 rfl k_8 1 (by decide) rfl t_944 (a := ad1 101) hO1 dX7_growerTold_55 ?_
      refine q_getrN hx hb hts hown hW (r := 101) hJ.q.mS hJ.q.kS k_7 1 (by decide) rfl t_870 (a := ad1 (110 + 1)) (hJ.q.oB 1 rfl) dX7_growerTold_58 ?_
      refine lv_iload_n hx hb dX7_growerTold_61 rfl (lv_at hl 3 rfl) ?_
      refine q_iald hx hb hW (r := (110 + 1)) (hJ.q.mB 1 rfl) (hJ.q.k9 1 rfl (by decide)) (g) rfl (by rw [hJ.q.ln 1 rfl]; show _ < 6; omega) (by rw [hJ.q.ln 1 rfl]; decide) (x := (v1 (110 + 1) (g))) rfl dX7_growerTold_62 ?_
      refine q_iast hx hb hW hS (r := 183) (List.mem_append_right _ (List.mem_singleton.mpr rfl)) rfl (0) rfl (by decide) (by decide) dX7_growerTold_63 (fun H locs hW hS => ?_)
      have hJ : PJ (L ++ [183]) ad1 (up2 v1 183 (0) (v1 (110 + 1) (g))) o1 101 110 ng nh nl ns ow gx gy gw gd := hJ.kp (kr_hi (by decide))
      have hF : offR 183 (up2 v1 183 (0) (v1 (110 + 1) (g))) v := off_up hF
      generalize hv2 : (up2 v1 183 (0) (v1 (110 + 1) (g))) = v2 at hW hJ hF
      refine lv_dup hx hb dX7_growerTold_64 rfl ?_
      refine lv_iconst (v := 1) hx hb dX7_growerTold_65 (by decide) ?_
      refine lv_aload_n hx hb dX7_growerTold_66 rfl (lv_at hl 2 rfl) ?_
      refine q_getr hx hb hts hown hW (r := 100) hJ.q.m0 rfl k_8 1 (by decide) rfl t_944 (a := ad1 101) hO1 dX7_growerTold_67 ?_
      refine q_getrN hx hb hts hown hW (r := 101) hJ.q.mS hJ.q.kS k_7 2 (by decide) rfl t_872 (a := ad1 (110 + 2)) (hJ.q.oB 2 rfl) dX7_growerTold_70 ?_
      refine lv_iconst (v := 3) hx hb dX7_growerTold_73 (by decide) ?_
      refine lv_iload_n hx hb dX7_growerTold_74 rfl (lv_at hl 3 rfl) ?_
      refine lv_imul hx hb dX7_growerTold_75 ?_
      refine q_iald hx hb hW (r := (110 + 2)) (hJ.q.mB 2 rfl) (hJ.q.k9 2 rfl (by decide)) (3 * g) (ix_mul rfl rfl) (by rw [hJ.q.ln 2 rfl]; show _ < 18; omega) (by rw [hJ.q.ln 2 rfl]; decide) (x := (v2 (110 + 2) (3 * g))) rfl dX7_growerTold_76 ?_
      refine q_iast hx hb hW hS (r := 183) (List.mem_append_right _ (List.mem_singleton.mpr rfl)) rfl (1) rfl (by decide) (by decide) dX7_growerTold_77 (fun H locs hW hS => ?_)
      have hJ : PJ (L ++ [183]) ad1 (up2 v2 183 (1) (v2 (110 + 2) (3 * g))) o1 101 110 ng nh nl ns ow gx gy gw gd := hJ.kp (kr_hi (by decide))
      have hF : offR 183 (up2 v2 183 (1) (v2 (110 + 2) (3 * g))) v := off_up hF
      generalize hv3 : (up2 v2 183 (1) (v2 (110 + 2) (3 * g))) = v3 at hW hJ hF
      refine lv_dup hx hb dX7_growerTold_78 rfl ?_
      refine lv_iconst (v := 2) hx hb dX7_growerTold_79 (by decide) ?_
      refine lv_aload_n hx hb dX7_growerTold_80 rfl (lv_at hl 2 rfl) ?_
      refine q_getr hx hb hts hown hW (r := 100) hJ.q.m0 rfl k_8 1 (by decide) rfl t_944 (a := ad1 101) hO1 dX7_growerTold_81 ?_
      refine q_getrN hx hb hts hown hW (r := 101) hJ.q.mS hJ.q.kS k_7 2 (by decide) rfl t_872 (a := ad1 (110 + 2)) (hJ.q.oB 2 rfl) dX7_growerTold_84 ?_
      refine lv_iconst (v := 3) hx hb dX7_growerTold_87 (by decide) ?_
      refine lv_iload_n hx hb dX7_growerTold_88 rfl (lv_at hl 3 rfl) ?_
      refine lv_imul hx hb dX7_growerTold_89 ?_
      refine lv_iconst (v := 1) hx hb dX7_growerTold_90 (by decide) ?_
      refine lv_iadd hx hb dX7_growerTold_91 ?_
      refine q_iald hx hb hW (r := (110 + 2)) (hJ.q.mB 2 rfl) (hJ.q.k9 2 rfl (by decide)) (3 * g + 1) (ix_add (ix_mul rfl rfl) rfl) (by rw [hJ.q.ln 2 rfl]; show _ < 18; omega) (by rw [hJ.q.ln 2 rfl]; decide) (x := (v3 (110 + 2) (3 * g + 1))) rfl dX7_growerTold_92 ?_
      refine q_iast hx hb hW hS (r := 183) (List.mem_append_right _ (List.mem_singleton.mpr rfl)) rfl (2) rfl (by decide) (by decide) dX7_growerTold_93 (fun H locs hW hS => ?_)
      have hJ : PJ (L ++ [183]) ad1 (up2 v3 183 (2) (v3 (110 + 2) (3 * g + 1))) o1 101 110 ng nh nl ns ow gx gy gw gd := hJ.kp (kr_hi (by decide))
      have hF : offR 183 (up2 v3 183 (2) (v3 (110 + 2) (3 * g + 1))) v := off_up hF
      generalize hv4 : (up2 v3 183 (2) (v3 (110 + 2) (3 * g + 1))) = v4 at hW hJ hF
      refine lv_dup hx hb dX7_growerTold_94 rfl ?_
      refine lv_iconst (v := 3) hx hb dX7_growerTold_95 (by decide) ?_
      refine lv_aload_n hx hb dX7_growerTold_96 rfl (lv_at hl 2 rfl) ?_
      refine q_getr hx hb hts hown hW (r := 100) hJ.q.m0 rfl k_8 1 (by decide) rfl t_944 (a := ad1 101) hO1 dX7_growerTold_97 ?_
      refine q_getrN hx hb hts hown hW (r := 101) hJ.q.mS hJ.q.kS k_7 2 (by decide) rfl t_872 (a := ad1 (110 + 2)) (hJ.q.oB 2 rfl) dX7_growerTold_100 ?_
      refine lv_iconst (v := 3) hx hb dX7_growerTold_103 (by decide) ?_
      refine lv_iload_n hx hb dX7_growerTold_104 rfl (lv_at hl 3 rfl) ?_
      refine lv_imul hx hb dX7_growerTold_105 ?_
      refine lv_iconst (v := 2) hx hb dX7_growerTold_106 (by decide) ?_
      refine lv_iadd hx hb dX7_growerTold_107 ?_
      refine q_iald hx hb hW (r := (110 + 2)) (hJ.q.mB 2 rfl) (hJ.q.k9 2 rfl (by decide)) (3 * g + 2) (ix_add (ix_mul rfl rfl) rfl) (by rw [hJ.q.ln 2 rfl]; show _ < 18; omega) (by rw [hJ.q.ln 2 rfl]; decide) (x := (v4 (110 + 2) (3 * g + 2))) rfl dX7_growerTold_108 ?_
      refine q_iast hx hb hW hS (r := 183) (List.mem_append_right _ (List.mem_singleton.mpr rfl)) rfl (3) rfl (by decide) (by decide) dX7_growerTold_109 (fun H locs hW hS => ?_)
      have hJ : PJ (L ++ [183]) ad1 (up2 v4 183 (3) (v4 (110 + 2) (3 * g + 2))) o1 101 110 ng nh nl ns ow gx gy gw gd := hJ.kp (kr_hi (by decide))
      have hF : offR 183 (up2 v4 183 (3) (v4 (110 + 2) (3 * g + 2))) v := off_up hF
      generalize hv5 : (up2 v4 183 (3) (v4 (110 + 2) (3 * g + 2))) = v5 at hW hJ hF
      refine lv_dup hx hb dX7_growerTold_110 rfl ?_
      refine lv_iconst (v := 4) hx hb dX7_growerTold_111 (by decide) ?_
      refine lv_aload_n hx hb dX7_growerTold_112 rfl (lv_at hl 2 rfl) ?_
      refine q_getr hx hb hts hown hW (r := 100) hJ.q.m0 rfl k_8 1 (by decide) rfl t_944 (a := ad1 101) hO1 dX7_growerTold_113 ?_
      refine q_getrN hx hb hts hown hW (r := 101) hJ.q.mS hJ.q.kS k_7 3 (by decide) rfl t_874 (a := ad1 (110 + 3)) (hJ.q.oB 3 rfl) dX7_growerTold_116 ?_
      refine lv_iload_n hx hb dX7_growerTold_119 rfl (lv_at hl 3 rfl) ?_
      refine q_iald hx hb hW (r := (110 + 3)) (hJ.q.mB 3 rfl) (hJ.q.k9 3 rfl (by decide)) (g) rfl (by rw [hJ.q.ln 3 rfl]; show _ < 6; omega) (by rw [hJ.q.ln 3 rfl]; decide) (x := (v5 (110 + 3) (g))) rfl dX7_growerTold_120 ?_
      refine q_iast hx hb hW hS (r := 183) (List.mem_append_right _ (List.mem_singleton.mpr rfl)) rfl (4) rfl (by decide) (by decide) dX7_growerTold_121 (fun H locs hW hS => ?_)
      have hJ : PJ (L ++ [183]) ad1 (up2 v5 183 (4) (v5 (110 + 3) (g))) o1 101 110 ng nh nl ns ow gx gy gw gd := hJ.kp (kr_hi (by decide))
      have hF : offR 183 (up2 v5 183 (4) (v5 (110 + 3) (g))) v := off_up hF
      generalize hv6 : (up2 v5 183 (4) (v5 (110 + 3) (g))) = v6 at hW hJ hF
      refine lv_dup hx hb dX7_growerTold_122 rfl ?_
      refine lv_iconst (v := 5) hx hb dX7_growerTold_123 (by decide) ?_
      refine lv_aload_n hx hb dX7_growerTold_124 rfl (lv_at hl 2 rfl) ?_
      refine q_getr hx hb hts hown hW (r := 100) hJ.q.m0 rfl k_8 1 (by decide) rfl t_944 (a := ad1 101) hO1 dX7_growerTold_125 ?_
      refine q_getrN hx hb hts hown hW (r := 101) hJ.q.mS hJ.q.kS k_7 4 (by decide) rfl t_876 (a := ad1 (110 + 4)) (hJ.q.oB 4 rfl) dX7_growerTold_128 ?_
      refine lv_iload_n hx hb dX7_growerTold_131 rfl (lv_at hl 3 rfl) ?_
      refine q_iald hx hb hW (r := (110 + 4)) (hJ.q.mB 4 rfl) (hJ.q.k9 4 rfl (by decide)) (g) rfl (by rw [hJ.q.ln 4 rfl]; show _ < 6; omega) (by rw [hJ.q.ln 4 rfl]; decide) (x := (v6 (110 + 4) (g))) rfl dX7_growerTold_132 ?_
      refine q_iast hx hb hW hS (r := 183) (List.mem_append_right _ (List.mem_singleton.mpr rfl)) rfl (5) rfl (by decide) (by decide) dX7_growerTold_133 (fun H locs hW hS => ?_)
      have hJ : PJ (L ++ [183]) ad1 (up2 v6 183 (5) (v6 (110 + 4) (g))) o1 101 110 ng nh nl ns ow gx gy gw gd := hJ.kp (kr_hi (by decide))
      have hF : offR 183 (up2 v6 183 (5) (v6 (110 + 4) (g))) v := off_up hF
      generalize hv7 : (up2 v6 183 (5) (v6 (110 + 4) (g))) = v7 at hW hJ hF
      refine lv_dup hx hb dX7_growerTold_134 rfl ?_
      refine lv_bipush (v := 6) hx hb dX7_growerTold_135 (by decide) ?_
      refine lv_aload_n hx hb dX7_growerTold_137 rfl (lv_at hl 2 rfl) ?_
      refine q_getr hx hb hts hown hW (r := 100) hJ.q.m0 rfl k_8 1 (by decide) rfl t_944 (a := ad1 101) hO1 dX7_growerTold_138 ?_
      refine q_getrN hx hb hts hown hW (r := 101) hJ.q.mS hJ.q.kS k_7 5 (by decide) rfl t_878 (a := ad1 (110 + 5)) (hJ.q.oB 5 rfl) dX7_growerTold_141 ?_
      refine lv_iload_n hx hb dX7_growerTold_144 rfl (lv_at hl 3 rfl) ?_
      refine q_iald hx hb hW (r := (110 + 5)) (hJ.q.mB 5 rfl) (hJ.q.k9 5 rfl (by decide)) (g) rfl (by rw [hJ.q.ln 5 rfl]; show _ < 6; omega) (by rw [hJ.q.ln 5 rfl]; decide) (x := (v7 (110 + 5) (g))) rfl dX7_growerTold_145 ?_
      refine q_iast hx hb hW hS (r := 183) (List.mem_append_right _ (List.mem_singleton.mpr rfl)) rfl (6) rfl (by decide) (by decide) dX7_growerTold_146 (fun H locs hW hS => ?_)
      have hJ : PJ (L ++ [183]) ad1 (up2 v7 183 (6) (v7 (110 + 5) (g))) o1 101 110 ng nh nl ns ow gx gy gw gd := hJ.kp (kr_hi (by decide))
      have hF : offR 183 (up2 v7 183 (6) (v7 (110 + 5) (g))) v := off_up hF
      generalize hv8 : (up2 v7 183 (6) (v7 (110 + 5) (g))) = v8 at hW hJ hF
      refine lv_dup hx hb dX7_growerTold_147 rfl ?_
      refine lv_bipush (v := 7) hx hb dX7_growerTold_148 (by decide) ?_
      refine lv_iload_n hx hb dX7_growerTold_150 rfl (lv_at hl 1 rfl) ?_
      refine q_iast hx hb hW hS (r := 183) (List.mem_append_right _ (List.mem_singleton.mpr rfl)) rfl (7) rfl (by decide) (by decide) dX7_growerTold_151 (fun H locs hW hS => ?_)
      have hJ : PJ (L ++ [183]) ad1 (up2 v8 183 (7) (sumI (fun h => if v 117 (7 * h) = nI g then 1 else 0) nh)) o1 101 110 ng nh nl ns ow gx gy gw gd := hJ.kp (kr_hi (by decide))
      have hF : offR 183 (up2 v8 183 (7) (sumI (fun h => if v 117 (7 * h) = nI g then 1 else 0) nh)) v := off_up hF
      generalize hv9 : (up2 v8 183 (7) (sumI (fun h => if v 117 (7 * h) = nI g then 1 else 0) nh)) = v9 at hW hJ hF
      refine lv_dup hx hb dX7_growerTold_152 rfl ?_
      refine lv_bipush (v := 8) hx hb dX7_growerTold_153 (by decide) ?_
      refine lv_aload_n hx hb dX7_growerTold_155 rfl (lv_at hl 2 rfl) ?_
      refine q_getr hx hb hts hown hW (r := 100) hJ.q.m0 rfl k_8 1 (by decide) rfl t_944 (a := ad1 101) hO1 dX7_growerTold_156 ?_
      refine lv_iload_n hx hb dX7_growerTold_159 rfl (lv_at hl 3 rfl) ?_
      refine q_cViE (As := [.int (nI g)]) (rest := [.int 8, .ref (ad1 183), .ref (ad1 183)]) (r := 101) hx hb hml hts hown hE h0 hW hS (c_X6_valuesOf l hJ (nI g)) mw_X6_valuesOf hJ.q.mS hJ.q.kS k_7 t_1020 ⟨Nat.le_of_ble_eq_true rfl, Nat.le_of_ble_eq_true rfl⟩ rfl hl.1 (Nat.le_of_ble_eq_true rfl) dX7_growerTold_160 ⟨(by first | decide | omega | (dsimp only; omega)), (by first | decide | omega | (dsimp only; omega))⟩ ⟨rfl, rfl⟩ (fun H locs hW hS => ?_)
      refine q_iast hx hb hW hS (r := 183) (List.mem_append_right _ (List.mem_singleton.mpr rfl)) rfl (8) rfl (by decide) (by decide) dX7_growerTold_163 (fun H locs hW hS => ?_)
      have hJ : PJ (L ++ [183]) ad1 (up2 v9 183 (8) (rVals v9 110 gw gd nh (nI g))) o1 101 110 ng nh nl ns ow gx gy gw gd := hJ.kp (kr_hi (by decide))
      have hF : offR 183 (up2 v9 183 (8) (rVals v9 110 gw gd nh (nI g))) v := off_up hF
      generalize hv10 : (up2 v9 183 (8) (rVals v9 110 gw gd nh (nI g))) = v10 at hW hJ hF
      refine lv_dup hx hb dX7_growerTold_164 rfl ?_
      refine lv_bipush (v := 9) hx hb dX7_growerTold_165 (by decide) ?_
      refine lv_aload_n hx hb dX7_growerTold_167 rfl (lv_at hl 2 rfl) ?_
      refine q_getr hx hb hts hown hW (r := 100) hJ.q.m0 rfl k_8 1 (by decide) rfl t_944 (a := ad1 101) hO1 dX7_growerTold_168 ?_
      refine lv_iload_n hx hb dX7_growerTold_171 rfl (lv_at hl 3 rfl) ?_
      refine q_cViE (As := [.int (nI g)]) (rest := [.int 9, .ref (ad1 183), .ref (ad1 183)]) (r := 101) hx hb hml hts hown hE h0 hW hS (c_X6_lostBy l hJ (nI g)) mw_X6_lostBy hJ.q.mS hJ.q.kS k_7 t_1024 ⟨Nat.le_of_ble_eq_true rfl, Nat.le_of_ble_eq_true rfl⟩ rfl hl.1 (Nat.le_of_ble_eq_true rfl) dX7_growerTold_172 ⟨(by first | decide | omega | (dsimp only; omega)), (by first | decide | omega | (dsimp only; omega))⟩ ⟨rfl, rfl⟩ (fun H locs hW hS => ?_)
      refine q_iast hx hb hW hS (r := 183) (List.mem_append_right _ (List.mem_singleton.mpr rfl)) rfl (9) rfl (by decide) (by decide) dX7_growerTold_175 (fun H locs hW hS => ?_)
      have hJ : PJ (L ++ [183]) ad1 (up2 v10 183 (9) (rBy v10 110 gw gd nh (nI g))) o1 101 110 ng nh nl ns ow gx gy gw gd := hJ.kp (kr_hi (by decide))
      have hF : offR 183 (up2 v10 183 (9) (rBy v10 110 gw gd nh (nI g))) v := off_up hF
      generalize hv11 : (up2 v10 183 (9) (rBy v10 110 gw gd nh (nI g))) = v11 at hW hJ hF
      refine lv_astore (lv' := [(4, .ref (ad1 183)), (3, .int (sumI (fun h => if v 117 (7 * h) = nI g then 1 else 0) nh)), (0, .ref (ad1 100)), (1, .int (nI g)), (2, .int (nI what))]) hx hb dX7_growerTold_176 hl (by decide) rfl (fun ls hl => ?_)
      refine lv_aload hx hb dX7_growerTold_178 (lv_at hl 0 rfl) ?_
      refine lv_iload_n hx hb dX7_growerTold_180 rfl (lv_at hl 4 rfl) ?_
      refine q_iald hx hb hW (r := 183) (List.mem_append_right _ (List.mem_singleton.mpr rfl)) rfl (what) rfl (show _ < 10 by omega) (by decide) (x := (v11 183 (what))) rfl dX7_growerTold_181 ?_
      subst hv11
      subst hv10
      subst hv9
      subst hv8
      subst hv7
      subst hv6
      subst hv5
      subst hv4
      subst hv3
      subst hv2
      subst hv1
      have hW := hW.forget hr9 had ho9 hF
      exact q_iret hx hb hr hlocks hW hS (by first | decide | omega | (dsimp only; omega)) (by first | decide | omega | (dsimp only; omega)) dX7_growerTold_182 (⟨by rcases (show what = 0 ∨ what = 1 ∨ what = 2 ∨ what = 3 ∨ what = 4 ∨ what = 5 ∨ what = 6 ∨ what = 7 ∨ what = 8 ∨ what = 9 by omega) with rfl | rfl | rfl | rfl | rfl | rfl | rfl | rfl | rfl | rfl <;> first | rfl | (simp [up2, up1, rGr, rCo, rVals_up, rBy_up, rIn_up, rVals_up1, rBy_up1, rIn_up1]; done) | (simp [up2, up1, rGr, rCo, rVals_up, rBy_up, rIn_up, rVals_up1, rBy_up1, rIn_up1]; rfl), rfl⟩)
    · skip
      have hlt_5 := lt_i (n := nh) (by omega) hi_5 c_14
      refine lv_iload_n hx hb dX7_growerTold_17 rfl (lv_at hl 1 rfl) ?_
      refine lv_aload_n hx hb dX7_growerTold_18 rfl (lv_at hl 2 rfl) ?_
      refine q_getr hx hb hts hown hW (r := 100) hJ.q.m0 rfl k_8 1 (by decide) rfl t_944 (a := ad 101) hO1 dX7_growerTold_19 ?_
      refine q_getrN hx hb hts hown hW (r := 101) hJ.q.mS hJ.q.kS k_7 7 (by decide) rfl t_882 (a := ad (110 + 7)) (hJ.q.oB 7 rfl) dX7_growerTold_22 ?_
      refine lv_bipush (v := 7) hx hb dX7_growerTold_25 (by decide) ?_
      refine lv_iload hx hb dX7_growerTold_27 (lv_at hl 0 rfl) ?_
      refine lv_imul hx hb dX7_growerTold_29 ?_
      refine q_iald hx hb hW (r := (110 + 7)) (hJ.q.mB 7 rfl) (hJ.q.k9 7 rfl (by decide)) (7 * i) (ix_mul rfl rfl) (by rw [hJ.q.ln 7 rfl]; show _ < 84; omega) (by rw [hJ.q.ln 7 rfl]; decide) (x := (v (110 + 7) (7 * i))) rfl dX7_growerTold_30 ?_
      refine lv_iload_n hx hb dX7_growerTold_31 rfl (lv_at hl 3 rfl) ?_
      refine lv_icmp_ne (tgt := 39) hx hb dX7_growerTold_32 (by decide) (fun c_32 => ?_) (fun c_32 => ?_)
      · skip
        refine lv_iconst (v := 0) hx hb dX7_growerTold_39 (by decide) ?_
        refine lv_iadd hx hb dX7_growerTold_40 ?_
        refine lv_istore_n (lv' := [(3, .int ((sumI (fun h => if v 117 (7 * h) = nI g then 1 else 0) i) + 0)), (4, .int (nI i)), (0, .ref (ad 100)), (1, .int (nI g)), (2, .int (nI what))]) hx hb dX7_growerTold_41 rfl hl (by decide) rfl (fun ls hl => ?_)
        refine lv_iinc (v := (nI (i + 1))) (lv' := [(4, .int (nI (i + 1))), (3, .int ((sumI (fun h => if v 117 (7 * h) = nI g then 1 else 0) i) + 0)), (0, .ref (ad 100)), (1, .int (nI g)), (2, .int (nI what))]) hx hb dX7_growerTold_42 hl (k := 1) rfl (inc_nI _) (by decide) rfl (fun ls hl => ?_)
        refine lv_goto (tgt := 5) hx hb dX7_growerTold_45 (by decide) ?_
        exact ih_5 (i + 1) _ _   _ H locs ls (by omega) (by omega) (by first | (rw [sumI_s, if_pos c_32]; done) | (rw [sumI_s, if_neg c_32]; done)) (by rfl) (by rfl)  hW hS (lv_sub hl [0, 1, 2, 3, 4] rfl)
      · skip
        refine lv_iconst (v := 1) hx hb dX7_growerTold_35 (by decide) ?_
        refine lv_goto (tgt := 40) hx hb dX7_growerTold_36 (by decide) ?_
        refine lv_iadd hx hb dX7_growerTold_40 ?_
        refine lv_istore_n (lv' := [(3, .int ((sumI (fun h => if v 117 (7 * h) = nI g then 1 else 0) i) + 1)), (4, .int (nI i)), (0, .ref (ad 100)), (1, .int (nI g)), (2, .int (nI what))]) hx hb dX7_growerTold_41 rfl hl (by decide) rfl (fun ls hl => ?_)
        refine lv_iinc (v := (nI (i + 1))) (lv' := [(4, .int (nI (i + 1))), (3, .int ((sumI (fun h => if v 117 (7 * h) = nI g then 1 else 0) i) + 1)), (0, .ref (ad 100)), (1, .int (nI g)), (2, .int (nI what))]) hx hb dX7_growerTold_42 hl (k := 1) rfl (inc_nI _) (by decide) rfl (fun ls hl => ?_)
        refine lv_goto (tgt := 5) hx hb dX7_growerTold_45 (by decide) ?_
        exact ih_5 (i + 1) _ _   _ H locs ls (by omega) (by omega) (by first | (rw [sumI_s, if_pos c_32]; done) | (rw [sumI_s, if_neg c_32]; done)) (by rfl) (by rfl)  hW hS (lv_sub hl [0, 1, 2, 3, 4] rfl)

set_option maxHeartbeats 4000000 in
set_option maxRecDepth 100000 in
theorem c_X7_counted (l : Launch) {G : GG} {L : List Nat} {ad : Nat → Nat} {v : Nat → Nat → Int32} {o : Nat → Nat → Option Nat} {w : Nat → Int64} {ng nh nl ns : Nat} {ow gx gy gw gd : Nat → Nat} (hJ : PJ L ad v o 101 110 ng nh nl ns ow gx gy gw gd) (hO1 : o 100 1 = some (ad 101)) (hr9 : 184 ∉ L) {what : Nat} (hw9 : what < 11) : CtI l G L ad v o w yX7_counted cX7_counted 5 .int ({ frames := 3, cells := 1, slots := 11, locals := 68 }) [.ref (ad 100), .int (nI what)] (fun r u => r = rCo v gw gd ng nh nl ns what ∧ u = v) := by
  have hsb := hJ.q.sb; have hbd := hJ.bd
  refine q_ofI (by decide) (Nat.le_of_ble_eq_true rfl) ?_
  intro p e s m below meth c hx hb hr hml hts hown hlocks hE h0 hW hS ls hl
  generalize hH : s.heap = H at hW
  have hS : va_S (Ab G.2.2.1) s.heap H [] := hH ▸ hS
  obtain ⟨locs, hlc⟩ : ∃ z : List Loc, z = [] := ⟨_, rfl⟩
  rw [← hlc] at hS ⊢
  have hl : lv_has ls 5 [(0, .ref (ad 100)), (1, .int (nI what))] := hl
  refine lv_iconst (v := 0) hx hb dX7_counted_0 (by decide) ?_
  refine lv_istore_n (lv' := [(2, .int 0), (0, .ref (ad 100)), (1, .int (nI what))]) hx hb dX7_counted_1 rfl hl (by decide) rfl (fun ls hl => ?_)
  refine lv_iconst (v := 0) hx hb dX7_counted_2 (by decide) ?_
  refine lv_istore_n (lv' := [(3, .int 0), (2, .int 0), (0, .ref (ad 100)), (1, .int (nI what))]) hx hb dX7_counted_3 rfl hl (by decide) rfl (fun ls hl => ?_)
  refine lv_iconst (v := 0) hx hb dX7_counted_4 (by decide) ?_
  refine lv_istore (lv' := [(4, .int 0), (3, .int 0), (2, .int 0), (0, .ref (ad 100)), (1, .int (nI what))]) hx hb dX7_counted_5 hl (by decide) rfl (fun ls hl => ?_)
  suffices LP_7 : ∀ (n_7 i : Nat) (x2_7 : Int32) (x4_7 : Int32)  (u_7 : Nat → Nat → Int32) (H : Heap) (locs : List Loc) (ls : Array Slot), ng + 1 ≤ i + n_7 → i ≤ ng → sumI (fun g => v 115 g) i = x2_7 → nI i = x4_7 → v = u_7 → WD G L ad u_7 o w s H → va_S (Ab G.2.2.1) s.heap H locs → lv_has ls 5 [(4, .int x4_7), (3, .int 0), (2, .int x2_7), (0, .ref (ad 100)), (1, .int (nI what))] → W p l e ({ frames := 3, cells := 1, slots := 11, locals := 68 } : Room) s m ([.ref (ad 100), .int (nI what)] : List Value).toArray below meth c H locs 0 0 (MQ below (va_Qi (fun r u => r = rCo v gw gd ng nh nl ns what ∧ u = v) (fun u t => WD G L ad u o w t t.heap) (Ab G.2.2.1)) ([.ref (ad 100), .int (nI what)] : List Value).toArray s ({ frames := 3, cells := 1, slots := 11, locals := 68 } : Room).cells ({ frames := 3, cells := 1, slots := 11, locals := 68 } : Room).slots (Ab G.2.2.1)) (F0 m 7 ls []) from LP_7 (ng + 1) 0 _ _   _ H locs ls (by omega) (by omega) (by rfl) (by rfl) (by rfl)  hW hS (lv_sub hl [0, 1, 2, 3, 4] rfl)
  intro n_7
  induction n_7 with
  | zero => intro i x2_7 x4_7  u_7 H locs ls h1 h2; exact absurd h1 (by omega)
  | succ n_7 ih_7 =>
    intro i x2_7 x4_7  u_7 H locs ls hn_7 hi_7 ex2_7 ex4_7 eu_7  hW hS hl
    subst ex2_7
    subst ex4_7
    subst eu_7
    refine lv_iload hx hb dX7_counted_7 (lv_at hl 0 rfl) ?_
    refine lv_aload_n hx hb dX7_counted_9 rfl (lv_at hl 3 rfl) ?_
    refine q_getr hx hb hts hown hW (r := 100) hJ.q.m0 rfl k_8 1 (by decide) rfl t_944 (a := ad 101) hO1 dX7_counted_10 ?_
    refine q_getN hx hb hts hown hW (r := 101) hJ.q.mS hJ.q.kS k_7 0 (by decide) rfl t_868 (x := (nI ng)) hJ.eG dX7_counted_13 ?_
    refine lv_icmp_ge (tgt := 38) hx hb dX7_counted_16 (by decide) (fun c_16 => ?_) (fun c_16 => ?_)
    · skip
      have hq_7 := (ge_i (n := ng) (by omega) hi_7 c_16).symm
      subst hq_7
      refine lv_iconst (v := 0) hx hb dX7_counted_38 (by decide) ?_
      refine lv_istore (lv' := [(4, .int 0), (3, .int 0), (2, .int (sumI (fun g => v 115 g) ng)), (0, .ref (ad 100)), (1, .int (nI what))]) hx hb dX7_counted_39 hl (by decide) rfl (fun ls hl => ?_)
      suffices LP_41 : ∀ (n_41 i : Nat) (x3_41 : Int32) (x4_41 : Int32)  (u_41 : Nat → Nat → Int32) (H : Heap) (locs : List Loc) (ls : Array Slot), nh + 1 ≤ i + n_41 → i ≤ nh → sumI (fun h => nI (gw h * gd h)) i = x3_41 → nI i = x4_41 → v = u_41 → WD G L ad u_41 o w s H → va_S (Ab G.2.2.1) s.heap H locs → lv_has ls 5 [(4, .int x4_41), (3, .int x3_41), (2, .int (sumI (fun g => v 115 g) ng)), (0, .ref (ad 100)), (1, .int (nI what))] → W p l e ({ frames := 3, cells := 1, slots := 11, locals := 68 } : Room) s m ([.ref (ad 100), .int (nI what)] : List Value).toArray below meth c H locs 0 0 (MQ below (va_Qi (fun r u => r = rCo v gw gd ng nh nl ns what ∧ u = v) (fun u t => WD G L ad u o w t t.heap) (Ab G.2.2.1)) ([.ref (ad 100), .int (nI what)] : List Value).toArray s ({ frames := 3, cells := 1, slots := 11, locals := 68 } : Room).cells ({ frames := 3, cells := 1, slots := 11, locals := 68 } : Room).slots (Ab G.2.2.1)) (F0 m 41 ls []) from LP_41 (nh + 1) 0 _ _   _ H locs ls (by omega) (by omega) (by rfl) (by rfl) (by rfl)  hW hS (lv_sub hl [0, 1, 2, 3, 4] rfl)
      intro n_41
      induction n_41 with
      | zero => intro i x3_41 x4_41  u_41 H locs ls h1 h2; exact absurd h1 (by omega)
      | succ n_41 ih_41 =>
        intro i x3_41 x4_41  u_41 H locs ls hn_41 hi_41 ex3_41 ex4_41 eu_41  hW hS hl
        subst ex3_41
        subst ex4_41
        subst eu_41
        refine lv_iload hx hb dX7_counted_41 (lv_at hl 0 rfl) ?_
        refine lv_aload_n hx hb dX7_counted_43 rfl (lv_at hl 3 rfl) ?_
        refine q_getr hx hb hts hown hW (r := 100) hJ.q.m0 rfl k_8 1 (by decide) rfl t_944 (a := ad 101) hO1 dX7_counted_44 ?_
        refine q_getN hx hb hts hown hW (r := 101) hJ.q.mS hJ.q.kS k_7 6 (by decide) rfl t_880 (x := (nI nh)) hJ.eH dX7_counted_47 ?_
        refine lv_icmp_ge (tgt := 71) hx hb dX7_counted_50 (by decide) (fun c_50 => ?_) (fun c_50 => ?_)
        · skip
          have hq_41 := (ge_i (n := nh) (by omega) hi_41 c_50).symm
          subst hq_41
          refine lv_bipush (v := 11) hx hb dX7_counted_71 (by decide) ?_
          refine q_newa hx hb hts t_136 h0 hW hS 184 hr9 rfl rfl (by decide) (by decide) (by decide) dX7_counted_73 (fun ad1 H q9 had hW hS => ?_)
          have hJ := hJ.new (a := z32) (b := nOp) (r := 184) (by decide) had
          have hO1 : up1 o 184 nOp 100 1 = some (ad1 101) := by subst had; exact hO1
          have hF : offR 184 (up1 v 184 z32) v := off_new
          generalize ho9 : up1 o 184 nOp = o1 at hW hJ hO1
          generalize hv1 : up1 v 184 z32 = v1 at hW hJ hF
          have hl : lv_has ls 5 [(4, .int (nI nh)), (3, .int (sumI (fun h => nI (gw h * gd h)) nh)), (2, .int (sumI (fun g => v 115 g) ng)), (0, .ref (ad1 100)), (1, .int (nI what))] := by subst had; exact hl
          refine lv_dup hx hb dX7_counted_75 rfl ?_
          refine lv_iconst (v := 0) hx hb dX7_counted_76 (by decide) ?_
          refine lv_aload_n hx hb dX7_counted_77 rfl (lv_at hl 3 rfl) ?_
          refine q_getr hx hb hts hown hW (r := 100) hJ.q.m0 rfl k_8 1 (by decide) rfl t_944 (a := ad1 101) hO1 dX7_counted_78 ?_
          refine q_getN hx hb hts hown hW (r := 101) hJ.q.mS hJ.q.kS k_7 0 (by decide) rfl t_868 (x := (nI ng)) hJ.eG dX7_counted_81 ?_
          refine q_iast hx hb hW hS (r := 184) (List.mem_append_right _ (List.mem_singleton.mpr rfl)) rfl (0) rfl (by decide) (by decide) dX7_counted_84 (fun H locs hW hS => ?_)
          have hJ : PJ (L ++ [184]) ad1 (up2 v1 184 (0) (nI ng)) o1 101 110 ng nh nl ns ow gx gy gw gd := hJ.kp (kr_hi (by decide))
          have hF : offR 184 (up2 v1 184 (0) (nI ng)) v := off_up hF
          generalize hv2 : (up2 v1 184 (0) (nI ng)) = v2 at hW hJ hF
          refine lv_dup hx hb dX7_counted_85 rfl ?_
          refine lv_iconst (v := 1) hx hb dX7_counted_86 (by decide) ?_
          refine lv_aload_n hx hb dX7_counted_87 rfl (lv_at hl 3 rfl) ?_
          refine q_getr hx hb hts hown hW (r := 100) hJ.q.m0 rfl k_8 1 (by decide) rfl t_944 (a := ad1 101) hO1 dX7_counted_88 ?_
          refine q_getN hx hb hts hown hW (r := 101) hJ.q.mS hJ.q.kS k_7 6 (by decide) rfl t_880 (x := (nI nh)) hJ.eH dX7_counted_91 ?_
          refine q_iast hx hb hW hS (r := 184) (List.mem_append_right _ (List.mem_singleton.mpr rfl)) rfl (1) rfl (by decide) (by decide) dX7_counted_94 (fun H locs hW hS => ?_)
          have hJ : PJ (L ++ [184]) ad1 (up2 v2 184 (1) (nI nh)) o1 101 110 ng nh nl ns ow gx gy gw gd := hJ.kp (kr_hi (by decide))
          have hF : offR 184 (up2 v2 184 (1) (nI nh)) v := off_up hF
          generalize hv3 : (up2 v2 184 (1) (nI nh)) = v3 at hW hJ hF
          refine lv_dup hx hb dX7_counted_95 rfl ?_
          refine lv_iconst (v := 2) hx hb dX7_counted_96 (by decide) ?_
          refine lv_aload_n hx hb dX7_counted_97 rfl (lv_at hl 3 rfl) ?_
          refine q_getr hx hb hts hown hW (r := 100) hJ.q.m0 rfl k_8 1 (by decide) rfl t_944 (a := ad1 101) hO1 dX7_counted_98 ?_
          refine q_getN hx hb hts hown hW (r := 101) hJ.q.mS hJ.q.kS k_7 11 (by decide) rfl t_890 (x := (nI nl)) hJ.eL dX7_counted_101 ?_
          refine q_iast hx hb hW hS (r := 184) (List.mem_append_right _ (List.mem_singleton.mpr rfl)) rfl (2) rfl (by decide) (by decide) dX7_counted_104 (fun H locs hW hS => ?_)
          have hJ : PJ (L ++ [184]) ad1 (up2 v3 184 (2) (nI nl)) o1 101 110 ng nh nl ns ow gx gy gw gd := hJ.kp (kr_hi (by decide))
          have hF : offR 184 (up2 v3 184 (2) (nI nl)) v := off_up hF
          generalize hv4 : (up2 v3 184 (2) (nI nl)) = v4 at hW hJ hF
          refine lv_dup hx hb dX7_counted_105 rfl ?_
          refine lv_iconst (v := 3) hx hb dX7_counted_106 (by decide) ?_
          refine lv_aload_n hx hb dX7_counted_107 rfl (lv_at hl 3 rfl) ?_
          refine q_getr hx hb hts hown hW (r := 100) hJ.q.m0 rfl k_8 1 (by decide) rfl t_944 (a := ad1 101) hO1 dX7_counted_108 ?_
          refine q_getN hx hb hts hown hW (r := 101) hJ.q.mS hJ.q.kS k_7 10 (by decide) rfl t_888 (x := (v4 101 10)) rfl dX7_counted_111 ?_
          refine q_iast hx hb hW hS (r := 184) (List.mem_append_right _ (List.mem_singleton.mpr rfl)) rfl (3) rfl (by decide) (by decide) dX7_counted_114 (fun H locs hW hS => ?_)
          have hJ : PJ (L ++ [184]) ad1 (up2 v4 184 (3) (v4 101 10)) o1 101 110 ng nh nl ns ow gx gy gw gd := hJ.kp (kr_hi (by decide))
          have hF : offR 184 (up2 v4 184 (3) (v4 101 10)) v := off_up hF
          generalize hv5 : (up2 v4 184 (3) (v4 101 10)) = v5 at hW hJ hF
          refine lv_dup hx hb dX7_counted_115 rfl ?_
          refine lv_iconst (v := 4) hx hb dX7_counted_116 (by decide) ?_
          refine lv_iload_n hx hb dX7_counted_117 rfl (lv_at hl 2 rfl) ?_
          refine q_iast hx hb hW hS (r := 184) (List.mem_append_right _ (List.mem_singleton.mpr rfl)) rfl (4) rfl (by decide) (by decide) dX7_counted_118 (fun H locs hW hS => ?_)
          have hJ : PJ (L ++ [184]) ad1 (up2 v5 184 (4) (sumI (fun g => v 115 g) ng)) o1 101 110 ng nh nl ns ow gx gy gw gd := hJ.kp (kr_hi (by decide))
          have hF : offR 184 (up2 v5 184 (4) (sumI (fun g => v 115 g) ng)) v := off_up hF
          generalize hv6 : (up2 v5 184 (4) (sumI (fun g => v 115 g) ng)) = v6 at hW hJ hF
          refine lv_dup hx hb dX7_counted_119 rfl ?_
          refine lv_iconst (v := 5) hx hb dX7_counted_120 (by decide) ?_
          refine lv_aload_n hx hb dX7_counted_121 rfl (lv_at hl 3 rfl) ?_
          refine q_getr hx hb hts hown hW (r := 100) hJ.q.m0 rfl k_8 1 (by decide) rfl t_944 (a := ad1 101) hO1 dX7_counted_122 ?_
          refine q_getN hx hb hts hown hW (r := 101) hJ.q.mS hJ.q.kS k_7 13 (by decide) rfl t_894 (x := (nI ns)) hJ.eS dX7_counted_125 ?_
          refine q_iast hx hb hW hS (r := 184) (List.mem_append_right _ (List.mem_singleton.mpr rfl)) rfl (5) rfl (by decide) (by decide) dX7_counted_128 (fun H locs hW hS => ?_)
          have hJ : PJ (L ++ [184]) ad1 (up2 v6 184 (5) (nI ns)) o1 101 110 ng nh nl ns ow gx gy gw gd := hJ.kp (kr_hi (by decide))
          have hF : offR 184 (up2 v6 184 (5) (nI ns)) v := off_up hF
          generalize hv7 : (up2 v6 184 (5) (nI ns)) = v7 at hW hJ hF
          refine lv_dup hx hb dX7_counted_129 rfl ?_
          refine lv_bipush (v := 6) hx hb dX7_counted_130 (by decide) ?_
          refine lv_aload_n hx hb dX7_counted_132 rfl (lv_at hl 3 rfl) ?_
          refine q_getr hx hb hts hown hW (r := 100) hJ.q.m0 rfl k_8 1 (by decide) rfl t_944 (a := ad1 101) hO1 dX7_counted_133 ?_
          refine q_getN hx hb hts hown hW (r := 101) hJ.q.mS hJ.q.kS k_7 15 (by decide) rfl t_898 (x := (v7 101 15)) rfl dX7_counted_136 ?_
          refine q_iast hx hb hW hS (r := 184) (List.mem_append_right _ (List.mem_singleton.mpr rfl)) rfl (6) rfl (by decide) (by decide) dX7_counted_139 (fun H locs hW hS => ?_)
          have hJ : PJ (L ++ [184]) ad1 (up2 v7 184 (6) (v7 101 15)) o1 101 110 ng nh nl ns ow gx gy gw gd := hJ.kp (kr_hi (by decide))
          have hF : offR 184 (up2 v7 184 (6) (v7 101 15)) v := off_up hF
          generalize hv8 : (up2 v7 184 (6) (v7 101 15)) = v8 at hW hJ hF
          refine lv_dup hx hb dX7_counted_140 rfl ?_
          refine lv_bipush (v := 7) hx hb dX7_counted_141 (by decide) ?_
          refine lv_iload_n hx hb dX7_counted_143 rfl (lv_at hl 1 rfl) ?_
          refine q_iast hx hb hW hS (r := 184) (List.mem_append_right _ (List.mem_singleton.mpr rfl)) rfl (7) rfl (by decide) (by decide) dX7_counted_144 (fun H locs hW hS => ?_)
          have hJ : PJ (L ++ [184]) ad1 (up2 v8 184 (7) (sumI (fun h => nI (gw h * gd h)) nh)) o1 101 110 ng nh nl ns ow gx gy gw gd := hJ.kp (kr_hi (by decide))
          have hF : offR 184 (up2 v8 184 (7) (sumI (fun h => nI (gw h * gd h)) nh)) v := off_up hF
          generalize hv9 : (up2 v8 184 (7) (sumI (fun h => nI (gw h * gd h)) nh)) = v9 at hW hJ hF
          refine lv_dup hx hb dX7_counted_145 rfl ?_
          refine lv_bipush (v := 8) hx hb dX7_counted_146 (by decide) ?_
          refine lv_aload_n hx hb dX7_counted_148 rfl (lv_at hl 3 rfl) ?_
          refine q_getr hx hb hts hown hW (r := 100) hJ.q.m0 rfl k_8 1 (by decide) rfl t_944 (a := ad1 101) hO1 dX7_counted_149 ?_
          refine lv_iconst (v := (-1)) hx hb dX7_counted_152 (by decide) ?_
          refine lv_iconst (v := 1) hx hb dX7_counted_153 (by decide) ?_
          refine q_cViE (As := [.int (-1), .int 1]) (rest := [.int 8, .ref (ad1 184), .ref (ad1 184)]) (r := 101) hx hb hml hts hown hE h0 hW hS (c_X6_inState l hJ (-1) 1) mw_X6_inState hJ.q.mS hJ.q.kS k_7 t_1037 ⟨Nat.le_of_ble_eq_true rfl, Nat.le_of_ble_eq_true rfl⟩ rfl hl.1 (Nat.le_of_ble_eq_true rfl) dX7_counted_154 ⟨(by first | decide | omega | (dsimp only; omega)), (by first | decide | omega | (dsimp only; omega))⟩ ⟨rfl, rfl⟩ (fun H locs hW hS => ?_)
          refine q_iast hx hb hW hS (r := 184) (List.mem_append_right _ (List.mem_singleton.mpr rfl)) rfl (8) rfl (by decide) (by decide) dX7_counted_157 (fun H locs hW hS => ?_)
          have hJ : PJ (L ++ [184]) ad1 (up2 v9 184 (8) (rIn v9 110 gw gd nh (-1) 1)) o1 101 110 ng nh nl ns ow gx gy gw gd := hJ.kp (kr_hi (by decide))
          have hF : offR 184 (up2 v9 184 (8) (rIn v9 110 gw gd nh (-1) 1)) v := off_up hF
          generalize hv10 : (up2 v9 184 (8) (rIn v9 110 gw gd nh (-1) 1)) = v10 at hW hJ hF
          refine lv_dup hx hb dX7_counted_158 rfl ?_
          refine lv_bipush (v := 9) hx hb dX7_counted_159 (by decide) ?_
          refine lv_aload_n hx hb dX7_counted_161 rfl (lv_at hl 3 rfl) ?_
          refine q_getr hx hb hts hown hW (r := 100) hJ.q.m0 rfl k_8 1 (by decide) rfl t_944 (a := ad1 101) hO1 dX7_counted_162 ?_
          refine lv_iconst (v := (-1)) hx hb dX7_counted_165 (by decide) ?_
          refine lv_iconst (v := 2) hx hb dX7_counted_166 (by decide) ?_
          refine q_cViE (As := [.int (-1), .int 2]) (rest := [.int 9, .ref (ad1 184), .ref (ad1 184)]) (r := 101) hx hb hml hts hown hE h0 hW hS (c_X6_inState l hJ (-1) 2) mw_X6_inState hJ.q.mS hJ.q.kS k_7 t_1037 ⟨Nat.le_of_ble_eq_true rfl, Nat.le_of_ble_eq_true rfl⟩ rfl hl.1 (Nat.le_of_ble_eq_true rfl) dX7_counted_167 ⟨(by first | decide | omega | (dsimp only; omega)), (by first | decide | omega | (dsimp only; omega))⟩ ⟨rfl, rfl⟩ (fun H locs hW hS => ?_)
          refine q_iast hx hb hW hS (r := 184) (List.mem_append_right _ (List.mem_singleton.mpr rfl)) rfl (9) rfl (by decide) (by decide) dX7_counted_170 (fun H locs hW hS => ?_)
          have hJ : PJ (L ++ [184]) ad1 (up2 v10 184 (9) (rIn v10 110 gw gd nh (-1) 2)) o1 101 110 ng nh nl ns ow gx gy gw gd := hJ.kp (kr_hi (by decide))
          have hF : offR 184 (up2 v10 184 (9) (rIn v10 110 gw gd nh (-1) 2)) v := off_up hF
          generalize hv11 : (up2 v10 184 (9) (rIn v10 110 gw gd nh (-1) 2)) = v11 at hW hJ hF
          refine lv_dup hx hb dX7_counted_171 rfl ?_
          refine lv_bipush (v := 10) hx hb dX7_counted_172 (by decide) ?_
          refine lv_aload_n hx hb dX7_counted_174 rfl (lv_at hl 3 rfl) ?_
          refine q_getr hx hb hts hown hW (r := 100) hJ.q.m0 rfl k_8 1 (by decide) rfl t_944 (a := ad1 101) hO1 dX7_counted_175 ?_
          refine lv_iconst (v := (-1)) hx hb dX7_counted_178 (by decide) ?_
          refine q_cViE (As := [.int (-1)]) (rest := [.int 10, .ref (ad1 184), .ref (ad1 184)]) (r := 101) hx hb hml hts hown hE h0 hW hS (c_X6_lostBy l hJ (-1)) mw_X6_lostBy hJ.q.mS hJ.q.kS k_7 t_1024 ⟨Nat.le_of_ble_eq_true rfl, Nat.le_of_ble_eq_true rfl⟩ rfl hl.1 (Nat.le_of_ble_eq_true rfl) dX7_counted_179 ⟨(by first | decide | omega | (dsimp only; omega)), (by first | decide | omega | (dsimp only; omega))⟩ ⟨rfl, rfl⟩ (fun H locs hW hS => ?_)
          refine q_iast hx hb hW hS (r := 184) (List.mem_append_right _ (List.mem_singleton.mpr rfl)) rfl (10) rfl (by decide) (by decide) dX7_counted_182 (fun H locs hW hS => ?_)
          have hJ : PJ (L ++ [184]) ad1 (up2 v11 184 (10) (rBy v11 110 gw gd nh (-1))) o1 101 110 ng nh nl ns ow gx gy gw gd := hJ.kp (kr_hi (by decide))
          have hF : offR 184 (up2 v11 184 (10) (rBy v11 110 gw gd nh (-1))) v := off_up hF
          generalize hv12 : (up2 v11 184 (10) (rBy v11 110 gw gd nh (-1))) = v12 at hW hJ hF
          refine lv_astore (lv' := [(4, .ref (ad1 184)), (3, .int (sumI (fun h => nI (gw h * gd h)) nh)), (2, .int (sumI (fun g => v 115 g) ng)), (0, .ref (ad1 100)), (1, .int (nI what))]) hx hb dX7_counted_183 hl (by decide) rfl (fun ls hl => ?_)
          refine lv_aload hx hb dX7_counted_185 (lv_at hl 0 rfl) ?_
          refine lv_iload_n hx hb dX7_counted_187 rfl (lv_at hl 4 rfl) ?_
          refine q_iald hx hb hW (r := 184) (List.mem_append_right _ (List.mem_singleton.mpr rfl)) rfl (what) rfl (show _ < 11 by omega) (by decide) (x := (v12 184 (what))) rfl dX7_counted_188 ?_
          subst hv12
          subst hv11
          subst hv10
          subst hv9
          subst hv8
          subst hv7
          subst hv6
          subst hv5
          subst hv4
          subst hv3
          subst hv2
          subst hv1
          have hW := hW.forget hr9 had ho9 hF
          exact q_iret hx hb hr hlocks hW hS (by first | decide | omega | (dsimp only; omega)) (by first | decide | omega | (dsimp only; omega)) dX7_counted_189 (⟨by rcases (show what = 0 ∨ what = 1 ∨ what = 2 ∨ what = 3 ∨ what = 4 ∨ what = 5 ∨ what = 6 ∨ what = 7 ∨ what = 8 ∨ what = 9 ∨ what = 10 by omega) with rfl | rfl | rfl | rfl | rfl | rfl | rfl | rfl | rfl | rfl | rfl <;> first | rfl | (simp [up2, up1, rGr, rCo, rVals_up, rBy_up, rIn_up, rVals_up1, rBy_up1, rIn_up1]; done) | (simp [up2, up1, rGr, rCo, rVals_up, rBy_up, rIn_up, rVals_up1, rBy_up1, rIn_up1]; rfl), rfl⟩)
        · skip
          have hlt_41 := lt_i (n := nh) (by omega) hi_41 c_50
          refine lv_iload_n hx hb dX7_counted_53 rfl (lv_at hl 1 rfl) ?_
          refine lv_aload_n hx hb dX7_counted_54 rfl (lv_at hl 3 rfl) ?_
          refine q_getr hx hb hts hown hW (r := 100) hJ.q.m0 rfl k_8 1 (by decide) rfl t_944 (a := ad 101) hO1 dX7_counted_55 ?_
          refine lv_iload hx hb dX7_counted_58 (lv_at hl 0 rfl) ?_
          refine q_cViE (As := [.int (nI i)]) (rest := [.int (sumI (fun h => nI (gw h * gd h)) i)]) (r := 101) hx hb hml hts hown hE h0 hW hS (c_X6_size l hJ hlt_41) mw_X6_size hJ.q.mS hJ.q.kS k_7 t_1011 ⟨Nat.le_of_ble_eq_true rfl, Nat.le_of_ble_eq_true rfl⟩ rfl hl.1 (Nat.le_of_ble_eq_true rfl) dX7_counted_60 ⟨Nat.zero_le _, Nat.zero_le _⟩ ⟨rfl, rfl⟩ (fun H locs hW hS => ?_)
          refine lv_iadd hx hb dX7_counted_63 ?_
          refine lv_istore_n (lv' := [(3, .int ((sumI (fun h => nI (gw h * gd h)) i) + (nI (gw i * gd i)))), (4, .int (nI i)), (2, .int (sumI (fun g => v 115 g) ng)), (0, .ref (ad 100)), (1, .int (nI what))]) hx hb dX7_counted_64 rfl hl (by decide) rfl (fun ls hl => ?_)
          refine lv_iinc (v := (nI (i + 1))) (lv' := [(4, .int (nI (i + 1))), (3, .int ((sumI (fun h => nI (gw h * gd h)) i) + (nI (gw i * gd i)))), (2, .int (sumI (fun g => v 115 g) ng)), (0, .ref (ad 100)), (1, .int (nI what))]) hx hb dX7_counted_65 hl (k := 1) rfl (inc_nI _) (by decide) rfl (fun ls hl => ?_)
          refine lv_goto (tgt := 41) hx hb dX7_counted_68 (by decide) ?_
          exact ih_41 (i + 1) _ _   _ H locs ls (by omega) (by omega) (by rfl) (by rfl) (by rfl)  hW hS (lv_sub hl [0, 1, 2, 3, 4] rfl)
    · skip
      have hlt_7 := lt_i (n := ng) (by omega) hi_7 c_16
      refine lv_iload_n hx hb dX7_counted_19 rfl (lv_at hl 2 rfl) ?_
      refine lv_aload_n hx hb dX7_counted_20 rfl (lv_at hl 3 rfl) ?_
      refine q_getr hx hb hts hown hW (r := 100) hJ.q.m0 rfl k_8 1 (by decide) rfl t_944 (a := ad 101) hO1 dX7_counted_21 ?_
      refine q_getrN hx hb hts hown hW (r := 101) hJ.q.mS hJ.q.kS k_7 5 (by decide) rfl t_878 (a := ad (110 + 5)) (hJ.q.oB 5 rfl) dX7_counted_24 ?_
      refine lv_iload hx hb dX7_counted_27 (lv_at hl 0 rfl) ?_
      refine q_iald hx hb hW (r := (110 + 5)) (hJ.q.mB 5 rfl) (hJ.q.k9 5 rfl (by decide)) (i) rfl (by rw [hJ.q.ln 5 rfl]; show _ < 6; omega) (by rw [hJ.q.ln 5 rfl]; decide) (x := (v (110 + 5) (i))) rfl dX7_counted_29 ?_
      refine lv_iadd hx hb dX7_counted_30 ?_
      refine lv_istore_n (lv' := [(2, .int ((sumI (fun g => v 115 g) i) + (v (110 + 5) (i)))), (4, .int (nI i)), (3, .int 0), (0, .ref (ad 100)), (1, .int (nI what))]) hx hb dX7_counted_31 rfl hl (by decide) rfl (fun ls hl => ?_)
      refine lv_iinc (v := (nI (i + 1))) (lv' := [(4, .int (nI (i + 1))), (2, .int ((sumI (fun g => v 115 g) i) + (v (110 + 5) (i)))), (3, .int 0), (0, .ref (ad 100)), (1, .int (nI what))]) hx hb dX7_counted_32 hl (k := 1) rfl (inc_nI _) (by decide) rfl (fun ls hl => ?_)
      refine lv_goto (tgt := 7) hx hb dX7_counted_35 (by decide) ?_
      exact ih_7 (i + 1) _ _   _ H locs ls (by omega) (by omega) (by rfl) (by rfl) (by rfl)  hW hS (lv_sub hl [0, 2, 1, 3, 4] rfl)

set_option maxHeartbeats 4000000 in
set_option maxRecDepth 100000 in
theorem c_X7_houseTold (l : Launch) {G : GG} {L : List Nat} {ad : Nat → Nat} {v : Nat → Nat → Int32} {o : Nat → Nat → Option Nat} {w : Nat → Int64} {ng nh nl ns : Nat} {ow gx gy gw gd : Nat → Nat} (hJ : PJ L ad v o 101 110 ng nh nl ns ow gx gy gw gd) (hO1 : o 100 1 = some (ad 101)) {h : Nat} (hh : h < nh) {what : Nat} (hw9 : what < 11) : CtI l G L ad v o w yX7_houseTold cX7_houseTold 3 .int ({ frames := 2, cells := 0, slots := 0, locals := 46 }) [.ref (ad 100), .int (nI h), .int (nI what)] (fun r u => r = rHo v gw gd nh h what ∧ u = v) := by
  have hsb := hJ.q.sb; have hbd := hJ.bd; have hgeo := (hJ.hs h hh).1; have hz36 := hJ.z36 hh
  refine q_ofI (by decide) (Nat.le_of_ble_eq_true rfl) ?_
  intro p e s m below meth c hx hb hr hml hts hown hlocks hE h0 hW hS ls hl
  generalize hH : s.heap = H at hW
  have hS : va_S (Ab G.2.2.1) s.heap H [] := hH ▸ hS
  obtain ⟨locs, hlc⟩ : ∃ z : List Loc, z = [] := ⟨_, rfl⟩
  rw [← hlc] at hS ⊢
  have hl : lv_has ls 3 [(0, .ref (ad 100)), (1, .int (nI h)), (2, .int (nI what))] := hl
  refine lv_iload_n hx hb dX7_houseTold_0 rfl (lv_at hl 2 rfl) ?_
  refine lv_bipush (v := 7) hx hb dX7_houseTold_1 (by decide) ?_
  refine lv_icmp_ge (tgt := 21) hx hb dX7_houseTold_3 (by decide) (fun c_3 => ?_) (fun c_3 => ?_)
  · skip
    have hge7 : 7 ≤ what := ge7_of (by omega) c_3
    refine lv_iload_n hx hb dX7_houseTold_21 rfl (lv_at hl 2 rfl) ?_
    refine lv_bipush (v := 7) hx hb dX7_houseTold_22 (by decide) ?_
    refine lv_icmp_ne (tgt := 45) hx hb dX7_houseTold_24 (by decide) (fun c_24 => ?_) (fun c_24 => ?_)
    · skip
      have hn7 : what ≠ 7 := fun q => c_24 (by rw [q]; rfl)
      refine lv_iload_n hx hb dX7_houseTold_45 rfl (lv_at hl 2 rfl) ?_
      refine lv_bipush (v := 10) hx hb dX7_houseTold_46 (by decide) ?_
      refine lv_icmp_ne (tgt := 62) hx hb dX7_houseTold_48 (by decide) (fun c_48 => ?_) (fun c_48 => ?_)
      · skip
        have hn10 : what ≠ 10 := fun q => c_48 (by rw [q]; rfl)
        refine lv_aload_n hx hb dX7_houseTold_62 rfl (lv_at hl 0 rfl) ?_
        refine q_getr hx hb hts hown hW (r := 100) hJ.q.m0 rfl k_8 1 (by decide) rfl t_944 (a := ad 101) hO1 dX7_houseTold_63 ?_
        refine lv_iload_n hx hb dX7_houseTold_66 rfl (lv_at hl 1 rfl) ?_
        refine lv_iload_n hx hb dX7_houseTold_67 rfl (lv_at hl 2 rfl) ?_
        refine lv_bipush (v := 7) hx hb dX7_houseTold_68 (by decide) ?_
        refine lv_isub hx hb dX7_houseTold_70 ?_
        refine q_cViE (As := [.int (nI h), .int ((nI what) - 7)]) (rest := []) (r := 101) hx hb hml hts hown hE h0 hW hS (c_X6_inState l hJ (nI h) ((nI what) - 7)) mw_X6_inState hJ.q.mS hJ.q.kS k_7 t_1037 ⟨Nat.le_of_ble_eq_true rfl, Nat.le_of_ble_eq_true rfl⟩ rfl hl.1 (Nat.le_of_ble_eq_true rfl) dX7_houseTold_71 ⟨Nat.zero_le _, Nat.zero_le _⟩ ⟨rfl, rfl⟩ (fun H locs hW hS => ?_)
        exact q_iret hx hb hr hlocks hW hS (Nat.le_refl _) (Nat.le_refl _) dX7_houseTold_74 (⟨by first | rfl | exact rHo_hi hge7 hn7 hn10 hw9, rfl⟩)
      · skip
        have he10 : what = 10 := (nI_eq (a := what) (b := 10) (by omega) (by decide)).mp c_48
        subst he10
        refine lv_aload_n hx hb dX7_houseTold_51 rfl (lv_at hl 0 rfl) ?_
        refine q_getr hx hb hts hown hW (r := 100) hJ.q.m0 rfl k_8 1 (by decide) rfl t_944 (a := ad 101) hO1 dX7_houseTold_52 ?_
        refine lv_iload_n hx hb dX7_houseTold_55 rfl (lv_at hl 1 rfl) ?_
        refine q_cViE (As := [.int (nI h)]) (rest := []) (r := 101) hx hb hml hts hown hE h0 hW hS (c_X6_lostOf l hJ hh) mw_X6_lostOf hJ.q.mS hJ.q.kS k_7 t_999 ⟨Nat.le_of_ble_eq_true rfl, Nat.le_of_ble_eq_true rfl⟩ rfl hl.1 (Nat.le_of_ble_eq_true rfl) dX7_houseTold_56 ⟨Nat.zero_le _, Nat.zero_le _⟩ ⟨rfl, rfl⟩ (fun H locs hW hS => ?_)
        refine lv_goto (tgt := 74) hx hb dX7_houseTold_59 (by decide) ?_
        exact q_iret hx hb hr hlocks hW hS (Nat.le_refl _) (Nat.le_refl _) dX7_houseTold_74 (⟨by first | rfl | exact rHo_hi hge7 hn7 hn10 hw9, rfl⟩)
    · skip
      have he7 : what = 7 := (nI_eq (a := what) (b := 7) (by omega) (by decide)).mp c_24
      subst he7
      refine lv_aload_n hx hb dX7_houseTold_27 rfl (lv_at hl 0 rfl) ?_
      refine q_getr hx hb hts hown hW (r := 100) hJ.q.m0 rfl k_8 1 (by decide) rfl t_944 (a := ad 101) hO1 dX7_houseTold_28 ?_
      refine q_getrN hx hb hts hown hW (r := 101) hJ.q.mS hJ.q.kS k_7 8 (by decide) rfl t_884 (a := ad (110 + 8)) (hJ.q.oB 8 rfl) dX7_houseTold_31 ?_
      refine lv_iload_n hx hb dX7_houseTold_34 rfl (lv_at hl 1 rfl) ?_
      refine q_zald hx hb hW (r := (110 + 8)) (hJ.q.mB 8 rfl) hJ.q.k10 (h) rfl (by rw [hJ.q.ln 8 rfl]; show _ < 12; omega) (by rw [hJ.q.ln 8 rfl]; decide) (x := (v (110 + 8) (h))) rfl dX7_houseTold_35 ?_
      refine lv_if_eq (tgt := 43) hx hb dX7_houseTold_36 (by decide) (fun c_36 => ?_) (fun c_36 => ?_)
      · skip
        refine lv_iconst (v := 0) hx hb dX7_houseTold_43 (by decide) ?_
        exact q_iret hx hb hr hlocks hW hS (Nat.le_refl _) (Nat.le_refl _) dX7_houseTold_44 (⟨by first | exact (if_pos c_36).symm | exact (if_neg c_36).symm, rfl⟩)
      · skip
        refine lv_iconst (v := 1) hx hb dX7_houseTold_39 (by decide) ?_
        refine lv_goto (tgt := 44) hx hb dX7_houseTold_40 (by decide) ?_
        exact q_iret hx hb hr hlocks hW hS (Nat.le_refl _) (Nat.le_refl _) dX7_houseTold_44 (⟨by first | exact (if_pos c_36).symm | exact (if_neg c_36).symm, rfl⟩)
  · skip
    have hlt7 : what < 7 := lt7_of (by omega) c_3
    refine lv_aload_n hx hb dX7_houseTold_6 rfl (lv_at hl 0 rfl) ?_
    refine q_getr hx hb hts hown hW (r := 100) hJ.q.m0 rfl k_8 1 (by decide) rfl t_944 (a := ad 101) hO1 dX7_houseTold_7 ?_
    refine q_getrN hx hb hts hown hW (r := 101) hJ.q.mS hJ.q.kS k_7 7 (by decide) rfl t_882 (a := ad (110 + 7)) (hJ.q.oB 7 rfl) dX7_houseTold_10 ?_
    refine lv_bipush (v := 7) hx hb dX7_houseTold_13 (by decide) ?_
    refine lv_iload_n hx hb dX7_houseTold_15 rfl (lv_at hl 1 rfl) ?_
    refine lv_imul hx hb dX7_houseTold_16 ?_
    refine lv_iload_n hx hb dX7_houseTold_17 rfl (lv_at hl 2 rfl) ?_
    refine lv_iadd hx hb dX7_houseTold_18 ?_
    refine q_iald hx hb hW (r := (110 + 7)) (hJ.q.mB 7 rfl) (hJ.q.k9 7 rfl (by decide)) (7 * h + what) (ix_add (ix_mul rfl rfl) rfl) (by rw [hJ.q.ln 7 rfl]; show _ < 84; omega) (by rw [hJ.q.ln 7 rfl]; decide) (x := (v (110 + 7) (7 * h + what))) rfl dX7_houseTold_19 ?_
    exact q_iret hx hb hr hlocks hW hS (Nat.le_refl _) (Nat.le_refl _) dX7_houseTold_20 (⟨(rHo_lo hlt7).symm, rfl⟩)

set_option maxHeartbeats 4000000 in
set_option maxRecDepth 100000 in
theorem c_X7_grower (l : Launch) {G : GG} {L : List Nat} {ad : Nat → Nat} {v : Nat → Nat → Int32} {o : Nat → Nat → Option Nat} {w : Nat → Int64} {ng nh nl ns : Nat} {ow gx gy gw gd : Nat → Nat} (hJ : PJ L ad v o 101 110 ng nh nl ns ow gx gy gw gd) (hO1 : o 100 1 = some (ad 101))  (hr183 : 183 ∉ L) {g : Nat} (hg : g < ng) {what : Nat} (hw9 : what < 10) : CtI l G L ad v o w yX7_grower cX7_grower 3 .int ({ frames := 4, cells := 1, slots := 10, locals := 92 }) [.ref (ad 100), .int (nI g), .int (nI what)] (fun r u => r = rGr (tz v) gw gd nh g what ∧ u = tz v) := by
  have hsb := hJ.q.sb; have hbd := hJ.bd; have hck := fIn_nat hg (by omega); have hcw : fIn (nI what) 0 9 = 1 := fIn_nat (n := 10) hw9 (by decide)
  refine q_ofI (by decide) (Nat.le_of_ble_eq_true rfl) ?_
  intro p e s m below meth c hx hb hr hml hts hown hlocks hE h0 hW hS ls hl
  generalize hH : s.heap = H at hW
  have hS : va_S (Ab G.2.2.1) s.heap H [] := hH ▸ hS
  obtain ⟨locs, hlc⟩ : ∃ z : List Loc, z = [] := ⟨_, rfl⟩
  rw [← hlc] at hS ⊢
  have hl : lv_has ls 3 [(0, .ref (ad 100)), (1, .int (nI g)), (2, .int (nI what))] := hl
  refine lv_aload_n hx hb dX7_grower_0 rfl (lv_at hl 0 rfl) ?_
  refine lv_iconst (v := 0) hx hb dX7_grower_1 (by decide) ?_
  refine q_put hx hb hts hown hW hS (r := 100) hJ.q.m0 rfl k_8 0 (by decide) rfl t_943 rfl (t := .int) (by decide +kernel) rfl rfl dX7_grower_2 (fun H locs hW hS => ?_)
  have hJ : PJ L ad (up2 v 100 0 0) o 101 110 ng nh nl ns ow gx gy gw gd := hJ.kp kr_t
  generalize hv1 : (up2 v 100 0 0) = v1 at hW hJ
  refine lv_aload_n hx hb dX7_grower_5 rfl (lv_at hl 0 rfl) ?_
  refine lv_iload_n hx hb dX7_grower_6 rfl (lv_at hl 1 rfl) ?_
  refine q_cViE (As := [.int (nI g)]) (rest := []) (r := 100) hx hb hml hts hown hE h0 hW hS (c_X7_isGrower l hJ hO1 (nI g)) mw_X7_isGrower hJ.q.m0 rfl k_8 t_973 ⟨Nat.le_of_ble_eq_true rfl, Nat.le_of_ble_eq_true rfl⟩ rfl hl.1 (Nat.le_of_ble_eq_true rfl) dX7_grower_7 ⟨Nat.zero_le _, Nat.zero_le _⟩ ⟨rfl, rfl⟩ (fun H locs hW hS => ?_)
  refine lv_if_eq (tgt := 32) hx hb dX7_grower_10 (by decide) (fun c_10 => ?_) (fun c_10 => ?_)
  · skip
    exact absurd (hck.symm.trans c_10) (by decide)
  · skip
    refine lv_iload_n hx hb dX7_grower_13 rfl (lv_at hl 2 rfl) ?_
    refine lv_iconst (v := 0) hx hb dX7_grower_14 (by decide) ?_
    refine lv_bipush (v := 9) hx hb dX7_grower_15 (by decide) ?_
    refine q_cSiE (As := [.int (nI what), .int 0, .int 9]) (rest := []) hx hb hml hts hown hE h0 hW hS (c_X7_isIn l (nI what) 0 9) mw_X7_isIn t_962 ⟨Nat.le_of_ble_eq_true rfl, Nat.le_of_ble_eq_true rfl⟩ rfl hl.1 (Nat.le_of_ble_eq_true rfl) dX7_grower_17 ⟨Nat.zero_le _, Nat.zero_le _⟩ ⟨rfl, rfl⟩ (fun H locs hW hS => ?_)
    refine lv_if_eq (tgt := 32) hx hb dX7_grower_20 (by decide) (fun c_20 => ?_) (fun c_20 => ?_)
    · skip
      exact absurd (hcw.symm.trans c_20) (by decide)
    · skip
      refine lv_aload_n hx hb dX7_grower_23 rfl (lv_at hl 0 rfl) ?_
      refine lv_iload_n hx hb dX7_grower_24 rfl (lv_at hl 1 rfl) ?_
      refine lv_iload_n hx hb dX7_grower_25 rfl (lv_at hl 2 rfl) ?_
      refine q_cVi (As := [.int (nI g), .int (nI what)]) (rest := []) (r := 100) hx hb hml hts hown hE h0 hW hS (c_X7_growerTold l hJ hO1 hr183 hg hw9) mw_X7_growerTold hJ.q.m0 rfl k_8 t_1016 ⟨Nat.le_of_ble_eq_true rfl, Nat.le_of_ble_eq_true rfl⟩ rfl hl.1 (Nat.le_of_ble_eq_true rfl) dX7_grower_26 ⟨(by first | decide | omega | (dsimp only; omega)), (by first | decide | omega | (dsimp only; omega))⟩ (fun rz u H locs hrz hW hS => ?_)
      obtain ⟨hr1, hr2⟩ := hrz
      rw [hr2] at hW
      subst hr1
      refine lv_goto (tgt := 37) hx hb dX7_grower_29 (by decide) ?_
      subst hv1
      exact q_iret hx hb hr hlocks hW hS (by first | decide | omega | (dsimp only; omega)) (by first | decide | omega | (dsimp only; omega)) dX7_grower_37 (⟨rfl, rfl⟩)

set_option maxHeartbeats 4000000 in
set_option maxRecDepth 100000 in
theorem c_X7_grower_1a (l : Launch) {G : GG} {L : List Nat} {ad : Nat → Nat} {v : Nat → Nat → Int32} {o : Nat → Nat → Option Nat} {w : Nat → Int64} {ng nh nl ns : Nat} {ow gx gy gw gd : Nat → Nat} (hJ : PJ L ad v o 101 110 ng nh nl ns ow gx gy gw gd) (hO1 : o 100 1 = some (ad 101)) {a b : Int32} (k1 : fIn a 0 (nI ng - 1) = 0) : CtI l G L ad v o w yX7_grower cX7_grower 3 .int ({ frames := 2, cells := 0, slots := 0, locals := 43 }) [.ref (ad 100), .int a, .int b] (fun r u => r = 0 ∧ u = up2 (tz v) 100 0 1) := by
  have hsb := hJ.q.sb; have hbd := hJ.bd
  refine q_ofI (by decide) (Nat.le_of_ble_eq_true rfl) ?_
  intro p e s m below meth c hx hb hr hml hts hown hlocks hE h0 hW hS ls hl
  generalize hH : s.heap = H at hW
  have hS : va_S (Ab G.2.2.1) s.heap H [] := hH ▸ hS
  obtain ⟨locs, hlc⟩ : ∃ z : List Loc, z = [] := ⟨_, rfl⟩
  rw [← hlc] at hS ⊢
  have hl : lv_has ls 3 [(0, .ref (ad 100)), (1, .int a), (2, .int b)] := hl
  refine lv_aload_n hx hb dX7_grower_0 rfl (lv_at hl 0 rfl) ?_
  refine lv_iconst (v := 0) hx hb dX7_grower_1 (by decide) ?_
  refine q_put hx hb hts hown hW hS (r := 100) hJ.q.m0 rfl k_8 0 (by decide) rfl t_943 rfl (t := .int) (by decide +kernel) rfl rfl dX7_grower_2 (fun H locs hW hS => ?_)
  have hJ : PJ L ad (up2 v 100 0 0) o 101 110 ng nh nl ns ow gx gy gw gd := hJ.kp kr_t
  generalize hv1 : (up2 v 100 0 0) = v1 at hW hJ
  refine lv_aload_n hx hb dX7_grower_5 rfl (lv_at hl 0 rfl) ?_
  refine lv_iload_n hx hb dX7_grower_6 rfl (lv_at hl 1 rfl) ?_
  refine q_cViE (As := [.int a]) (rest := []) (r := 100) hx hb hml hts hown hE h0 hW hS (c_X7_isGrower l hJ hO1 a) mw_X7_isGrower hJ.q.m0 rfl k_8 t_973 ⟨Nat.le_of_ble_eq_true rfl, Nat.le_of_ble_eq_true rfl⟩ rfl hl.1 (Nat.le_of_ble_eq_true rfl) dX7_grower_7 ⟨Nat.zero_le _, Nat.zero_le _⟩ ⟨rfl, rfl⟩ (fun H locs hW hS => ?_)
  refine lv_if_eq (tgt := 32) hx hb dX7_grower_10 (by decide) (fun c_10 => ?_) (fun c_10 => ?_)
  · skip
    refine lv_aload_n hx hb dX7_grower_32 rfl (lv_at hl 0 rfl) ?_
    refine lv_iconst (v := 1) hx hb dX7_grower_33 (by decide) ?_
    refine q_cViE (As := [.int 1]) (rest := []) (r := 100) hx hb hml hts hown hE h0 hW hS (c_X7_no l hJ.q.m0 1) mw_X7_no hJ.q.m0 rfl k_8 t_965 ⟨Nat.le_of_ble_eq_true rfl, Nat.le_of_ble_eq_true rfl⟩ rfl hl.1 (Nat.le_of_ble_eq_true rfl) dX7_grower_34 ⟨Nat.zero_le _, Nat.zero_le _⟩ ⟨rfl, rfl⟩ (fun H locs hW hS => ?_)
    have hJ : PJ L ad (up2 v1 100 0 1) o 101 110 ng nh nl ns ow gx gy gw gd := hJ.kp kr_t
    generalize hv2 : (up2 v1 100 0 1) = v2 at hW hJ
    subst hv2
    subst hv1
    exact q_iret hx hb hr hlocks hW hS (Nat.le_refl _) (Nat.le_refl _) dX7_grower_37 (⟨rfl, rfl⟩)
  · skip
    exact absurd k1 c_10

set_option maxHeartbeats 4000000 in
set_option maxRecDepth 100000 in
theorem c_X7_grower_1b (l : Launch) {G : GG} {L : List Nat} {ad : Nat → Nat} {v : Nat → Nat → Int32} {o : Nat → Nat → Option Nat} {w : Nat → Int64} {ng nh nl ns : Nat} {ow gx gy gw gd : Nat → Nat} (hJ : PJ L ad v o 101 110 ng nh nl ns ow gx gy gw gd) (hO1 : o 100 1 = some (ad 101)) {g : Nat} (hg : g < ng) {b : Int32} (k1 : fIn b 0 9 = 0) : CtI l G L ad v o w yX7_grower cX7_grower 3 .int ({ frames := 2, cells := 0, slots := 0, locals := 43 }) [.ref (ad 100), .int (nI g), .int b] (fun r u => r = 0 ∧ u = up2 (tz v) 100 0 1) := by
  have hsb := hJ.q.sb; have hbd := hJ.bd; have hck := fIn_nat hg (by omega)
  refine q_ofI (by decide) (Nat.le_of_ble_eq_true rfl) ?_
  intro p e s m below meth c hx hb hr hml hts hown hlocks hE h0 hW hS ls hl
  generalize hH : s.heap = H at hW
  have hS : va_S (Ab G.2.2.1) s.heap H [] := hH ▸ hS
  obtain ⟨locs, hlc⟩ : ∃ z : List Loc, z = [] := ⟨_, rfl⟩
  rw [← hlc] at hS ⊢
  have hl : lv_has ls 3 [(0, .ref (ad 100)), (1, .int (nI g)), (2, .int b)] := hl
  refine lv_aload_n hx hb dX7_grower_0 rfl (lv_at hl 0 rfl) ?_
  refine lv_iconst (v := 0) hx hb dX7_grower_1 (by decide) ?_
  refine q_put hx hb hts hown hW hS (r := 100) hJ.q.m0 rfl k_8 0 (by decide) rfl t_943 rfl (t := .int) (by decide +kernel) rfl rfl dX7_grower_2 (fun H locs hW hS => ?_)
  have hJ : PJ L ad (up2 v 100 0 0) o 101 110 ng nh nl ns ow gx gy gw gd := hJ.kp kr_t
  generalize hv1 : (up2 v 100 0 0) = v1 at hW hJ
  refine lv_aload_n hx hb dX7_grower_5 rfl (lv_at hl 0 rfl) ?_
  refine lv_iload_n hx hb dX7_grower_6 rfl (lv_at hl 1 rfl) ?_
  refine q_cViE (As := [.int (nI g)]) (rest := []) (r := 100) hx hb hml hts hown hE h0 hW hS (c_X7_isGrower l hJ hO1 (nI g)) mw_X7_isGrower hJ.q.m0 rfl k_8 t_973 ⟨Nat.le_of_ble_eq_true rfl, Nat.le_of_ble_eq_true rfl⟩ rfl hl.1 (Nat.le_of_ble_eq_true rfl) dX7_grower_7 ⟨Nat.zero_le _, Nat.zero_le _⟩ ⟨rfl, rfl⟩ (fun H locs hW hS => ?_)
  refine lv_if_eq (tgt := 32) hx hb dX7_grower_10 (by decide) (fun c_10 => ?_) (fun c_10 => ?_)
  · skip
    exact absurd (hck.symm.trans c_10) (by decide)
  · skip
    refine lv_iload_n hx hb dX7_grower_13 rfl (lv_at hl 2 rfl) ?_
    refine lv_iconst (v := 0) hx hb dX7_grower_14 (by decide) ?_
    refine lv_bipush (v := 9) hx hb dX7_grower_15 (by decide) ?_
    refine q_cSiE (As := [.int b, .int 0, .int 9]) (rest := []) hx hb hml hts hown hE h0 hW hS (c_X7_isIn l b 0 9) mw_X7_isIn t_962 ⟨Nat.le_of_ble_eq_true rfl, Nat.le_of_ble_eq_true rfl⟩ rfl hl.1 (Nat.le_of_ble_eq_true rfl) dX7_grower_17 ⟨Nat.zero_le _, Nat.zero_le _⟩ ⟨rfl, rfl⟩ (fun H locs hW hS => ?_)
    refine lv_if_eq (tgt := 32) hx hb dX7_grower_20 (by decide) (fun c_20 => ?_) (fun c_20 => ?_)
    · skip
      refine lv_aload_n hx hb dX7_grower_32 rfl (lv_at hl 0 rfl) ?_
      refine lv_iconst (v := 1) hx hb dX7_grower_33 (by decide) ?_
      refine q_cViE (As := [.int 1]) (rest := []) (r := 100) hx hb hml hts hown hE h0 hW hS (c_X7_no l hJ.q.m0 1) mw_X7_no hJ.q.m0 rfl k_8 t_965 ⟨Nat.le_of_ble_eq_true rfl, Nat.le_of_ble_eq_true rfl⟩ rfl hl.1 (Nat.le_of_ble_eq_true rfl) dX7_grower_34 ⟨Nat.zero_le _, Nat.zero_le _⟩ ⟨rfl, rfl⟩ (fun H locs hW hS => ?_)
      have hJ : PJ L ad (up2 v1 100 0 1) o 101 110 ng nh nl ns ow gx gy gw gd := hJ.kp kr_t
      generalize hv2 : (up2 v1 100 0 1) = v2 at hW hJ
      subst hv2
      subst hv1
      exact q_iret hx hb hr hlocks hW hS (Nat.le_refl _) (Nat.le_refl _) dX7_grower_37 (⟨rfl, rfl⟩)
    · skip
      exact absurd k1 c_20

set_option maxHeartbeats 4000000 in
set_option maxRecDepth 100000 in
theorem c_X7_house (l : Launch) {G : GG} {L : List Nat} {ad : Nat → Nat} {v : Nat → Nat → Int32} {o : Nat → Nat → Option Nat} {w : Nat → Int64} {ng nh nl ns : Nat} {ow gx gy gw gd : Nat → Nat} (hJ : PJ L ad v o 101 110 ng nh nl ns ow gx gy gw gd) (hO1 : o 100 1 = some (ad 101)) {h : Nat} (hh : h < nh) {what : Nat} (hw9 : what < 11) : CtI l G L ad v o w yX7_house cX7_house 3 .int ({ frames := 3, cells := 0, slots := 0, locals := 68 }) [.ref (ad 100), .int (nI h), .int (nI what)] (fun r u => r = rHo (tz v) gw gd nh h what ∧ u = tz v) := by
  have hsb := hJ.q.sb; have hbd := hJ.bd; have hck := fIn_nat hh (by omega); have hcw : fIn (nI what) 0 10 = 1 := fIn_nat (n := 11) hw9 (by decide)
  refine q_ofI (by decide) (Nat.le_of_ble_eq_true rfl) ?_
  intro p e s m below meth c hx hb hr hml hts hown hlocks hE h0 hW hS ls hl
  generalize hH : s.heap = H at hW
  have hS : va_S (Ab G.2.2.1) s.heap H [] := hH ▸ hS
  obtain ⟨locs, hlc⟩ : ∃ z : List Loc, z = [] := ⟨_, rfl⟩
  rw [← hlc] at hS ⊢
  have hl : lv_has ls 3 [(0, .ref (ad 100)), (1, .int (nI h)), (2, .int (nI what))] := hl
  refine lv_aload_n hx hb dX7_house_0 rfl (lv_at hl 0 rfl) ?_
  refine lv_iconst (v := 0) hx hb dX7_house_1 (by decide) ?_
  refine q_put hx hb hts hown hW hS (r := 100) hJ.q.m0 rfl k_8 0 (by decide) rfl t_943 rfl (t := .int) (by decide +kernel) rfl rfl dX7_house_2 (fun H locs hW hS => ?_)
  have hJ : PJ L ad (up2 v 100 0 0) o 101 110 ng nh nl ns ow gx gy gw gd := hJ.kp kr_t
  generalize hv1 : (up2 v 100 0 0) = v1 at hW hJ
  refine lv_aload_n hx hb dX7_house_5 rfl (lv_at hl 0 rfl) ?_
  refine lv_iload_n hx hb dX7_house_6 rfl (lv_at hl 1 rfl) ?_
  refine q_cViE (As := [.int (nI h)]) (rest := []) (r := 100) hx hb hml hts hown hE h0 hW hS (c_X7_isHouse l hJ hO1 (nI h)) mw_X7_isHouse hJ.q.m0 rfl k_8 t_986 ⟨Nat.le_of_ble_eq_true rfl, Nat.le_of_ble_eq_true rfl⟩ rfl hl.1 (Nat.le_of_ble_eq_true rfl) dX7_house_7 ⟨Nat.zero_le _, Nat.zero_le _⟩ ⟨rfl, rfl⟩ (fun H locs hW hS => ?_)
  refine lv_if_eq (tgt := 32) hx hb dX7_house_10 (by decide) (fun c_10 => ?_) (fun c_10 => ?_)
  · skip
    exact absurd (hck.symm.trans c_10) (by decide)
  · skip
    refine lv_iload_n hx hb dX7_house_13 rfl (lv_at hl 2 rfl) ?_
    refine lv_iconst (v := 0) hx hb dX7_house_14 (by decide) ?_
    refine lv_bipush (v := 10) hx hb dX7_house_15 (by decide) ?_
    refine q_cSiE (As := [.int (nI what), .int 0, .int 10]) (rest := []) hx hb hml hts hown hE h0 hW hS (c_X7_isIn l (nI what) 0 10) mw_X7_isIn t_962 ⟨Nat.le_of_ble_eq_true rfl, Nat.le_of_ble_eq_true rfl⟩ rfl hl.1 (Nat.le_of_ble_eq_true rfl) dX7_house_17 ⟨Nat.zero_le _, Nat.zero_le _⟩ ⟨rfl, rfl⟩ (fun H locs hW hS => ?_)
    refine lv_if_eq (tgt := 32) hx hb dX7_house_20 (by decide) (fun c_20 => ?_) (fun c_20 => ?_)
    · skip
      exact absurd (hcw.symm.trans c_20) (by decide)
    · skip
      refine lv_aload_n hx hb dX7_house_23 rfl (lv_at hl 0 rfl) ?_
      refine lv_iload_n hx hb dX7_house_24 rfl (lv_at hl 1 rfl) ?_
      refine lv_iload_n hx hb dX7_house_25 rfl (lv_at hl 2 rfl) ?_
      refine q_cViE (As := [.int (nI h), .int (nI what)]) (rest := []) (r := 100) hx hb hml hts hown hE h0 hW hS (c_X7_houseTold l hJ hO1 hh hw9) mw_X7_houseTold hJ.q.m0 rfl k_8 t_1033 ⟨Nat.le_of_ble_eq_true rfl, Nat.le_of_ble_eq_true rfl⟩ rfl hl.1 (Nat.le_of_ble_eq_true rfl) dX7_house_26 ⟨Nat.zero_le _, Nat.zero_le _⟩ ⟨rfl, rfl⟩ (fun H locs hW hS => ?_)
      refine lv_goto (tgt := 37) hx hb dX7_house_29 (by decide) ?_
      subst hv1
      exact q_iret hx hb hr hlocks hW hS (Nat.le_refl _) (Nat.le_refl _) dX7_house_37 (⟨rfl, rfl⟩)

set_option maxHeartbeats 4000000 in
set_option maxRecDepth 100000 in
theorem c_X7_house_1a (l : Launch) {G : GG} {L : List Nat} {ad : Nat → Nat} {v : Nat → Nat → Int32} {o : Nat → Nat → Option Nat} {w : Nat → Int64} {ng nh nl ns : Nat} {ow gx gy gw gd : Nat → Nat} (hJ : PJ L ad v o 101 110 ng nh nl ns ow gx gy gw gd) (hO1 : o 100 1 = some (ad 101)) {a b : Int32} (k1 : fIn a 0 (nI nh - 1) = 0) : CtI l G L ad v o w yX7_house cX7_house 3 .int ({ frames := 2, cells := 0, slots := 0, locals := 43 }) [.ref (ad 100), .int a, .int b] (fun r u => r = 0 ∧ u = up2 (tz v) 100 0 1) := by
  have hsb := hJ.q.sb; have hbd := hJ.bd
  refine q_ofI (by decide) (Nat.le_of_ble_eq_true rfl) ?_
  intro p e s m below meth c hx hb hr hml hts hown hlocks hE h0 hW hS ls hl
  generalize hH : s.heap = H at hW
  have hS : va_S (Ab G.2.2.1) s.heap H [] := hH ▸ hS
  obtain ⟨locs, hlc⟩ : ∃ z : List Loc, z = [] := ⟨_, rfl⟩
  rw [← hlc] at hS ⊢
  have hl : lv_has ls 3 [(0, .ref (ad 100)), (1, .int a), (2, .int b)] := hl
  refine lv_aload_n hx hb dX7_house_0 rfl (lv_at hl 0 rfl) ?_
  refine lv_iconst (v := 0) hx hb dX7_house_1 (by decide) ?_
  refine q_put hx hb hts hown hW hS (r := 100) hJ.q.m0 rfl k_8 0 (by decide) rfl t_943 rfl (t := .int) (by decide +kernel) rfl rfl dX7_house_2 (fun H locs hW hS => ?_)
  have hJ : PJ L ad (up2 v 100 0 0) o 101 110 ng nh nl ns ow gx gy gw gd := hJ.kp kr_t
  generalize hv1 : (up2 v 100 0 0) = v1 at hW hJ
  refine lv_aload_n hx hb dX7_house_5 rfl (lv_at hl 0 rfl) ?_
  refine lv_iload_n hx hb dX7_house_6 rfl (lv_at hl 1 rfl) ?_
  refine q_cViE (As := [.int a]) (rest := []) (r := 100) hx hb hml hts hown hE h0 hW hS (c_X7_isHouse l hJ hO1 a) mw_X7_isHouse hJ.q.m0 rfl k_8 t_986 ⟨Nat.le_of_ble_eq_true rfl, Nat.le_of_ble_eq_true rfl⟩ rfl hl.1 (Nat.le_of_ble_eq_true rfl) dX7_house_7 ⟨Nat.zero_le _, Nat.zero_le _⟩ ⟨rfl, rfl⟩ (fun H locs hW hS => ?_)
  refine lv_if_eq (tgt := 32) hx hb dX7_house_10 (by decide) (fun c_10 => ?_) (fun c_10 => ?_)
  · skip
    refine lv_aload_n hx hb dX7_house_32 rfl (lv_at hl 0 rfl) ?_
    refine lv_iconst (v := 1) hx hb dX7_house_33 (by decide) ?_
    refine q_cViE (As := [.int 1]) (rest := []) (r := 100) hx hb hml hts hown hE h0 hW hS (c_X7_no l hJ.q.m0 1) mw_X7_no hJ.q.m0 rfl k_8 t_965 ⟨Nat.le_of_ble_eq_true rfl, Nat.le_of_ble_eq_true rfl⟩ rfl hl.1 (Nat.le_of_ble_eq_true rfl) dX7_house_34 ⟨Nat.zero_le _, Nat.zero_le _⟩ ⟨rfl, rfl⟩ (fun H locs hW hS => ?_)
    have hJ : PJ L ad (up2 v1 100 0 1) o 101 110 ng nh nl ns ow gx gy gw gd := hJ.kp kr_t
    generalize hv2 : (up2 v1 100 0 1) = v2 at hW hJ
    subst hv2
    subst hv1
    exact q_iret hx hb hr hlocks hW hS (Nat.le_refl _) (Nat.le_refl _) dX7_house_37 (⟨rfl, rfl⟩)
  · skip
    exact absurd k1 c_10

set_option maxHeartbeats 4000000 in
set_option maxRecDepth 100000 in
theorem c_X7_house_1b (l : Launch) {G : GG} {L : List Nat} {ad : Nat → Nat} {v : Nat → Nat → Int32} {o : Nat → Nat → Option Nat} {w : Nat → Int64} {ng nh nl ns : Nat} {ow gx gy gw gd : Nat → Nat} (hJ : PJ L ad v o 101 110 ng nh nl ns ow gx gy gw gd) (hO1 : o 100 1 = some (ad 101)) {h : Nat} (hh : h < nh) {b : Int32} (k1 : fIn b 0 10 = 0) : CtI l G L ad v o w yX7_house cX7_house 3 .int ({ frames := 2, cells := 0, slots := 0, locals := 43 }) [.ref (ad 100), .int (nI h), .int b] (fun r u => r = 0 ∧ u = up2 (tz v) 100 0 1) := by
  have hsb := hJ.q.sb; have hbd := hJ.bd; have hck := fIn_nat hh (by omega)
  refine q_ofI (by decide) (Nat.le_of_ble_eq_true rfl) ?_
  intro p e s m below meth c hx hb hr hml hts hown hlocks hE h0 hW hS ls hl
  generalize hH : s.heap = H at hW
  have hS : va_S (Ab G.2.2.1) s.heap H [] := hH ▸ hS
  obtain ⟨locs, hlc⟩ : ∃ z : List Loc, z = [] := ⟨_, rfl⟩
  rw [← hlc] at hS ⊢
  have hl : lv_has ls 3 [(0, .ref (ad 100)), (1, .int (nI h)), (2, .int b)] := hl
  refine lv_aload_n hx hb dX7_house_0 rfl (lv_at hl 0 rfl) ?_
  refine lv_iconst (v := 0) hx hb dX7_house_1 (by decide) ?_
  refine q_put hx hb hts hown hW hS (r := 100) hJ.q.m0 rfl k_8 0 (by decide) rfl t_943 rfl (t := .int) (by decide +kernel) rfl rfl dX7_house_2 (fun H locs hW hS => ?_)
  have hJ : PJ L ad (up2 v 100 0 0) o 101 110 ng nh nl ns ow gx gy gw gd := hJ.kp kr_t
  generalize hv1 : (up2 v 100 0 0) = v1 at hW hJ
  refine lv_aload_n hx hb dX7_house_5 rfl (lv_at hl 0 rfl) ?_
  refine lv_iload_n hx hb dX7_house_6 rfl (lv_at hl 1 rfl) ?_
  refine q_cViE (As := [.int (nI h)]) (rest := []) (r := 100) hx hb hml hts hown hE h0 hW hS (c_X7_isHouse l hJ hO1 (nI h)) mw_X7_isHouse hJ.q.m0 rfl k_8 t_986 ⟨Nat.le_of_ble_eq_true rfl, Nat.le_of_ble_eq_true rfl⟩ rfl hl.1 (Nat.le_of_ble_eq_true rfl) dX7_house_7 ⟨Nat.zero_le _, Nat.zero_le _⟩ ⟨rfl, rfl⟩ (fun H locs hW hS => ?_)
  refine lv_if_eq (tgt := 32) hx hb dX7_house_10 (by decide) (fun c_10 => ?_) (fun c_10 => ?_)
  · skip
    exact absurd (hck.symm.trans c_10) (by decide)
  · skip
    refine lv_iload_n hx hb dX7_house_13 rfl (lv_at hl 2 rfl) ?_
    refine lv_iconst (v := 0) hx hb dX7_house_14 (by decide) ?_
    refine lv_bipush (v := 10) hx hb dX7_house_15 (by decide) ?_
    refine q_cSiE (As := [.int b, .int 0, .int 10]) (rest := []) hx hb hml hts hown hE h0 hW hS (c_X7_isIn l b 0 10) mw_X7_isIn t_962 ⟨Nat.le_of_ble_eq_true rfl, Nat.le_of_ble_eq_true rfl⟩ rfl hl.1 (Nat.le_of_ble_eq_true rfl) dX7_house_17 ⟨Nat.zero_le _, Nat.zero_le _⟩ ⟨rfl, rfl⟩ (fun H locs hW hS => ?_)
    refine lv_if_eq (tgt := 32) hx hb dX7_house_20 (by decide) (fun c_20 => ?_) (fun c_20 => ?_)
    · skip
      refine lv_aload_n hx hb dX7_house_32 rfl (lv_at hl 0 rfl) ?_
      refine lv_iconst (v := 1) hx hb dX7_house_33 (by decide) ?_
      refine q_cViE (As := [.int 1]) (rest := []) (r := 100) hx hb hml hts hown hE h0 hW hS (c_X7_no l hJ.q.m0 1) mw_X7_no hJ.q.m0 rfl k_8 t_965 ⟨Nat.le_of_ble_eq_true rfl, Nat.le_of_ble_eq_true rfl⟩ rfl hl.1 (Nat.le_of_ble_eq_true rfl) dX7_house_34 ⟨Nat.zero_le _, Nat.zero_le _⟩ ⟨rfl, rfl⟩ (fun H locs hW hS => ?_)
      have hJ : PJ L ad (up2 v1 100 0 1) o 101 110 ng nh nl ns ow gx gy gw gd := hJ.kp kr_t
      generalize hv2 : (up2 v1 100 0 1) = v2 at hW hJ
      subst hv2
      subst hv1
      exact q_iret hx hb hr hlocks hW hS (Nat.le_refl _) (Nat.le_refl _) dX7_house_37 (⟨rfl, rfl⟩)
    · skip
      exact absurd k1 c_20

set_option maxHeartbeats 4000000 in
set_option maxRecDepth 100000 in
theorem c_X7_fund (l : Launch) {G : GG} {L : List Nat} {ad : Nat → Nat} {v : Nat → Nat → Int32} {o : Nat → Nat → Option Nat} {w : Nat → Int64} {ng nh nl ns : Nat} {ow gx gy gw gd : Nat → Nat} (hJ : PJ L ad v o 101 110 ng nh nl ns ow gx gy gw gd) (hO1 : o 100 1 = some (ad 101)) {cn : Int32} (k1 : fIn cn 1 1000000 = 1) (k2 : v 101 10 + cn ≤ 100000000) : CtI l G L ad v o w yX7_fund cX7_fund 2 .int ({ frames := 1, cells := 0, slots := 0, locals := 22 }) [.ref (ad 100), .int cn] (fun r u => r = v 101 10 + cn ∧ u = up2 (tz v) 101 10 (v 101 10 + cn)) := by
  have hsb := hJ.q.sb; have hbd := hJ.bd
  refine q_ofI (by decide) (Nat.le_of_ble_eq_true rfl) ?_
  intro p e s m below meth c hx hb hr hml hts hown hlocks hE h0 hW hS ls hl
  generalize hH : s.heap = H at hW
  have hS : va_S (Ab G.2.2.1) s.heap H [] := hH ▸ hS
  obtain ⟨locs, hlc⟩ : ∃ z : List Loc, z = [] := ⟨_, rfl⟩
  rw [← hlc] at hS ⊢
  have hl : lv_has ls 2 [(0, .ref (ad 100)), (1, .int cn)] := hl
  refine lv_aload_n hx hb dX7_fund_0 rfl (lv_at hl 0 rfl) ?_
  refine lv_iconst (v := 0) hx hb dX7_fund_1 (by decide) ?_
  refine q_put hx hb hts hown hW hS (r := 100) hJ.q.m0 rfl k_8 0 (by decide) rfl t_943 rfl (t := .int) (by decide +kernel) rfl rfl dX7_fund_2 (fun H locs hW hS => ?_)
  have hJ : PJ L ad (up2 v 100 0 0) o 101 110 ng nh nl ns ow gx gy gw gd := hJ.kp kr_t
  refine lv_iload_n hx hb dX7_fund_5 rfl (lv_at hl 1 rfl) ?_
  refine lv_iconst (v := 1) hx hb dX7_fund_6 (by decide) ?_
  refine lv_ldc (v := 1000000) hx hb hown (hts _ t_961) dX7_fund_7 ?_
  refine q_cSiE (As := [.int cn, .int 1, .int 1000000]) (rest := []) hx hb hml hts hown hE h0 hW hS (c_X7_isIn l cn 1 1000000) mw_X7_isIn t_962 ⟨Nat.le_of_ble_eq_true rfl, Nat.le_of_ble_eq_true rfl⟩ rfl hl.1 (Nat.le_of_ble_eq_true rfl) dX7_fund_9 ⟨Nat.zero_le _, Nat.zero_le _⟩ ⟨rfl, rfl⟩ (fun H locs hW hS => ?_)
  refine lv_if_ne (tgt := 21) hx hb dX7_fund_12 (by decide) (fun c_12 => ?_) (fun c_12 => ?_)
  · skip
    refine lv_aload_n hx hb dX7_fund_21 rfl (lv_at hl 0 rfl) ?_
    refine q_getr hx hb hts hown hW (r := 100) hJ.q.m0 rfl k_8 1 (by decide) rfl t_944 (a := ad 101) hO1 dX7_fund_22 ?_
    refine q_getN hx hb hts hown hW (r := 101) hJ.q.mS hJ.q.kS k_7 10 (by decide) rfl t_888 (x := ((up2 v 100 0 0) 101 10)) rfl dX7_fund_25 ?_
    refine lv_iload_n hx hb dX7_fund_28 rfl (lv_at hl 1 rfl) ?_
    refine lv_iadd hx hb dX7_fund_29 ?_
    refine lv_ldc (v := 100000000) hx hb hown (hts _ t_1049) dX7_fund_30 ?_
    refine lv_icmp_le (tgt := 41) hx hb dX7_fund_32 (by decide) (fun c_32 => ?_) (fun c_32 => ?_)
    · skip
      refine lv_aload_n hx hb dX7_fund_41 rfl (lv_at hl 0 rfl) ?_
      refine q_getr hx hb hts hown hW (r := 100) hJ.q.m0 rfl k_8 1 (by decide) rfl t_944 (a := ad 101) hO1 dX7_fund_42 ?_
      refine lv_dup hx hb dX7_fund_45 rfl ?_
      refine q_getN hx hb hts hown hW (r := 101) hJ.q.mS hJ.q.kS k_7 10 (by decide) rfl t_888 (x := ((up2 v 100 0 0) 101 10)) rfl dX7_fund_46 ?_
      refine lv_iload_n hx hb dX7_fund_49 rfl (lv_at hl 1 rfl) ?_
      refine lv_iadd hx hb dX7_fund_50 ?_
      refine q_putN hx hb hts hown hW hS (r := 101) hJ.q.mS hJ.q.kS k_7 10 (by decide) rfl t_888 rfl (t := .int) (by decide +kernel) rfl rfl dX7_fund_51 (fun H locs hW hS => ?_)
      have hJ : PJ L ad (up2 (up2 v 100 0 0) 101 10 (((up2 v 100 0 0) 101 10) + cn)) o 101 110 ng nh nl ns ow gx gy gw gd := hJ.kp (kr_b hJ.q.1 (by omega))
      generalize hv1 : (up2 (up2 v 100 0 0) 101 10 (((up2 v 100 0 0) 101 10) + cn)) = v1 at hW hJ
      refine lv_aload_n hx hb dX7_fund_54 rfl (lv_at hl 0 rfl) ?_
      refine q_getr hx hb hts hown hW (r := 100) hJ.q.m0 rfl k_8 1 (by decide) rfl t_944 (a := ad 101) hO1 dX7_fund_55 ?_
      refine q_getN hx hb hts hown hW (r := 101) hJ.q.mS hJ.q.kS k_7 10 (by decide) rfl t_888 (x := (v1 101 10)) rfl dX7_fund_58 ?_
      subst hv1
      exact q_iret hx hb hr hlocks hW hS (Nat.le_refl _) (Nat.le_refl _) dX7_fund_61 (⟨rfl, rfl⟩)
    · skip
      exact absurd k2 c_32
  · skip
    exact absurd (k1.symm.trans c_12) (by decide)

set_option maxHeartbeats 4000000 in
set_option maxRecDepth 100000 in
theorem c_X7_fund_1 (l : Launch) {G : GG} {L : List Nat} {ad : Nat → Nat} {v : Nat → Nat → Int32} {o : Nat → Nat → Option Nat} {w : Nat → Int64} {ng nh nl ns : Nat} {ow gx gy gw gd : Nat → Nat} (hJ : PJ L ad v o 101 110 ng nh nl ns ow gx gy gw gd) (hO1 : o 100 1 = some (ad 101)) {cn : Int32} (k1 : fIn cn 1 1000000 = 0) : CtI l G L ad v o w yX7_fund cX7_fund 2 .int ({ frames := 1, cells := 0, slots := 0, locals := 22 }) [.ref (ad 100), .int cn] (fun r u => r = 0 ∧ u = up2 (tz v) 100 0 1) := by
  have hsb := hJ.q.sb; have hbd := hJ.bd
  refine q_ofI (by decide) (Nat.le_of_ble_eq_true rfl) ?_
  intro p e s m below meth c hx hb hr hml hts hown hlocks hE h0 hW hS ls hl
  generalize hH : s.heap = H at hW
  have hS : va_S (Ab G.2.2.1) s.heap H [] := hH ▸ hS
  obtain ⟨locs, hlc⟩ : ∃ z : List Loc, z = [] := ⟨_, rfl⟩
  rw [← hlc] at hS ⊢
  have hl : lv_has ls 2 [(0, .ref (ad 100)), (1, .int cn)] := hl
  refine lv_aload_n hx hb dX7_fund_0 rfl (lv_at hl 0 rfl) ?_
  refine lv_iconst (v := 0) hx hb dX7_fund_1 (by decide) ?_
  refine q_put hx hb hts hown hW hS (r := 100) hJ.q.m0 rfl k_8 0 (by decide) rfl t_943 rfl (t := .int) (by decide +kernel) rfl rfl dX7_fund_2 (fun H locs hW hS => ?_)
  have hJ : PJ L ad (up2 v 100 0 0) o 101 110 ng nh nl ns ow gx gy gw gd := hJ.kp kr_t
  generalize hv1 : (up2 v 100 0 0) = v1 at hW hJ
  refine lv_iload_n hx hb dX7_fund_5 rfl (lv_at hl 1 rfl) ?_
  refine lv_iconst (v := 1) hx hb dX7_fund_6 (by decide) ?_
  refine lv_ldc (v := 1000000) hx hb hown (hts _ t_961) dX7_fund_7 ?_
  refine q_cSiE (As := [.int cn, .int 1, .int 1000000]) (rest := []) hx hb hml hts hown hE h0 hW hS (c_X7_isIn l cn 1 1000000) mw_X7_isIn t_962 ⟨Nat.le_of_ble_eq_true rfl, Nat.le_of_ble_eq_true rfl⟩ rfl hl.1 (Nat.le_of_ble_eq_true rfl) dX7_fund_9 ⟨Nat.zero_le _, Nat.zero_le _⟩ ⟨rfl, rfl⟩ (fun H locs hW hS => ?_)
  refine lv_if_ne (tgt := 21) hx hb dX7_fund_12 (by decide) (fun c_12 => ?_) (fun c_12 => ?_)
  · skip
    exact absurd k1 c_12
  · skip
    refine lv_aload_n hx hb dX7_fund_15 rfl (lv_at hl 0 rfl) ?_
    refine lv_iconst (v := 1) hx hb dX7_fund_16 (by decide) ?_
    refine q_cViE (As := [.int 1]) (rest := []) (r := 100) hx hb hml hts hown hE h0 hW hS (c_X7_no l hJ.q.m0 1) mw_X7_no hJ.q.m0 rfl k_8 t_965 ⟨Nat.le_of_ble_eq_true rfl, Nat.le_of_ble_eq_true rfl⟩ rfl hl.1 (Nat.le_of_ble_eq_true rfl) dX7_fund_17 ⟨Nat.zero_le _, Nat.zero_le _⟩ ⟨rfl, rfl⟩ (fun H locs hW hS => ?_)
    have hJ : PJ L ad (up2 v1 100 0 1) o 101 110 ng nh nl ns ow gx gy gw gd := hJ.kp kr_t
    generalize hv2 : (up2 v1 100 0 1) = v2 at hW hJ
    subst hv2
    subst hv1
    exact q_iret hx hb hr hlocks hW hS (Nat.le_refl _) (Nat.le_refl _) dX7_fund_20 (⟨rfl, rfl⟩)

set_option maxHeartbeats 4000000 in
set_option maxRecDepth 100000 in
theorem c_X7_fund_2 (l : Launch) {G : GG} {L : List Nat} {ad : Nat → Nat} {v : Nat → Nat → Int32} {o : Nat → Nat → Option Nat} {w : Nat → Int64} {ng nh nl ns : Nat} {ow gx gy gw gd : Nat → Nat} (hJ : PJ L ad v o 101 110 ng nh nl ns ow gx gy gw gd) (hO1 : o 100 1 = some (ad 101)) {cn : Int32} (k1 : fIn cn 1 1000000 = 1) (k2 : ¬ v 101 10 + cn ≤ 100000000) : CtI l G L ad v o w yX7_fund cX7_fund 2 .int ({ frames := 1, cells := 0, slots := 0, locals := 22 }) [.ref (ad 100), .int cn] (fun r u => r = 0 ∧ u = up2 (tz v) 100 0 2) := by
  have hsb := hJ.q.sb; have hbd := hJ.bd
  refine q_ofI (by decide) (Nat.le_of_ble_eq_true rfl) ?_
  intro p e s m below meth c hx hb hr hml hts hown hlocks hE h0 hW hS ls hl
  generalize hH : s.heap = H at hW
  have hS : va_S (Ab G.2.2.1) s.heap H [] := hH ▸ hS
  obtain ⟨locs, hlc⟩ : ∃ z : List Loc, z = [] := ⟨_, rfl⟩
  rw [← hlc] at hS ⊢
  have hl : lv_has ls 2 [(0, .ref (ad 100)), (1, .int cn)] := hl
  refine lv_aload_n hx hb dX7_fund_0 rfl (lv_at hl 0 rfl) ?_
  refine lv_iconst (v := 0) hx hb dX7_fund_1 (by decide) ?_
  refine q_put hx hb hts hown hW hS (r := 100) hJ.q.m0 rfl k_8 0 (by decide) rfl t_943 rfl (t := .int) (by decide +kernel) rfl rfl dX7_fund_2 (fun H locs hW hS => ?_)
  have hJ : PJ L ad (up2 v 100 0 0) o 101 110 ng nh nl ns ow gx gy gw gd := hJ.kp kr_t
  refine lv_iload_n hx hb dX7_fund_5 rfl (lv_at hl 1 rfl) ?_
  refine lv_iconst (v := 1) hx hb dX7_fund_6 (by decide) ?_
  refine lv_ldc (v := 1000000) hx hb hown (hts _ t_961) dX7_fund_7 ?_
  refine q_cSiE (As := [.int cn, .int 1, .int 1000000]) (rest := []) hx hb hml hts hown hE h0 hW hS (c_X7_isIn l cn 1 1000000) mw_X7_isIn t_962 ⟨Nat.le_of_ble_eq_true rfl, Nat.le_of_ble_eq_true rfl⟩ rfl hl.1 (Nat.le_of_ble_eq_true rfl) dX7_fund_9 ⟨Nat.zero_le _, Nat.zero_le _⟩ ⟨rfl, rfl⟩ (fun H locs hW hS => ?_)
  refine lv_if_ne (tgt := 21) hx hb dX7_fund_12 (by decide) (fun c_12 => ?_) (fun c_12 => ?_)
  · skip
    refine lv_aload_n hx hb dX7_fund_21 rfl (lv_at hl 0 rfl) ?_
    refine q_getr hx hb hts hown hW (r := 100) hJ.q.m0 rfl k_8 1 (by decide) rfl t_944 (a := ad 101) hO1 dX7_fund_22 ?_
    refine q_getN hx hb hts hown hW (r := 101) hJ.q.mS hJ.q.kS k_7 10 (by decide) rfl t_888 (x := ((up2 v 100 0 0) 101 10)) rfl dX7_fund_25 ?_
    refine lv_iload_n hx hb dX7_fund_28 rfl (lv_at hl 1 rfl) ?_
    refine lv_iadd hx hb dX7_fund_29 ?_
    refine lv_ldc (v := 100000000) hx hb hown (hts _ t_1049) dX7_fund_30 ?_
    refine lv_icmp_le (tgt := 41) hx hb dX7_fund_32 (by decide) (fun c_32 => ?_) (fun c_32 => ?_)
    · skip
      exact absurd c_32 k2
    · skip
      refine lv_aload_n hx hb dX7_fund_35 rfl (lv_at hl 0 rfl) ?_
      refine lv_iconst (v := 2) hx hb dX7_fund_36 (by decide) ?_
      refine q_cViE (As := [.int 2]) (rest := []) (r := 100) hx hb hml hts hown hE h0 hW hS (c_X7_no l hJ.q.m0 2) mw_X7_no hJ.q.m0 rfl k_8 t_965 ⟨Nat.le_of_ble_eq_true rfl, Nat.le_of_ble_eq_true rfl⟩ rfl hl.1 (Nat.le_of_ble_eq_true rfl) dX7_fund_37 ⟨Nat.zero_le _, Nat.zero_le _⟩ ⟨rfl, rfl⟩ (fun H locs hW hS => ?_)
      have hJ : PJ L ad (up2 (up2 v 100 0 0) 100 0 2) o 101 110 ng nh nl ns ow gx gy gw gd := hJ.kp kr_t
      generalize hv1 : (up2 (up2 v 100 0 0) 100 0 2) = v1 at hW hJ
      subst hv1
      exact q_iret hx hb hr hlocks hW hS (Nat.le_refl _) (Nat.le_refl _) dX7_fund_40 (⟨rfl, rfl⟩)
  · skip
    exact absurd (k1.symm.trans c_12) (by decide)

set_option maxHeartbeats 4000000 in
set_option maxRecDepth 100000 in
theorem c_X7_layer (l : Launch) {G : GG} {L : List Nat} {ad : Nat → Nat} {v : Nat → Nat → Int32} {o : Nat → Nat → Option Nat} {w : Nat → Int64} {ng nh nl ns : Nat} {ow gx gy gw gd : Nat → Nat} (hJ : PJ L ad v o 101 110 ng nh nl ns ow gx gy gw gd) (hO1 : o 100 1 = some (ad 101)) {k : Nat} (hk : k < nl) {what : Nat} (hw9 : what < 5) : CtI l G L ad v o w yX7_layer cX7_layer 3 .int ({ frames := 1, cells := 0, slots := 0, locals := 22 }) [.ref (ad 100), .int (nI k), .int (nI what)] (fun r u => r = v 122 (5 * k + what) ∧ u = tz v) := by
  have hsb := hJ.q.sb; have hbd := hJ.bd; have hck := fIn_nat hk (by omega); have hcw : fIn (nI what) 0 4 = 1 := fIn_nat (n := 5) hw9 (by decide)
  refine q_ofI (by decide) (Nat.le_of_ble_eq_true rfl) ?_
  intro p e s m below meth c hx hb hr hml hts hown hlocks hE h0 hW hS ls hl
  generalize hH : s.heap = H at hW
  have hS : va_S (Ab G.2.2.1) s.heap H [] := hH ▸ hS
  obtain ⟨locs, hlc⟩ : ∃ z : List Loc, z = [] := ⟨_, rfl⟩
  rw [← hlc] at hS ⊢
  have hl : lv_has ls 3 [(0, .ref (ad 100)), (1, .int (nI k)), (2, .int (nI what))] := hl
  refine lv_aload_n hx hb dX7_layer_0 rfl (lv_at hl 0 rfl) ?_
  refine lv_iconst (v := 0) hx hb dX7_layer_1 (by decide) ?_
  refine q_put hx hb hts hown hW hS (r := 100) hJ.q.m0 rfl k_8 0 (by decide) rfl t_943 rfl (t := .int) (by decide +kernel) rfl rfl dX7_layer_2 (fun H locs hW hS => ?_)
  have hJ : PJ L ad (up2 v 100 0 0) o 101 110 ng nh nl ns ow gx gy gw gd := hJ.kp kr_t
  generalize hv1 : (up2 v 100 0 0) = v1 at hW hJ
  refine lv_iload_n hx hb dX7_layer_5 rfl (lv_at hl 1 rfl) ?_
  refine lv_iconst (v := 0) hx hb dX7_layer_6 (by decide) ?_
  refine lv_aload_n hx hb dX7_layer_7 rfl (lv_at hl 0 rfl) ?_
  refine q_getr hx hb hts hown hW (r := 100) hJ.q.m0 rfl k_8 1 (by decide) rfl t_944 (a := ad 101) hO1 dX7_layer_8 ?_
  refine q_getN hx hb hts hown hW (r := 101) hJ.q.mS hJ.q.kS k_7 11 (by decide) rfl t_890 (x := (nI nl)) hJ.eL dX7_layer_11 ?_
  refine lv_iconst (v := 1) hx hb dX7_layer_14 (by decide) ?_
  refine lv_isub hx hb dX7_layer_15 ?_
  refine q_cSiE (As := [.int (nI k), .int 0, .int ((nI nl) - 1)]) (rest := []) hx hb hml hts hown hE h0 hW hS (c_X7_isIn l (nI k) 0 ((nI nl) - 1)) mw_X7_isIn t_962 ⟨Nat.le_of_ble_eq_true rfl, Nat.le_of_ble_eq_true rfl⟩ rfl hl.1 (Nat.le_of_ble_eq_true rfl) dX7_layer_16 ⟨Nat.zero_le _, Nat.zero_le _⟩ ⟨rfl, rfl⟩ (fun H locs hW hS => ?_)
  refine lv_if_eq (tgt := 47) hx hb dX7_layer_19 (by decide) (fun c_19 => ?_) (fun c_19 => ?_)
  · skip
    exact absurd (hck.symm.trans c_19) (by decide)
  · skip
    refine lv_iload_n hx hb dX7_layer_22 rfl (lv_at hl 2 rfl) ?_
    refine lv_iconst (v := 0) hx hb dX7_layer_23 (by decide) ?_
    refine lv_iconst (v := 4) hx hb dX7_layer_24 (by decide) ?_
    refine q_cSiE (As := [.int (nI what), .int 0, .int 4]) (rest := []) hx hb hml hts hown hE h0 hW hS (c_X7_isIn l (nI what) 0 4) mw_X7_isIn t_962 ⟨Nat.le_of_ble_eq_true rfl, Nat.le_of_ble_eq_true rfl⟩ rfl hl.1 (Nat.le_of_ble_eq_true rfl) dX7_layer_25 ⟨Nat.zero_le _, Nat.zero_le _⟩ ⟨rfl, rfl⟩ (fun H locs hW hS => ?_)
    refine lv_if_eq (tgt := 47) hx hb dX7_layer_28 (by decide) (fun c_28 => ?_) (fun c_28 => ?_)
    · skip
      exact absurd (hcw.symm.trans c_28) (by decide)
    · skip
      refine lv_aload_n hx hb dX7_layer_31 rfl (lv_at hl 0 rfl) ?_
      refine q_getr hx hb hts hown hW (r := 100) hJ.q.m0 rfl k_8 1 (by decide) rfl t_944 (a := ad 101) hO1 dX7_layer_32 ?_
      refine q_getrN hx hb hts hown hW (r := 101) hJ.q.mS hJ.q.kS k_7 12 (by decide) rfl t_892 (a := ad (110 + 12)) (hJ.q.oB 12 rfl) dX7_layer_35 ?_
      refine lv_iconst (v := 5) hx hb dX7_layer_38 (by decide) ?_
      refine lv_iload_n hx hb dX7_layer_39 rfl (lv_at hl 1 rfl) ?_
      refine lv_imul hx hb dX7_layer_40 ?_
      refine lv_iload_n hx hb dX7_layer_41 rfl (lv_at hl 2 rfl) ?_
      refine lv_iadd hx hb dX7_layer_42 ?_
      refine q_iald hx hb hW (r := (110 + 12)) (hJ.q.mB 12 rfl) (hJ.q.k9 12 rfl (by decide)) (5 * k + what) (ix_add (ix_mul rfl rfl) rfl) (by rw [hJ.q.ln 12 rfl]; show _ < 30; omega) (by rw [hJ.q.ln 12 rfl]; decide) (x := (v1 (110 + 12) (5 * k + what))) rfl dX7_layer_43 ?_
      refine lv_goto (tgt := 52) hx hb dX7_layer_44 (by decide) ?_
      subst hv1
      exact q_iret hx hb hr hlocks hW hS (Nat.le_refl _) (Nat.le_refl _) dX7_layer_52 (⟨rfl, rfl⟩)

set_option maxHeartbeats 4000000 in
set_option maxRecDepth 100000 in
theorem c_X7_layer_1a (l : Launch) {G : GG} {L : List Nat} {ad : Nat → Nat} {v : Nat → Nat → Int32} {o : Nat → Nat → Option Nat} {w : Nat → Int64} {ng nh nl ns : Nat} {ow gx gy gw gd : Nat → Nat} (hJ : PJ L ad v o 101 110 ng nh nl ns ow gx gy gw gd) (hO1 : o 100 1 = some (ad 101)) {a b : Int32} (k1 : fIn a 0 (nI nl - 1) = 0) : CtI l G L ad v o w yX7_layer cX7_layer 3 .int ({ frames := 1, cells := 0, slots := 0, locals := 22 }) [.ref (ad 100), .int a, .int b] (fun r u => r = 0 ∧ u = up2 (tz v) 100 0 1) := by
  have hsb := hJ.q.sb; have hbd := hJ.bd
  refine q_ofI (by decide) (Nat.le_of_ble_eq_true rfl) ?_
  intro p e s m below meth c hx hb hr hml hts hown hlocks hE h0 hW hS ls hl
  generalize hH : s.heap = H at hW
  have hS : va_S (Ab G.2.2.1) s.heap H [] := hH ▸ hS
  obtain ⟨locs, hlc⟩ : ∃ z : List Loc, z = [] := ⟨_, rfl⟩
  rw [← hlc] at hS ⊢
  have hl : lv_has ls 3 [(0, .ref (ad 100)), (1, .int a), (2, .int b)] := hl
  refine lv_aload_n hx hb dX7_layer_0 rfl (lv_at hl 0 rfl) ?_
  refine lv_iconst (v := 0) hx hb dX7_layer_1 (by decide) ?_
  refine q_put hx hb hts hown hW hS (r := 100) hJ.q.m0 rfl k_8 0 (by decide) rfl t_943 rfl (t := .int) (by decide +kernel) rfl rfl dX7_layer_2 (fun H locs hW hS => ?_)
  have hJ : PJ L ad (up2 v 100 0 0) o 101 110 ng nh nl ns ow gx gy gw gd := hJ.kp kr_t
  generalize hv1 : (up2 v 100 0 0) = v1 at hW hJ
  refine lv_iload_n hx hb dX7_layer_5 rfl (lv_at hl 1 rfl) ?_
  refine lv_iconst (v := 0) hx hb dX7_layer_6 (by decide) ?_
  refine lv_aload_n hx hb dX7_layer_7 rfl (lv_at hl 0 rfl) ?_
  refine q_getr hx hb hts hown hW (r := 100) hJ.q.m0 rfl k_8 1 (by decide) rfl t_944 (a := ad 101) hO1 dX7_layer_8 ?_
  refine q_getN hx hb hts hown hW (r := 101) hJ.q.mS hJ.q.kS k_7 11 (by decide) rfl t_890 (x := (nI nl)) hJ.eL dX7_layer_11 ?_
  refine lv_iconst (v := 1) hx hb dX7_layer_14 (by decide) ?_
  refine lv_isub hx hb dX7_layer_15 ?_
  refine q_cSiE (As := [.int a, .int 0, .int ((nI nl) - 1)]) (rest := []) hx hb hml hts hown hE h0 hW hS (c_X7_isIn l a 0 ((nI nl) - 1)) mw_X7_isIn t_962 ⟨Nat.le_of_ble_eq_true rfl, Nat.le_of_ble_eq_true rfl⟩ rfl hl.1 (Nat.le_of_ble_eq_true rfl) dX7_layer_16 ⟨Nat.zero_le _, Nat.zero_le _⟩ ⟨rfl, rfl⟩ (fun H locs hW hS => ?_)
  refine lv_if_eq (tgt := 47) hx hb dX7_layer_19 (by decide) (fun c_19 => ?_) (fun c_19 => ?_)
  · skip
    refine lv_aload_n hx hb dX7_layer_47 rfl (lv_at hl 0 rfl) ?_
    refine lv_iconst (v := 1) hx hb dX7_layer_48 (by decide) ?_
    refine q_cViE (As := [.int 1]) (rest := []) (r := 100) hx hb hml hts hown hE h0 hW hS (c_X7_no l hJ.q.m0 1) mw_X7_no hJ.q.m0 rfl k_8 t_965 ⟨Nat.le_of_ble_eq_true rfl, Nat.le_of_ble_eq_true rfl⟩ rfl hl.1 (Nat.le_of_ble_eq_true rfl) dX7_layer_49 ⟨Nat.zero_le _, Nat.zero_le _⟩ ⟨rfl, rfl⟩ (fun H locs hW hS => ?_)
    have hJ : PJ L ad (up2 v1 100 0 1) o 101 110 ng nh nl ns ow gx gy gw gd := hJ.kp kr_t
    generalize hv2 : (up2 v1 100 0 1) = v2 at hW hJ
    subst hv2
    subst hv1
    exact q_iret hx hb hr hlocks hW hS (Nat.le_refl _) (Nat.le_refl _) dX7_layer_52 (⟨rfl, rfl⟩)
  · skip
    exact absurd k1 c_19

set_option maxHeartbeats 4000000 in
set_option maxRecDepth 100000 in
theorem c_X7_layer_1b (l : Launch) {G : GG} {L : List Nat} {ad : Nat → Nat} {v : Nat → Nat → Int32} {o : Nat → Nat → Option Nat} {w : Nat → Int64} {ng nh nl ns : Nat} {ow gx gy gw gd : Nat → Nat} (hJ : PJ L ad v o 101 110 ng nh nl ns ow gx gy gw gd) (hO1 : o 100 1 = some (ad 101)) {k : Nat} (hk : k < nl) {b : Int32} (k1 : fIn b 0 4 = 0) : CtI l G L ad v o w yX7_layer cX7_layer 3 .int ({ frames := 1, cells := 0, slots := 0, locals := 22 }) [.ref (ad 100), .int (nI k), .int b] (fun r u => r = 0 ∧ u = up2 (tz v) 100 0 1) := by
  have hsb := hJ.q.sb; have hbd := hJ.bd; have hck := fIn_nat hk (by omega)
  refine q_ofI (by decide) (Nat.le_of_ble_eq_true rfl) ?_
  intro p e s m below meth c hx hb hr hml hts hown hlocks hE h0 hW hS ls hl
  generalize hH : s.heap = H at hW
  have hS : va_S (Ab G.2.2.1) s.heap H [] := hH ▸ hS
  obtain ⟨locs, hlc⟩ : ∃ z : List Loc, z = [] := ⟨_, rfl⟩
  rw [← hlc] at hS ⊢
  have hl : lv_has ls 3 [(0, .ref (ad 100)), (1, .int (nI k)), (2, .int b)] := hl
  refine lv_aload_n hx hb dX7_layer_0 rfl (lv_at hl 0 rfl) ?_
  refine lv_iconst (v := 0) hx hb dX7_layer_1 (by decide) ?_
  refine q_put hx hb hts hown hW hS (r := 100) hJ.q.m0 rfl k_8 0 (by decide) rfl t_943 rfl (t := .int) (by decide +kernel) rfl rfl dX7_layer_2 (fun H locs hW hS => ?_)
  have hJ : PJ L ad (up2 v 100 0 0) o 101 110 ng nh nl ns ow gx gy gw gd := hJ.kp kr_t
  generalize hv1 : (up2 v 100 0 0) = v1 at hW hJ
  refine lv_iload_n hx hb dX7_layer_5 rfl (lv_at hl 1 rfl) ?_
  refine lv_iconst (v := 0) hx hb dX7_layer_6 (by decide) ?_
  refine lv_aload_n hx hb dX7_layer_7 rfl (lv_at hl 0 rfl) ?_
  refine q_getr hx hb hts hown hW (r := 100) hJ.q.m0 rfl k_8 1 (by decide) rfl t_944 (a := ad 101) hO1 dX7_layer_8 ?_
  refine q_getN hx hb hts hown hW (r := 101) hJ.q.mS hJ.q.kS k_7 11 (by decide) rfl t_890 (x := (nI nl)) hJ.eL dX7_layer_11 ?_
  refine lv_iconst (v := 1) hx hb dX7_layer_14 (by decide) ?_
  refine lv_isub hx hb dX7_layer_15 ?_
  refine q_cSiE (As := [.int (nI k), .int 0, .int ((nI nl) - 1)]) (rest := []) hx hb hml hts hown hE h0 hW hS (c_X7_isIn l (nI k) 0 ((nI nl) - 1)) mw_X7_isIn t_962 ⟨Nat.le_of_ble_eq_true rfl, Nat.le_of_ble_eq_true rfl⟩ rfl hl.1 (Nat.le_of_ble_eq_true rfl) dX7_layer_16 ⟨Nat.zero_le _, Nat.zero_le _⟩ ⟨rfl, rfl⟩ (fun H locs hW hS => ?_)
  refine lv_if_eq (tgt := 47) hx hb dX7_layer_19 (by decide) (fun c_19 => ?_) (fun c_19 => ?_)
  · skip
    exact absurd (hck.symm.trans c_19) (by decide)
  · skip
    refine lv_iload_n hx hb dX7_layer_22 rfl (lv_at hl 2 rfl) ?_
    refine lv_iconst (v := 0) hx hb dX7_layer_23 (by decide) ?_
    refine lv_iconst (v := 4) hx hb dX7_layer_24 (by decide) ?_
    refine q_cSiE (As := [.int b, .int 0, .int 4]) (rest := []) hx hb hml hts hown hE h0 hW hS (c_X7_isIn l b 0 4) mw_X7_isIn t_962 ⟨Nat.le_of_ble_eq_true rfl, Nat.le_of_ble_eq_true rfl⟩ rfl hl.1 (Nat.le_of_ble_eq_true rfl) dX7_layer_25 ⟨Nat.zero_le _, Nat.zero_le _⟩ ⟨rfl, rfl⟩ (fun H locs hW hS => ?_)
    refine lv_if_eq (tgt := 47) hx hb dX7_layer_28 (by decide) (fun c_28 => ?_) (fun c_28 => ?_)
    · skip
      refine lv_aload_n hx hb dX7_layer_47 rfl (lv_at hl 0 rfl) ?_
      refine lv_iconst (v := 1) hx hb dX7_layer_48 (by decide) ?_
      refine q_cViE (As := [.int 1]) (rest := []) (r := 100) hx hb hml hts hown hE h0 hW hS (c_X7_no l hJ.q.m0 1) mw_X7_no hJ.q.m0 rfl k_8 t_965 ⟨Nat.le_of_ble_eq_true rfl, Nat.le_of_ble_eq_true rfl⟩ rfl hl.1 (Nat.le_of_ble_eq_true rfl) dX7_layer_49 ⟨Nat.zero_le _, Nat.zero_le _⟩ ⟨rfl, rfl⟩ (fun H locs hW hS => ?_)
      have hJ : PJ L ad (up2 v1 100 0 1) o 101 110 ng nh nl ns ow gx gy gw gd := hJ.kp kr_t
      generalize hv2 : (up2 v1 100 0 1) = v2 at hW hJ
      subst hv2
      subst hv1
      exact q_iret hx hb hr hlocks hW hS (Nat.le_refl _) (Nat.le_refl _) dX7_layer_52 (⟨rfl, rfl⟩)
    · skip
      exact absurd k1 c_28

set_option maxHeartbeats 4000000 in
set_option maxRecDepth 100000 in
theorem c_X7_told (l : Launch) {G : GG} {L : List Nat} {ad : Nat → Nat} {v : Nat → Nat → Int32} {o : Nat → Nat → Option Nat} {w : Nat → Int64} {ng nh nl ns : Nat} {ow gx gy gw gd : Nat → Nat} (hJ : PJ L ad v o 101 110 ng nh nl ns ow gx gy gw gd) (hO1 : o 100 1 = some (ad 101)) {k : Nat} (hk : k < ns) {what : Nat} (hw9 : what < 6) : CtI l G L ad v o w yX7_told cX7_told 3 .int ({ frames := 1, cells := 0, slots := 0, locals := 22 }) [.ref (ad 100), .int (nI k), .int (nI what)] (fun r u => r = v 124 (6 * k + what) ∧ u = tz v) := by
  have hsb := hJ.q.sb; have hbd := hJ.bd; have hck := fIn_nat hk (by omega); have hcw : fIn (nI what) 0 5 = 1 := fIn_nat (n := 6) hw9 (by decide)
  refine q_ofI (by decide) (Nat.le_of_ble_eq_true rfl) ?_
  intro p e s m below meth c hx hb hr hml hts hown hlocks hE h0 hW hS ls hl
  generalize hH : s.heap = H at hW
  have hS : va_S (Ab G.2.2.1) s.heap H [] := hH ▸ hS
  obtain ⟨locs, hlc⟩ : ∃ z : List Loc, z = [] := ⟨_, rfl⟩
  rw [← hlc] at hS ⊢
  have hl : lv_has ls 3 [(0, .ref (ad 100)), (1, .int (nI k)), (2, .int (nI what))] := hl
  refine lv_aload_n hx hb dX7_told_0 rfl (lv_at hl 0 rfl) ?_
  refine lv_iconst (v := 0) hx hb dX7_told_1 (by decide) ?_
  refine q_put hx hb hts hown hW hS (r := 100) hJ.q.m0 rfl k_8 0 (by decide) rfl t_943 rfl (t := .int) (by decide +kernel) rfl rfl dX7_told_2 (fun H locs hW hS => ?_)
  have hJ : PJ L ad (up2 v 100 0 0) o 101 110 ng nh nl ns ow gx gy gw gd := hJ.kp kr_t
  generalize hv1 : (up2 v 100 0 0) = v1 at hW hJ
  refine lv_iload_n hx hb dX7_told_5 rfl (lv_at hl 1 rfl) ?_
  refine lv_iconst (v := 0) hx hb dX7_told_6 (by decide) ?_
  refine lv_aload_n hx hb dX7_told_7 rfl (lv_at hl 0 rfl) ?_
  refine q_getr hx hb hts hown hW (r := 100) hJ.q.m0 rfl k_8 1 (by decide) rfl t_944 (a := ad 101) hO1 dX7_told_8 ?_
  refine q_getN hx hb hts hown hW (r := 101) hJ.q.mS hJ.q.kS k_7 13 (by decide) rfl t_894 (x := (nI ns)) hJ.eS dX7_told_11 ?_
  refine lv_iconst (v := 1) hx hb dX7_told_14 (by decide) ?_
  refine lv_isub hx hb dX7_told_15 ?_
  refine q_cSiE (As := [.int (nI k), .int 0, .int ((nI ns) - 1)]) (rest := []) hx hb hml hts hown hE h0 hW hS (c_X7_isIn l (nI k) 0 ((nI ns) - 1)) mw_X7_isIn t_962 ⟨Nat.le_of_ble_eq_true rfl, Nat.le_of_ble_eq_true rfl⟩ rfl hl.1 (Nat.le_of_ble_eq_true rfl) dX7_told_16 ⟨Nat.zero_le _, Nat.zero_le _⟩ ⟨rfl, rfl⟩ (fun H locs hW hS => ?_)
  refine lv_if_eq (tgt := 48) hx hb dX7_told_19 (by decide) (fun c_19 => ?_) (fun c_19 => ?_)
  · skip
    exact absurd (hck.symm.trans c_19) (by decide)
  · skip
    refine lv_iload_n hx hb dX7_told_22 rfl (lv_at hl 2 rfl) ?_
    refine lv_iconst (v := 0) hx hb dX7_told_23 (by decide) ?_
    refine lv_iconst (v := 5) hx hb dX7_told_24 (by decide) ?_
    refine q_cSiE (As := [.int (nI what), .int 0, .int 5]) (rest := []) hx hb hml hts hown hE h0 hW hS (c_X7_isIn l (nI what) 0 5) mw_X7_isIn t_962 ⟨Nat.le_of_ble_eq_true rfl, Nat.le_of_ble_eq_true rfl⟩ rfl hl.1 (Nat.le_of_ble_eq_true rfl) dX7_told_25 ⟨Nat.zero_le _, Nat.zero_le _⟩ ⟨rfl, rfl⟩ (fun H locs hW hS => ?_)
    refine lv_if_eq (tgt := 48) hx hb dX7_told_28 (by decide) (fun c_28 => ?_) (fun c_28 => ?_)
    · skip
      exact absurd (hcw.symm.trans c_28) (by decide)
    · skip
      refine lv_aload_n hx hb dX7_told_31 rfl (lv_at hl 0 rfl) ?_
      refine q_getr hx hb hts hown hW (r := 100) hJ.q.m0 rfl k_8 1 (by decide) rfl t_944 (a := ad 101) hO1 dX7_told_32 ?_
      refine q_getrN hx hb hts hown hW (r := 101) hJ.q.mS hJ.q.kS k_7 14 (by decide) rfl t_896 (a := ad (110 + 14)) (hJ.q.oB 14 rfl) dX7_told_35 ?_
      refine lv_bipush (v := 6) hx hb dX7_told_38 (by decide) ?_
      refine lv_iload_n hx hb dX7_told_40 rfl (lv_at hl 1 rfl) ?_
      refine lv_imul hx hb dX7_told_41 ?_
      refine lv_iload_n hx hb dX7_told_42 rfl (lv_at hl 2 rfl) ?_
      refine lv_iadd hx hb dX7_told_43 ?_
      refine q_iald hx hb hW (r := (110 + 14)) (hJ.q.mB 14 rfl) (hJ.q.k9 14 rfl (by decide)) (6 * k + what) (ix_add (ix_mul rfl rfl) rfl) (by rw [hJ.q.ln 14 rfl]; show _ < 180; omega) (by rw [hJ.q.ln 14 rfl]; decide) (x := (v1 (110 + 14) (6 * k + what))) rfl dX7_told_44 ?_
      refine lv_goto (tgt := 53) hx hb dX7_told_45 (by decide) ?_
      subst hv1
      exact q_iret hx hb hr hlocks hW hS (Nat.le_refl _) (Nat.le_refl _) dX7_told_53 (⟨rfl, rfl⟩)

set_option maxHeartbeats 4000000 in
set_option maxRecDepth 100000 in
theorem c_X7_told_1a (l : Launch) {G : GG} {L : List Nat} {ad : Nat → Nat} {v : Nat → Nat → Int32} {o : Nat → Nat → Option Nat} {w : Nat → Int64} {ng nh nl ns : Nat} {ow gx gy gw gd : Nat → Nat} (hJ : PJ L ad v o 101 110 ng nh nl ns ow gx gy gw gd) (hO1 : o 100 1 = some (ad 101)) {a b : Int32} (k1 : fIn a 0 (nI ns - 1) = 0) : CtI l G L ad v o w yX7_told cX7_told 3 .int ({ frames := 1, cells := 0, slots := 0, locals := 22 }) [.ref (ad 100), .int a, .int b] (fun r u => r = 0 ∧ u = up2 (tz v) 100 0 1) := by
  have hsb := hJ.q.sb; have hbd := hJ.bd
  refine q_ofI (by decide) (Nat.le_of_ble_eq_true rfl) ?_
  intro p e s m below meth c hx hb hr hml hts hown hlocks hE h0 hW hS ls hl
  generalize hH : s.heap = H at hW
  have hS : va_S (Ab G.2.2.1) s.heap H [] := hH ▸ hS
  obtain ⟨locs, hlc⟩ : ∃ z : List Loc, z = [] := ⟨_, rfl⟩
  rw [← hlc] at hS ⊢
  have hl : lv_has ls 3 [(0, .ref (ad 100)), (1, .int a), (2, .int b)] := hl
  refine lv_aload_n hx hb dX7_told_0 rfl (lv_at hl 0 rfl) ?_
  refine lv_iconst (v := 0) hx hb dX7_told_1 (by decide) ?_
  refine q_put hx hb hts hown hW hS (r := 100) hJ.q.m0 rfl k_8 0 (by decide) rfl t_943 rfl (t := .int) (by decide +kernel) rfl rfl dX7_told_2 (fun H locs hW hS => ?_)
  have hJ : PJ L ad (up2 v 100 0 0) o 101 110 ng nh nl ns ow gx gy gw gd := hJ.kp kr_t
  generalize hv1 : (up2 v 100 0 0) = v1 at hW hJ
  refine lv_iload_n hx hb dX7_told_5 rfl (lv_at hl 1 rfl) ?_
  refine lv_iconst (v := 0) hx hb dX7_told_6 (by decide) ?_
  refine lv_aload_n hx hb dX7_told_7 rfl (lv_at hl 0 rfl) ?_
  refine q_getr hx hb hts hown hW (r := 100) hJ.q.m0 rfl k_8 1 (by decide) rfl t_944 (a := ad 101) hO1 dX7_told_8 ?_
  refine q_getN hx hb hts hown hW (r := 101) hJ.q.mS hJ.q.kS k_7 13 (by decide) rfl t_894 (x := (nI ns)) hJ.eS dX7_told_11 ?_
  refine lv_iconst (v := 1) hx hb dX7_told_14 (by decide) ?_
  refine lv_isub hx hb dX7_told_15 ?_
  refine q_cSiE (As := [.int a, .int 0, .int ((nI ns) - 1)]) (rest := []) hx hb hml hts hown hE h0 hW hS (c_X7_isIn l a 0 ((nI ns) - 1)) mw_X7_isIn t_962 ⟨Nat.le_of_ble_eq_true rfl, Nat.le_of_ble_eq_true rfl⟩ rfl hl.1 (Nat.le_of_ble_eq_true rfl) dX7_told_16 ⟨Nat.zero_le _, Nat.zero_le _⟩ ⟨rfl, rfl⟩ (fun H locs hW hS => ?_)
  refine lv_if_eq (tgt := 48) hx hb dX7_told_19 (by decide) (fun c_19 => ?_) (fun c_19 => ?_)
  · skip
    refine lv_aload_n hx hb dX7_told_48 rfl (lv_at hl 0 rfl) ?_
    refine lv_iconst (v := 1) hx hb dX7_told_49 (by decide) ?_
    refine q_cViE (As := [.int 1]) (rest := []) (r := 100) hx hb hml hts hown hE h0 hW hS (c_X7_no l hJ.q.m0 1) mw_X7_no hJ.q.m0 rfl k_8 t_965 ⟨Nat.le_of_ble_eq_true rfl, Nat.le_of_ble_eq_true rfl⟩ rfl hl.1 (Nat.le_of_ble_eq_true rfl) dX7_told_50 ⟨Nat.zero_le _, Nat.zero_le _⟩ ⟨rfl, rfl⟩ (fun H locs hW hS => ?_)
    have hJ : PJ L ad (up2 v1 100 0 1) o 101 110 ng nh nl ns ow gx gy gw gd := hJ.kp kr_t
    generalize hv2 : (up2 v1 100 0 1) = v2 at hW hJ
    subst hv2
    subst hv1
    exact q_iret hx hb hr hlocks hW hS (Nat.le_refl _) (Nat.le_refl _) dX7_told_53 (⟨rfl, rfl⟩)
  · skip
    exact absurd k1 c_19

set_option maxHeartbeats 4000000 in
set_option maxRecDepth 100000 in
theorem c_X7_told_1b (l : Launch) {G : GG} {L : List Nat} {ad : Nat → Nat} {v : Nat → Nat → Int32} {o : Nat → Nat → Option Nat} {w : Nat → Int64} {ng nh nl ns : Nat} {ow gx gy gw gd : Nat → Nat} (hJ : PJ L ad v o 101 110 ng nh nl ns ow gx gy gw gd) (hO1 : o 100 1 = some (ad 101)) {k : Nat} (hk : k < ns) {b : Int32} (k1 : fIn b 0 5 = 0) : CtI l G L ad v o w yX7_told cX7_told 3 .int ({ frames := 1, cells := 0, slots := 0, locals := 22 }) [.ref (ad 100), .int (nI k), .int b] (fun r u => r = 0 ∧ u = up2 (tz v) 100 0 1) := by
  have hsb := hJ.q.sb; have hbd := hJ.bd; have hck := fIn_nat hk (by omega)
  refine q_ofI (by decide) (Nat.le_of_ble_eq_true rfl) ?_
  intro p e s m below meth c hx hb hr hml hts hown hlocks hE h0 hW hS ls hl
  generalize hH : s.heap = H at hW
  have hS : va_S (Ab G.2.2.1) s.heap H [] := hH ▸ hS
  obtain ⟨locs, hlc⟩ : ∃ z : List Loc, z = [] := ⟨_, rfl⟩
  rw [← hlc] at hS ⊢
  have hl : lv_has ls 3 [(0, .ref (ad 100)), (1, .int (nI k)), (2, .int b)] := hl
  refine lv_aload_n hx hb dX7_told_0 rfl (lv_at hl 0 rfl) ?_
  refine lv_iconst (v := 0) hx hb dX7_told_1 (by decide) ?_
  refine q_put hx hb hts hown hW hS (r := 100) hJ.q.m0 rfl k_8 0 (by decide) rfl t_943 rfl (t := .int) (by decide +kernel) rfl rfl dX7_told_2 (fun H locs hW hS => ?_)
  have hJ : PJ L ad (up2 v 100 0 0) o 101 110 ng nh nl ns ow gx gy gw gd := hJ.kp kr_t
  generalize hv1 : (up2 v 100 0 0) = v1 at hW hJ
  refine lv_iload_n hx hb dX7_told_5 rfl (lv_at hl 1 rfl) ?_
  refine lv_iconst (v := 0) hx hb dX7_told_6 (by decide) ?_
  refine lv_aload_n hx hb dX7_told_7 rfl (lv_at hl 0 rfl) ?_
  refine q_getr hx hb hts hown hW (r := 100) hJ.q.m0 rfl k_8 1 (by decide) rfl t_944 (a := ad 101) hO1 dX7_told_8 ?_
  refine q_getN hx hb hts hown hW (r := 101) hJ.q.mS hJ.q.kS k_7 13 (by decide) rfl t_894 (x := (nI ns)) hJ.eS dX7_told_11 ?_
  refine lv_iconst (v := 1) hx hb dX7_told_14 (by decide) ?_
  refine lv_isub hx hb dX7_told_15 ?_
  refine q_cSiE (As := [.int (nI k), .int 0, .int ((nI ns) - 1)]) (rest := []) hx hb hml hts hown hE h0 hW hS (c_X7_isIn l (nI k) 0 ((nI ns) - 1)) mw_X7_isIn t_962 ⟨Nat.le_of_ble_eq_true rfl, Nat.le_of_ble_eq_true rfl⟩ rfl hl.1 (Nat.le_of_ble_eq_true rfl) dX7_told_16 ⟨Nat.zero_le _, Nat.zero_le _⟩ ⟨rfl, rfl⟩ (fun H locs hW hS => ?_)
  refine lv_if_eq (tgt := 48) hx hb dX7_told_19 (by decide) (fun c_19 => ?_) (fun c_19 => ?_)
  · skip
    exact absurd (hck.symm.trans c_19) (by decide)
  · skip
    refine lv_iload_n hx hb dX7_told_22 rfl (lv_at hl 2 rfl) ?_
    refine lv_iconst (v := 0) hx hb dX7_told_23 (by decide) ?_
    refine lv_iconst (v := 5) hx hb dX7_told_24 (by decide) ?_
    refine q_cSiE (As := [.int b, .int 0, .int 5]) (rest := []) hx hb hml hts hown hE h0 hW hS (c_X7_isIn l b 0 5) mw_X7_isIn t_962 ⟨Nat.le_of_ble_eq_true rfl, Nat.le_of_ble_eq_true rfl⟩ rfl hl.1 (Nat.le_of_ble_eq_true rfl) dX7_told_25 ⟨Nat.zero_le _, Nat.zero_le _⟩ ⟨rfl, rfl⟩ (fun H locs hW hS => ?_)
    refine lv_if_eq (tgt := 48) hx hb dX7_told_28 (by decide) (fun c_28 => ?_) (fun c_28 => ?_)
    · skip
      refine lv_aload_n hx hb dX7_told_48 rfl (lv_at hl 0 rfl) ?_
      refine lv_iconst (v := 1) hx hb dX7_told_49 (by decide) ?_
      refine q_cViE (As := [.int 1]) (rest := []) (r := 100) hx hb hml hts hown hE h0 hW hS (c_X7_no l hJ.q.m0 1) mw_X7_no hJ.q.m0 rfl k_8 t_965 ⟨Nat.le_of_ble_eq_true rfl, Nat.le_of_ble_eq_true rfl⟩ rfl hl.1 (Nat.le_of_ble_eq_true rfl) dX7_told_50 ⟨Nat.zero_le _, Nat.zero_le _⟩ ⟨rfl, rfl⟩ (fun H locs hW hS => ?_)
      have hJ : PJ L ad (up2 v1 100 0 1) o 101 110 ng nh nl ns ow gx gy gw gd := hJ.kp kr_t
      generalize hv2 : (up2 v1 100 0 1) = v2 at hW hJ
      subst hv2
      subst hv1
      exact q_iret hx hb hr hlocks hW hS (Nat.le_refl _) (Nat.le_refl _) dX7_told_53 (⟨rfl, rfl⟩)
    · skip
      exact absurd k1 c_28

set_option maxHeartbeats 4000000 in
set_option maxRecDepth 100000 in
theorem c_X7_count (l : Launch) {G : GG} {L : List Nat} {ad : Nat → Nat} {v : Nat → Nat → Int32} {o : Nat → Nat → Option Nat} {w : Nat → Int64} {ng nh nl ns : Nat} {ow gx gy gw gd : Nat → Nat} (hJ : PJ L ad v o 101 110 ng nh nl ns ow gx gy gw gd) (hO1 : o 100 1 = some (ad 101)) (hr184 : 184 ∉ L) {what : Nat} (hw9 : what < 11) : CtI l G L ad v o w yX7_count cX7_count 2 .int ({ frames := 4, cells := 1, slots := 11, locals := 92 }) [.ref (ad 100), .int (nI what)] (fun r u => r = rCo (tz v) gw gd ng nh nl ns what ∧ u = tz v) := by
  have hsb := hJ.q.sb; have hbd := hJ.bd; have hcw : fIn (nI what) 0 10 = 1 := fIn_nat (n := 11) hw9 (by decide)
  refine q_ofI (by decide) (Nat.le_of_ble_eq_true rfl) ?_
  intro p e s m below meth c hx hb hr hml hts hown hlocks hE h0 hW hS ls hl
  generalize hH : s.heap = H at hW
  have hS : va_S (Ab G.2.2.1) s.heap H [] := hH ▸ hS
  obtain ⟨locs, hlc⟩ : ∃ z : List Loc, z = [] := ⟨_, rfl⟩
  rw [← hlc] at hS ⊢
  have hl : lv_has ls 2 [(0, .ref (ad 100)), (1, .int (nI what))] := hl
  refine lv_aload_n hx hb dX7_count_0 rfl (lv_at hl 0 rfl) ?_
  refine lv_iconst (v := 0) hx hb dX7_count_1 (by decide) ?_
  refine q_put hx hb hts hown hW hS (r := 100) hJ.q.m0 rfl k_8 0 (by decide) rfl t_943 rfl (t := .int) (by decide +kernel) rfl rfl dX7_count_2 (fun H locs hW hS => ?_)
  have hJ : PJ L ad (up2 v 100 0 0) o 101 110 ng nh nl ns ow gx gy gw gd := hJ.kp kr_t
  generalize hv1 : (up2 v 100 0 0) = v1 at hW hJ
  refine lv_iload_n hx hb dX7_count_5 rfl (lv_at hl 1 rfl) ?_
  refine lv_iconst (v := 0) hx hb dX7_count_6 (by decide) ?_
  refine lv_bipush (v := 10) hx hb dX7_count_7 (by decide) ?_
  refine q_cSiE (As := [.int (nI what), .int 0, .int 10]) (rest := []) hx hb hml hts hown hE h0 hW hS (c_X7_isIn l (nI what) 0 10) mw_X7_isIn t_962 ⟨Nat.le_of_ble_eq_true rfl, Nat.le_of_ble_eq_true rfl⟩ rfl hl.1 (Nat.le_of_ble_eq_true rfl) dX7_count_9 ⟨Nat.zero_le _, Nat.zero_le _⟩ ⟨rfl, rfl⟩ (fun H locs hW hS => ?_)
  refine lv_if_eq (tgt := 23) hx hb dX7_count_12 (by decide) (fun c_12 => ?_) (fun c_12 => ?_)
  · skip
    exact absurd (hcw.symm.trans c_12) (by decide)
  · skip
    refine lv_aload_n hx hb dX7_count_15 rfl (lv_at hl 0 rfl) ?_
    refine lv_iload_n hx hb dX7_count_16 rfl (lv_at hl 1 rfl) ?_
    refine q_cVi (As := [.int (nI what)]) (rest := []) (r := 100) hx hb hml hts hown hE h0 hW hS (c_X7_counted l hJ hO1 hr184 hw9) mw_X7_counted hJ.q.m0 rfl k_8 t_1062 ⟨Nat.le_of_ble_eq_true rfl, Nat.le_of_ble_eq_true rfl⟩ rfl hl.1 (Nat.le_of_ble_eq_true rfl) dX7_count_17 ⟨(by first | decide | omega | (dsimp only; omega)), (by first | decide | omega | (dsimp only; omega))⟩ (fun rz u H locs hrz hW hS => ?_)
    obtain ⟨hr1, hr2⟩ := hrz
    rw [hr2] at hW
    subst hr1
    refine lv_goto (tgt := 28) hx hb dX7_count_20 (by decide) ?_
    subst hv1
    exact q_iret hx hb hr hlocks hW hS (by first | decide | omega | (dsimp only; omega)) (by first | decide | omega | (dsimp only; omega)) dX7_count_28 (⟨rfl, rfl⟩)

set_option maxHeartbeats 4000000 in
set_option maxRecDepth 100000 in
theorem c_X7_count_1 (l : Launch) {G : GG} {L : List Nat} {ad : Nat → Nat} {v : Nat → Nat → Int32} {o : Nat → Nat → Option Nat} {w : Nat → Int64} {ng nh nl ns : Nat} {ow gx gy gw gd : Nat → Nat} (hJ : PJ L ad v o 101 110 ng nh nl ns ow gx gy gw gd) (hO1 : o 100 1 = some (ad 101)) {a : Int32} (k1 : fIn a 0 10 = 0) : CtI l G L ad v o w yX7_count cX7_count 2 .int ({ frames := 1, cells := 0, slots := 0, locals := 22 }) [.ref (ad 100), .int a] (fun r u => r = 0 ∧ u = up2 (tz v) 100 0 1) := by
  have hsb := hJ.q.sb; have hbd := hJ.bd
  refine q_ofI (by decide) (Nat.le_of_ble_eq_true rfl) ?_
  intro p e s m below meth c hx hb hr hml hts hown hlocks hE h0 hW hS ls hl
  generalize hH : s.heap = H at hW
  have hS : va_S (Ab G.2.2.1) s.heap H [] := hH ▸ hS
  obtain ⟨locs, hlc⟩ : ∃ z : List Loc, z = [] := ⟨_, rfl⟩
  rw [← hlc] at hS ⊢
  have hl : lv_has ls 2 [(0, .ref (ad 100)), (1, .int a)] := hl
  refine lv_aload_n hx hb dX7_count_0 rfl (lv_at hl 0 rfl) ?_
  refine lv_iconst (v := 0) hx hb dX7_count_1 (by decide) ?_
  refine q_put hx hb hts hown hW hS (r := 100) hJ.q.m0 rfl k_8 0 (by decide) rfl t_943 rfl (t := .int) (by decide +kernel) rfl rfl dX7_count_2 (fun H locs hW hS => ?_)
  have hJ : PJ L ad (up2 v 100 0 0) o 101 110 ng nh nl ns ow gx gy gw gd := hJ.kp kr_t
  generalize hv1 : (up2 v 100 0 0) = v1 at hW hJ
  refine lv_iload_n hx hb dX7_count_5 rfl (lv_at hl 1 rfl) ?_
  refine lv_iconst (v := 0) hx hb dX7_count_6 (by decide) ?_
  refine lv_bipush (v := 10) hx hb dX7_count_7 (by decide) ?_
  refine q_cSiE (As := [.int a, .int 0, .int 10]) (rest := []) hx hb hml hts hown hE h0 hW hS (c_X7_isIn l a 0 10) mw_X7_isIn t_962 ⟨Nat.le_of_ble_eq_true rfl, Nat.le_of_ble_eq_true rfl⟩ rfl hl.1 (Nat.le_of_ble_eq_true rfl) dX7_count_9 ⟨Nat.zero_le _, Nat.zero_le _⟩ ⟨rfl, rfl⟩ (fun H locs hW hS => ?_)
  refine lv_if_eq (tgt := 23) hx hb dX7_count_12 (by decide) (fun c_12 => ?_) (fun c_12 => ?_)
  · skip
    refine lv_aload_n hx hb dX7_count_23 rfl (lv_at hl 0 rfl) ?_
    refine lv_iconst (v := 1) hx hb dX7_count_24 (by decide) ?_
    refine q_cViE (As := [.int 1]) (rest := []) (r := 100) hx hb hml hts hown hE h0 hW hS (c_X7_no l hJ.q.m0 1) mw_X7_no hJ.q.m0 rfl k_8 t_965 ⟨Nat.le_of_ble_eq_true rfl, Nat.le_of_ble_eq_true rfl⟩ rfl hl.1 (Nat.le_of_ble_eq_true rfl) dX7_count_25 ⟨Nat.zero_le _, Nat.zero_le _⟩ ⟨rfl, rfl⟩ (fun H locs hW hS => ?_)
    have hJ : PJ L ad (up2 v1 100 0 1) o 101 110 ng nh nl ns ow gx gy gw gd := hJ.kp kr_t
    generalize hv2 : (up2 v1 100 0 1) = v2 at hW hJ
    subst hv2
    subst hv1
    exact q_iret hx hb hr hlocks hW hS (Nat.le_refl _) (Nat.le_refl _) dX7_count_28 (⟨rfl, rfl⟩)
  · skip
    exact absurd k1 c_12
