/-! the class: its lists grow -/
set_option maxHeartbeats 4000000 in
set_option maxRecDepth 100000 in
theorem c_X5_addGrower_0 (l : Launch) {G : GG} {L : List Nat} {ad : Nat → Nat} {v : Nat → Nat → Int32} {o : Nat → Nat → Option Nat} {w : Nat → Int64} {ng nh nl ns : Nat} {ow gx gy gw gd : Nat → Nat} (hI : PI G.2.2.2 L ad v o ng nh nl ns ow gx gy gw gd) (hn0 : ng = 0) (hX9 : 13 ∉ L) (hng : ng < 6) (hE9 : 50 + ng ∉ L) {cn : Int32} (k1 : fIn cn 0 1000000 = 1) : CtIw l G L ad v o w yX5_addGrower cX5_addGrower 2 .int ({ frames := 5, cells := 2, slots := 18, locals := 101 }) [.ref (ad 0), .int cn] (fun r P => r = nI ng ∧ PI G.2.2.2 P.1 P.2.1 P.2.2.1 P.2.2.2 (ng + 1) nh nl ns ow gx gy gw gd ∧ Ext L ad v o P (fun r => r = 50 + ng ∨ (r = 13 ∧ 13 ∉ L)) (fun r => r = 1 ∨ r = 13 ∨ r = 50 + ng) ∧ P.2.2.1 (50 + ng) = iG (fun _ => z32) (50 + ng) cn (50 + ng)) := by
  have hb6 := hI.g6; have hb12 := hI.h12; have hbl := hI.l6; have hbs := hI.s30; have hn9 := hn0; subst hn0
  refine Met.ofW (cc := cX5_addGrower) (maxL := 2) (ret := (some .int)) (by decide) rfl ?_
  intro p e s m args below meth c s₁ B hml hv
  obtain ⟨rfl, hE, h0, hW⟩ := hv
  have hx := B.exec; have hb := B.bytes; have hr := B.returns; have hts := hE.hts (args := ([.ref (ad 0), .int cn] : List Value).toArray); have hown : s.vm.findClass RX5 = some m.cls := findClass_of_methodNamed B.named; have hlocks := B.notSynchronized
  have hl := lv_entry ([.ref (ad 0), .int cn] : List Value) (n := 2) (Nat.le_of_ble_eq_true rfl)
  rw [lg_entry_eq]
  generalize (lg_sl ([.ref (ad 0), .int cn] : List Value) ++ List.replicate (2 - (lg_sl ([.ref (ad 0), .int cn] : List Value)).length) Slot.unset).toArray = ls at hl ⊢
  generalize hH : s.heap = H at hW ⊢
  have hS : va_S (Ab G.2.2.1) s.heap H [] := hH ▸ va_S.rf
  obtain ⟨locs, hlc⟩ : ∃ z : List Loc, z = [] := ⟨_, rfl⟩
  rw [← hlc] at hS ⊢
  have hl : lv_has ls 2 [(0, .ref (ad 0)), (1, .int cn)] := hl
  refine lv_iload_n hx hb dX5_addGrower_0 rfl (lv_at hl 1 rfl) ?_
  refine lv_iconst (v := 0) hx hb dX5_addGrower_1 (by decide) ?_
  refine lv_ldc (v := 1000000) hx hb hown (hts _ t_317) dX5_addGrower_2 ?_
  refine q_cSiE (As := [.int cn, .int 0, .int 1000000]) (rest := []) hx hb hml hts hown hE h0 hW hS (c_X5_isIn l cn 0 1000000) mw_X5_isIn t_318 ⟨Nat.le_of_ble_eq_true rfl, Nat.le_of_ble_eq_true rfl⟩ rfl hl.1 (Nat.le_of_ble_eq_true rfl) dX5_addGrower_4 ⟨Nat.zero_le _, Nat.zero_le _⟩ ⟨rfl, rfl⟩ (fun H locs hW hS => ?_)
  refine lv_if_ne (tgt := 20) hx hb dX5_addGrower_7 (by decide) (fun c_7 => ?_) (fun c_7 => ?_)
  · skip
    refine lv_aload_n hx hb dX5_addGrower_20 rfl (lv_at hl 0 rfl) ?_
    refine q_getr hx hb hts hown hW (r := 0) (hI.c 0 (by decide)) rfl k_6 0 (by decide) rfl t_137 (a := ad 1) (hI.o0 0 (by decide)) dX5_addGrower_21 ?_
    refine q_cFiE (As := []) (rest := []) (r := 1) hx hb hml hts hown hE h0 hW hS hE.2.1 (c_size l hI.lg) t_178 t_176 t_174 t_49 (by decide) (by decide +kernel) (hI.c 1 (by decide)) rfl k_0 t_170 ⟨Nat.le_of_ble_eq_true rfl, Nat.le_of_ble_eq_true rfl⟩ rfl hl.1 (Nat.le_of_ble_eq_true rfl) dX5_addGrower_24 ⟨Nat.zero_le _, Nat.zero_le _⟩ ⟨rfl, rfl⟩ (fun H locs hW hS => ?_)
    refine lv_bipush (v := 6) hx hb dX5_addGrower_29 (by decide) ?_
    refine lv_icmp_lt (tgt := 44) hx hb dX5_addGrower_31 (by decide) (fun c_31 => ?_) (fun c_31 => ?_)
    · skip
      have hI0 := hI
      refine lv_aload_n hx hb dX5_addGrower_44 rfl (lv_at hl 0 rfl) ?_
      refine q_getr hx hb hts hown hW (r := 0) (hI.c 0 (by decide)) rfl k_6 0 (by decide) rfl t_137 (a := ad 1) (hI.o0 0 (by decide)) dX5_addGrower_45 ?_
      refine q_newN hx hb hts hown h0 hW hS (50 + 0) hE9 (kd_g (by omega)) k_1 t_202 t_405 t_58 def_G (by first | decide | omega | (dsimp only; omega)) (by first | decide | omega | (dsimp only; omega)) dX5_addGrower_48 (fun L1 ad1 v1 o1 H hN hW hS => ?_)
      have e_0 : ad1 0 = ad 0 := hN.2.2.1 _ (hI.c 0 (by decide))
      rw [← hN.2.2.1 1 (hI.c 1 (by decide))]
      have hl : lv_has ls 2 [(0, .ref (ad1 0)), (1, .int cn)] := by rw [e_0]; exact hl
      refine lv_dup hx hb dX5_addGrower_51 rfl ?_
      refine lv_iload_n hx hb dX5_addGrower_52 rfl (lv_at hl 1 rfl) ?_
      refine q_cIE (As := [.int cn]) (rest := [.ref (ad1 (50 + 0)), .ref (ad1 1)]) (r := (50 + 0)) hx hb hml hts hown hE h0 hW hS (c_X0_init l (r := (50 + 0)) hN.2.1 (kd_g (by omega)) cn) mw_X0_init t_406 ⟨Nat.le_of_ble_eq_true rfl, Nat.le_of_ble_eq_true rfl⟩ rfl hl.1 (Nat.le_of_ble_eq_true rfl) dX5_addGrower_53 ⟨(by first | decide | omega | (dsimp only; omega)), (by first | decide | omega | (dsimp only; omega))⟩ ⟨rfl, rfl⟩ (fun H locs hW hS => ?_)
      have hv9 : ∀ r, r ≠ (50 + 0) → ((iG v1 (50 + 0) cn)) r = v1 r := fun r q => off_up (off_up (fun _ _ => rfl)) r q
      have hv3 : ((iG v1 (50 + 0) cn)) (50 + 0) = iG (fun _ => z32) (50 + 0) cn (50 + 0) := by funext k; show up2 (up2 v1 (50 + 0) 5 100) (50 + 0) 0 cn (50 + 0) k = up2 (up2 (fun _ => z32) (50 + 0) 5 100) (50 + 0) 0 cn (50 + 0) k; unfold up2; rw [hN.2.2.2.2.1]
      obtain ⟨v2, hv2⟩ : ∃ z, z = (iG v1 (50 + 0) cn) := ⟨_, rfl⟩
      rw [← hv2] at hW hv9 hv3
      have hq1 := hI.lg.new1 hN v2 hv9 (by omega) (by omega) (by omega)
      refine q_cFiw (n := 1) (As := [.ref (ad1 (50 + 0))]) (rest := []) (r := 1) hx hb hml hts hown hE h0 hW hS hE.2.2.2.1 (c_add_g0 l hq1 rfl (fun q => (hN.2.2.2.2.2.2.1 _ q).elim hX9 (by omega)) hN.2.1 (kd_g (by omega))) t_450 t_448 t_446 t_49 (by decide) (by decide +kernel) (hN.1 _ (hI.c 1 (by decide))) rfl k_0 t_443 ⟨Nat.le_of_ble_eq_true rfl, Nat.le_of_ble_eq_true rfl⟩ rfl hl.1 (Nat.le_of_ble_eq_true rfl) dX5_addGrower_56 ⟨(by first | decide | omega | (dsimp only; omega)), (by first | decide | omega | (dsimp only; omega))⟩ (fun rz P H locs hp hW hS => ?_)
      have hAd : Added L1 ad1 v2 o1 P 1 13 0 50 := by obtain ⟨_, q2, rfl⟩ := hp; exact Added_0 (fun q => (hN.2.2.2.2.2.2.1 _ q).elim hX9 (by omega)) hN.2.1 (by decide)
      obtain ⟨L2, ad2, v3, o2⟩ := P
      have hW : WD G L2 ad2 v3 o2 w s H := hW
      have hI2 := hI.addG hN (by omega) hv9 hAd
      have hA2 : ∀ r, r ∈ L → r ∈ L2 ∧ ad2 r = ad r := fun r q => ⟨(hAd.1 r (hN.1 r q)).1, ((hAd.1 r (hN.1 r q)).2).trans (hN.2.2.1 r q)⟩
      have f_0 : ad2 0 = ad1 0 := (hAd.1 _ (hN.1 _ (hI2.c 0 (by decide) |> fun _ => hI0.c 0 (by decide)))).2
      have hl : lv_has ls 2 [(0, .ref (ad2 0)), (1, .int cn)] := by rw [f_0]; exact hl
      refine lv_pop hx hb dX5_addGrower_61 rfl ?_
      refine lv_aload_n hx hb dX5_addGrower_62 rfl (lv_at hl 0 rfl) ?_
      refine q_getr hx hb hts hown hW (r := 0) (hI2.c 0 (by decide)) rfl k_6 0 (by decide) rfl t_137 (a := ad2 1) (hI2.o0 0 (by decide)) dX5_addGrower_63 ?_
      refine q_cFiE (As := []) (rest := []) (r := 1) hx hb hml hts hown hE h0 hW hS hE.2.1 (c_size l hI2.lg) t_178 t_176 t_174 t_49 (by decide) (by decide +kernel) (hI2.c 1 (by decide)) rfl k_0 t_170 ⟨Nat.le_of_ble_eq_true rfl, Nat.le_of_ble_eq_true rfl⟩ rfl hl.1 (Nat.le_of_ble_eq_true rfl) dX5_addGrower_66 ⟨by decide, by decide⟩ ⟨rfl, rfl⟩ (fun H locs hW hS => ?_)
      refine lv_iconst (v := 1) hx hb dX5_addGrower_71 (by decide) ?_
      refine lv_isub hx hb dX5_addGrower_72 ?_
      exact q_iretw hx hb hr hlocks hW hS (by first | decide | omega | (dsimp only; omega)) (by first | decide | omega | (dsimp only; omega)) dX5_addGrower_73 (⟨by rw [nI_pred], hI2, ⟨hA2, fun r q => (hAd.2.1 r q).elim (fun z => (hN.2.2.2.2.2.2.1 r z).imp id (fun z => Or.inl z)) (fun z => Or.inr (Or.inr ⟨z.1, fun y => z.2 (hN.1 _ y)⟩)), fun r q => (hAd.2.2.2.2.2.1 r (by omega) (by omega)).trans (hN.2.2.2.2.2.1 r (by omega)), fun r q => ((hAd.2.2.2.1 r (by omega) (by omega)).trans (hv9 r (by omega))).trans (hN.2.2.2.1 r (by omega))⟩, ((hAd.2.2.2.1 _ (by omega) (by omega)).trans hv3)⟩)
    · skip
      exact absurd (nI_lt (b := 6) hng (by decide)) c_31
  · skip
    exact absurd (k1.symm.trans c_7) (by decide)

set_option maxHeartbeats 4000000 in
set_option maxRecDepth 100000 in
theorem c_X5_addGrower_m (l : Launch) {G : GG} {L : List Nat} {ad : Nat → Nat} {v : Nat → Nat → Int32} {o : Nat → Nat → Option Nat} {w : Nat → Int64} {ng nh nl ns : Nat} {ow gx gy gw gd : Nat → Nat} (hI : PI G.2.2.2 L ad v o ng nh nl ns ow gx gy gw gd) (hn1 : 0 < ng) (hn2 : ng < 10) (hng : ng < 6) (hE9 : 50 + ng ∉ L) {cn : Int32} (k1 : fIn cn 0 1000000 = 1) : CtIw l G L ad v o w yX5_addGrower cX5_addGrower 2 .int ({ frames := 2, cells := 1, slots := 8, locals := 44 }) [.ref (ad 0), .int cn] (fun r P => r = nI ng ∧ PI G.2.2.2 P.1 P.2.1 P.2.2.1 P.2.2.2 (ng + 1) nh nl ns ow gx gy gw gd ∧ Ext L ad v o P (fun r => r = 50 + ng ∨ (r = 13 ∧ 13 ∉ L)) (fun r => r = 1 ∨ r = 13 ∨ r = 50 + ng) ∧ P.2.2.1 (50 + ng) = iG (fun _ => z32) (50 + ng) cn (50 + ng)) := by
  have hb6 := hI.g6; have hb12 := hI.h12; have hbl := hI.l6; have hbs := hI.s30
  refine Met.ofW (cc := cX5_addGrower) (maxL := 2) (ret := (some .int)) (by decide) rfl ?_
  intro p e s m args below meth c s₁ B hml hv
  obtain ⟨rfl, hE, h0, hW⟩ := hv
  have hx := B.exec; have hb := B.bytes; have hr := B.returns; have hts := hE.hts (args := ([.ref (ad 0), .int cn] : List Value).toArray); have hown : s.vm.findClass RX5 = some m.cls := findClass_of_methodNamed B.named; have hlocks := B.notSynchronized
  have hl := lv_entry ([.ref (ad 0), .int cn] : List Value) (n := 2) (Nat.le_of_ble_eq_true rfl)
  rw [lg_entry_eq]
  generalize (lg_sl ([.ref (ad 0), .int cn] : List Value) ++ List.replicate (2 - (lg_sl ([.ref (ad 0), .int cn] : List Value)).length) Slot.unset).toArray = ls at hl ⊢
  generalize hH : s.heap = H at hW ⊢
  have hS : va_S (Ab G.2.2.1) s.heap H [] := hH ▸ va_S.rf
  obtain ⟨locs, hlc⟩ : ∃ z : List Loc, z = [] := ⟨_, rfl⟩
  rw [← hlc] at hS ⊢
  have hl : lv_has ls 2 [(0, .ref (ad 0)), (1, .int cn)] := hl
  refine lv_iload_n hx hb dX5_addGrower_0 rfl (lv_at hl 1 rfl) ?_
  refine lv_iconst (v := 0) hx hb dX5_addGrower_1 (by decide) ?_
  refine lv_ldc (v := 1000000) hx hb hown (hts _ t_317) dX5_addGrower_2 ?_
  refine q_cSiE (As := [.int cn, .int 0, .int 1000000]) (rest := []) hx hb hml hts hown hE h0 hW hS (c_X5_isIn l cn 0 1000000) mw_X5_isIn t_318 ⟨Nat.le_of_ble_eq_true rfl, Nat.le_of_ble_eq_true rfl⟩ rfl hl.1 (Nat.le_of_ble_eq_true rfl) dX5_addGrower_4 ⟨Nat.zero_le _, Nat.zero_le _⟩ ⟨rfl, rfl⟩ (fun H locs hW hS => ?_)
  refine lv_if_ne (tgt := 20) hx hb dX5_addGrower_7 (by decide) (fun c_7 => ?_) (fun c_7 => ?_)
  · skip
    refine lv_aload_n hx hb dX5_addGrower_20 rfl (lv_at hl 0 rfl) ?_
    refine q_getr hx hb hts hown hW (r := 0) (hI.c 0 (by decide)) rfl k_6 0 (by decide) rfl t_137 (a := ad 1) (hI.o0 0 (by decide)) dX5_addGrower_21 ?_
    refine q_cFiE (As := []) (rest := []) (r := 1) hx hb hml hts hown hE h0 hW hS hE.2.1 (c_size l hI.lg) t_178 t_176 t_174 t_49 (by decide) (by decide +kernel) (hI.c 1 (by decide)) rfl k_0 t_170 ⟨Nat.le_of_ble_eq_true rfl, Nat.le_of_ble_eq_true rfl⟩ rfl hl.1 (Nat.le_of_ble_eq_true rfl) dX5_addGrower_24 ⟨Nat.zero_le _, Nat.zero_le _⟩ ⟨rfl, rfl⟩ (fun H locs hW hS => ?_)
    refine lv_bipush (v := 6) hx hb dX5_addGrower_29 (by decide) ?_
    refine lv_icmp_lt (tgt := 44) hx hb dX5_addGrower_31 (by decide) (fun c_31 => ?_) (fun c_31 => ?_)
    · skip
      have hI0 := hI
      refine lv_aload_n hx hb dX5_addGrower_44 rfl (lv_at hl 0 rfl) ?_
      refine q_getr hx hb hts hown hW (r := 0) (hI.c 0 (by decide)) rfl k_6 0 (by decide) rfl t_137 (a := ad 1) (hI.o0 0 (by decide)) dX5_addGrower_45 ?_
      refine q_newN hx hb hts hown h0 hW hS (50 + ng) hE9 (kd_g (by omega)) k_1 t_202 t_405 t_58 def_G (by first | decide | omega | (dsimp only; omega)) (by first | decide | omega | (dsimp only; omega)) dX5_addGrower_48 (fun L1 ad1 v1 o1 H hN hW hS => ?_)
      have e_0 : ad1 0 = ad 0 := hN.2.2.1 _ (hI.c 0 (by decide))
      rw [← hN.2.2.1 1 (hI.c 1 (by decide))]
      have hl : lv_has ls 2 [(0, .ref (ad1 0)), (1, .int cn)] := by rw [e_0]; exact hl
      refine lv_dup hx hb dX5_addGrower_51 rfl ?_
      refine lv_iload_n hx hb dX5_addGrower_52 rfl (lv_at hl 1 rfl) ?_
      refine q_cIE (As := [.int cn]) (rest := [.ref (ad1 (50 + ng)), .ref (ad1 1)]) (r := (50 + ng)) hx hb hml hts hown hE h0 hW hS (c_X0_init l (r := (50 + ng)) hN.2.1 (kd_g (by omega)) cn) mw_X0_init t_406 ⟨Nat.le_of_ble_eq_true rfl, Nat.le_of_ble_eq_true rfl⟩ rfl hl.1 (Nat.le_of_ble_eq_true rfl) dX5_addGrower_53 ⟨(by first | decide | omega | (dsimp only; omega)), (by first | decide | omega | (dsimp only; omega))⟩ ⟨rfl, rfl⟩ (fun H locs hW hS => ?_)
      have hv9 : ∀ r, r ≠ (50 + ng) → ((iG v1 (50 + ng) cn)) r = v1 r := fun r q => off_up (off_up (fun _ _ => rfl)) r q
      have hv3 : ((iG v1 (50 + ng) cn)) (50 + ng) = iG (fun _ => z32) (50 + ng) cn (50 + ng) := by funext k; show up2 (up2 v1 (50 + ng) 5 100) (50 + ng) 0 cn (50 + ng) k = up2 (up2 (fun _ => z32) (50 + ng) 5 100) (50 + ng) 0 cn (50 + ng) k; unfold up2; rw [hN.2.2.2.2.1]
      obtain ⟨v2, hv2⟩ : ∃ z, z = (iG v1 (50 + ng) cn) := ⟨_, rfl⟩
      rw [← hv2] at hW hv9 hv3
      have hq1 := hI.lg.new1 hN v2 hv9 (by omega) (by omega) (by omega)
      refine q_cFiw (n := 1) (As := [.ref (ad1 (50 + ng))]) (rest := []) (r := 1) hx hb hml hts hown hE h0 hW hS hE.2.2.2.1 (c_add_gm l hq1 hn1 hn2 hN.2.1 (kd_g (by omega))) t_450 t_448 t_446 t_49 (by decide) (by decide +kernel) (hN.1 _ (hI.c 1 (by decide))) rfl k_0 t_443 ⟨Nat.le_of_ble_eq_true rfl, Nat.le_of_ble_eq_true rfl⟩ rfl hl.1 (Nat.le_of_ble_eq_true rfl) dX5_addGrower_56 ⟨(by first | decide | omega | (dsimp only; omega)), (by first | decide | omega | (dsimp only; omega))⟩ (fun rz P H locs hp hW hS => ?_)
      have hAd : Added L1 ad1 v2 o1 P 1 13 ng 50 := by obtain ⟨_, rfl⟩ := hp; exact Added_m (hq1.old hn1 (Or.inl ⟨by omega, rfl⟩)) (by decide)
      obtain ⟨L2, ad2, v3, o2⟩ := P
      have hW : WD G L2 ad2 v3 o2 w s H := hW
      have hI2 := hI.addG hN (by omega) hv9 hAd
      have hA2 : ∀ r, r ∈ L → r ∈ L2 ∧ ad2 r = ad r := fun r q => ⟨(hAd.1 r (hN.1 r q)).1, ((hAd.1 r (hN.1 r q)).2).trans (hN.2.2.1 r q)⟩
      have f_0 : ad2 0 = ad1 0 := (hAd.1 _ (hN.1 _ (hI2.c 0 (by decide) |> fun _ => hI0.c 0 (by decide)))).2
      have hl : lv_has ls 2 [(0, .ref (ad2 0)), (1, .int cn)] := by rw [f_0]; exact hl
      refine lv_pop hx hb dX5_addGrower_61 rfl ?_
      refine lv_aload_n hx hb dX5_addGrower_62 rfl (lv_at hl 0 rfl) ?_
      refine q_getr hx hb hts hown hW (r := 0) (hI2.c 0 (by decide)) rfl k_6 0 (by decide) rfl t_137 (a := ad2 1) (hI2.o0 0 (by decide)) dX5_addGrower_63 ?_
      refine q_cFiE (As := []) (rest := []) (r := 1) hx hb hml hts hown hE h0 hW hS hE.2.1 (c_size l hI2.lg) t_178 t_176 t_174 t_49 (by decide) (by decide +kernel) (hI2.c 1 (by decide)) rfl k_0 t_170 ⟨Nat.le_of_ble_eq_true rfl, Nat.le_of_ble_eq_true rfl⟩ rfl hl.1 (Nat.le_of_ble_eq_true rfl) dX5_addGrower_66 ⟨by decide, by decide⟩ ⟨rfl, rfl⟩ (fun H locs hW hS => ?_)
      refine lv_iconst (v := 1) hx hb dX5_addGrower_71 (by decide) ?_
      refine lv_isub hx hb dX5_addGrower_72 ?_
      exact q_iretw hx hb hr hlocks hW hS (by first | decide | omega | (dsimp only; omega)) (by first | decide | omega | (dsimp only; omega)) dX5_addGrower_73 (⟨by rw [nI_pred], hI2, ⟨hA2, fun r q => (hAd.2.1 r q).elim (fun z => (hN.2.2.2.2.2.2.1 r z).imp id (fun z => Or.inl z)) (fun z => Or.inr (Or.inr ⟨z.1, fun y => z.2 (hN.1 _ y)⟩)), fun r q => (hAd.2.2.2.2.2.1 r (by omega) (by omega)).trans (hN.2.2.2.2.2.1 r (by omega)), fun r q => ((hAd.2.2.2.1 r (by omega) (by omega)).trans (hv9 r (by omega))).trans (hN.2.2.2.1 r (by omega))⟩, ((hAd.2.2.2.1 _ (by omega) (by omega)).trans hv3)⟩)
    · skip
      exact absurd (nI_lt (b := 6) hng (by decide)) c_31
  · skip
    exact absurd (k1.symm.trans c_7) (by decide)

set_option maxHeartbeats 4000000 in
set_option maxRecDepth 100000 in
theorem c_X5_addLayer_0 (l : Launch) {G : GG} {L : List Nat} {ad : Nat → Nat} {v : Nat → Nat → Int32} {o : Nat → Nat → Option Nat} {w : Nat → Int64} {ng nh nl ns : Nat} {ow gx gy gw gd : Nat → Nat} (hI : PI G.2.2.2 L ad v o ng nh nl ns ow gx gy gw gd) (hn0 : nl = 0) (hX9 : 15 ∉ L) (hng : nl < 6) (hE9 : 80 + nl ∉ L) {a b c0 : Int32} (k1 : fIn a 0 100000 = 1) (k2 : fIn b 1 100000 = 1) (k3 : fIn c0 1 100 = 1) : CtIw l G L ad v o w yX5_addLayer cX5_addLayer 4 .int ({ frames := 5, cells := 2, slots := 15, locals := 101 }) [.ref (ad 0), .int a, .int b, .int c0] (fun r P => r = nI nl ∧ PI G.2.2.2 P.1 P.2.1 P.2.2.1 P.2.2.2 ng nh (nl + 1) ns ow gx gy gw gd ∧ Ext L ad v o P (fun r => r = 80 + nl ∨ (r = 15 ∧ 15 ∉ L)) (fun r => r = 3 ∨ r = 15 ∨ r = 80 + nl) ∧ P.2.2.1 (80 + nl) = iL (fun _ => z32) (80 + nl) a b c0 (80 + nl)) := by
  have hb6 := hI.g6; have hb12 := hI.h12; have hbl := hI.l6; have hbs := hI.s30; have hn9 := hn0; subst hn0
  refine Met.ofW (cc := cX5_addLayer) (maxL := 4) (ret := (some .int)) (by decide) rfl ?_
  intro p e s m args below meth c s₁ B hml hv
  obtain ⟨rfl, hE, h0, hW⟩ := hv
  have hx := B.exec; have hb := B.bytes; have hr := B.returns; have hts := hE.hts (args := ([.ref (ad 0), .int a, .int b, .int c0] : List Value).toArray); have hown : s.vm.findClass RX5 = some m.cls := findClass_of_methodNamed B.named; have hlocks := B.notSynchronized
  have hl := lv_entry ([.ref (ad 0), .int a, .int b, .int c0] : List Value) (n := 4) (Nat.le_of_ble_eq_true rfl)
  rw [lg_entry_eq]
  generalize (lg_sl ([.ref (ad 0), .int a, .int b, .int c0] : List Value) ++ List.replicate (4 - (lg_sl ([.ref (ad 0), .int a, .int b, .int c0] : List Value)).length) Slot.unset).toArray = ls at hl ⊢
  generalize hH : s.heap = H at hW ⊢
  have hS : va_S (Ab G.2.2.1) s.heap H [] := hH ▸ va_S.rf
  obtain ⟨locs, hlc⟩ : ∃ z : List Loc, z = [] := ⟨_, rfl⟩
  rw [← hlc] at hS ⊢
  have hl : lv_has ls 4 [(0, .ref (ad 0)), (1, .int a), (2, .int b), (3, .int c0)] := hl
  refine lv_iload_n hx hb dX5_addLayer_0 rfl (lv_at hl 1 rfl) ?_
  refine lv_iconst (v := 0) hx hb dX5_addLayer_1 (by decide) ?_
  refine lv_ldc (v := 100000) hx hb hown (hts _ t_608) dX5_addLayer_2 ?_
  refine q_cSiE (As := [.int a, .int 0, .int 100000]) (rest := []) hx hb hml hts hown hE h0 hW hS (c_X5_isIn l a 0 100000) mw_X5_isIn t_318 ⟨Nat.le_of_ble_eq_true rfl, Nat.le_of_ble_eq_true rfl⟩ rfl hl.1 (Nat.le_of_ble_eq_true rfl) dX5_addLayer_4 ⟨Nat.zero_le _, Nat.zero_le _⟩ ⟨rfl, rfl⟩ (fun H locs hW hS => ?_)
  refine lv_if_ne (tgt := 20) hx hb dX5_addLayer_7 (by decide) (fun c_7 => ?_) (fun c_7 => ?_)
  · skip
    refine lv_iload_n hx hb dX5_addLayer_20 rfl (lv_at hl 2 rfl) ?_
    refine lv_iconst (v := 1) hx hb dX5_addLayer_21 (by decide) ?_
    refine lv_ldc (v := 100000) hx hb hown (hts _ t_608) dX5_addLayer_22 ?_
    refine q_cSiE (As := [.int b, .int 1, .int 100000]) (rest := []) hx hb hml hts hown hE h0 hW hS (c_X5_isIn l b 1 100000) mw_X5_isIn t_318 ⟨Nat.le_of_ble_eq_true rfl, Nat.le_of_ble_eq_true rfl⟩ rfl hl.1 (Nat.le_of_ble_eq_true rfl) dX5_addLayer_24 ⟨Nat.zero_le _, Nat.zero_le _⟩ ⟨rfl, rfl⟩ (fun H locs hW hS => ?_)
    refine lv_if_ne (tgt := 40) hx hb dX5_addLayer_27 (by decide) (fun c_27 => ?_) (fun c_27 => ?_)
    · skip
      refine lv_iload_n hx hb dX5_addLayer_40 rfl (lv_at hl 3 rfl) ?_
      refine lv_iconst (v := 1) hx hb dX5_addLayer_41 (by decide) ?_
      refine lv_bipush (v := 100) hx hb dX5_addLayer_42 (by decide) ?_
      refine q_cSiE (As := [.int c0, .int 1, .int 100]) (rest := []) hx hb hml hts hown hE h0 hW hS (c_X5_isIn l c0 1 100) mw_X5_isIn t_318 ⟨Nat.le_of_ble_eq_true rfl, Nat.le_of_ble_eq_true rfl⟩ rfl hl.1 (Nat.le_of_ble_eq_true rfl) dX5_addLayer_44 ⟨Nat.zero_le _, Nat.zero_le _⟩ ⟨rfl, rfl⟩ (fun H locs hW hS => ?_)
      refine lv_if_ne (tgt := 60) hx hb dX5_addLayer_47 (by decide) (fun c_47 => ?_) (fun c_47 => ?_)
      · skip
        refine lv_aload_n hx hb dX5_addLayer_60 rfl (lv_at hl 0 rfl) ?_
        refine q_getr hx hb hts hown hW (r := 0) (hI.c 0 (by decide)) rfl k_6 2 (by decide) rfl t_139 (a := ad 3) (hI.o0 2 (by decide)) dX5_addLayer_61 ?_
        refine q_cFiE (As := []) (rest := []) (r := 3) hx hb hml hts hown hE h0 hW hS hE.2.1 (c_size l hI.ll) t_178 t_176 t_174 t_49 (by decide) (by decide +kernel) (hI.c 3 (by decide)) rfl k_0 t_170 ⟨Nat.le_of_ble_eq_true rfl, Nat.le_of_ble_eq_true rfl⟩ rfl hl.1 (Nat.le_of_ble_eq_true rfl) dX5_addLayer_64 ⟨Nat.zero_le _, Nat.zero_le _⟩ ⟨rfl, rfl⟩ (fun H locs hW hS => ?_)
        refine lv_bipush (v := 6) hx hb dX5_addLayer_69 (by decide) ?_
        refine lv_icmp_lt (tgt := 84) hx hb dX5_addLayer_71 (by decide) (fun c_71 => ?_) (fun c_71 => ?_)
        · skip
          have hI0 := hI
          refine lv_aload_n hx hb dX5_addLayer_84 rfl (lv_at hl 0 rfl) ?_
          refine q_getr hx hb hts hown hW (r := 0) (hI.c 0 (by decide)) rfl k_6 2 (by decide) rfl t_139 (a := ad 3) (hI.o0 2 (by decide)) dX5_addLayer_85 ?_
          refine q_newN hx hb hts hown h0 hW hS (80 + 0) hE9 (kd_l (by omega)) k_3 t_235 t_665 t_67 def_L (by first | decide | omega | (dsimp only; omega)) (by first | decide | omega | (dsimp only; omega)) dX5_addLayer_88 (fun L1 ad1 v1 o1 H hN hW hS => ?_)
          have e_0 : ad1 0 = ad 0 := hN.2.2.1 _ (hI.c 0 (by decide))
          rw [← hN.2.2.1 3 (hI.c 3 (by decide))]
          have hl : lv_has ls 4 [(0, .ref (ad1 0)), (1, .int a), (2, .int b), (3, .int c0)] := by rw [e_0]; exact hl
          refine lv_dup hx hb dX5_addLayer_91 rfl ?_
          refine lv_iload_n hx hb dX5_addLayer_92 rfl (lv_at hl 1 rfl) ?_
          refine lv_iload_n hx hb dX5_addLayer_93 rfl (lv_at hl 2 rfl) ?_
          refine lv_iload_n hx hb dX5_addLayer_94 rfl (lv_at hl 3 rfl) ?_
          refine q_cIE (As := [.int a, .int b, .int c0]) (rest := [.ref (ad1 (80 + 0)), .ref (ad1 3)]) (r := (80 + 0)) hx hb hml hts hown hE h0 hW hS (c_X2_init l (r := (80 + 0)) hN.2.1 (kd_l (by omega)) a b c0) mw_X2_init t_666 ⟨Nat.le_of_ble_eq_true rfl, Nat.le_of_ble_eq_true rfl⟩ rfl hl.1 (Nat.le_of_ble_eq_true rfl) dX5_addLayer_95 ⟨(by first | decide | omega | (dsimp only; omega)), (by first | decide | omega | (dsimp only; omega))⟩ ⟨rfl, rfl⟩ (fun H locs hW hS => ?_)
          have hv9 : ∀ r, r ≠ (80 + 0) → ((iL v1 (80 + 0) a b c0)) r = v1 r := fun r q => off_up (off_up (off_up (off_up (fun _ _ => rfl)))) r q
          have hv3 : ((iL v1 (80 + 0) a b c0)) (80 + 0) = iL (fun _ => z32) (80 + 0) a b c0 (80 + 0) := by funext k; simp only [iL, up2, hN.2.2.2.2.1]
          obtain ⟨v2, hv2⟩ : ∃ z, z = (iL v1 (80 + 0) a b c0) := ⟨_, rfl⟩
          rw [← hv2] at hW hv9 hv3
          have hq1 := hI.ll.new1 hN v2 hv9 (by omega) (by omega) (by omega)
          refine q_cFiw (n := 1) (As := [.ref (ad1 (80 + 0))]) (rest := []) (r := 3) hx hb hml hts hown hE h0 hW hS hE.2.2.2.1 (c_add_l0 l hq1 rfl (fun q => (hN.2.2.2.2.2.2.1 _ q).elim hX9 (by omega)) hN.2.1 (kd_l (by omega))) t_450 t_448 t_446 t_49 (by decide) (by decide +kernel) (hN.1 _ (hI.c 3 (by decide))) rfl k_0 t_443 ⟨Nat.le_of_ble_eq_true rfl, Nat.le_of_ble_eq_true rfl⟩ rfl hl.1 (Nat.le_of_ble_eq_true rfl) dX5_addLayer_98 ⟨(by first | decide | omega | (dsimp only; omega)), (by first | decide | omega | (dsimp only; omega))⟩ (fun rz P H locs hp hW hS => ?_)
          have hAd : Added L1 ad1 v2 o1 P 3 15 0 80 := by obtain ⟨_, q2, rfl⟩ := hp; exact Added_0 (fun q => (hN.2.2.2.2.2.2.1 _ q).elim hX9 (by omega)) hN.2.1 (by decide)
          obtain ⟨L2, ad2, v3, o2⟩ := P
          have hW : WD G L2 ad2 v3 o2 w s H := hW
          have hI2 := hI.addL hN (by omega) hv9 hAd
          have hA2 : ∀ r, r ∈ L → r ∈ L2 ∧ ad2 r = ad r := fun r q => ⟨(hAd.1 r (hN.1 r q)).1, ((hAd.1 r (hN.1 r q)).2).trans (hN.2.2.1 r q)⟩
          have f_0 : ad2 0 = ad1 0 := (hAd.1 _ (hN.1 _ (hI2.c 0 (by decide) |> fun _ => hI0.c 0 (by decide)))).2
          have hl : lv_has ls 4 [(0, .ref (ad2 0)), (1, .int a), (2, .int b), (3, .int c0)] := by rw [f_0]; exact hl
          refine lv_pop hx hb dX5_addLayer_103 rfl ?_
          refine lv_aload_n hx hb dX5_addLayer_104 rfl (lv_at hl 0 rfl) ?_
          refine q_getr hx hb hts hown hW (r := 0) (hI2.c 0 (by decide)) rfl k_6 2 (by decide) rfl t_139 (a := ad2 3) (hI2.o0 2 (by decide)) dX5_addLayer_105 ?_
          refine q_cFiE (As := []) (rest := []) (r := 3) hx hb hml hts hown hE h0 hW hS hE.2.1 (c_size l hI2.ll) t_178 t_176 t_174 t_49 (by decide) (by decide +kernel) (hI2.c 3 (by decide)) rfl k_0 t_170 ⟨Nat.le_of_ble_eq_true rfl, Nat.le_of_ble_eq_true rfl⟩ rfl hl.1 (Nat.le_of_ble_eq_true rfl) dX5_addLayer_108 ⟨by decide, by decide⟩ ⟨rfl, rfl⟩ (fun H locs hW hS => ?_)
          refine lv_iconst (v := 1) hx hb dX5_addLayer_113 (by decide) ?_
          refine lv_isub hx hb dX5_addLayer_114 ?_
          exact q_iretw hx hb hr hlocks hW hS (by first | decide | omega | (dsimp only; omega)) (by first | decide | omega | (dsimp only; omega)) dX5_addLayer_115 (⟨by rw [nI_pred], hI2, ⟨hA2, fun r q => (hAd.2.1 r q).elim (fun z => (hN.2.2.2.2.2.2.1 r z).imp id (fun z => Or.inl z)) (fun z => Or.inr (Or.inr ⟨z.1, fun y => z.2 (hN.1 _ y)⟩)), fun r q => (hAd.2.2.2.2.2.1 r (by omega) (by omega)).trans (hN.2.2.2.2.2.1 r (by omega)), fun r q => ((hAd.2.2.2.1 r (by omega) (by omega)).trans (hv9 r (by omega))).trans (hN.2.2.2.1 r (by omega))⟩, ((hAd.2.2.2.1 _ (by omega) (by omega)).trans hv3)⟩)
        · skip
          exact absurd (nI_lt (b := 6) hng (by decide)) c_71
      · skip
        exact absurd (k3.symm.trans c_47) (by decide)
    · skip
      exact absurd (k2.symm.trans c_27) (by decide)
  · skip
    exact absurd (k1.symm.trans c_7) (by decide)

set_option maxHeartbeats 4000000 in
set_option maxRecDepth 100000 in
theorem c_X5_addLayer_m (l : Launch) {G : GG} {L : List Nat} {ad : Nat → Nat} {v : Nat → Nat → Int32} {o : Nat → Nat → Option Nat} {w : Nat → Int64} {ng nh nl ns : Nat} {ow gx gy gw gd : Nat → Nat} (hI : PI G.2.2.2 L ad v o ng nh nl ns ow gx gy gw gd) (hn1 : 0 < nl) (hn2 : nl < 10) (hng : nl < 6) (hE9 : 80 + nl ∉ L) {a b c0 : Int32} (k1 : fIn a 0 100000 = 1) (k2 : fIn b 1 100000 = 1) (k3 : fIn c0 1 100 = 1) : CtIw l G L ad v o w yX5_addLayer cX5_addLayer 4 .int ({ frames := 2, cells := 1, slots := 5, locals := 44 }) [.ref (ad 0), .int a, .int b, .int c0] (fun r P => r = nI nl ∧ PI G.2.2.2 P.1 P.2.1 P.2.2.1 P.2.2.2 ng nh (nl + 1) ns ow gx gy gw gd ∧ Ext L ad v o P (fun r => r = 80 + nl ∨ (r = 15 ∧ 15 ∉ L)) (fun r => r = 3 ∨ r = 15 ∨ r = 80 + nl) ∧ P.2.2.1 (80 + nl) = iL (fun _ => z32) (80 + nl) a b c0 (80 + nl)) := by
  have hb6 := hI.g6; have hb12 := hI.h12; have hbl := hI.l6; have hbs := hI.s30
  refine Met.ofW (cc := cX5_addLayer) (maxL := 4) (ret := (some .int)) (by decide) rfl ?_
  intro p e s m args below meth c s₁ B hml hv
  obtain ⟨rfl, hE, h0, hW⟩ := hv
  have hx := B.exec; have hb := B.bytes; have hr := B.returns; have hts := hE.hts (args := ([.ref (ad 0), .int a, .int b, .int c0] : List Value).toArray); have hown : s.vm.findClass RX5 = some m.cls := findClass_of_methodNamed B.named; have hlocks := B.notSynchronized
  have hl := lv_entry ([.ref (ad 0), .int a, .int b, .int c0] : List Value) (n := 4) (Nat.le_of_ble_eq_true rfl)
  rw [lg_entry_eq]
  generalize (lg_sl ([.ref (ad 0), .int a, .int b, .int c0] : List Value) ++ List.replicate (4 - (lg_sl ([.ref (ad 0), .int a, .int b, .int c0] : List Value)).length) Slot.unset).toArray = ls at hl ⊢
  generalize hH : s.heap = H at hW ⊢
  have hS : va_S (Ab G.2.2.1) s.heap H [] := hH ▸ va_S.rf
  obtain ⟨locs, hlc⟩ : ∃ z : List Loc, z = [] := ⟨_, rfl⟩
  rw [← hlc] at hS ⊢
  have hl : lv_has ls 4 [(0, .ref (ad 0)), (1, .int a), (2, .int b), (3, .int c0)] := hl
  refine lv_iload_n hx hb dX5_addLayer_0 rfl (lv_at hl 1 rfl) ?_
  refine lv_iconst (v := 0) hx hb dX5_addLayer_1 (by decide) ?_
  refine lv_ldc (v := 100000) hx hb hown (hts _ t_608) dX5_addLayer_2 ?_
  refine q_cSiE (As := [.int a, .int 0, .int 100000]) (rest := []) hx hb hml hts hown hE h0 hW hS (c_X5_isIn l a 0 100000) mw_X5_isIn t_318 ⟨Nat.le_of_ble_eq_true rfl, Nat.le_of_ble_eq_true rfl⟩ rfl hl.1 (Nat.le_of_ble_eq_true rfl) dX5_addLayer_4 ⟨Nat.zero_le _, Nat.zero_le _⟩ ⟨rfl, rfl⟩ (fun H locs hW hS => ?_)
  refine lv_if_ne (tgt := 20) hx hb dX5_addLayer_7 (by decide) (fun c_7 => ?_) (fun c_7 => ?_)
  · skip
    refine lv_iload_n hx hb dX5_addLayer_20 rfl (lv_at hl 2 rfl) ?_
    refine lv_iconst (v := 1) hx hb dX5_addLayer_21 (by decide) ?_
    refine lv_ldc (v := 100000) hx hb hown (hts _ t_608) dX5_addLayer_22 ?_
    refine q_cSiE (As := [.int b, .int 1, .int 100000]) (rest := []) hx hb hml hts hown hE h0 hW hS (c_X5_isIn l b 1 100000) mw_X5_isIn t_318 ⟨Nat.le_of_ble_eq_true rfl, Nat.le_of_ble_eq_true rfl⟩ rfl hl.1 (Nat.le_of_ble_eq_true rfl) dX5_addLayer_24 ⟨Nat.zero_le _, Nat.zero_le _⟩ ⟨rfl, rfl⟩ (fun H locs hW hS => ?_)
    refine lv_if_ne (tgt := 40) hx hb dX5_addLayer_27 (by decide) (fun c_27 => ?_) (fun c_27 => ?_)
    · skip
      refine lv_iload_n hx hb dX5_addLayer_40 rfl (lv_at hl 3 rfl) ?_
      refine lv_iconst (v := 1) hx hb dX5_addLayer_41 (by decide) ?_
      refine lv_bipush (v := 100) hx hb dX5_addLayer_42 (by decide) ?_
      refine q_cSiE (As := [.int c0, .int 1, .int 100]) (rest := []) hx hb hml hts hown hE h0 hW hS (c_X5_isIn l c0 1 100) mw_X5_isIn t_318 ⟨Nat.le_of_ble_eq_true rfl, Nat.le_of_ble_eq_true rfl⟩ rfl hl.1 (Nat.le_of_ble_eq_true rfl) dX5_addLayer_44 ⟨Nat.zero_le _, Nat.zero_le _⟩ ⟨rfl, rfl⟩ (fun H locs hW hS => ?_)
      refine lv_if_ne (tgt := 60) hx hb dX5_addLayer_47 (by decide) (fun c_47 => ?_) (fun c_47 => ?_)
      · skip
        refine lv_aload_n hx hb dX5_addLayer_60 rfl (lv_at hl 0 rfl) ?_
        refine q_getr hx hb hts hown hW (r := 0) (hI.c 0 (by decide)) rfl k_6 2 (by decide) rfl t_139 (a := ad 3) (hI.o0 2 (by decide)) dX5_addLayer_61 ?_
        refine q_cFiE (As := []) (rest := []) (r := 3) hx hb hml hts hown hE h0 hW hS hE.2.1 (c_size l hI.ll) t_178 t_176 t_174 t_49 (by decide) (by decide +kernel) (hI.c 3 (by decide)) rfl k_0 t_170 ⟨Nat.le_of_ble_eq_true rfl, Nat.le_of_ble_eq_true rfl⟩ rfl hl.1 (Nat.le_of_ble_eq_true rfl) dX5_addLayer_64 ⟨Nat.zero_le _, Nat.zero_le _⟩ ⟨rfl, rfl⟩ (fun H locs hW hS => ?_)
        refine lv_bipush (v := 6) hx hb dX5_addLayer_69 (by decide) ?_
        refine lv_icmp_lt (tgt := 84) hx hb dX5_addLayer_71 (by decide) (fun c_71 => ?_) (fun c_71 => ?_)
        · skip
          have hI0 := hI
          refine lv_aload_n hx hb dX5_addLayer_84 rfl (lv_at hl 0 rfl) ?_
          refine q_getr hx hb hts hown hW (r := 0) (hI.c 0 (by decide)) rfl k_6 2 (by decide) rfl t_139 (a := ad 3) (hI.o0 2 (by decide)) dX5_addLayer_85 ?_
          refine q_newN hx hb hts hown h0 hW hS (80 + nl) hE9 (kd_l (by omega)) k_3 t_235 t_665 t_67 def_L (by first | decide | omega | (dsimp only; omega)) (by first | decide | omega | (dsimp only; omega)) dX5_addLayer_88 (fun L1 ad1 v1 o1 H hN hW hS => ?_)
          have e_0 : ad1 0 = ad 0 := hN.2.2.1 _ (hI.c 0 (by decide))
          rw [← hN.2.2.1 3 (hI.c 3 (by decide))]
          have hl : lv_has ls 4 [(0, .ref (ad1 0)), (1, .int a), (2, .int b), (3, .int c0)] := by rw [e_0]; exact hl
          refine lv_dup hx hb dX5_addLayer_91 rfl ?_
          refine lv_iload_n hx hb dX5_addLayer_92 rfl (lv_at hl 1 rfl) ?_
          refine lv_iload_n hx hb dX5_addLayer_93 rfl (lv_at hl 2 rfl) ?_
          refine lv_iload_n hx hb dX5_addLayer_94 rfl (lv_at hl 3 rfl) ?_
          refine q_cIE (As := [.int a, .int b, .int c0]) (rest := [.ref (ad1 (80 + nl)), .ref (ad1 3)]) (r := (80 + nl)) hx hb hml hts hown hE h0 hW hS (c_X2_init l (r := (80 + nl)) hN.2.1 (kd_l (by omega)) a b c0) mw_X2_init t_666 ⟨Nat.le_of_ble_eq_true rfl, Nat.le_of_ble_eq_true rfl⟩ rfl hl.1 (Nat.le_of_ble_eq_true rfl) dX5_addLayer_95 ⟨(by first | decide | omega | (dsimp only; omega)), (by first | decide | omega | (dsimp only; omega))⟩ ⟨rfl, rfl⟩ (fun H locs hW hS => ?_)
          have hv9 : ∀ r, r ≠ (80 + nl) → ((iL v1 (80 + nl) a b c0)) r = v1 r := fun r q => off_up (off_up (off_up (off_up (fun _ _ => rfl)))) r q
          have hv3 : ((iL v1 (80 + nl) a b c0)) (80 + nl) = iL (fun _ => z32) (80 + nl) a b c0 (80 + nl) := by funext k; simp only [iL, up2, hN.2.2.2.2.1]
          obtain ⟨v2, hv2⟩ : ∃ z, z = (iL v1 (80 + nl) a b c0) := ⟨_, rfl⟩
          rw [← hv2] at hW hv9 hv3
          have hq1 := hI.ll.new1 hN v2 hv9 (by omega) (by omega) (by omega)
          refine q_cFiw (n := 1) (As := [.ref (ad1 (80 + nl))]) (rest := []) (r := 3) hx hb hml hts hown hE h0 hW hS hE.2.2.2.1 (c_add_lm l hq1 hn1 hn2 hN.2.1 (kd_l (by omega))) t_450 t_448 t_446 t_49 (by decide) (by decide +kernel) (hN.1 _ (hI.c 3 (by decide))) rfl k_0 t_443 ⟨Nat.le_of_ble_eq_true rfl, Nat.le_of_ble_eq_true rfl⟩ rfl hl.1 (Nat.le_of_ble_eq_true rfl) dX5_addLayer_98 ⟨(by first | decide | omega | (dsimp only; omega)), (by first | decide | omega | (dsimp only; omega))⟩ (fun rz P H locs hp hW hS => ?_)
          have hAd : Added L1 ad1 v2 o1 P 3 15 nl 80 := by obtain ⟨_, rfl⟩ := hp; exact Added_m (hq1.old hn1 (Or.inl ⟨by omega, rfl⟩)) (by decide)
          obtain ⟨L2, ad2, v3, o2⟩ := P
          have hW : WD G L2 ad2 v3 o2 w s H := hW
          have hI2 := hI.addL hN (by omega) hv9 hAd
          have hA2 : ∀ r, r ∈ L → r ∈ L2 ∧ ad2 r = ad r := fun r q => ⟨(hAd.1 r (hN.1 r q)).1, ((hAd.1 r (hN.1 r q)).2).trans (hN.2.2.1 r q)⟩
          have f_0 : ad2 0 = ad1 0 := (hAd.1 _ (hN.1 _ (hI2.c 0 (by decide) |> fun _ => hI0.c 0 (by decide)))).2
          have hl : lv_has ls 4 [(0, .ref (ad2 0)), (1, .int a), (2, .int b), (3, .int c0)] := by rw [f_0]; exact hl
          refine lv_pop hx hb dX5_addLayer_103 rfl ?_
          refine lv_aload_n hx hb dX5_addLayer_104 rfl (lv_at hl 0 rfl) ?_
          refine q_getr hx hb hts hown hW (r := 0) (hI2.c 0 (by decide)) rfl k_6 2 (by decide) rfl t_139 (a := ad2 3) (hI2.o0 2 (by decide)) dX5_addLayer_105 ?_
          refine q_cFiE (As := []) (rest := []) (r := 3) hx hb hml hts hown hE h0 hW hS hE.2.1 (c_size l hI2.ll) t_178 t_176 t_174 t_49 (by decide) (by decide +kernel) (hI2.c 3 (by decide)) rfl k_0 t_170 ⟨Nat.le_of_ble_eq_true rfl, Nat.le_of_ble_eq_true rfl⟩ rfl hl.1 (Nat.le_of_ble_eq_true rfl) dX5_addLayer_108 ⟨by decide, by decide⟩ ⟨rfl, rfl⟩ (fun H locs hW hS => ?_)
          refine lv_iconst (v := 1) hx hb dX5_addLayer_113 (by decide) ?_
          refine lv_isub hx hb dX5_addLayer_114 ?_
          exact q_iretw hx hb hr hlocks hW hS (by first | decide | omega | (dsimp only; omega)) (by first | decide | omega | (dsimp only; omega)) dX5_addLayer_115 (⟨by rw [nI_pred], hI2, ⟨hA2, fun r q => (hAd.2.1 r q).elim (fun z => (hN.2.2.2.2.2.2.1 r z).imp id (fun z => Or.inl z)) (fun z => Or.inr (Or.inr ⟨z.1, fun y => z.2 (hN.1 _ y)⟩)), fun r q => (hAd.2.2.2.2.2.1 r (by omega) (by omega)).trans (hN.2.2.2.2.2.1 r (by omega)), fun r q => ((hAd.2.2.2.1 r (by omega) (by omega)).trans (hv9 r (by omega))).trans (hN.2.2.2.1 r (by omega))⟩, ((hAd.2.2.2.1 _ (by omega) (by omega)).trans hv3)⟩)
        · skip
          exact absurd (nI_lt (b := 6) hng (by decide)) c_71
      · skip
        exact absurd (k3.symm.trans c_47) (by decide)
    · skip
      exact absurd (k2.symm.trans c_27) (by decide)
  · skip
    exact absurd (k1.symm.trans c_7) (by decide)

set_option maxHeartbeats 4000000 in
set_option maxRecDepth 100000 in
theorem c_X5_build_0 (l : Launch) {G : GG} {L : List Nat} {ad : Nat → Nat} {v : Nat → Nat → Int32} {o : Nat → Nat → Option Nat} {w : Nat → Int64} {ng nh nl ns : Nat} {ow gx gy gw gd : Nat → Nat} (hI : PI G.2.2.2 L ad v o ng nh nl ns ow gx gy gw gd) (hn0 : nh = 0) (hX9 : 14 ∉ L) (hng : nh < 12) (hE9 : 60 + nh ∉ L) {g : Nat} (hg : g < ng) {x y wd dp : Nat} {e0 f : Int32} (k1 : fIn (nI wd) 1 6 = 1) (k2 : fIn (nI dp) 1 6 = 1) (k3 : fIn (nI x) 0 (20 - nI wd) = 1) (k4 : fIn (nI y) 0 (20 - nI dp) = 1) (k5 : fIn e0 1 9 = 1) (k6 : fIn f 1 1000 = 1) (k7 : fBuilt v (nI x) (nI y) (nI wd) (nI dp) nh = 0) (w1 : 1 ≤ wd) (w2 : wd ≤ 6) (d1 : 1 ≤ dp) (d2 : dp ≤ 6) (x2 : x + wd ≤ 20) (y2 : y + dp ≤ 20) : CtIw l G L ad v o w yX5_build cX5_build 9 .int ({ frames := 5, cells := 2, slots := 18, locals := 125 }) [.ref (ad 0), .int (nI g), .int (nI x), .int (nI y), .int (nI wd), .int (nI dp), .int e0, .int f] (fun r P => r = nI nh ∧ PI G.2.2.2 P.1 P.2.1 P.2.2.1 P.2.2.2 ng (nh + 1) nl ns (up1 ow nh g) (up1 gx nh x) (up1 gy nh y) (up1 gw nh wd) (up1 gd nh dp) ∧ Ext L ad v o P (fun r => r = 60 + nh ∨ ((r = 14 ∧ nh < 10 ∨ r = 16 ∧ 10 ≤ nh) ∧ r ∉ L)) (fun r => r = 2 ∨ r = 14 ∨ r = 16 ∨ r = 60 + nh ∨ r = 4) ∧ P.2.2.1 (60 + nh) = iH (fun _ => z32) (60 + nh) (nI g) (nI x) (nI y) (nI wd) (nI dp) e0 f (60 + nh) ∧ P.2.2.1 4 = mkW v (up1 gx nh x) (up1 gy nh y) (up1 gw nh wd) (up1 gd nh dp) nh 4) := by
  have hb6 := hI.g6; have hb12 := hI.h12; have hbl := hI.l6; have hbs := hI.s30; have hn9 := hn0; subst hn0; have hck := fIn_nat hg (by omega)
  refine Met.ofW (cc := cX5_build) (maxL := 9) (ret := (some .int)) (by decide) rfl ?_
  intro p e s m args below meth c s₁ B hml hv
  obtain ⟨rfl, hE, h0, hW⟩ := hv
  have hx := B.exec; have hb := B.bytes; have hr := B.returns; have hts := hE.hts (args := ([.ref (ad 0), .int (nI g), .int (nI x), .int (nI y), .int (nI wd), .int (nI dp), .int e0, .int f] : List Value).toArray); have hown : s.vm.findClass RX5 = some m.cls := findClass_of_methodNamed B.named; have hlocks := B.notSynchronized
  have hl := lv_entry ([.ref (ad 0), .int (nI g), .int (nI x), .int (nI y), .int (nI wd), .int (nI dp), .int e0, .int f] : List Value) (n := 9) (Nat.le_of_ble_eq_true rfl)
  rw [lg_entry_eq]
  generalize (lg_sl ([.ref (ad 0), .int (nI g), .int (nI x), .int (nI y), .int (nI wd), .int (nI dp), .int e0, .int f] : List Value) ++ List.replicate (9 - (lg_sl ([.ref (ad 0), .int (nI g), .int (nI x), .int (nI y), .int (nI wd), .int (nI dp), .int e0, .int f] : List Value)).length) Slot.unset).toArray = ls at hl ⊢
  generalize hH : s.heap = H at hW ⊢
  have hS : va_S (Ab G.2.2.1) s.heap H [] := hH ▸ va_S.rf
  obtain ⟨locs, hlc⟩ : ∃ z : List Loc, z = [] := ⟨_, rfl⟩
  rw [← hlc] at hS ⊢
  have hl : lv_has ls 9 [(0, .ref (ad 0)), (1, .int (nI g)), (2, .int (nI x)), (3, .int (nI y)), (4, .int (nI wd)), (5, .int (nI dp)), (6, .int e0), (7, .int f)] := hl
  refine lv_aload_n hx hb dX5_build_0 rfl (lv_at hl 0 rfl) ?_
  refine lv_iload_n hx hb dX5_build_1 rfl (lv_at hl 1 rfl) ?_
  refine q_cVvE (As := [.int (nI g)]) (rest := []) (r := 0) hx hb hml hts hown hE h0 hW hS (c_X5_checkGrower l hI hg) mw_X5_checkGrower (hI.c 0 (by decide)) rfl k_6 t_510 ⟨Nat.le_of_ble_eq_true rfl, Nat.le_of_ble_eq_true rfl⟩ rfl hl.1 (Nat.le_of_ble_eq_true rfl) dX5_build_2 ⟨Nat.zero_le _, Nat.zero_le _⟩ ⟨rfl, rfl⟩ (fun H locs hW hS => ?_)
  refine lv_iload hx hb dX5_build_5 (lv_at hl 4 rfl) ?_
  refine lv_iconst (v := 1) hx hb dX5_build_7 (by decide) ?_
  refine lv_bipush (v := 6) hx hb dX5_build_8 (by decide) ?_
  refine q_cSiE (As := [.int (nI wd), .int 1, .int 6]) (rest := []) hx hb hml hts hown hE h0 hW hS (c_X5_isIn l (nI wd) 1 6) mw_X5_isIn t_318 ⟨Nat.le_of_ble_eq_true rfl, Nat.le_of_ble_eq_true rfl⟩ rfl hl.1 (Nat.le_of_ble_eq_true rfl) dX5_build_10 ⟨Nat.zero_le _, Nat.zero_le _⟩ ⟨rfl, rfl⟩ (fun H locs hW hS => ?_)
  refine lv_if_eq (tgt := 27) hx hb dX5_build_13 (by decide) (fun c_13 => ?_) (fun c_13 => ?_)
  · skip
    exact absurd (k1.symm.trans c_13) (by decide)
  · skip
    refine lv_iload hx hb dX5_build_16 (lv_at hl 5 rfl) ?_
    refine lv_iconst (v := 1) hx hb dX5_build_18 (by decide) ?_
    refine lv_bipush (v := 6) hx hb dX5_build_19 (by decide) ?_
    refine q_cSiE (As := [.int (nI dp), .int 1, .int 6]) (rest := []) hx hb hml hts hown hE h0 hW hS (c_X5_isIn l (nI dp) 1 6) mw_X5_isIn t_318 ⟨Nat.le_of_ble_eq_true rfl, Nat.le_of_ble_eq_true rfl⟩ rfl hl.1 (Nat.le_of_ble_eq_true rfl) dX5_build_21 ⟨Nat.zero_le _, Nat.zero_le _⟩ ⟨rfl, rfl⟩ (fun H locs hW hS => ?_)
    refine lv_if_ne (tgt := 37) hx hb dX5_build_24 (by decide) (fun c_24 => ?_) (fun c_24 => ?_)
    · skip
      refine lv_iload_n hx hb dX5_build_37 rfl (lv_at hl 2 rfl) ?_
      refine lv_iconst (v := 0) hx hb dX5_build_38 (by decide) ?_
      refine lv_bipush (v := 20) hx hb dX5_build_39 (by decide) ?_
      refine lv_iload hx hb dX5_build_41 (lv_at hl 4 rfl) ?_
      refine lv_isub hx hb dX5_build_43 ?_
      refine q_cSiE (As := [.int (nI x), .int 0, .int (20 - (nI wd))]) (rest := []) hx hb hml hts hown hE h0 hW hS (c_X5_isIn l (nI x) 0 (20 - (nI wd))) mw_X5_isIn t_318 ⟨Nat.le_of_ble_eq_true rfl, Nat.le_of_ble_eq_true rfl⟩ rfl hl.1 (Nat.le_of_ble_eq_true rfl) dX5_build_44 ⟨Nat.zero_le _, Nat.zero_le _⟩ ⟨rfl, rfl⟩ (fun H locs hW hS => ?_)
      refine lv_if_eq (tgt := 63) hx hb dX5_build_47 (by decide) (fun c_47 => ?_) (fun c_47 => ?_)
      · skip
        exact absurd (k3.symm.trans c_47) (by decide)
      · skip
        refine lv_iload_n hx hb dX5_build_50 rfl (lv_at hl 3 rfl) ?_
        refine lv_iconst (v := 0) hx hb dX5_build_51 (by decide) ?_
        refine lv_bipush (v := 20) hx hb dX5_build_52 (by decide) ?_
        refine lv_iload hx hb dX5_build_54 (lv_at hl 5 rfl) ?_
        refine lv_isub hx hb dX5_build_56 ?_
        refine q_cSiE (As := [.int (nI y), .int 0, .int (20 - (nI dp))]) (rest := []) hx hb hml hts hown hE h0 hW hS (c_X5_isIn l (nI y) 0 (20 - (nI dp))) mw_X5_isIn t_318 ⟨Nat.le_of_ble_eq_true rfl, Nat.le_of_ble_eq_true rfl⟩ rfl hl.1 (Nat.le_of_ble_eq_true rfl) dX5_build_57 ⟨Nat.zero_le _, Nat.zero_le _⟩ ⟨rfl, rfl⟩ (fun H locs hW hS => ?_)
        refine lv_if_ne (tgt := 73) hx hb dX5_build_60 (by decide) (fun c_60 => ?_) (fun c_60 => ?_)
        · skip
          refine lv_iload hx hb dX5_build_73 (lv_at hl 6 rfl) ?_
          refine lv_iconst (v := 1) hx hb dX5_build_75 (by decide) ?_
          refine lv_bipush (v := 9) hx hb dX5_build_76 (by decide) ?_
          refine q_cSiE (As := [.int e0, .int 1, .int 9]) (rest := []) hx hb hml hts hown hE h0 hW hS (c_X5_isIn l e0 1 9) mw_X5_isIn t_318 ⟨Nat.le_of_ble_eq_true rfl, Nat.le_of_ble_eq_true rfl⟩ rfl hl.1 (Nat.le_of_ble_eq_true rfl) dX5_build_78 ⟨Nat.zero_le _, Nat.zero_le _⟩ ⟨rfl, rfl⟩ (fun H locs hW hS => ?_)
          refine lv_if_ne (tgt := 94) hx hb dX5_build_81 (by decide) (fun c_81 => ?_) (fun c_81 => ?_)
          · skip
            refine lv_iload hx hb dX5_build_94 (lv_at hl 7 rfl) ?_
            refine lv_iconst (v := 1) hx hb dX5_build_96 (by decide) ?_
            refine lv_sipush (v := 1000) hx hb dX5_build_97 (by decide) ?_
            refine q_cSiE (As := [.int f, .int 1, .int 1000]) (rest := []) hx hb hml hts hown hE h0 hW hS (c_X5_isIn l f 1 1000) mw_X5_isIn t_318 ⟨Nat.le_of_ble_eq_true rfl, Nat.le_of_ble_eq_true rfl⟩ rfl hl.1 (Nat.le_of_ble_eq_true rfl) dX5_build_100 ⟨Nat.zero_le _, Nat.zero_le _⟩ ⟨rfl, rfl⟩ (fun H locs hW hS => ?_)
            refine lv_if_ne (tgt := 116) hx hb dX5_build_103 (by decide) (fun c_103 => ?_) (fun c_103 => ?_)
            · skip
              refine lv_aload_n hx hb dX5_build_116 rfl (lv_at hl 0 rfl) ?_
              refine lv_iload_n hx hb dX5_build_117 rfl (lv_at hl 2 rfl) ?_
              refine lv_iload_n hx hb dX5_build_118 rfl (lv_at hl 3 rfl) ?_
              refine lv_iload hx hb dX5_build_119 (lv_at hl 4 rfl) ?_
              refine lv_iload hx hb dX5_build_121 (lv_at hl 5 rfl) ?_
              refine q_cViE (As := [.int (nI x), .int (nI y), .int (nI wd), .int (nI dp)]) (rest := []) (r := 0) hx hb hml hts hown hE h0 hW hS (c_X5_isBuiltOn l hI (nI x) (nI y) (nI wd) (nI dp)) mw_X5_isBuiltOn (hI.c 0 (by decide)) rfl k_6 t_534 ⟨Nat.le_of_ble_eq_true rfl, Nat.le_of_ble_eq_true rfl⟩ rfl hl.1 (Nat.le_of_ble_eq_true rfl) dX5_build_123 ⟨Nat.zero_le _, Nat.zero_le _⟩ ⟨rfl, rfl⟩ (fun H locs hW hS => ?_)
              refine lv_if_eq (tgt := 139) hx hb dX5_build_126 (by decide) (fun c_126 => ?_) (fun c_126 => ?_)
              · skip
                refine lv_aload_n hx hb dX5_build_139 rfl (lv_at hl 0 rfl) ?_
                refine q_getr hx hb hts hown hW (r := 0) (hI.c 0 (by decide)) rfl k_6 1 (by decide) rfl t_138 (a := ad 2) (hI.o0 1 (by decide)) dX5_build_140 ?_
                refine q_cFiE (As := []) (rest := []) (r := 2) hx hb hml hts hown hE h0 hW hS hE.2.1 (c_size l hI.lh) t_178 t_176 t_174 t_49 (by decide) (by decide +kernel) (hI.c 2 (by decide)) rfl k_0 t_170 ⟨Nat.le_of_ble_eq_true rfl, Nat.le_of_ble_eq_true rfl⟩ rfl hl.1 (Nat.le_of_ble_eq_true rfl) dX5_build_143 ⟨Nat.zero_le _, Nat.zero_le _⟩ ⟨rfl, rfl⟩ (fun H locs hW hS => ?_)
                refine lv_bipush (v := 12) hx hb dX5_build_148 (by decide) ?_
                refine lv_icmp_lt (tgt := 163) hx hb dX5_build_150 (by decide) (fun c_150 => ?_) (fun c_150 => ?_)
                · skip
                  have hI0 := hI
                  refine q_newN hx hb hts hown h0 hW hS (60 + 0) hE9 (kd_h (by omega)) k_2 t_207 t_544 t_66 def_H (by first | decide | omega | (dsimp only; omega)) (by first | decide | omega | (dsimp only; omega)) dX5_build_163 (fun L1 ad1 v1 o1 H hN hW hS => ?_)
                  have e_0 : ad1 0 = ad 0 := hN.2.2.1 _ (hI.c 0 (by decide))
                  have hl : lv_has ls 9 [(0, .ref (ad1 0)), (1, .int (nI g)), (2, .int (nI x)), (3, .int (nI y)), (4, .int (nI wd)), (5, .int (nI dp)), (6, .int e0), (7, .int f)] := by rw [e_0]; exact hl
                  refine lv_dup hx hb dX5_build_166 rfl ?_
                  refine lv_iload_n hx hb dX5_build_167 rfl (lv_at hl 1 rfl) ?_
                  refine lv_iload_n hx hb dX5_build_168 rfl (lv_at hl 2 rfl) ?_
                  refine lv_iload_n hx hb dX5_build_169 rfl (lv_at hl 3 rfl) ?_
                  refine lv_iload hx hb dX5_build_170 (lv_at hl 4 rfl) ?_
                  refine lv_iload hx hb dX5_build_172 (lv_at hl 5 rfl) ?_
                  refine lv_iload hx hb dX5_build_174 (lv_at hl 6 rfl) ?_
                  refine lv_iload hx hb dX5_build_176 (lv_at hl 7 rfl) ?_
                  refine q_cIE (As := [.int (nI g), .int (nI x), .int (nI y), .int (nI wd), .int (nI dp), .int e0, .int f]) (rest := [.ref (ad1 (60 + 0))]) (r := (60 + 0)) hx hb hml hts hown hE h0 hW hS (c_X1_init l (r := (60 + 0)) hN.2.1 (kd_h (by omega)) (nI g) (nI x) (nI y) (nI wd) (nI dp) e0 f) mw_X1_init t_545 ⟨Nat.le_of_ble_eq_true rfl, Nat.le_of_ble_eq_true rfl⟩ rfl hl.1 (Nat.le_of_ble_eq_true rfl) dX5_build_178 ⟨(by first | decide | omega | (dsimp only; omega)), (by first | decide | omega | (dsimp only; omega))⟩ ⟨rfl, rfl⟩ (fun H locs hW hS => ?_)
                  have hv9 : ∀ r, r ≠ (60 + 0) → ((iH v1 (60 + 0) (nI g) (nI x) (nI y) (nI wd) (nI dp) e0 f)) r = v1 r := fun r q => off_up (off_up (off_up (off_up (off_up (off_up (off_up (fun _ _ => rfl))))))) r q
                  have hv3 : ((iH v1 (60 + 0) (nI g) (nI x) (nI y) (nI wd) (nI dp) e0 f)) (60 + 0) = iH (fun _ => z32) (60 + 0) (nI g) (nI x) (nI y) (nI wd) (nI dp) e0 f (60 + 0) := by funext k; simp only [iH, up2, hN.2.2.2.2.1]
                  obtain ⟨v2, hv2⟩ : ∃ z, z = (iH v1 (60 + 0) (nI g) (nI x) (nI y) (nI wd) (nI dp) e0 f) := ⟨_, rfl⟩
                  rw [← hv2] at hW hv9 hv3
                  refine lv_astore (lv' := [(8, .ref (ad1 (60 + 0))), (0, .ref (ad1 0)), (1, .int (nI g)), (2, .int (nI x)), (3, .int (nI y)), (4, .int (nI wd)), (5, .int (nI dp)), (6, .int e0), (7, .int f)]) hx hb dX5_build_181 hl (by decide) rfl (fun ls hl => ?_)
                  refine lv_aload_n hx hb dX5_build_183 rfl (lv_at hl 1 rfl) ?_
                  refine q_getr hx hb hts hown hW (r := 0) (hN.1 _ (hI.c 0 (by decide))) rfl k_6 1 (by decide) rfl t_138 (a := ad1 2) (by rw [hN.2.2.2.2.2.1 0 (by omega), hN.2.2.1 2 (hI.c 2 (by decide))]; exact hI.o0 1 (by decide)) dX5_build_184 ?_
                  refine lv_aload hx hb dX5_build_187 (lv_at hl 0 rfl) ?_
                  have hq1 := hI.lh.new1 hN v2 hv9 (by omega) (by omega) (by omega)
                  refine q_cFiw (n := 1) (As := [.ref (ad1 (60 + 0))]) (rest := []) (r := 2) hx hb hml hts hown hE h0 hW hS hE.2.2.2.1 (c_add_h0 l hq1 rfl (fun q => (hN.2.2.2.2.2.2.1 _ q).elim hX9 (by omega)) hN.2.1 (kd_h (by omega))) t_450 t_448 t_446 t_49 (by decide) (by decide +kernel) (hN.1 _ (hI.c 2 (by decide))) rfl k_0 t_443 ⟨Nat.le_of_ble_eq_true rfl, Nat.le_of_ble_eq_true rfl⟩ rfl hl.1 (Nat.le_of_ble_eq_true rfl) dX5_build_189 ⟨(by first | decide | omega | (dsimp only; omega)), (by first | decide | omega | (dsimp only; omega))⟩ (fun rz P H locs hp hW hS => ?_)
                  have hAd : Added L1 ad1 v2 o1 P 2 14 0 60 := by obtain ⟨_, q2, rfl⟩ := hp; exact Added_0 (fun q => (hN.2.2.2.2.2.2.1 _ q).elim hX9 (by omega)) hN.2.1 (by decide)
                  obtain ⟨L2, ad2, v3, o2⟩ := P
                  have hW : WD G L2 ad2 v3 o2 w s H := hW
                  have hI2 : PI G.2.2.2 L2 ad2 v3 o2 ng (0 + 1) nl ns (up1 ow 0 g) (up1 gx 0 x) (up1 gy 0 y) (up1 gw 0 wd) (up1 gd 0 dp) := hI.addH (g := g) (x := x) (y := y) (wd := wd) (dp := dp) hN (by omega) hv9 (Or.inl ⟨by omega, rfl⟩) hAd ⟨hg, by omega, by omega, by omega, by omega, by omega, by omega⟩ (by rw [hv2]; simp [iH, up2])
                  have hA2 : ∀ r, r ∈ L → r ∈ L2 ∧ ad2 r = ad r := fun r q => ⟨(hAd.1 r (hN.1 r q)).1, ((hAd.1 r (hN.1 r q)).2).trans (hN.2.2.1 r q)⟩
                  have f_0 : ad2 0 = ad1 0 := (hAd.1 _ (hN.1 _ (hI2.c 0 (by decide) |> fun _ => hI0.c 0 (by decide)))).2
                  have f_e : ad2 (60 + 0) = ad1 (60 + 0) := (hAd.1 _ hN.2.1).2
                  have hl : lv_has ls 9 [(8, .ref (ad2 (60 + 0))), (0, .ref (ad2 0)), (1, .int (nI g)), (2, .int (nI x)), (3, .int (nI y)), (4, .int (nI wd)), (5, .int (nI dp)), (6, .int e0), (7, .int f)] := by rw [f_0, f_e]; exact hl
                  refine lv_pop hx hb dX5_build_194 rfl ?_
                  have hh9 : 0 < 0 + 1 := Nat.lt_succ_self _
                  refine lv_aload_n hx hb dX5_build_195 rfl (lv_at hl 1 rfl) ?_
                  refine lv_aload hx hb dX5_build_196 (lv_at hl 0 rfl) ?_
                  refine q_cVvE (As := [.ref (ad2 (60 + 0))]) (rest := []) (r := 0) hx hb hml hts hown hE h0 hW hS (c_X5_makeWhole l hI2 hh9) mw_X5_makeWhole (hI2.c 0 (by decide)) rfl k_6 t_584 ⟨Nat.le_of_ble_eq_true rfl, Nat.le_of_ble_eq_true rfl⟩ rfl hl.1 (Nat.le_of_ble_eq_true rfl) dX5_build_198 ⟨(by first | decide | omega | (dsimp only; omega)), (by first | decide | omega | (dsimp only; omega))⟩ ⟨rfl, rfl⟩ (fun H locs hW hS => ?_)
                  have hI2 : PI G.2.2.2 L2 ad2 (mkW v3 (up1 gx 0 x) (up1 gy 0 y) (up1 gw 0 wd) (up1 gd 0 dp) 0) o2 ng (0 + 1) nl ns (up1 ow 0 g) (up1 gx 0 x) (up1 gy 0 y) (up1 gw 0 wd) (up1 gd 0 dp) := hI2.kp kp_mkW
                  refine lv_aload_n hx hb dX5_build_201 rfl (lv_at hl 1 rfl) ?_
                  refine q_getr hx hb hts hown hW (r := 0) (hI2.c 0 (by decide)) rfl k_6 1 (by decide) rfl t_138 (a := ad2 2) (hI2.o0 1 (by decide)) dX5_build_202 ?_
                  refine q_cFiE (As := []) (rest := []) (r := 2) hx hb hml hts hown hE h0 hW hS hE.2.1 (c_size l hI2.lh) t_178 t_176 t_174 t_49 (by decide) (by decide +kernel) (hI2.c 2 (by decide)) rfl k_0 t_170 ⟨Nat.le_of_ble_eq_true rfl, Nat.le_of_ble_eq_true rfl⟩ rfl hl.1 (Nat.le_of_ble_eq_true rfl) dX5_build_205 ⟨by decide, by decide⟩ ⟨rfl, rfl⟩ (fun H locs hW hS => ?_)
                  refine lv_iconst (v := 1) hx hb dX5_build_210 (by decide) ?_
                  refine lv_isub hx hb dX5_build_211 ?_
                  exact q_iretw hx hb hr hlocks hW hS (by first | decide | omega | (dsimp only; omega)) (by first | decide | omega | (dsimp only; omega)) dX5_build_212 (⟨by rw [nI_pred], hI2, ⟨hA2, fun r q => (hAd.2.1 r q).elim (fun z => (hN.2.2.2.2.2.2.1 r z).imp id (fun z => Or.inl z)) (fun z => Or.inr (Or.inr ⟨by omega, fun y => z.2 (by have := hN.1 _ y; rw [z.1] at this; exact this)⟩)), fun r q => (hAd.2.2.2.2.2.1 r (by omega) (by omega)).trans (hN.2.2.2.2.2.1 r (by omega)), fun r q => (mkW_o (by omega)).trans (((hAd.2.2.2.1 r (by omega) (by omega)).trans (hv9 r (by omega))).trans (hN.2.2.2.1 r (by omega)))⟩, (mkW_o (by omega)).trans ((hAd.2.2.2.1 _ (by omega) (by omega)).trans hv3), mkW_4 (((hAd.2.2.2.1 4 (by omega) (by omega)).trans (hv9 4 (by omega))).trans (hN.2.2.2.1 4 (by omega)))⟩)
                · skip
                  exact absurd (nI_lt (b := 12) hng (by decide)) c_150
              · skip
                exact absurd k7 c_126
            · skip
              exact absurd (k6.symm.trans c_103) (by decide)
          · skip
            exact absurd (k5.symm.trans c_81) (by decide)
        · skip
          exact absurd (k4.symm.trans c_60) (by decide)
    · skip
      exact absurd (k2.symm.trans c_24) (by decide)

set_option maxHeartbeats 4000000 in
set_option maxRecDepth 100000 in
theorem c_X5_build_m (l : Launch) {G : GG} {L : List Nat} {ad : Nat → Nat} {v : Nat → Nat → Int32} {o : Nat → Nat → Option Nat} {w : Nat → Int64} {ng nh nl ns : Nat} {ow gx gy gw gd : Nat → Nat} (hI : PI G.2.2.2 L ad v o ng nh nl ns ow gx gy gw gd) (hn1 : 0 < nh) (hn2 : nh < 10) (hng : nh < 12) (hE9 : 60 + nh ∉ L) {g : Nat} (hg : g < ng) {x y wd dp : Nat} {e0 f : Int32} (k1 : fIn (nI wd) 1 6 = 1) (k2 : fIn (nI dp) 1 6 = 1) (k3 : fIn (nI x) 0 (20 - nI wd) = 1) (k4 : fIn (nI y) 0 (20 - nI dp) = 1) (k5 : fIn e0 1 9 = 1) (k6 : fIn f 1 1000 = 1) (k7 : fBuilt v (nI x) (nI y) (nI wd) (nI dp) nh = 0) (w1 : 1 ≤ wd) (w2 : wd ≤ 6) (d1 : 1 ≤ dp) (d2 : dp ≤ 6) (x2 : x + wd ≤ 20) (y2 : y + dp ≤ 20) : CtIw l G L ad v o w yX5_build cX5_build 9 .int ({ frames := 5, cells := 1, slots := 8, locals := 125 }) [.ref (ad 0), .int (nI g), .int (nI x), .int (nI y), .int (nI wd), .int (nI dp), .int e0, .int f] (fun r P => r = nI nh ∧ PI G.2.2.2 P.1 P.2.1 P.2.2.1 P.2.2.2 ng (nh + 1) nl ns (up1 ow nh g) (up1 gx nh x) (up1 gy nh y) (up1 gw nh wd) (up1 gd nh dp) ∧ Ext L ad v o P (fun r => r = 60 + nh ∨ ((r = 14 ∧ nh < 10 ∨ r = 16 ∧ 10 ≤ nh) ∧ r ∉ L)) (fun r => r = 2 ∨ r = 14 ∨ r = 16 ∨ r = 60 + nh ∨ r = 4) ∧ P.2.2.1 (60 + nh) = iH (fun _ => z32) (60 + nh) (nI g) (nI x) (nI y) (nI wd) (nI dp) e0 f (60 + nh) ∧ P.2.2.1 4 = mkW v (up1 gx nh x) (up1 gy nh y) (up1 gw nh wd) (up1 gd nh dp) nh 4) := by
  have hb6 := hI.g6; have hb12 := hI.h12; have hbl := hI.l6; have hbs := hI.s30; have hck := fIn_nat hg (by omega)
  refine Met.ofW (cc := cX5_build) (maxL := 9) (ret := (some .int)) (by decide) rfl ?_
  intro p e s m args below meth c s₁ B hml hv
  obtain ⟨rfl, hE, h0, hW⟩ := hv
  have hx := B.exec; have hb := B.bytes; have hr := B.returns; have hts := hE.hts (args := ([.ref (ad 0), .int (nI g), .int (nI x), .int (nI y), .int (nI wd), .int (nI dp), .int e0, .int f] : List Value).toArray); have hown : s.vm.findClass RX5 = some m.cls := findClass_of_methodNamed B.named; have hlocks := B.notSynchronized
  have hl := lv_entry ([.ref (ad 0), .int (nI g), .int (nI x), .int (nI y), .int (nI wd), .int (nI dp), .int e0, .int f] : List Value) (n := 9) (Nat.le_of_ble_eq_true rfl)
  rw [lg_entry_eq]
  generalize (lg_sl ([.ref (ad 0), .int (nI g), .int (nI x), .int (nI y), .int (nI wd), .int (nI dp), .int e0, .int f] : List Value) ++ List.replicate (9 - (lg_sl ([.ref (ad 0), .int (nI g), .int (nI x), .int (nI y), .int (nI wd), .int (nI dp), .int e0, .int f] : List Value)).length) Slot.unset).toArray = ls at hl ⊢
  generalize hH : s.heap = H at hW ⊢
  have hS : va_S (Ab G.2.2.1) s.heap H [] := hH ▸ va_S.rf
  obtain ⟨locs, hlc⟩ : ∃ z : List Loc, z = [] := ⟨_, rfl⟩
  rw [← hlc] at hS ⊢
  have hl : lv_has ls 9 [(0, .ref (ad 0)), (1, .int (nI g)), (2, .int (nI x)), (3, .int (nI y)), (4, .int (nI wd)), (5, .int (nI dp)), (6, .int e0), (7, .int f)] := hl
  refine lv_aload_n hx hb dX5_build_0 rfl (lv_at hl 0 rfl) ?_
  refine lv_iload_n hx hb dX5_build_1 rfl (lv_at hl 1 rfl) ?_
  refine q_cVvE (As := [.int (nI g)]) (rest := []) (r := 0) hx hb hml hts hown hE h0 hW hS (c_X5_checkGrower l hI hg) mw_X5_checkGrower (hI.c 0 (by decide)) rfl k_6 t_510 ⟨Nat.le_of_ble_eq_true rfl, Nat.le_of_ble_eq_true rfl⟩ rfl hl.1 (Nat.le_of_ble_eq_true rfl) dX5_build_2 ⟨Nat.zero_le _, Nat.zero_le _⟩ ⟨rfl, rfl⟩ (fun H locs hW hS => ?_)
  refine lv_iload hx hb dX5_build_5 (lv_at hl 4 rfl) ?_
  refine lv_iconst (v := 1) hx hb dX5_build_7 (by decide) ?_
  refine lv_bipush (v := 6) hx hb dX5_build_8 (by decide) ?_
  refine q_cSiE (As := [.int (nI wd), .int 1, .int 6]) (rest := []) hx hb hml hts hown hE h0 hW hS (c_X5_isIn l (nI wd) 1 6) mw_X5_isIn t_318 ⟨Nat.le_of_ble_eq_true rfl, Nat.le_of_ble_eq_true rfl⟩ rfl hl.1 (Nat.le_of_ble_eq_true rfl) dX5_build_10 ⟨Nat.zero_le _, Nat.zero_le _⟩ ⟨rfl, rfl⟩ (fun H locs hW hS => ?_)
  refine lv_if_eq (tgt := 27) hx hb dX5_build_13 (by decide) (fun c_13 => ?_) (fun c_13 => ?_)
  · skip
    exact absurd (k1.symm.trans c_13) (by decide)
  · skip
    refine lv_iload hx hb dX5_build_16 (lv_at hl 5 rfl) ?_
    refine lv_iconst (v := 1) hx hb dX5_build_18 (by decide) ?_
    refine lv_bipush (v := 6) hx hb dX5_build_19 (by decide) ?_
    refine q_cSiE (As := [.int (nI dp), .int 1, .int 6]) (rest := []) hx hb hml hts hown hE h0 hW hS (c_X5_isIn l (nI dp) 1 6) mw_X5_isIn t_318 ⟨Nat.le_of_ble_eq_true rfl, Nat.le_of_ble_eq_true rfl⟩ rfl hl.1 (Nat.le_of_ble_eq_true rfl) dX5_build_21 ⟨Nat.zero_le _, Nat.zero_le _⟩ ⟨rfl, rfl⟩ (fun H locs hW hS => ?_)
    refine lv_if_ne (tgt := 37) hx hb dX5_build_24 (by decide) (fun c_24 => ?_) (fun c_24 => ?_)
    · skip
      refine lv_iload_n hx hb dX5_build_37 rfl (lv_at hl 2 rfl) ?_
      refine lv_iconst (v := 0) hx hb dX5_build_38 (by decide) ?_
      refine lv_bipush (v := 20) hx hb dX5_build_39 (by decide) ?_
      refine lv_iload hx hb dX5_build_41 (lv_at hl 4 rfl) ?_
      refine lv_isub hx hb dX5_build_43 ?_
      refine q_cSiE (As := [.int (nI x), .int 0, .int (20 - (nI wd))]) (rest := []) hx hb hml hts hown hE h0 hW hS (c_X5_isIn l (nI x) 0 (20 - (nI wd))) mw_X5_isIn t_318 ⟨Nat.le_of_ble_eq_true rfl, Nat.le_of_ble_eq_true rfl⟩ rfl hl.1 (Nat.le_of_ble_eq_true rfl) dX5_build_44 ⟨Nat.zero_le _, Nat.zero_le _⟩ ⟨rfl, rfl⟩ (fun H locs hW hS => ?_)
      refine lv_if_eq (tgt := 63) hx hb dX5_build_47 (by decide) (fun c_47 => ?_) (fun c_47 => ?_)
      · skip
        exact absurd (k3.symm.trans c_47) (by decide)
      · skip
        refine lv_iload_n hx hb dX5_build_50 rfl (lv_at hl 3 rfl) ?_
        refine lv_iconst (v := 0) hx hb dX5_build_51 (by decide) ?_
        refine lv_bipush (v := 20) hx hb dX5_build_52 (by decide) ?_
        refine lv_iload hx hb dX5_build_54 (lv_at hl 5 rfl) ?_
        refine lv_isub hx hb dX5_build_56 ?_
        refine q_cSiE (As := [.int (nI y), .int 0, .int (20 - (nI dp))]) (rest := []) hx hb hml hts hown hE h0 hW hS (c_X5_isIn l (nI y) 0 (20 - (nI dp))) mw_X5_isIn t_318 ⟨Nat.le_of_ble_eq_true rfl, Nat.le_of_ble_eq_true rfl⟩ rfl hl.1 (Nat.le_of_ble_eq_true rfl) dX5_build_57 ⟨Nat.zero_le _, Nat.zero_le _⟩ ⟨rfl, rfl⟩ (fun H locs hW hS => ?_)
        refine lv_if_ne (tgt := 73) hx hb dX5_build_60 (by decide) (fun c_60 => ?_) (fun c_60 => ?_)
        · skip
          refine lv_iload hx hb dX5_build_73 (lv_at hl 6 rfl) ?_
          refine lv_iconst (v := 1) hx hb dX5_build_75 (by decide) ?_
          refine lv_bipush (v := 9) hx hb dX5_build_76 (by decide) ?_
          refine q_cSiE (As := [.int e0, .int 1, .int 9]) (rest := []) hx hb hml hts hown hE h0 hW hS (c_X5_isIn l e0 1 9) mw_X5_isIn t_318 ⟨Nat.le_of_ble_eq_true rfl, Nat.le_of_ble_eq_true rfl⟩ rfl hl.1 (Nat.le_of_ble_eq_true rfl) dX5_build_78 ⟨Nat.zero_le _, Nat.zero_le _⟩ ⟨rfl, rfl⟩ (fun H locs hW hS => ?_)
          refine lv_if_ne (tgt := 94) hx hb dX5_build_81 (by decide) (fun c_81 => ?_) (fun c_81 => ?_)
          · skip
            refine lv_iload hx hb dX5_build_94 (lv_at hl 7 rfl) ?_
            refine lv_iconst (v := 1) hx hb dX5_build_96 (by decide) ?_
            refine lv_sipush (v := 1000) hx hb dX5_build_97 (by decide) ?_
            refine q_cSiE (As := [.int f, .int 1, .int 1000]) (rest := []) hx hb hml hts hown hE h0 hW hS (c_X5_isIn l f 1 1000) mw_X5_isIn t_318 ⟨Nat.le_of_ble_eq_true rfl, Nat.le_of_ble_eq_true rfl⟩ rfl hl.1 (Nat.le_of_ble_eq_true rfl) dX5_build_100 ⟨Nat.zero_le _, Nat.zero_le _⟩ ⟨rfl, rfl⟩ (fun H locs hW hS => ?_)
            refine lv_if_ne (tgt := 116) hx hb dX5_build_103 (by decide) (fun c_103 => ?_) (fun c_103 => ?_)
            · skip
              refine lv_aload_n hx hb dX5_build_116 rfl (lv_at hl 0 rfl) ?_
              refine lv_iload_n hx hb dX5_build_117 rfl (lv_at hl 2 rfl) ?_
              refine lv_iload_n hx hb dX5_build_118 rfl (lv_at hl 3 rfl) ?_
              refine lv_iload hx hb dX5_build_119 (lv_at hl 4 rfl) ?_
              refine lv_iload hx hb dX5_build_121 (lv_at hl 5 rfl) ?_
              refine q_cViE (As := [.int (nI x), .int (nI y), .int (nI wd), .int (nI dp)]) (rest := []) (r := 0) hx hb hml hts hown hE h0 hW hS (c_X5_isBuiltOn l hI (nI x) (nI y) (nI wd) (nI dp)) mw_X5_isBuiltOn (hI.c 0 (by decide)) rfl k_6 t_534 ⟨Nat.le_of_ble_eq_true rfl, Nat.le_of_ble_eq_true rfl⟩ rfl hl.1 (Nat.le_of_ble_eq_true rfl) dX5_build_123 ⟨Nat.zero_le _, Nat.zero_le _⟩ ⟨rfl, rfl⟩ (fun H locs hW hS => ?_)
              refine lv_if_eq (tgt := 139) hx hb dX5_build_126 (by decide) (fun c_126 => ?_) (fun c_126 => ?_)
              · skip
                refine lv_aload_n hx hb dX5_build_139 rfl (lv_at hl 0 rfl) ?_
                refine q_getr hx hb hts hown hW (r := 0) (hI.c 0 (by decide)) rfl k_6 1 (by decide) rfl t_138 (a := ad 2) (hI.o0 1 (by decide)) dX5_build_140 ?_
                refine q_cFiE (As := []) (rest := []) (r := 2) hx hb hml hts hown hE h0 hW hS hE.2.1 (c_size l hI.lh) t_178 t_176 t_174 t_49 (by decide) (by decide +kernel) (hI.c 2 (by decide)) rfl k_0 t_170 ⟨Nat.le_of_ble_eq_true rfl, Nat.le_of_ble_eq_true rfl⟩ rfl hl.1 (Nat.le_of_ble_eq_true rfl) dX5_build_143 ⟨Nat.zero_le _, Nat.zero_le _⟩ ⟨rfl, rfl⟩ (fun H locs hW hS => ?_)
                refine lv_bipush (v := 12) hx hb dX5_build_148 (by decide) ?_
                refine lv_icmp_lt (tgt := 163) hx hb dX5_build_150 (by decide) (fun c_150 => ?_) (fun c_150 => ?_)
                · skip
                  have hI0 := hI
                  refine q_newN hx hb hts hown h0 hW hS (60 + nh) hE9 (kd_h (by omega)) k_2 t_207 t_544 t_66 def_H (by first | decide | omega | (dsimp only; omega)) (by first | decide | omega | (dsimp only; omega)) dX5_build_163 (fun L1 ad1 v1 o1 H hN hW hS => ?_)
                  have e_0 : ad1 0 = ad 0 := hN.2.2.1 _ (hI.c 0 (by decide))
                  have hl : lv_has ls 9 [(0, .ref (ad1 0)), (1, .int (nI g)), (2, .int (nI x)), (3, .int (nI y)), (4, .int (nI wd)), (5, .int (nI dp)), (6, .int e0), (7, .int f)] := by rw [e_0]; exact hl
                  refine lv_dup hx hb dX5_build_166 rfl ?_
                  refine lv_iload_n hx hb dX5_build_167 rfl (lv_at hl 1 rfl) ?_
                  refine lv_iload_n hx hb dX5_build_168 rfl (lv_at hl 2 rfl) ?_
                  refine lv_iload_n hx hb dX5_build_169 rfl (lv_at hl 3 rfl) ?_
                  refine lv_iload hx hb dX5_build_170 (lv_at hl 4 rfl) ?_
                  refine lv_iload hx hb dX5_build_172 (lv_at hl 5 rfl) ?_
                  refine lv_iload hx hb dX5_build_174 (lv_at hl 6 rfl) ?_
                  refine lv_iload hx hb dX5_build_176 (lv_at hl 7 rfl) ?_
                  refine q_cIE (As := [.int (nI g), .int (nI x), .int (nI y), .int (nI wd), .int (nI dp), .int e0, .int f]) (rest := [.ref (ad1 (60 + nh))]) (r := (60 + nh)) hx hb hml hts hown hE h0 hW hS (c_X1_init l (r := (60 + nh)) hN.2.1 (kd_h (by omega)) (nI g) (nI x) (nI y) (nI wd) (nI dp) e0 f) mw_X1_init t_545 ⟨Nat.le_of_ble_eq_true rfl, Nat.le_of_ble_eq_true rfl⟩ rfl hl.1 (Nat.le_of_ble_eq_true rfl) dX5_build_178 ⟨(by first | decide | omega | (dsimp only; omega)), (by first | decide | omega | (dsimp only; omega))⟩ ⟨rfl, rfl⟩ (fun H locs hW hS => ?_)
                  have hv9 : ∀ r, r ≠ (60 + nh) → ((iH v1 (60 + nh) (nI g) (nI x) (nI y) (nI wd) (nI dp) e0 f)) r = v1 r := fun r q => off_up (off_up (off_up (off_up (off_up (off_up (off_up (fun _ _ => rfl))))))) r q
                  have hv3 : ((iH v1 (60 + nh) (nI g) (nI x) (nI y) (nI wd) (nI dp) e0 f)) (60 + nh) = iH (fun _ => z32) (60 + nh) (nI g) (nI x) (nI y) (nI wd) (nI dp) e0 f (60 + nh) := by funext k; simp only [iH, up2, hN.2.2.2.2.1]
                  obtain ⟨v2, hv2⟩ : ∃ z, z = (iH v1 (60 + nh) (nI g) (nI x) (nI y) (nI wd) (nI dp) e0 f) := ⟨_, rfl⟩
                  rw [← hv2] at hW hv9 hv3
                  refine lv_astore (lv' := [(8, .ref (ad1 (60 + nh))), (0, .ref (ad1 0)), (1, .int (nI g)), (2, .int (nI x)), (3, .int (nI y)), (4, .int (nI wd)), (5, .int (nI dp)), (6, .int e0), (7, .int f)]) hx hb dX5_build_181 hl (by decide) rfl (fun ls hl => ?_)
                  refine lv_aload_n hx hb dX5_build_183 rfl (lv_at hl 1 rfl) ?_
                  refine q_getr hx hb hts hown hW (r := 0) (hN.1 _ (hI.c 0 (by decide))) rfl k_6 1 (by decide) rfl t_138 (a := ad1 2) (by rw [hN.2.2.2.2.2.1 0 (by omega), hN.2.2.1 2 (hI.c 2 (by decide))]; exact hI.o0 1 (by decide)) dX5_build_184 ?_
                  refine lv_aload hx hb dX5_build_187 (lv_at hl 0 rfl) ?_
                  have hq1 := hI.lh.new1 hN v2 hv9 (by omega) (by omega) (by omega)
                  refine q_cFiw (n := 1) (As := [.ref (ad1 (60 + nh))]) (rest := []) (r := 2) hx hb hml hts hown hE h0 hW hS hE.2.2.2.1 (c_add_hm l hq1 hn1 hn2 hN.2.1 (kd_h (by omega))) t_450 t_448 t_446 t_49 (by decide) (by decide +kernel) (hN.1 _ (hI.c 2 (by decide))) rfl k_0 t_443 ⟨Nat.le_of_ble_eq_true rfl, Nat.le_of_ble_eq_true rfl⟩ rfl hl.1 (Nat.le_of_ble_eq_true rfl) dX5_build_189 ⟨(by first | decide | omega | (dsimp only; omega)), (by first | decide | omega | (dsimp only; omega))⟩ (fun rz P H locs hp hW hS => ?_)
                  have hAd : Added L1 ad1 v2 o1 P 2 14 nh 60 := by obtain ⟨_, rfl⟩ := hp; exact Added_m (hq1.old hn1 (Or.inl ⟨by omega, rfl⟩)) (by decide)
                  obtain ⟨L2, ad2, v3, o2⟩ := P
                  have hW : WD G L2 ad2 v3 o2 w s H := hW
                  have hI2 : PI G.2.2.2 L2 ad2 v3 o2 ng (nh + 1) nl ns (up1 ow nh g) (up1 gx nh x) (up1 gy nh y) (up1 gw nh wd) (up1 gd nh dp) := hI.addH (g := g) (x := x) (y := y) (wd := wd) (dp := dp) hN (by omega) hv9 (Or.inl ⟨by omega, rfl⟩) hAd ⟨hg, by omega, by omega, by omega, by omega, by omega, by omega⟩ (by rw [hv2]; simp [iH, up2])
                  have hA2 : ∀ r, r ∈ L → r ∈ L2 ∧ ad2 r = ad r := fun r q => ⟨(hAd.1 r (hN.1 r q)).1, ((hAd.1 r (hN.1 r q)).2).trans (hN.2.2.1 r q)⟩
                  have f_0 : ad2 0 = ad1 0 := (hAd.1 _ (hN.1 _ (hI2.c 0 (by decide) |> fun _ => hI0.c 0 (by decide)))).2
                  have f_e : ad2 (60 + nh) = ad1 (60 + nh) := (hAd.1 _ hN.2.1).2
                  have hl : lv_has ls 9 [(8, .ref (ad2 (60 + nh))), (0, .ref (ad2 0)), (1, .int (nI g)), (2, .int (nI x)), (3, .int (nI y)), (4, .int (nI wd)), (5, .int (nI dp)), (6, .int e0), (7, .int f)] := by rw [f_0, f_e]; exact hl
                  refine lv_pop hx hb dX5_build_194 rfl ?_
                  have hh9 : nh < nh + 1 := Nat.lt_succ_self _
                  refine lv_aload_n hx hb dX5_build_195 rfl (lv_at hl 1 rfl) ?_
                  refine lv_aload hx hb dX5_build_196 (lv_at hl 0 rfl) ?_
                  refine q_cVvE (As := [.ref (ad2 (60 + nh))]) (rest := []) (r := 0) hx hb hml hts hown hE h0 hW hS (c_X5_makeWhole l hI2 hh9) mw_X5_makeWhole (hI2.c 0 (by decide)) rfl k_6 t_584 ⟨Nat.le_of_ble_eq_true rfl, Nat.le_of_ble_eq_true rfl⟩ rfl hl.1 (Nat.le_of_ble_eq_true rfl) dX5_build_198 ⟨(by first | decide | omega | (dsimp only; omega)), (by first | decide | omega | (dsimp only; omega))⟩ ⟨rfl, rfl⟩ (fun H locs hW hS => ?_)
                  have hI2 : PI G.2.2.2 L2 ad2 (mkW v3 (up1 gx nh x) (up1 gy nh y) (up1 gw nh wd) (up1 gd nh dp) nh) o2 ng (nh + 1) nl ns (up1 ow nh g) (up1 gx nh x) (up1 gy nh y) (up1 gw nh wd) (up1 gd nh dp) := hI2.kp kp_mkW
                  refine lv_aload_n hx hb dX5_build_201 rfl (lv_at hl 1 rfl) ?_
                  refine q_getr hx hb hts hown hW (r := 0) (hI2.c 0 (by decide)) rfl k_6 1 (by decide) rfl t_138 (a := ad2 2) (hI2.o0 1 (by decide)) dX5_build_202 ?_
                  refine q_cFiE (As := []) (rest := []) (r := 2) hx hb hml hts hown hE h0 hW hS hE.2.1 (c_size l hI2.lh) t_178 t_176 t_174 t_49 (by decide) (by decide +kernel) (hI2.c 2 (by decide)) rfl k_0 t_170 ⟨Nat.le_of_ble_eq_true rfl, Nat.le_of_ble_eq_true rfl⟩ rfl hl.1 (Nat.le_of_ble_eq_true rfl) dX5_build_205 ⟨by decide, by decide⟩ ⟨rfl, rfl⟩ (fun H locs hW hS => ?_)
                  refine lv_iconst (v := 1) hx hb dX5_build_210 (by decide) ?_
                  refine lv_isub hx hb dX5_build_211 ?_
                  exact q_iretw hx hb hr hlocks hW hS (by first | decide | omega | (dsimp only; omega)) (by first | decide | omega | (dsimp only; omega)) dX5_build_212 (⟨by rw [nI_pred], hI2, ⟨hA2, fun r q => (hAd.2.1 r q).elim (fun z => (hN.2.2.2.2.2.2.1 r z).imp id (fun z => Or.inl z)) (fun z => Or.inr (Or.inr ⟨by omega, fun y => z.2 (by have := hN.1 _ y; rw [z.1] at this; exact this)⟩)), fun r q => (hAd.2.2.2.2.2.1 r (by omega) (by omega)).trans (hN.2.2.2.2.2.1 r (by omega)), fun r q => (mkW_o (by omega)).trans (((hAd.2.2.2.1 r (by omega) (by omega)).trans (hv9 r (by omega))).trans (hN.2.2.2.1 r (by omega)))⟩, (mkW_o (by omega)).trans ((hAd.2.2.2.1 _ (by omega) (by omega)).trans hv3), mkW_4 (((hAd.2.2.2.1 4 (by omega) (by omega)).trans (hv9 4 (by omega))).trans (hN.2.2.2.1 4 (by omega)))⟩)
                · skip
                  exact absurd (nI_lt (b := 12) hng (by decide)) c_150
              · skip
                exact absurd k7 c_126
            · skip
              exact absurd (k6.symm.trans c_103) (by decide)
          · skip
            exact absurd (k5.symm.trans c_81) (by decide)
        · skip
          exact absurd (k4.symm.trans c_60) (by decide)
    · skip
      exact absurd (k2.symm.trans c_24) (by decide)

set_option maxHeartbeats 4000000 in
set_option maxRecDepth 100000 in
theorem c_X5_build_g (l : Launch) {G : GG} {L : List Nat} {ad : Nat → Nat} {v : Nat → Nat → Int32} {o : Nat → Nat → Option Nat} {w : Nat → Int64} {ng nh nl ns : Nat} {ow gx gy gw gd : Nat → Nat} (hI : PI G.2.2.2 L ad v o ng nh nl ns ow gx gy gw gd) (hn0 : nh = 10) (hX9 : 16 ∉ L) (hng : nh < 12) (hE9 : 60 + nh ∉ L) {g : Nat} (hg : g < ng) {x y wd dp : Nat} {e0 f : Int32} (k1 : fIn (nI wd) 1 6 = 1) (k2 : fIn (nI dp) 1 6 = 1) (k3 : fIn (nI x) 0 (20 - nI wd) = 1) (k4 : fIn (nI y) 0 (20 - nI dp) = 1) (k5 : fIn e0 1 9 = 1) (k6 : fIn f 1 1000 = 1) (k7 : fBuilt v (nI x) (nI y) (nI wd) (nI dp) nh = 0) (w1 : 1 ≤ wd) (w2 : wd ≤ 6) (d1 : 1 ≤ dp) (d2 : dp ≤ 6) (x2 : x + wd ≤ 20) (y2 : y + dp ≤ 20) : CtIw l G L ad v o w yX5_build cX5_build 9 .int ({ frames := 7, cells := 2, slots := 23, locals := 161 }) [.ref (ad 0), .int (nI g), .int (nI x), .int (nI y), .int (nI wd), .int (nI dp), .int e0, .int f] (fun r P => r = nI nh ∧ PI G.2.2.2 P.1 P.2.1 P.2.2.1 P.2.2.2 ng (nh + 1) nl ns (up1 ow nh g) (up1 gx nh x) (up1 gy nh y) (up1 gw nh wd) (up1 gd nh dp) ∧ Ext L ad v o P (fun r => r = 60 + nh ∨ ((r = 14 ∧ nh < 10 ∨ r = 16 ∧ 10 ≤ nh) ∧ r ∉ L)) (fun r => r = 2 ∨ r = 14 ∨ r = 16 ∨ r = 60 + nh ∨ r = 4) ∧ P.2.2.1 (60 + nh) = iH (fun _ => z32) (60 + nh) (nI g) (nI x) (nI y) (nI wd) (nI dp) e0 f (60 + nh) ∧ P.2.2.1 4 = mkW v (up1 gx nh x) (up1 gy nh y) (up1 gw nh wd) (up1 gd nh dp) nh 4) := by
  have hb6 := hI.g6; have hb12 := hI.h12; have hbl := hI.l6; have hbs := hI.s30; have hn9 := hn0; subst hn0; have hck := fIn_nat hg (by omega)
  refine Met.ofW (cc := cX5_build) (maxL := 9) (ret := (some .int)) (by decide) rfl ?_
  intro p e s m args below meth c s₁ B hml hv
  obtain ⟨rfl, hE, h0, hW⟩ := hv
  have hx := B.exec; have hb := B.bytes; have hr := B.returns; have hts := hE.hts (args := ([.ref (ad 0), .int (nI g), .int (nI x), .int (nI y), .int (nI wd), .int (nI dp), .int e0, .int f] : List Value).toArray); have hown : s.vm.findClass RX5 = some m.cls := findClass_of_methodNamed B.named; have hlocks := B.notSynchronized
  have hl := lv_entry ([.ref (ad 0), .int (nI g), .int (nI x), .int (nI y), .int (nI wd), .int (nI dp), .int e0, .int f] : List Value) (n := 9) (Nat.le_of_ble_eq_true rfl)
  rw [lg_entry_eq]
  generalize (lg_sl ([.ref (ad 0), .int (nI g), .int (nI x), .int (nI y), .int (nI wd), .int (nI dp), .int e0, .int f] : List Value) ++ List.replicate (9 - (lg_sl ([.ref (ad 0), .int (nI g), .int (nI x), .int (nI y), .int (nI wd), .int (nI dp), .int e0, .int f] : List Value)).length) Slot.unset).toArray = ls at hl ⊢
  generalize hH : s.heap = H at hW ⊢
  have hS : va_S (Ab G.2.2.1) s.heap H [] := hH ▸ va_S.rf
  obtain ⟨locs, hlc⟩ : ∃ z : List Loc, z = [] := ⟨_, rfl⟩
  rw [← hlc] at hS ⊢
  have hl : lv_has ls 9 [(0, .ref (ad 0)), (1, .int (nI g)), (2, .int (nI x)), (3, .int (nI y)), (4, .int (nI wd)), (5, .int (nI dp)), (6, .int e0), (7, .int f)] := hl
  refine lv_aload_n hx hb dX5_build_0 rfl (lv_at hl 0 rfl) ?_
  refine lv_iload_n hx hb dX5_build_1 rfl (lv_at hl 1 rfl) ?_
  refine q_cVvE (As := [.int (nI g)]) (rest := []) (r := 0) hx hb hml hts hown hE h0 hW hS (c_X5_checkGrower l hI hg) mw_X5_checkGrower (hI.c 0 (by decide)) rfl k_6 t_510 ⟨Nat.le_of_ble_eq_true rfl, Nat.le_of_ble_eq_true rfl⟩ rfl hl.1 (Nat.le_of_ble_eq_true rfl) dX5_build_2 ⟨Nat.zero_le _, Nat.zero_le _⟩ ⟨rfl, rfl⟩ (fun H locs hW hS => ?_)
  refine lv_iload hx hb dX5_build_5 (lv_at hl 4 rfl) ?_
  refine lv_iconst (v := 1) hx hb dX5_build_7 (by decide) ?_
  refine lv_bipush (v := 6) hx hb dX5_build_8 (by decide) ?_
  refine q_cSiE (As := [.int (nI wd), .int 1, .int 6]) (rest := []) hx hb hml hts hown hE h0 hW hS (c_X5_isIn l (nI wd) 1 6) mw_X5_isIn t_318 ⟨Nat.le_of_ble_eq_true rfl, Nat.le_of_ble_eq_true rfl⟩ rfl hl.1 (Nat.le_of_ble_eq_true rfl) dX5_build_10 ⟨Nat.zero_le _, Nat.zero_le _⟩ ⟨rfl, rfl⟩ (fun H locs hW hS => ?_)
  refine lv_if_eq (tgt := 27) hx hb dX5_build_13 (by decide) (fun c_13 => ?_) (fun c_13 => ?_)
  · skip
    exact absurd (k1.symm.trans c_13) (by decide)
  · skip
    refine lv_iload hx hb dX5_build_16 (lv_at hl 5 rfl) ?_
    refine lv_iconst (v := 1) hx hb dX5_build_18 (by decide) ?_
    refine lv_bipush (v := 6) hx hb dX5_build_19 (by decide) ?_
    refine q_cSiE (As := [.int (nI dp), .int 1, .int 6]) (rest := []) hx hb hml hts hown hE h0 hW hS (c_X5_isIn l (nI dp) 1 6) mw_X5_isIn t_318 ⟨Nat.le_of_ble_eq_true rfl, Nat.le_of_ble_eq_true rfl⟩ rfl hl.1 (Nat.le_of_ble_eq_true rfl) dX5_build_21 ⟨Nat.zero_le _, Nat.zero_le _⟩ ⟨rfl, rfl⟩ (fun H locs hW hS => ?_)
    refine lv_if_ne (tgt := 37) hx hb dX5_build_24 (by decide) (fun c_24 => ?_) (fun c_24 => ?_)
    · skip
      refine lv_iload_n hx hb dX5_build_37 rfl (lv_at hl 2 rfl) ?_
      refine lv_iconst (v := 0) hx hb dX5_build_38 (by decide) ?_
      refine lv_bipush (v := 20) hx hb dX5_build_39 (by decide) ?_
      refine lv_iload hx hb dX5_build_41 (lv_at hl 4 rfl) ?_
      refine lv_isub hx hb dX5_build_43 ?_
      refine q_cSiE (As := [.int (nI x), .int 0, .int (20 - (nI wd))]) (rest := []) hx hb hml hts hown hE h0 hW hS (c_X5_isIn l (nI x) 0 (20 - (nI wd))) mw_X5_isIn t_318 ⟨Nat.le_of_ble_eq_true rfl, Nat.le_of_ble_eq_true rfl⟩ rfl hl.1 (Nat.le_of_ble_eq_true rfl) dX5_build_44 ⟨Nat.zero_le _, Nat.zero_le _⟩ ⟨rfl, rfl⟩ (fun H locs hW hS => ?_)
      refine lv_if_eq (tgt := 63) hx hb dX5_build_47 (by decide) (fun c_47 => ?_) (fun c_47 => ?_)
      · skip
        exact absurd (k3.symm.trans c_47) (by decide)
      · skip
        refine lv_iload_n hx hb dX5_build_50 rfl (lv_at hl 3 rfl) ?_
        refine lv_iconst (v := 0) hx hb dX5_build_51 (by decide) ?_
        refine lv_bipush (v := 20) hx hb dX5_build_52 (by decide) ?_
        refine lv_iload hx hb dX5_build_54 (lv_at hl 5 rfl) ?_
        refine lv_isub hx hb dX5_build_56 ?_
        refine q_cSiE (As := [.int (nI y), .int 0, .int (20 - (nI dp))]) (rest := []) hx hb hml hts hown hE h0 hW hS (c_X5_isIn l (nI y) 0 (20 - (nI dp))) mw_X5_isIn t_318 ⟨Nat.le_of_ble_eq_true rfl, Nat.le_of_ble_eq_true rfl⟩ rfl hl.1 (Nat.le_of_ble_eq_true rfl) dX5_build_57 ⟨Nat.zero_le _, Nat.zero_le _⟩ ⟨rfl, rfl⟩ (fun H locs hW hS => ?_)
        refine lv_if_ne (tgt := 73) hx hb dX5_build_60 (by decide) (fun c_60 => ?_) (fun c_60 => ?_)
        · skip
          refine lv_iload hx hb dX5_build_73 (lv_at hl 6 rfl) ?_
          refine lv_iconst (v := 1) hx hb dX5_build_75 (by decide) ?_
          refine lv_bipush (v := 9) hx hb dX5_build_76 (by decide) ?_
          refine q_cSiE (As := [.int e0, .int 1, .int 9]) (rest := []) hx hb hml hts hown hE h0 hW hS (c_X5_isIn l e0 1 9) mw_X5_isIn t_318 ⟨Nat.le_of_ble_eq_true rfl, Nat.le_of_ble_eq_true rfl⟩ rfl hl.1 (Nat.le_of_ble_eq_true rfl) dX5_build_78 ⟨Nat.zero_le _, Nat.zero_le _⟩ ⟨rfl, rfl⟩ (fun H locs hW hS => ?_)
          refine lv_if_ne (tgt := 94) hx hb dX5_build_81 (by decide) (fun c_81 => ?_) (fun c_81 => ?_)
          · skip
            refine lv_iload hx hb dX5_build_94 (lv_at hl 7 rfl) ?_
            refine lv_iconst (v := 1) hx hb dX5_build_96 (by decide) ?_
            refine lv_sipush (v := 1000) hx hb dX5_build_97 (by decide) ?_
            refine q_cSiE (As := [.int f, .int 1, .int 1000]) (rest := []) hx hb hml hts hown hE h0 hW hS (c_X5_isIn l f 1 1000) mw_X5_isIn t_318 ⟨Nat.le_of_ble_eq_true rfl, Nat.le_of_ble_eq_true rfl⟩ rfl hl.1 (Nat.le_of_ble_eq_true rfl) dX5_build_100 ⟨Nat.zero_le _, Nat.zero_le _⟩ ⟨rfl, rfl⟩ (fun H locs hW hS => ?_)
            refine lv_if_ne (tgt := 116) hx hb dX5_build_103 (by decide) (fun c_103 => ?_) (fun c_103 => ?_)
            · skip
              refine lv_aload_n hx hb dX5_build_116 rfl (lv_at hl 0 rfl) ?_
              refine lv_iload_n hx hb dX5_build_117 rfl (lv_at hl 2 rfl) ?_
              refine lv_iload_n hx hb dX5_build_118 rfl (lv_at hl 3 rfl) ?_
              refine lv_iload hx hb dX5_build_119 (lv_at hl 4 rfl) ?_
              refine lv_iload hx hb dX5_build_121 (lv_at hl 5 rfl) ?_
              refine q_cViE (As := [.int (nI x), .int (nI y), .int (nI wd), .int (nI dp)]) (rest := []) (r := 0) hx hb hml hts hown hE h0 hW hS (c_X5_isBuiltOn l hI (nI x) (nI y) (nI wd) (nI dp)) mw_X5_isBuiltOn (hI.c 0 (by decide)) rfl k_6 t_534 ⟨Nat.le_of_ble_eq_true rfl, Nat.le_of_ble_eq_true rfl⟩ rfl hl.1 (Nat.le_of_ble_eq_true rfl) dX5_build_123 ⟨Nat.zero_le _, Nat.zero_le _⟩ ⟨rfl, rfl⟩ (fun H locs hW hS => ?_)
              refine lv_if_eq (tgt := 139) hx hb dX5_build_126 (by decide) (fun c_126 => ?_) (fun c_126 => ?_)
              · skip
                refine lv_aload_n hx hb dX5_build_139 rfl (lv_at hl 0 rfl) ?_
                refine q_getr hx hb hts hown hW (r := 0) (hI.c 0 (by decide)) rfl k_6 1 (by decide) rfl t_138 (a := ad 2) (hI.o0 1 (by decide)) dX5_build_140 ?_
                refine q_cFiE (As := []) (rest := []) (r := 2) hx hb hml hts hown hE h0 hW hS hE.2.1 (c_size l hI.lh) t_178 t_176 t_174 t_49 (by decide) (by decide +kernel) (hI.c 2 (by decide)) rfl k_0 t_170 ⟨Nat.le_of_ble_eq_true rfl, Nat.le_of_ble_eq_true rfl⟩ rfl hl.1 (Nat.le_of_ble_eq_true rfl) dX5_build_143 ⟨Nat.zero_le _, Nat.zero_le _⟩ ⟨rfl, rfl⟩ (fun H locs hW hS => ?_)
                refine lv_bipush (v := 12) hx hb dX5_build_148 (by decide) ?_
                refine lv_icmp_lt (tgt := 163) hx hb dX5_build_150 (by decide) (fun c_150 => ?_) (fun c_150 => ?_)
                · skip
                  have hI0 := hI
                  refine q_newN hx hb hts hown h0 hW hS (60 + 10) hE9 (kd_h (by omega)) k_2 t_207 t_544 t_66 def_H (by first | decide | omega | (dsimp only; omega)) (by first | decide | omega | (dsimp only; omega)) dX5_build_163 (fun L1 ad1 v1 o1 H hN hW hS => ?_)
                  have e_0 : ad1 0 = ad 0 := hN.2.2.1 _ (hI.c 0 (by decide))
                  have hl : lv_has ls 9 [(0, .ref (ad1 0)), (1, .int (nI g)), (2, .int (nI x)), (3, .int (nI y)), (4, .int (nI wd)), (5, .int (nI dp)), (6, .int e0), (7, .int f)] := by rw [e_0]; exact hl
                  refine lv_dup hx hb dX5_build_166 rfl ?_
                  refine lv_iload_n hx hb dX5_build_167 rfl (lv_at hl 1 rfl) ?_
                  refine lv_iload_n hx hb dX5_build_168 rfl (lv_at hl 2 rfl) ?_
                  refine lv_iload_n hx hb dX5_build_169 rfl (lv_at hl 3 rfl) ?_
                  refine lv_iload hx hb dX5_build_170 (lv_at hl 4 rfl) ?_
                  refine lv_iload hx hb dX5_build_172 (lv_at hl 5 rfl) ?_
                  refine lv_iload hx hb dX5_build_174 (lv_at hl 6 rfl) ?_
                  refine lv_iload hx hb dX5_build_176 (lv_at hl 7 rfl) ?_
                  refine q_cIE (As := [.int (nI g), .int (nI x), .int (nI y), .int (nI wd), .int (nI dp), .int e0, .int f]) (rest := [.ref (ad1 (60 + 10))]) (r := (60 + 10)) hx hb hml hts hown hE h0 hW hS (c_X1_init l (r := (60 + 10)) hN.2.1 (kd_h (by omega)) (nI g) (nI x) (nI y) (nI wd) (nI dp) e0 f) mw_X1_init t_545 ⟨Nat.le_of_ble_eq_true rfl, Nat.le_of_ble_eq_true rfl⟩ rfl hl.1 (Nat.le_of_ble_eq_true rfl) dX5_build_178 ⟨(by first | decide | omega | (dsimp only; omega)), (by first | decide | omega | (dsimp only; omega))⟩ ⟨rfl, rfl⟩ (fun H locs hW hS => ?_)
                  have hv9 : ∀ r, r ≠ (60 + 10) → ((iH v1 (60 + 10) (nI g) (nI x) (nI y) (nI wd) (nI dp) e0 f)) r = v1 r := fun r q => off_up (off_up (off_up (off_up (off_up (off_up (off_up (fun _ _ => rfl))))))) r q
                  have hv3 : ((iH v1 (60 + 10) (nI g) (nI x) (nI y) (nI wd) (nI dp) e0 f)) (60 + 10) = iH (fun _ => z32) (60 + 10) (nI g) (nI x) (nI y) (nI wd) (nI dp) e0 f (60 + 10) := by funext k; simp only [iH, up2, hN.2.2.2.2.1]
                  obtain ⟨v2, hv2⟩ : ∃ z, z = (iH v1 (60 + 10) (nI g) (nI x) (nI y) (nI wd) (nI dp) e0 f) := ⟨_, rfl⟩
                  rw [← hv2] at hW hv9 hv3
                  refine lv_astore (lv' := [(8, .ref (ad1 (60 + 10))), (0, .ref (ad1 0)), (1, .int (nI g)), (2, .int (nI x)), (3, .int (nI y)), (4, .int (nI wd)), (5, .int (nI dp)), (6, .int e0), (7, .int f)]) hx hb dX5_build_181 hl (by decide) rfl (fun ls hl => ?_)
                  refine lv_aload_n hx hb dX5_build_183 rfl (lv_at hl 1 rfl) ?_
                  refine q_getr hx hb hts hown hW (r := 0) (hN.1 _ (hI.c 0 (by decide))) rfl k_6 1 (by decide) rfl t_138 (a := ad1 2) (by rw [hN.2.2.2.2.2.1 0 (by omega), hN.2.2.1 2 (hI.c 2 (by decide))]; exact hI.o0 1 (by decide)) dX5_build_184 ?_
                  refine lv_aload hx hb dX5_build_187 (lv_at hl 0 rfl) ?_
                  have hq1 := hI.lh.new1 hN v2 hv9 (by omega) (by omega) (by omega)
                  refine q_cFiw (n := 1) (As := [.ref (ad1 (60 + 10))]) (rest := []) (r := 2) hx hb hml hts hown hE h0 hW hS hE.2.2.2.1 (c_add_hg l hq1 rfl (fun q => (hN.2.2.2.2.2.2.1 _ q).elim hX9 (by omega)) hN.2.1 (kd_h (by omega))) t_450 t_448 t_446 t_49 (by decide) (by decide +kernel) (hN.1 _ (hI.c 2 (by decide))) rfl k_0 t_443 ⟨Nat.le_of_ble_eq_true rfl, Nat.le_of_ble_eq_true rfl⟩ rfl hl.1 (Nat.le_of_ble_eq_true rfl) dX5_build_189 ⟨(by first | decide | omega | (dsimp only; omega)), (by first | decide | omega | (dsimp only; omega))⟩ (fun rz P H locs hp hW hS => ?_)
                  have hAd : Added L1 ad1 v2 o1 P 2 16 10 60 := by obtain ⟨_, q2, rfl⟩ := hp; exact Added_g (A := 14) (hq1.old (by decide) (Or.inl ⟨by decide, rfl⟩)) (fun i hi => hq1.b i hi) (fun q => (hN.2.2.2.2.2.2.1 _ q).elim hX9 (by omega)) (by decide) (by decide)
                  obtain ⟨L2, ad2, v3, o2⟩ := P
                  have hW : WD G L2 ad2 v3 o2 w s H := hW
                  have hI2 : PI G.2.2.2 L2 ad2 v3 o2 ng (10 + 1) nl ns (up1 ow 10 g) (up1 gx 10 x) (up1 gy 10 y) (up1 gw 10 wd) (up1 gd 10 dp) := hI.addH (g := g) (x := x) (y := y) (wd := wd) (dp := dp) hN (by omega) hv9 (Or.inr ⟨by omega, rfl⟩) hAd ⟨hg, by omega, by omega, by omega, by omega, by omega, by omega⟩ (by rw [hv2]; simp [iH, up2])
                  have hA2 : ∀ r, r ∈ L → r ∈ L2 ∧ ad2 r = ad r := fun r q => ⟨(hAd.1 r (hN.1 r q)).1, ((hAd.1 r (hN.1 r q)).2).trans (hN.2.2.1 r q)⟩
                  have f_0 : ad2 0 = ad1 0 := (hAd.1 _ (hN.1 _ (hI2.c 0 (by decide) |> fun _ => hI0.c 0 (by decide)))).2
                  have f_e : ad2 (60 + 10) = ad1 (60 + 10) := (hAd.1 _ hN.2.1).2
                  have hl : lv_has ls 9 [(8, .ref (ad2 (60 + 10))), (0, .ref (ad2 0)), (1, .int (nI g)), (2, .int (nI x)), (3, .int (nI y)), (4, .int (nI wd)), (5, .int (nI dp)), (6, .int e0), (7, .int f)] := by rw [f_0, f_e]; exact hl
                  refine lv_pop hx hb dX5_build_194 rfl ?_
                  have hh9 : 10 < 10 + 1 := Nat.lt_succ_self _
                  refine lv_aload_n hx hb dX5_build_195 rfl (lv_at hl 1 rfl) ?_
                  refine lv_aload hx hb dX5_build_196 (lv_at hl 0 rfl) ?_
                  refine q_cVvE (As := [.ref (ad2 (60 + 10))]) (rest := []) (r := 0) hx hb hml hts hown hE h0 hW hS (c_X5_makeWhole l hI2 hh9) mw_X5_makeWhole (hI2.c 0 (by decide)) rfl k_6 t_584 ⟨Nat.le_of_ble_eq_true rfl, Nat.le_of_ble_eq_true rfl⟩ rfl hl.1 (Nat.le_of_ble_eq_true rfl) dX5_build_198 ⟨(by first | decide | omega | (dsimp only; omega)), (by first | decide | omega | (dsimp only; omega))⟩ ⟨rfl, rfl⟩ (fun H locs hW hS => ?_)
                  have hI2 : PI G.2.2.2 L2 ad2 (mkW v3 (up1 gx 10 x) (up1 gy 10 y) (up1 gw 10 wd) (up1 gd 10 dp) 10) o2 ng (10 + 1) nl ns (up1 ow 10 g) (up1 gx 10 x) (up1 gy 10 y) (up1 gw 10 wd) (up1 gd 10 dp) := hI2.kp kp_mkW
                  refine lv_aload_n hx hb dX5_build_201 rfl (lv_at hl 1 rfl) ?_
                  refine q_getr hx hb hts hown hW (r := 0) (hI2.c 0 (by decide)) rfl k_6 1 (by decide) rfl t_138 (a := ad2 2) (hI2.o0 1 (by decide)) dX5_build_202 ?_
                  refine q_cFiE (As := []) (rest := []) (r := 2) hx hb hml hts hown hE h0 hW hS hE.2.1 (c_size l hI2.lh) t_178 t_176 t_174 t_49 (by decide) (by decide +kernel) (hI2.c 2 (by decide)) rfl k_0 t_170 ⟨Nat.le_of_ble_eq_true rfl, Nat.le_of_ble_eq_true rfl⟩ rfl hl.1 (Nat.le_of_ble_eq_true rfl) dX5_build_205 ⟨by decide, by decide⟩ ⟨rfl, rfl⟩ (fun H locs hW hS => ?_)
                  refine lv_iconst (v := 1) hx hb dX5_build_210 (by decide) ?_
                  refine lv_isub hx hb dX5_build_211 ?_
                  exact q_iretw hx hb hr hlocks hW hS (by first | decide | omega | (dsimp only; omega)) (by first | decide | omega | (dsimp only; omega)) dX5_build_212 (⟨by rw [nI_pred], hI2, ⟨hA2, fun r q => (hAd.2.1 r q).elim (fun z => (hN.2.2.2.2.2.2.1 r z).imp id (fun z => Or.inl z)) (fun z => Or.inr (Or.inr ⟨by omega, fun y => z.2 (by have := hN.1 _ y; rw [z.1] at this; exact this)⟩)), fun r q => (hAd.2.2.2.2.2.1 r (by omega) (by omega)).trans (hN.2.2.2.2.2.1 r (by omega)), fun r q => (mkW_o (by omega)).trans (((hAd.2.2.2.1 r (by omega) (by omega)).trans (hv9 r (by omega))).trans (hN.2.2.2.1 r (by omega)))⟩, (mkW_o (by omega)).trans ((hAd.2.2.2.1 _ (by omega) (by omega)).trans hv3), mkW_4 (((hAd.2.2.2.1 4 (by omega) (by omega)).trans (hv9 4 (by omega))).trans (hN.2.2.2.1 4 (by omega)))⟩)
                · skip
                  exact absurd (nI_lt (b := 12) hng (by decide)) c_150
              · skip
                exact absurd k7 c_126
            · skip
              exact absurd (k6.symm.trans c_103) (by decide)
          · skip
            exact absurd (k5.symm.trans c_81) (by decide)
        · skip
          exact absurd (k4.symm.trans c_60) (by decide)
    · skip
      exact absurd (k2.symm.trans c_24) (by decide)

set_option maxHeartbeats 4000000 in
set_option maxRecDepth 100000 in
theorem c_X5_build_n (l : Launch) {G : GG} {L : List Nat} {ad : Nat → Nat} {v : Nat → Nat → Int32} {o : Nat → Nat → Option Nat} {w : Nat → Int64} {ng nh nl ns : Nat} {ow gx gy gw gd : Nat → Nat} (hI : PI G.2.2.2 L ad v o ng nh nl ns ow gx gy gw gd) (hn1 : 10 < nh) (hng : nh < 12) (hE9 : 60 + nh ∉ L) {g : Nat} (hg : g < ng) {x y wd dp : Nat} {e0 f : Int32} (k1 : fIn (nI wd) 1 6 = 1) (k2 : fIn (nI dp) 1 6 = 1) (k3 : fIn (nI x) 0 (20 - nI wd) = 1) (k4 : fIn (nI y) 0 (20 - nI dp) = 1) (k5 : fIn e0 1 9 = 1) (k6 : fIn f 1 1000 = 1) (k7 : fBuilt v (nI x) (nI y) (nI wd) (nI dp) nh = 0) (w1 : 1 ≤ wd) (w2 : wd ≤ 6) (d1 : 1 ≤ dp) (d2 : dp ≤ 6) (x2 : x + wd ≤ 20) (y2 : y + dp ≤ 20) : CtIw l G L ad v o w yX5_build cX5_build 9 .int ({ frames := 5, cells := 1, slots := 8, locals := 125 }) [.ref (ad 0), .int (nI g), .int (nI x), .int (nI y), .int (nI wd), .int (nI dp), .int e0, .int f] (fun r P => r = nI nh ∧ PI G.2.2.2 P.1 P.2.1 P.2.2.1 P.2.2.2 ng (nh + 1) nl ns (up1 ow nh g) (up1 gx nh x) (up1 gy nh y) (up1 gw nh wd) (up1 gd nh dp) ∧ Ext L ad v o P (fun r => r = 60 + nh ∨ ((r = 14 ∧ nh < 10 ∨ r = 16 ∧ 10 ≤ nh) ∧ r ∉ L)) (fun r => r = 2 ∨ r = 14 ∨ r = 16 ∨ r = 60 + nh ∨ r = 4) ∧ P.2.2.1 (60 + nh) = iH (fun _ => z32) (60 + nh) (nI g) (nI x) (nI y) (nI wd) (nI dp) e0 f (60 + nh) ∧ P.2.2.1 4 = mkW v (up1 gx nh x) (up1 gy nh y) (up1 gw nh wd) (up1 gd nh dp) nh 4) := by
  have hb6 := hI.g6; have hb12 := hI.h12; have hbl := hI.l6; have hbs := hI.s30; have hck := fIn_nat hg (by omega)
  refine Met.ofW (cc := cX5_build) (maxL := 9) (ret := (some .int)) (by decide) rfl ?_
  intro p e s m args below meth c s₁ B hml hv
  obtain ⟨rfl, hE, h0, hW⟩ := hv
  have hx := B.exec; have hb := B.bytes; have hr := B.returns; have hts := hE.hts (args := ([.ref (ad 0), .int (nI g), .int (nI x), .int (nI y), .int (nI wd), .int (nI dp), .int e0, .int f] : List Value).toArray); have hown : s.vm.findClass RX5 = some m.cls := findClass_of_methodNamed B.named; have hlocks := B.notSynchronized
  have hl := lv_entry ([.ref (ad 0), .int (nI g), .int (nI x), .int (nI y), .int (nI wd), .int (nI dp), .int e0, .int f] : List Value) (n := 9) (Nat.le_of_ble_eq_true rfl)
  rw [lg_entry_eq]
  generalize (lg_sl ([.ref (ad 0), .int (nI g), .int (nI x), .int (nI y), .int (nI wd), .int (nI dp), .int e0, .int f] : List Value) ++ List.replicate (9 - (lg_sl ([.ref (ad 0), .int (nI g), .int (nI x), .int (nI y), .int (nI wd), .int (nI dp), .int e0, .int f] : List Value)).length) Slot.unset).toArray = ls at hl ⊢
  generalize hH : s.heap = H at hW ⊢
  have hS : va_S (Ab G.2.2.1) s.heap H [] := hH ▸ va_S.rf
  obtain ⟨locs, hlc⟩ : ∃ z : List Loc, z = [] := ⟨_, rfl⟩
  rw [← hlc] at hS ⊢
  have hl : lv_has ls 9 [(0, .ref (ad 0)), (1, .int (nI g)), (2, .int (nI x)), (3, .int (nI y)), (4, .int (nI wd)), (5, .int (nI dp)), (6, .int e0), (7, .int f)] := hl
  refine lv_aload_n hx hb dX5_build_0 rfl (lv_at hl 0 rfl) ?_
  refine lv_iload_n hx hb dX5_build_1 rfl (lv_at hl 1 rfl) ?_
  refine q_cVvE (As := [.int (nI g)]) (rest := []) (r := 0) hx hb hml hts hown hE h0 hW hS (c_X5_checkGrower l hI hg) mw_X5_checkGrower (hI.c 0 (by decide)) rfl k_6 t_510 ⟨Nat.le_of_ble_eq_true rfl, Nat.le_of_ble_eq_true rfl⟩ rfl hl.1 (Nat.le_of_ble_eq_true rfl) dX5_build_2 ⟨Nat.zero_le _, Nat.zero_le _⟩ ⟨rfl, rfl⟩ (fun H locs hW hS => ?_)
  refine lv_iload hx hb dX5_build_5 (lv_at hl 4 rfl) ?_
  refine lv_iconst (v := 1) hx hb dX5_build_7 (by decide) ?_
  refine lv_bipush (v := 6) hx hb dX5_build_8 (by decide) ?_
  refine q_cSiE (As := [.int (nI wd), .int 1, .int 6]) (rest := []) hx hb hml hts hown hE h0 hW hS (c_X5_isIn l (nI wd) 1 6) mw_X5_isIn t_318 ⟨Nat.le_of_ble_eq_true rfl, Nat.le_of_ble_eq_true rfl⟩ rfl hl.1 (Nat.le_of_ble_eq_true rfl) dX5_build_10 ⟨Nat.zero_le _, Nat.zero_le _⟩ ⟨rfl, rfl⟩ (fun H locs hW hS => ?_)
  refine lv_if_eq (tgt := 27) hx hb dX5_build_13 (by decide) (fun c_13 => ?_) (fun c_13 => ?_)
  · skip
    exact absurd (k1.symm.trans c_13) (by decide)
  · skip
    refine lv_iload hx hb dX5_build_16 (lv_at hl 5 rfl) ?_
    refine lv_iconst (v := 1) hx hb dX5_build_18 (by decide) ?_
    refine lv_bipush (v := 6) hx hb dX5_build_19 (by decide) ?_
    refine q_cSiE (As := [.int (nI dp), .int 1, .int 6]) (rest := []) hx hb hml hts hown hE h0 hW hS (c_X5_isIn l (nI dp) 1 6) mw_X5_isIn t_318 ⟨Nat.le_of_ble_eq_true rfl, Nat.le_of_ble_eq_true rfl⟩ rfl hl.1 (Nat.le_of_ble_eq_true rfl) dX5_build_21 ⟨Nat.zero_le _, Nat.zero_le _⟩ ⟨rfl, rfl⟩ (fun H locs hW hS => ?_)
    refine lv_if_ne (tgt := 37) hx hb dX5_build_24 (by decide) (fun c_24 => ?_) (fun c_24 => ?_)
    · skip
      refine lv_iload_n hx hb dX5_build_37 rfl (lv_at hl 2 rfl) ?_
      refine lv_iconst (v := 0) hx hb dX5_build_38 (by decide) ?_
      refine lv_bipush (v := 20) hx hb dX5_build_39 (by decide) ?_
      refine lv_iload hx hb dX5_build_41 (lv_at hl 4 rfl) ?_
      refine lv_isub hx hb dX5_build_43 ?_
      refine q_cSiE (As := [.int (nI x), .int 0, .int (20 - (nI wd))]) (rest := []) hx hb hml hts hown hE h0 hW hS (c_X5_isIn l (nI x) 0 (20 - (nI wd))) mw_X5_isIn t_318 ⟨Nat.le_of_ble_eq_true rfl, Nat.le_of_ble_eq_true rfl⟩ rfl hl.1 (Nat.le_of_ble_eq_true rfl) dX5_build_44 ⟨Nat.zero_le _, Nat.zero_le _⟩ ⟨rfl, rfl⟩ (fun H locs hW hS => ?_)
      refine lv_if_eq (tgt := 63) hx hb dX5_build_47 (by decide) (fun c_47 => ?_) (fun c_47 => ?_)
      · skip
        exact absurd (k3.symm.trans c_47) (by decide)
      · skip
        refine lv_iload_n hx hb dX5_build_50 rfl (lv_at hl 3 rfl) ?_
        refine lv_iconst (v := 0) hx hb dX5_build_51 (by decide) ?_
        refine lv_bipush (v := 20) hx hb dX5_build_52 (by decide) ?_
        refine lv_iload hx hb dX5_build_54 (lv_at hl 5 rfl) ?_
        refine lv_isub hx hb dX5_build_56 ?_
        refine q_cSiE (As := [.int (nI y), .int 0, .int (20 - (nI dp))]) (rest := []) hx hb hml hts hown hE h0 hW hS (c_X5_isIn l (nI y) 0 (20 - (nI dp))) mw_X5_isIn t_318 ⟨Nat.le_of_ble_eq_true rfl, Nat.le_of_ble_eq_true rfl⟩ rfl hl.1 (Nat.le_of_ble_eq_true rfl) dX5_build_57 ⟨Nat.zero_le _, Nat.zero_le _⟩ ⟨rfl, rfl⟩ (fun H locs hW hS => ?_)
        refine lv_if_ne (tgt := 73) hx hb dX5_build_60 (by decide) (fun c_60 => ?_) (fun c_60 => ?_)
        · skip
          refine lv_iload hx hb dX5_build_73 (lv_at hl 6 rfl) ?_
          refine lv_iconst (v := 1) hx hb dX5_build_75 (by decide) ?_
          refine lv_bipush (v := 9) hx hb dX5_build_76 (by decide) ?_
          refine q_cSiE (As := [.int e0, .int 1, .int 9]) (rest := []) hx hb hml hts hown hE h0 hW hS (c_X5_isIn l e0 1 9) mw_X5_isIn t_318 ⟨Nat.le_of_ble_eq_true rfl, Nat.le_of_ble_eq_true rfl⟩ rfl hl.1 (Nat.le_of_ble_eq_true rfl) dX5_build_78 ⟨Nat.zero_le _, Nat.zero_le _⟩ ⟨rfl, rfl⟩ (fun H locs hW hS => ?_)
          refine lv_if_ne (tgt := 94) hx hb dX5_build_81 (by decide) (fun c_81 => ?_) (fun c_81 => ?_)
          · skip
            refine lv_iload hx hb dX5_build_94 (lv_at hl 7 rfl) ?_
            refine lv_iconst (v := 1) hx hb dX5_build_96 (by decide) ?_
            refine lv_sipush (v := 1000) hx hb dX5_build_97 (by decide) ?_
            refine q_cSiE (As := [.int f, .int 1, .int 1000]) (rest := []) hx hb hml hts hown hE h0 hW hS (c_X5_isIn l f 1 1000) mw_X5_isIn t_318 ⟨Nat.le_of_ble_eq_true rfl, Nat.le_of_ble_eq_true rfl⟩ rfl hl.1 (Nat.le_of_ble_eq_true rfl) dX5_build_100 ⟨Nat.zero_le _, Nat.zero_le _⟩ ⟨rfl, rfl⟩ (fun H locs hW hS => ?_)
            refine lv_if_ne (tgt := 116) hx hb dX5_build_103 (by decide) (fun c_103 => ?_) (fun c_103 => ?_)
            · skip
              refine lv_aload_n hx hb dX5_build_116 rfl (lv_at hl 0 rfl) ?_
              refine lv_iload_n hx hb dX5_build_117 rfl (lv_at hl 2 rfl) ?_
              refine lv_iload_n hx hb dX5_build_118 rfl (lv_at hl 3 rfl) ?_
              refine lv_iload hx hb dX5_build_119 (lv_at hl 4 rfl) ?_
              refine lv_iload hx hb dX5_build_121 (lv_at hl 5 rfl) ?_
              refine q_cViE (As := [.int (nI x), .int (nI y), .int (nI wd), .int (nI dp)]) (rest := []) (r := 0) hx hb hml hts hown hE h0 hW hS (c_X5_isBuiltOn l hI (nI x) (nI y) (nI wd) (nI dp)) mw_X5_isBuiltOn (hI.c 0 (by decide)) rfl k_6 t_534 ⟨Nat.le_of_ble_eq_true rfl, Nat.le_of_ble_eq_true rfl⟩ rfl hl.1 (Nat.le_of_ble_eq_true rfl) dX5_build_123 ⟨Nat.zero_le _, Nat.zero_le _⟩ ⟨rfl, rfl⟩ (fun H locs hW hS => ?_)
              refine lv_if_eq (tgt := 139) hx hb dX5_build_126 (by decide) (fun c_126 => ?_) (fun c_126 => ?_)
              · skip
                refine lv_aload_n hx hb dX5_build_139 rfl (lv_at hl 0 rfl) ?_
                refine q_getr hx hb hts hown hW (r := 0) (hI.c 0 (by decide)) rfl k_6 1 (by decide) rfl t_138 (a := ad 2) (hI.o0 1 (by decide)) dX5_build_140 ?_
                refine q_cFiE (As := []) (rest := []) (r := 2) hx hb hml hts hown hE h0 hW hS hE.2.1 (c_size l hI.lh) t_178 t_176 t_174 t_49 (by decide) (by decide +kernel) (hI.c 2 (by decide)) rfl k_0 t_170 ⟨Nat.le_of_ble_eq_true rfl, Nat.le_of_ble_eq_true rfl⟩ rfl hl.1 (Nat.le_of_ble_eq_true rfl) dX5_build_143 ⟨Nat.zero_le _, Nat.zero_le _⟩ ⟨rfl, rfl⟩ (fun H locs hW hS => ?_)
                refine lv_bipush (v := 12) hx hb dX5_build_148 (by decide) ?_
                refine lv_icmp_lt (tgt := 163) hx hb dX5_build_150 (by decide) (fun c_150 => ?_) (fun c_150 => ?_)
                · skip
                  have hI0 := hI
                  refine q_newN hx hb hts hown h0 hW hS (60 + nh) hE9 (kd_h (by omega)) k_2 t_207 t_544 t_66 def_H (by first | decide | omega | (dsimp only; omega)) (by first | decide | omega | (dsimp only; omega)) dX5_build_163 (fun L1 ad1 v1 o1 H hN hW hS => ?_)
                  have e_0 : ad1 0 = ad 0 := hN.2.2.1 _ (hI.c 0 (by decide))
                  have hl : lv_has ls 9 [(0, .ref (ad1 0)), (1, .int (nI g)), (2, .int (nI x)), (3, .int (nI y)), (4, .int (nI wd)), (5, .int (nI dp)), (6, .int e0), (7, .int f)] := by rw [e_0]; exact hl
                  refine lv_dup hx hb dX5_build_166 rfl ?_
                  refine lv_iload_n hx hb dX5_build_167 rfl (lv_at hl 1 rfl) ?_
                  refine lv_iload_n hx hb dX5_build_168 rfl (lv_at hl 2 rfl) ?_
                  refine lv_iload_n hx hb dX5_build_169 rfl (lv_at hl 3 rfl) ?_
                  refine lv_iload hx hb dX5_build_170 (lv_at hl 4 rfl) ?_
                  refine lv_iload hx hb dX5_build_172 (lv_at hl 5 rfl) ?_
                  refine lv_iload hx hb dX5_build_174 (lv_at hl 6 rfl) ?_
                  refine lv_iload hx hb dX5_build_176 (lv_at hl 7 rfl) ?_
                  refine q_cIE (As := [.int (nI g), .int (nI x), .int (nI y), .int (nI wd), .int (nI dp), .int e0, .int f]) (rest := [.ref (ad1 (60 + nh))]) (r := (60 + nh)) hx hb hml hts hown hE h0 hW hS (c_X1_init l (r := (60 + nh)) hN.2.1 (kd_h (by omega)) (nI g) (nI x) (nI y) (nI wd) (nI dp) e0 f) mw_X1_init t_545 ⟨Nat.le_of_ble_eq_true rfl, Nat.le_of_ble_eq_true rfl⟩ rfl hl.1 (Nat.le_of_ble_eq_true rfl) dX5_build_178 ⟨(by first | decide | omega | (dsimp only; omega)), (by first | decide | omega | (dsimp only; omega))⟩ ⟨rfl, rfl⟩ (fun H locs hW hS => ?_)
                  have hv9 : ∀ r, r ≠ (60 + nh) → ((iH v1 (60 + nh) (nI g) (nI x) (nI y) (nI wd) (nI dp) e0 f)) r = v1 r := fun r q => off_up (off_up (off_up (off_up (off_up (off_up (off_up (fun _ _ => rfl))))))) r q
                  have hv3 : ((iH v1 (60 + nh) (nI g) (nI x) (nI y) (nI wd) (nI dp) e0 f)) (60 + nh) = iH (fun _ => z32) (60 + nh) (nI g) (nI x) (nI y) (nI wd) (nI dp) e0 f (60 + nh) := by funext k; simp only [iH, up2, hN.2.2.2.2.1]
                  obtain ⟨v2, hv2⟩ : ∃ z, z = (iH v1 (60 + nh) (nI g) (nI x) (nI y) (nI wd) (nI dp) e0 f) := ⟨_, rfl⟩
                  rw [← hv2] at hW hv9 hv3
                  refine lv_astore (lv' := [(8, .ref (ad1 (60 + nh))), (0, .ref (ad1 0)), (1, .int (nI g)), (2, .int (nI x)), (3, .int (nI y)), (4, .int (nI wd)), (5, .int (nI dp)), (6, .int e0), (7, .int f)]) hx hb dX5_build_181 hl (by decide) rfl (fun ls hl => ?_)
                  refine lv_aload_n hx hb dX5_build_183 rfl (lv_at hl 1 rfl) ?_
                  refine q_getr hx hb hts hown hW (r := 0) (hN.1 _ (hI.c 0 (by decide))) rfl k_6 1 (by decide) rfl t_138 (a := ad1 2) (by rw [hN.2.2.2.2.2.1 0 (by omega), hN.2.2.1 2 (hI.c 2 (by decide))]; exact hI.o0 1 (by decide)) dX5_build_184 ?_
                  refine lv_aload hx hb dX5_build_187 (lv_at hl 0 rfl) ?_
                  have hq1 := hI.lh.new1 hN v2 hv9 (by omega) (by omega) (by omega)
                  refine q_cFiw (n := 1) (As := [.ref (ad1 (60 + nh))]) (rest := []) (r := 2) hx hb hml hts hown hE h0 hW hS hE.2.2.2.1 (c_add_hn l hq1 hn1 (by omega) hN.2.1 (kd_h (by omega))) t_450 t_448 t_446 t_49 (by decide) (by decide +kernel) (hN.1 _ (hI.c 2 (by decide))) rfl k_0 t_443 ⟨Nat.le_of_ble_eq_true rfl, Nat.le_of_ble_eq_true rfl⟩ rfl hl.1 (Nat.le_of_ble_eq_true rfl) dX5_build_189 ⟨(by first | decide | omega | (dsimp only; omega)), (by first | decide | omega | (dsimp only; omega))⟩ (fun rz P H locs hp hW hS => ?_)
                  have hAd : Added L1 ad1 v2 o1 P 2 16 nh 60 := by obtain ⟨_, rfl⟩ := hp; exact Added_m (hq1.old (by omega) (Or.inr ⟨hn1, rfl⟩)) (by decide)
                  obtain ⟨L2, ad2, v3, o2⟩ := P
                  have hW : WD G L2 ad2 v3 o2 w s H := hW
                  have hI2 : PI G.2.2.2 L2 ad2 v3 o2 ng (nh + 1) nl ns (up1 ow nh g) (up1 gx nh x) (up1 gy nh y) (up1 gw nh wd) (up1 gd nh dp) := hI.addH (g := g) (x := x) (y := y) (wd := wd) (dp := dp) hN (by omega) hv9 (Or.inr ⟨by omega, rfl⟩) hAd ⟨hg, by omega, by omega, by omega, by omega, by omega, by omega⟩ (by rw [hv2]; simp [iH, up2])
                  have hA2 : ∀ r, r ∈ L → r ∈ L2 ∧ ad2 r = ad r := fun r q => ⟨(hAd.1 r (hN.1 r q)).1, ((hAd.1 r (hN.1 r q)).2).trans (hN.2.2.1 r q)⟩
                  have f_0 : ad2 0 = ad1 0 := (hAd.1 _ (hN.1 _ (hI2.c 0 (by decide) |> fun _ => hI0.c 0 (by decide)))).2
                  have f_e : ad2 (60 + nh) = ad1 (60 + nh) := (hAd.1 _ hN.2.1).2
                  have hl : lv_has ls 9 [(8, .ref (ad2 (60 + nh))), (0, .ref (ad2 0)), (1, .int (nI g)), (2, .int (nI x)), (3, .int (nI y)), (4, .int (nI wd)), (5, .int (nI dp)), (6, .int e0), (7, .int f)] := by rw [f_0, f_e]; exact hl
                  refine lv_pop hx hb dX5_build_194 rfl ?_
                  have hh9 : nh < nh + 1 := Nat.lt_succ_self _
                  refine lv_aload_n hx hb dX5_build_195 rfl (lv_at hl 1 rfl) ?_
                  refine lv_aload hx hb dX5_build_196 (lv_at hl 0 rfl) ?_
                  refine q_cVvE (As := [.ref (ad2 (60 + nh))]) (rest := []) (r := 0) hx hb hml hts hown hE h0 hW hS (c_X5_makeWhole l hI2 hh9) mw_X5_makeWhole (hI2.c 0 (by decide)) rfl k_6 t_584 ⟨Nat.le_of_ble_eq_true rfl, Nat.le_of_ble_eq_true rfl⟩ rfl hl.1 (Nat.le_of_ble_eq_true rfl) dX5_build_198 ⟨(by first | decide | omega | (dsimp only; omega)), (by first | decide | omega | (dsimp only; omega))⟩ ⟨rfl, rfl⟩ (fun H locs hW hS => ?_)
                  have hI2 : PI G.2.2.2 L2 ad2 (mkW v3 (up1 gx nh x) (up1 gy nh y) (up1 gw nh wd) (up1 gd nh dp) nh) o2 ng (nh + 1) nl ns (up1 ow nh g) (up1 gx nh x) (up1 gy nh y) (up1 gw nh wd) (up1 gd nh dp) := hI2.kp kp_mkW
                  refine lv_aload_n hx hb dX5_build_201 rfl (lv_at hl 1 rfl) ?_
                  refine q_getr hx hb hts hown hW (r := 0) (hI2.c 0 (by decide)) rfl k_6 1 (by decide) rfl t_138 (a := ad2 2) (hI2.o0 1 (by decide)) dX5_build_202 ?_
                  refine q_cFiE (As := []) (rest := []) (r := 2) hx hb hml hts hown hE h0 hW hS hE.2.1 (c_size l hI2.lh) t_178 t_176 t_174 t_49 (by decide) (by decide +kernel) (hI2.c 2 (by decide)) rfl k_0 t_170 ⟨Nat.le_of_ble_eq_true rfl, Nat.le_of_ble_eq_true rfl⟩ rfl hl.1 (Nat.le_of_ble_eq_true rfl) dX5_build_205 ⟨by decide, by decide⟩ ⟨rfl, rfl⟩ (fun H locs hW hS => ?_)
                  refine lv_iconst (v := 1) hx hb dX5_build_210 (by decide) ?_
                  refine lv_isub hx hb dX5_build_211 ?_
                  exact q_iretw hx hb hr hlocks hW hS (by first | decide | omega | (dsimp only; omega)) (by first | decide | omega | (dsimp only; omega)) dX5_build_212 (⟨by rw [nI_pred], hI2, ⟨hA2, fun r q => (hAd.2.1 r q).elim (fun z => (hN.2.2.2.2.2.2.1 r z).imp id (fun z => Or.inl z)) (fun z => Or.inr (Or.inr ⟨by omega, fun y => z.2 (by have := hN.1 _ y; rw [z.1] at this; exact this)⟩)), fun r q => (hAd.2.2.2.2.2.1 r (by omega) (by omega)).trans (hN.2.2.2.2.2.1 r (by omega)), fun r q => (mkW_o (by omega)).trans (((hAd.2.2.2.1 r (by omega) (by omega)).trans (hv9 r (by omega))).trans (hN.2.2.2.1 r (by omega)))⟩, (mkW_o (by omega)).trans ((hAd.2.2.2.1 _ (by omega) (by omega)).trans hv3), mkW_4 (((hAd.2.2.2.1 4 (by omega) (by omega)).trans (hv9 4 (by omega))).trans (hN.2.2.2.1 4 (by omega)))⟩)
                · skip
                  exact absurd (nI_lt (b := 12) hng (by decide)) c_150
              · skip
                exact absurd k7 c_126
            · skip
              exact absurd (k6.symm.trans c_103) (by decide)
          · skip
            exact absurd (k5.symm.trans c_81) (by decide)
        · skip
          exact absurd (k4.symm.trans c_60) (by decide)
    · skip
      exact absurd (k2.symm.trans c_24) (by decide)
