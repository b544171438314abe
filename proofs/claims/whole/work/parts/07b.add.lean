/-! ArrayList.add, for each of the lists -/
set_option maxHeartbeats 4000000 in
set_option maxRecDepth 100000 in
theorem c_newLen (l : Launch) {G : GG} {L : List Nat} {ad : Nat → Nat} {v : Nat → Nat → Int32} {o : Nat → Nat → Option Nat} {w : Nat → Int64}  : CtI l G L ad v o w yJ8_newLength_cabcc cJ8_newLength_cabcc 4 .int ({ frames := 1, cells := 0, slots := 0, locals := 14 }) [.int 10, .int 1, .int 5] (fun r u => r = 15 ∧ u = v) := by
  refine q_ofI (by decide) (Nat.le_of_ble_eq_true rfl) ?_
  intro p e s m below meth c hx hb hr hml hts hown hlocks hE h0 hW hS ls hl
  generalize hH : s.heap = H at hW
  have hS : va_S (Ab G.2.2.1) s.heap H [] := hH ▸ hS
  obtain ⟨locs, hlc⟩ : ∃ z : List Loc, z = [] := ⟨_, rfl⟩
  rw [← hlc] at hS ⊢
  have hl : lv_has ls 4 [(0, .int 10), (1, .int 1), (2, .int 5)] := hl
  refine lv_iload_n hx hb dJ8_newLength_cabcc_0 rfl (lv_at hl 0 rfl) ?_
  refine lv_iload_n hx hb dJ8_newLength_cabcc_1 rfl (lv_at hl 1 rfl) ?_
  refine lv_iload_n hx hb dJ8_newLength_cabcc_2 rfl (lv_at hl 2 rfl) ?_
  refine q_max hx hb hml hl.1 hts hown m_max t_466 (Nat.le_of_ble_eq_true rfl) (Nat.le_of_ble_eq_true rfl) (Nat.zero_le _) (Nat.zero_le _) dJ8_newLength_cabcc_3 ?_
  refine lv_iadd hx hb dJ8_newLength_cabcc_6 ?_
  refine lv_istore_n (lv' := [(3, .int (10 + (imax 1 5))), (0, .int 10), (1, .int 1), (2, .int 5)]) hx hb dJ8_newLength_cabcc_7 rfl hl (by decide) rfl (fun ls hl => ?_)
  refine lv_iconst (v := 0) hx hb dJ8_newLength_cabcc_8 (by decide) ?_
  refine lv_iload_n hx hb dJ8_newLength_cabcc_9 rfl (lv_at hl 0 rfl) ?_
  refine lv_icmp_ge (tgt := 21) hx hb dJ8_newLength_cabcc_10 (by decide) (fun c_10 => ?_) (fun c_10 => ?_)
  · skip
    exact absurd c_10 (by decide)
  · skip
    refine lv_iload_n hx hb dJ8_newLength_cabcc_13 rfl (lv_at hl 0 rfl) ?_
    refine lv_ldc (v := 2147483639) hx hb hown (hts _ t_467) dJ8_newLength_cabcc_14 ?_
    refine lv_icmp_gt (tgt := 21) hx hb dJ8_newLength_cabcc_16 (by decide) (fun c_16 => ?_) (fun c_16 => ?_)
    · skip
      exact absurd c_16 (by decide)
    · skip
      refine lv_iload_n hx hb dJ8_newLength_cabcc_19 rfl (lv_at hl 0 rfl) ?_
      exact q_iret hx hb hr hlocks hW hS (Nat.le_refl _) (Nat.le_refl _) dJ8_newLength_cabcc_20 (⟨by decide, rfl⟩)

set_option maxHeartbeats 4000000 in
set_option maxRecDepth 100000 in
theorem c_growI_g0 (l : Launch) {G : GG} {L : List Nat} {ad : Nat → Nat} {v : Nat → Nat → Int32} {o : Nat → Nat → Option Nat} {w : Nat → Int64} {n : Nat} (hI : LI L ad v o G.2.2.2 1 n 13 19 50) (hn0 : n = 0) (hX9 : 13 ∉ L) : CtRw l G L ad v o w yJx4a65c_grow_92f84 cJx4a65c_grow_92f84 4 (.array (.object "java/lang/Object")) ({ frames := 1, cells := 1, slots := 10, locals := 14 }) [.ref (ad 1), .int 1] (fun ra P => ∃ q, ra = q ∧ P = (L ++ [13], upA ad 13 q, up1 v 13 z32, up2 (up1 o 13 nOp) 1 1 (some (upA ad 13 q 13)))) := by
  have hn9 := hn0; subst hn0; have hed : o 1 1 = some G.2.2.2 := by rcases hI.2.2.2.2.2.2.2.2.2.2 with ⟨_, h⟩ | ⟨h, _⟩ | ⟨h, _⟩; exact h; exact absurd h (by omega); exact absurd h (by omega)
  refine Met.ofW (cc := cJx4a65c_grow_92f84) (maxL := 4) (ret := (some (.array (.object "java/lang/Object")))) (by decide) rfl ?_
  intro p e s m args below meth c s₁ B hml0 hv
  obtain ⟨rfl, hE, h0, hW⟩ := hv
  have hx := B.exec; have hb := B.bytes; have hml := hml0; have hr := B.returns; have hts := hE.hts (args := ([.ref (ad 1), .int 1] : List Value).toArray); have hown : s.vm.findClass RJx4a65c = some m.cls := findClass_of_methodNamed B.named; have hlocks := B.notSynchronized
  have hl := lv_entry ([.ref (ad 1), .int 1] : List Value) (n := 4) (Nat.le_of_ble_eq_true rfl)
  rw [lg_entry_eq]
  generalize (lg_sl ([.ref (ad 1), .int 1] : List Value) ++ List.replicate (4 - (lg_sl ([.ref (ad 1), .int 1] : List Value)).length) Slot.unset).toArray = ls at hl ⊢
  generalize hH : s.heap = H at hW ⊢
  have hS : va_S (Ab G.2.2.1) s.heap H [] := hH ▸ va_S.rf
  obtain ⟨locs, hlc⟩ : ∃ z : List Loc, z = [] := ⟨_, rfl⟩
  rw [← hlc] at hS ⊢
  have hl : lv_has ls 4 [(0, .ref (ad 1)), (1, .int 1)] := hl
  refine lv_aload_n hx hb dJx4a65c_grow_92f84_0 rfl (lv_at hl 0 rfl) ?_
  refine q_getr hx hb hts hown hW (r := 1) hI.m rfl k_0 1 (by decide) rfl t_91 (a := G.2.2.2) hed dJx4a65c_grow_92f84_1 ?_
  refine q_tdlen hx hb hE hS dJx4a65c_grow_92f84_4 ?_
  refine lv_istore_n (lv' := [(2, .int 0), (0, .ref (ad 1)), (1, .int 1)]) hx hb dJx4a65c_grow_92f84_5 rfl hl (by decide) rfl (fun ls hl => ?_)
  refine lv_iload_n hx hb dJx4a65c_grow_92f84_6 rfl (lv_at hl 0 rfl) ?_
  refine lv_if_gt (tgt := 20) hx hb dJx4a65c_grow_92f84_7 (by decide) (fun c_7 => ?_) (fun c_7 => ?_)
  · skip
    exact absurd c_7 (by decide)
  · skip
    refine lv_aload_n hx hb dJx4a65c_grow_92f84_10 rfl (lv_at hl 1 rfl) ?_
    refine q_getr hx hb hts hown hW (r := 1) hI.m rfl k_0 1 (by decide) rfl t_91 (a := G.2.2.2) hed dJx4a65c_grow_92f84_11 ?_
    refine q_tdget hx hb hts hown hE hS t_89 dJx4a65c_grow_92f84_14 ?_
    refine lv_acmp_eq (rx := some (G.2.2.2)) (ry := some (G.2.2.2)) (tgt := 45) hx hb dJx4a65c_grow_92f84_17 (by decide) (fun c_17 => ?_) (fun c_17 => ?_)
    · skip
      refine lv_aload_n hx hb dJx4a65c_grow_92f84_45 rfl (lv_at hl 1 rfl) ?_
      refine lv_bipush (v := 10) hx hb dJx4a65c_grow_92f84_46 (by decide) ?_
      refine lv_iload_n hx hb dJx4a65c_grow_92f84_48 rfl (lv_at hl 2 rfl) ?_
      refine q_max hx hb hml hl.1 hts hown m_max t_500 (Nat.le_of_ble_eq_true rfl) (Nat.le_of_ble_eq_true rfl) (Nat.zero_le _) (Nat.zero_le _) dJx4a65c_grow_92f84_49 ?_
      refine q_newo hx hb hts hown hE h0 hW hS 13 hX9 rfl t_501 rfl (by decide) (by first | decide | omega | (dsimp only; omega)) (by first | decide | omega | (dsimp only; omega)) dJx4a65c_grow_92f84_52 (fun ad1 H q9 had hW hS => ?_)
      subst had
      have hl : lv_has ls 4 [(2, .int 0), (0, .ref ((upA ad 13 q9) 1)), (1, .int 1)] := by first | exact hl | (rw [e9]; exact hl)
      refine lv_dup_x1 hx hb dJx4a65c_grow_92f84_55 rfl rfl ?_
      refine q_putr hx hb hts hown hW hS (r := 1) (List.mem_append_left _ hI.m) rfl k_0 1 (by decide) rfl t_91 rfl (t := .array (.object "java/lang/Object")) (by decide +kernel) rfl rfl dJx4a65c_grow_92f84_56 (fun H locs hW hS => ?_)
      exact q_aretw hx hb hr (Or.inr ⟨_, rfl⟩) hlocks hW hS (by first | decide | omega | (dsimp only; omega)) (by first | decide | omega | (dsimp only; omega)) dJx4a65c_grow_92f84_59 (⟨q9, upA_s, rfl⟩)
    · skip
      exact absurd rfl c_17

set_option maxHeartbeats 4000000 in
set_option maxRecDepth 100000 in
theorem c_grow_g0 (l : Launch) {G : GG} {L : List Nat} {ad : Nat → Nat} {v : Nat → Nat → Int32} {o : Nat → Nat → Option Nat} {w : Nat → Int64} {n : Nat} (hI : LI L ad v o G.2.2.2 1 n 13 19 50) (hn0 : n = 0) (hX9 : 13 ∉ L) : CtRw l G L ad v o w yJx4a65c_grow_d5877 cJx4a65c_grow_d5877 1 (.array (.object "java/lang/Object")) ({ frames := 2, cells := 1, slots := 10, locals := 37 }) [.ref (ad 1)] (fun ra P => ∃ q, ra = q ∧ P = (L ++ [13], upA ad 13 q, up1 v 13 z32, up2 (up1 o 13 nOp) 1 1 (some (upA ad 13 q 13)))) := by
  have hn9 := hn0; subst hn0
  refine Met.ofW (cc := cJx4a65c_grow_d5877) (maxL := 1) (ret := (some (.array (.object "java/lang/Object")))) (by decide) rfl ?_
  intro p e s m args below meth c s₁ B hml0 hv
  obtain ⟨rfl, hE, h0, hW⟩ := hv
  have hx := B.exec; have hb := B.bytes; have hml := hml0; have hr := B.returns; have hts := hE.hts (args := ([.ref (ad 1)] : List Value).toArray); have hown : s.vm.findClass RJx4a65c = some m.cls := findClass_of_methodNamed B.named; have hlocks := B.notSynchronized
  have hl := lv_entry ([.ref (ad 1)] : List Value) (n := 1) (Nat.le_of_ble_eq_true rfl)
  rw [lg_entry_eq]
  generalize (lg_sl ([.ref (ad 1)] : List Value) ++ List.replicate (1 - (lg_sl ([.ref (ad 1)] : List Value)).length) Slot.unset).toArray = ls at hl ⊢
  generalize hH : s.heap = H at hW ⊢
  have hS : va_S (Ab G.2.2.1) s.heap H [] := hH ▸ va_S.rf
  obtain ⟨locs, hlc⟩ : ∃ z : List Loc, z = [] := ⟨_, rfl⟩
  rw [← hlc] at hS ⊢
  have hl : lv_has ls 1 [(0, .ref (ad 1))] := hl
  refine lv_aload_n hx hb dJx4a65c_grow_d5877_0 rfl (lv_at hl 0 rfl) ?_
  refine lv_aload_n hx hb dJx4a65c_grow_d5877_1 rfl (lv_at hl 0 rfl) ?_
  refine q_get hx hb hts hown hW (r := 1) hI.m rfl k_0 2 (by decide) rfl t_92 (x := (nI 0)) hI.s dJx4a65c_grow_d5877_2 ?_
  refine lv_iconst (v := 1) hx hb dJx4a65c_grow_d5877_5 (by decide) ?_
  refine lv_iadd hx hb dJx4a65c_grow_d5877_6 ?_
  refine lv_topi (fun xt et => ?_)
  obtain rfl : xt = 1 := et.trans (by decide)
  clear et
  refine q_cVrw (As := [.int 1]) (rest := []) (r := 1) hx hb hml hts hown hE h0 hW hS (c_growI_g0 l hI hn9 hX9) mw_Jx4a65c_grow_92f84 hI.m rfl k_0 t_459 ⟨Nat.le_of_ble_eq_true rfl, Nat.le_of_ble_eq_true rfl⟩ rfl hl.1 (Nat.le_of_ble_eq_true rfl) dJx4a65c_grow_d5877_7 ⟨(by first | decide | omega | (dsimp only; omega)), (by first | decide | omega | (dsimp only; omega))⟩ (fun ra P H locs hp hW hS => ?_)
  obtain ⟨q9, hq9, rfl⟩ := hp
  subst ra
  have hW : WD G (L ++ [13]) (upA ad 13 q9) (up1 v 13 z32) (up2 (up1 o 13 nOp) 1 1 (some (upA ad 13 q9 13))) w s H := hW
  have hl : lv_has ls 1 [(0, .ref ((upA ad 13 q9) 1))] := by first | exact hl | (rw [e9]; exact hl)
  exact q_aretw hx hb hr (Or.inr ⟨_, rfl⟩) hlocks hW hS (by first | decide | omega | (dsimp only; omega)) (by first | decide | omega | (dsimp only; omega)) dJx4a65c_grow_d5877_10 (⟨q9, rfl, rfl⟩)

set_option maxHeartbeats 4000000 in
set_option maxRecDepth 100000 in
theorem c_add3_g0 (l : Launch) {G : GG} {L : List Nat} {ad : Nat → Nat} {v : Nat → Nat → Int32} {o : Nat → Nat → Option Nat} {w : Nat → Int64} {n : Nat} (hI : LI L ad v o G.2.2.2 1 n 13 19 50) (hn0 : n = 0) (hX9 : 13 ∉ L) (hmq : 50 + n ∈ L) (hkq : kd (50 + n) = 1) : CtVw l G L ad v o w yJx4a65c_add_72be8 cJx4a65c_add_72be8 4 ({ frames := 3, cells := 1, slots := 10, locals := 57 }) [.ref (ad 1), .ref (ad (50 + 0)), .ref G.2.2.2, .int (nI 0)] (fun P => ∃ q, P = (L ++ [13], upA ad 13 q, up2 (up1 v 13 z32) 1 2 (nI 0 + 1), up2 (up2 (up1 o 13 nOp) 1 1 (some (upA ad 13 q 13))) 13 0 (some (upA ad 13 q (50 + 0))))) := by
  have hn9 := hn0; subst hn0; have hed : o 1 1 = some G.2.2.2 := by rcases hI.2.2.2.2.2.2.2.2.2.2 with ⟨_, h⟩ | ⟨h, _⟩ | ⟨h, _⟩; exact h; exact absurd h (by omega); exact absurd h (by omega)
  refine Met.ofW (cc := cJx4a65c_add_72be8) (maxL := 4) (ret := none) (by decide) rfl ?_
  intro p e s m args below meth c s₁ B hml0 hv
  obtain ⟨rfl, hE, h0, hW⟩ := hv
  have hx := B.exec; have hb := B.bytes; have hml := hml0; have hr := B.returns; have hts := hE.hts (args := ([.ref (ad 1), .ref (ad (50 + 0)), .ref G.2.2.2, .int (nI 0)] : List Value).toArray); have hown : s.vm.findClass RJx4a65c = some m.cls := findClass_of_methodNamed B.named; have hlocks := B.notSynchronized
  have hl := lv_entry ([.ref (ad 1), .ref (ad (50 + 0)), .ref G.2.2.2, .int (nI 0)] : List Value) (n := 4) (Nat.le_of_ble_eq_true rfl)
  rw [lg_entry_eq]
  generalize (lg_sl ([.ref (ad 1), .ref (ad (50 + 0)), .ref G.2.2.2, .int (nI 0)] : List Value) ++ List.replicate (4 - (lg_sl ([.ref (ad 1), .ref (ad (50 + 0)), .ref G.2.2.2, .int (nI 0)] : List Value)).length) Slot.unset).toArray = ls at hl ⊢
  generalize hH : s.heap = H at hW ⊢
  have hS : va_S (Ab G.2.2.1) s.heap H [] := hH ▸ va_S.rf
  obtain ⟨locs, hlc⟩ : ∃ z : List Loc, z = [] := ⟨_, rfl⟩
  rw [← hlc] at hS ⊢
  have hl : lv_has ls 4 [(0, .ref (ad 1)), (1, .ref (ad (50 + 0))), (2, .ref G.2.2.2), (3, .int (nI 0))] := hl
  refine lv_iload_n hx hb dJx4a65c_add_72be8_0 rfl (lv_at hl 3 rfl) ?_
  refine lv_aload_n hx hb dJx4a65c_add_72be8_1 rfl (lv_at hl 2 rfl) ?_
  refine q_tdlen hx hb hE hS dJx4a65c_add_72be8_2 ?_
  refine lv_icmp_ne (tgt := 11) hx hb dJx4a65c_add_72be8_3 (by decide) (fun c_3 => ?_) (fun c_3 => ?_)
  · skip
    exact absurd rfl c_3
  · skip
    refine lv_aload_n hx hb dJx4a65c_add_72be8_6 rfl (lv_at hl 0 rfl) ?_
    refine q_cVrw (As := []) (rest := []) (r := 1) hx hb hml hts hown hE h0 hW hS (c_grow_g0 l hI hn9 hX9) mw_Jx4a65c_grow_d5877 hI.m rfl k_0 t_455 ⟨Nat.le_of_ble_eq_true rfl, Nat.le_of_ble_eq_true rfl⟩ rfl hl.1 (Nat.le_of_ble_eq_true rfl) dJx4a65c_add_72be8_7 ⟨(by first | decide | omega | (dsimp only; omega)), (by first | decide | omega | (dsimp only; omega))⟩ (fun ra P H locs hp hW hS => ?_)
    obtain ⟨q9, hq9, rfl⟩ := hp
    subst ra
    have hW : WD G (L ++ [13]) (upA ad 13 q9) (up1 v 13 z32) (up2 (up1 o 13 nOp) 1 1 (some (upA ad 13 q9 13))) w s H := hW
    have e9 : upA ad 13 q9 (50 + 0) = ad (50 + 0) := upA_n (by omega)
    have hl : lv_has ls 4 [(0, .ref ((upA ad 13 q9) 1)), (1, .ref ((upA ad 13 q9) (50 + 0))), (2, .ref G.2.2.2), (3, .int (nI 0))] := by first | exact hl | (rw [e9]; exact hl)
    refine lv_astore_n (lv' := [(2, .ref ((upA ad 13 q9) 13)), (0, .ref ((upA ad 13 q9) 1)), (1, .ref ((upA ad 13 q9) (50 + 0))), (3, .int (nI 0))]) hx hb dJx4a65c_add_72be8_10 rfl hl (by decide) rfl (fun ls hl => ?_)
    refine lv_aload_n hx hb dJx4a65c_add_72be8_11 rfl (lv_at hl 0 rfl) ?_
    refine lv_iload_n hx hb dJx4a65c_add_72be8_12 rfl (lv_at hl 3 rfl) ?_
    refine lv_aload_n hx hb dJx4a65c_add_72be8_13 rfl (lv_at hl 2 rfl) ?_
    refine q_oast hx hb hts hW hS (r := 13) (q := (50 + 0)) (List.mem_append_right _ (List.mem_singleton.mpr rfl)) rfl (List.mem_append_left _ hmq) hkq k_1 t_1145 (0) rfl (by decide) (by decide) dJx4a65c_add_72be8_14 (fun H locs hW hS => ?_)
    refine lv_aload_n hx hb dJx4a65c_add_72be8_15 rfl (lv_at hl 1 rfl) ?_
    refine lv_iload_n hx hb dJx4a65c_add_72be8_16 rfl (lv_at hl 3 rfl) ?_
    refine lv_iconst (v := 1) hx hb dJx4a65c_add_72be8_17 (by decide) ?_
    refine lv_iadd hx hb dJx4a65c_add_72be8_18 ?_
    refine q_put hx hb hts hown hW hS (r := 1) (List.mem_append_left _ hI.m) rfl k_0 2 (by decide) rfl t_92 rfl (t := .int) (by decide +kernel) rfl rfl dJx4a65c_add_72be8_19 (fun H locs hW hS => ?_)
    exact q_vretw hx hb hr hlocks hW hS (by first | decide | omega | (dsimp only; omega)) (by first | decide | omega | (dsimp only; omega)) dJx4a65c_add_72be8_22 (⟨q9, rfl⟩)

set_option maxHeartbeats 4000000 in
set_option maxRecDepth 100000 in
theorem c_add_g0 (l : Launch) {G : GG} {L : List Nat} {ad : Nat → Nat} {v : Nat → Nat → Int32} {o : Nat → Nat → Option Nat} {w : Nat → Int64} {n : Nat} (hI : LI L ad v o G.2.2.2 1 n 13 19 50) (hn0 : n = 0) (hX9 : 13 ∉ L) (hmq : 50 + n ∈ L) (hkq : kd (50 + n) = 1) : CtIw l G L ad v o w yJx4a65c_add_9ea2d cJx4a65c_add_9ea2d 2 .boolean ({ frames := 4, cells := 1, slots := 10, locals := 80 }) [.ref (ad 1), .ref (ad (50 + 0))] (fun r P => r = 1 ∧ ∃ q, P = (L ++ [13], upA ad 13 q, up2 (up1 (up2 v 1 0 (v 1 0 + 1)) 13 z32) 1 2 (nI 0 + 1), up2 (up2 (up1 o 13 nOp) 1 1 (some (upA ad 13 q 13))) 13 0 (some (upA ad 13 q (50 + 0))))) := by
  have hn9 := hn0; subst hn0; have hed : o 1 1 = some G.2.2.2 := by rcases hI.2.2.2.2.2.2.2.2.2.2 with ⟨_, h⟩ | ⟨h, _⟩ | ⟨h, _⟩; exact h; exact absurd h (by omega); exact absurd h (by omega)
  refine Met.ofW (cc := cJx4a65c_add_9ea2d) (maxL := 2) (ret := (some .boolean)) (by decide) rfl ?_
  intro p e s m args below meth c s₁ B hml0 hv
  obtain ⟨rfl, hE, h0, hW⟩ := hv
  have hx := B.exec; have hb := B.bytes; have hml := hml0; have hr := B.returns; have hts := hE.hts (args := ([.ref (ad 1), .ref (ad (50 + 0))] : List Value).toArray); have hown : s.vm.findClass RJx4a65c = some m.cls := findClass_of_methodNamed B.named; have hlocks := B.notSynchronized
  have hl := lv_entry ([.ref (ad 1), .ref (ad (50 + 0))] : List Value) (n := 2) (Nat.le_of_ble_eq_true rfl)
  rw [lg_entry_eq]
  generalize (lg_sl ([.ref (ad 1), .ref (ad (50 + 0))] : List Value) ++ List.replicate (2 - (lg_sl ([.ref (ad 1), .ref (ad (50 + 0))] : List Value)).length) Slot.unset).toArray = ls at hl ⊢
  generalize hH : s.heap = H at hW ⊢
  have hS : va_S (Ab G.2.2.1) s.heap H [] := hH ▸ va_S.rf
  obtain ⟨locs, hlc⟩ : ∃ z : List Loc, z = [] := ⟨_, rfl⟩
  rw [← hlc] at hS ⊢
  have hl : lv_has ls 2 [(0, .ref (ad 1)), (1, .ref (ad (50 + 0)))] := hl
  refine lv_aload_n hx hb dJx4a65c_add_9ea2d_0 rfl (lv_at hl 0 rfl) ?_
  refine lv_dup hx hb dJx4a65c_add_9ea2d_1 rfl ?_
  refine q_getS hx hb hts hown hW (r := 1) hI.m rfl k_0 0 (by decide) rfl t_94 t_95 (x := (v 1 0)) rfl dJx4a65c_add_9ea2d_2 ?_
  refine lv_iconst (v := 1) hx hb dJx4a65c_add_9ea2d_5 (by decide) ?_
  refine lv_iadd hx hb dJx4a65c_add_9ea2d_6 ?_
  refine q_putS hx hb hts hown hW hS (r := 1) hI.m rfl k_0 0 (by decide) rfl t_94 t_95 rfl (t := .int) (by decide +kernel) rfl rfl dJx4a65c_add_9ea2d_7 (fun H locs hW hS => ?_)
  refine lv_aload_n hx hb dJx4a65c_add_9ea2d_10 rfl (lv_at hl 0 rfl) ?_
  refine lv_aload_n hx hb dJx4a65c_add_9ea2d_11 rfl (lv_at hl 1 rfl) ?_
  refine lv_aload_n hx hb dJx4a65c_add_9ea2d_12 rfl (lv_at hl 0 rfl) ?_
  refine q_getr hx hb hts hown hW (r := 1) hI.m rfl k_0 1 (by decide) rfl t_91 (a := G.2.2.2) hed dJx4a65c_add_9ea2d_13 ?_
  refine lv_aload_n hx hb dJx4a65c_add_9ea2d_16 rfl (lv_at hl 0 rfl) ?_
  refine q_get hx hb hts hown hW (r := 1) hI.m rfl k_0 2 (by decide) rfl t_92 (x := (nI 0)) hI.s dJx4a65c_add_9ea2d_17 ?_
  refine q_cVvw (As := [.ref (ad (50 + 0)), .ref G.2.2.2, .int (nI 0)]) (rest := []) (r := 1) hx hb hml hts hown hE h0 hW hS (c_add3_g0 l (hI.cong (v' := (up2 v 1 0 (v 1 0 + 1))) rfl) hn9 hX9 hmq hkq) mw_Jx4a65c_add_72be8 hI.m rfl k_0 t_451 ⟨Nat.le_of_ble_eq_true rfl, Nat.le_of_ble_eq_true rfl⟩ rfl hl.1 (Nat.le_of_ble_eq_true rfl) dJx4a65c_add_9ea2d_20 ⟨(by first | decide | omega | (dsimp only; omega)), (by first | decide | omega | (dsimp only; omega))⟩ (fun  P H locs hp hW hS => ?_)
  obtain ⟨q9, rfl⟩ := hp
  have hW : WD G (L ++ [13]) (upA ad 13 q9) (up2 (up1 (up2 v 1 0 (v 1 0 + 1)) 13 z32) 1 2 (nI 0 + 1)) (up2 (up2 (up1 o 13 nOp) 1 1 (some (upA ad 13 q9 13))) 13 0 (some (upA ad 13 q9 (50 + 0)))) w s H := hW
  have e9 : upA ad 13 q9 (50 + 0) = ad (50 + 0) := upA_n (by omega)
  have hl : lv_has ls 2 [(0, .ref ((upA ad 13 q9) 1)), (1, .ref ((upA ad 13 q9) (50 + 0)))] := by first | exact hl | (rw [e9]; exact hl)
  refine lv_iconst (v := 1) hx hb dJx4a65c_add_9ea2d_23 (by decide) ?_
  exact q_zretw hx hb hr hlocks hW hS (by first | decide | omega | (dsimp only; omega)) (by first | decide | omega | (dsimp only; omega)) (Or.inr rfl) dJx4a65c_add_9ea2d_24 (⟨rfl, q9, rfl⟩)

set_option maxHeartbeats 4000000 in
set_option maxRecDepth 100000 in
theorem c_add3_gm (l : Launch) {G : GG} {L : List Nat} {ad : Nat → Nat} {v : Nat → Nat → Int32} {o : Nat → Nat → Option Nat} {w : Nat → Int64} {n : Nat} (hI : LI L ad v o G.2.2.2 1 n 13 19 50) (hn1 : 0 < n) (hn2 : n < 10) (hmq : 50 + n ∈ L) (hkq : kd (50 + n) = 1) : CtVw l G L ad v o w yJx4a65c_add_72be8 cJx4a65c_add_72be8 4 ({ frames := 0, cells := 0, slots := 0, locals := 0 }) [.ref (ad 1), .ref (ad (50 + n)), .ref (ad 13), .int (nI n)] (fun P => P = (L, ad, up2 v 1 2 (nI n + 1), up2 o 13 n (some (ad (50 + n))))) := by
  obtain ⟨hXm, hed⟩ : 13 ∈ L ∧ o 1 1 = some (ad 13) := by rcases hI.2.2.2.2.2.2.2.2.2.2 with ⟨h, _⟩ | ⟨_, h, h1, h2, h3⟩ | ⟨h, h1, h2, h3⟩; exact absurd h (by omega); exact ⟨h1, h2⟩; exact absurd h (by omega)
  refine Met.ofW (cc := cJx4a65c_add_72be8) (maxL := 4) (ret := none) (by decide) rfl ?_
  intro p e s m args below meth c s₁ B hml0 hv
  obtain ⟨rfl, hE, h0, hW⟩ := hv
  have hx := B.exec; have hb := B.bytes; have hml := hml0; have hr := B.returns; have hts := hE.hts (args := ([.ref (ad 1), .ref (ad (50 + n)), .ref (ad 13), .int (nI n)] : List Value).toArray); have hown : s.vm.findClass RJx4a65c = some m.cls := findClass_of_methodNamed B.named; have hlocks := B.notSynchronized
  have hl := lv_entry ([.ref (ad 1), .ref (ad (50 + n)), .ref (ad 13), .int (nI n)] : List Value) (n := 4) (Nat.le_of_ble_eq_true rfl)
  rw [lg_entry_eq]
  generalize (lg_sl ([.ref (ad 1), .ref (ad (50 + n)), .ref (ad 13), .int (nI n)] : List Value) ++ List.replicate (4 - (lg_sl ([.ref (ad 1), .ref (ad (50 + n)), .ref (ad 13), .int (nI n)] : List Value)).length) Slot.unset).toArray = ls at hl ⊢
  generalize hH : s.heap = H at hW ⊢
  have hS : va_S (Ab G.2.2.1) s.heap H [] := hH ▸ va_S.rf
  obtain ⟨locs, hlc⟩ : ∃ z : List Loc, z = [] := ⟨_, rfl⟩
  rw [← hlc] at hS ⊢
  have hl : lv_has ls 4 [(0, .ref (ad 1)), (1, .ref (ad (50 + n))), (2, .ref (ad 13)), (3, .int (nI n))] := hl
  refine lv_iload_n hx hb dJx4a65c_add_72be8_0 rfl (lv_at hl 3 rfl) ?_
  refine lv_aload_n hx hb dJx4a65c_add_72be8_1 rfl (lv_at hl 2 rfl) ?_
  refine q_oalen hx hb hW (r := 13) hXm rfl (x := 10) rfl dJx4a65c_add_72be8_2 ?_
  refine lv_icmp_ne (tgt := 11) hx hb dJx4a65c_add_72be8_3 (by decide) (fun c_3 => ?_) (fun c_3 => ?_)
  · skip
    refine lv_aload_n hx hb dJx4a65c_add_72be8_11 rfl (lv_at hl 2 rfl) ?_
    refine lv_iload_n hx hb dJx4a65c_add_72be8_12 rfl (lv_at hl 3 rfl) ?_
    refine lv_aload_n hx hb dJx4a65c_add_72be8_13 rfl (lv_at hl 1 rfl) ?_
    refine q_oast hx hb hts hW hS (r := 13) (q := (50 + n)) hXm rfl hmq hkq k_1 t_1145 (n) rfl (show _ < 10 by omega) (by decide) dJx4a65c_add_72be8_14 (fun H locs hW hS => ?_)
    refine lv_aload_n hx hb dJx4a65c_add_72be8_15 rfl (lv_at hl 0 rfl) ?_
    refine lv_iload_n hx hb dJx4a65c_add_72be8_16 rfl (lv_at hl 3 rfl) ?_
    refine lv_iconst (v := 1) hx hb dJx4a65c_add_72be8_17 (by decide) ?_
    refine lv_iadd hx hb dJx4a65c_add_72be8_18 ?_
    refine q_put hx hb hts hown hW hS (r := 1) hI.m rfl k_0 2 (by decide) rfl t_92 rfl (t := .int) (by decide +kernel) rfl rfl dJx4a65c_add_72be8_19 (fun H locs hW hS => ?_)
    exact q_vretw hx hb hr hlocks hW hS (by first | decide | omega | (dsimp only; omega)) (by first | decide | omega | (dsimp only; omega)) dJx4a65c_add_72be8_22 (rfl)
  · skip
    exact absurd c_3 (nI_ne (m := 10) (by omega) (by omega) (by decide))

set_option maxHeartbeats 4000000 in
set_option maxRecDepth 100000 in
theorem c_add_gm (l : Launch) {G : GG} {L : List Nat} {ad : Nat → Nat} {v : Nat → Nat → Int32} {o : Nat → Nat → Option Nat} {w : Nat → Int64} {n : Nat} (hI : LI L ad v o G.2.2.2 1 n 13 19 50) (hn1 : 0 < n) (hn2 : n < 10) (hmq : 50 + n ∈ L) (hkq : kd (50 + n) = 1) : CtIw l G L ad v o w yJx4a65c_add_9ea2d cJx4a65c_add_9ea2d 2 .boolean ({ frames := 1, cells := 0, slots := 0, locals := 23 }) [.ref (ad 1), .ref (ad (50 + n))] (fun r P => r = 1 ∧ P = (L, ad, up2 (up2 v 1 0 (v 1 0 + 1)) 1 2 (nI n + 1), up2 o 13 n (some (ad (50 + n))))) := by
  obtain ⟨hXm, hed⟩ : 13 ∈ L ∧ o 1 1 = some (ad 13) := by rcases hI.2.2.2.2.2.2.2.2.2.2 with ⟨h, _⟩ | ⟨_, h, h1, h2, h3⟩ | ⟨h, h1, h2, h3⟩; exact absurd h (by omega); exact ⟨h1, h2⟩; exact absurd h (by omega)
  refine Met.ofW (cc := cJx4a65c_add_9ea2d) (maxL := 2) (ret := (some .boolean)) (by decide) rfl ?_
  intro p e s m args below meth c s₁ B hml0 hv
  obtain ⟨rfl, hE, h0, hW⟩ := hv
  have hx := B.exec; have hb := B.bytes; have hml := hml0; have hr := B.returns; have hts := hE.hts (args := ([.ref (ad 1), .ref (ad (50 + n))] : List Value).toArray); have hown : s.vm.findClass RJx4a65c = some m.cls := findClass_of_methodNamed B.named; have hlocks := B.notSynchronized
  have hl := lv_entry ([.ref (ad 1), .ref (ad (50 + n))] : List Value) (n := 2) (Nat.le_of_ble_eq_true rfl)
  rw [lg_entry_eq]
  generalize (lg_sl ([.ref (ad 1), .ref (ad (50 + n))] : List Value) ++ List.replicate (2 - (lg_sl ([.ref (ad 1), .ref (ad (50 + n))] : List Value)).length) Slot.unset).toArray = ls at hl ⊢
  generalize hH : s.heap = H at hW ⊢
  have hS : va_S (Ab G.2.2.1) s.heap H [] := hH ▸ va_S.rf
  obtain ⟨locs, hlc⟩ : ∃ z : List Loc, z = [] := ⟨_, rfl⟩
  rw [← hlc] at hS ⊢
  have hl : lv_has ls 2 [(0, .ref (ad 1)), (1, .ref (ad (50 + n)))] := hl
  refine lv_aload_n hx hb dJx4a65c_add_9ea2d_0 rfl (lv_at hl 0 rfl) ?_
  refine lv_dup hx hb dJx4a65c_add_9ea2d_1 rfl ?_
  refine q_getS hx hb hts hown hW (r := 1) hI.m rfl k_0 0 (by decide) rfl t_94 t_95 (x := (v 1 0)) rfl dJx4a65c_add_9ea2d_2 ?_
  refine lv_iconst (v := 1) hx hb dJx4a65c_add_9ea2d_5 (by decide) ?_
  refine lv_iadd hx hb dJx4a65c_add_9ea2d_6 ?_
  refine q_putS hx hb hts hown hW hS (r := 1) hI.m rfl k_0 0 (by decide) rfl t_94 t_95 rfl (t := .int) (by decide +kernel) rfl rfl dJx4a65c_add_9ea2d_7 (fun H locs hW hS => ?_)
  refine lv_aload_n hx hb dJx4a65c_add_9ea2d_10 rfl (lv_at hl 0 rfl) ?_
  refine lv_aload_n hx hb dJx4a65c_add_9ea2d_11 rfl (lv_at hl 1 rfl) ?_
  refine lv_aload_n hx hb dJx4a65c_add_9ea2d_12 rfl (lv_at hl 0 rfl) ?_
  refine q_getr hx hb hts hown hW (r := 1) hI.m rfl k_0 1 (by decide) rfl t_91 (a := ad 13) hed dJx4a65c_add_9ea2d_13 ?_
  refine lv_aload_n hx hb dJx4a65c_add_9ea2d_16 rfl (lv_at hl 0 rfl) ?_
  refine q_get hx hb hts hown hW (r := 1) hI.m rfl k_0 2 (by decide) rfl t_92 (x := (nI n)) hI.s dJx4a65c_add_9ea2d_17 ?_
  refine q_cVvw (As := [.ref (ad (50 + n)), .ref (ad 13), .int (nI n)]) (rest := []) (r := 1) hx hb hml hts hown hE h0 hW hS (c_add3_gm l (hI.cong (v' := (up2 v 1 0 (v 1 0 + 1))) rfl) hn1 hn2 hmq hkq) mw_Jx4a65c_add_72be8 hI.m rfl k_0 t_451 ⟨Nat.le_of_ble_eq_true rfl, Nat.le_of_ble_eq_true rfl⟩ rfl hl.1 (Nat.le_of_ble_eq_true rfl) dJx4a65c_add_9ea2d_20 ⟨(by first | decide | omega | (dsimp only; omega)), (by first | decide | omega | (dsimp only; omega))⟩ (fun  P H locs hp hW hS => ?_)
  obtain rfl := hp
  have hW : WD G L ad (up2 (up2 v 1 0 (v 1 0 + 1)) 1 2 (nI n + 1)) (up2 o 13 n (some (ad (50 + n)))) w s H := hW
  refine lv_iconst (v := 1) hx hb dJx4a65c_add_9ea2d_23 (by decide) ?_
  exact q_zretw hx hb hr hlocks hW hS (by first | decide | omega | (dsimp only; omega)) (by first | decide | omega | (dsimp only; omega)) (Or.inr rfl) dJx4a65c_add_9ea2d_24 (⟨rfl, rfl⟩)

set_option maxHeartbeats 4000000 in
set_option maxRecDepth 100000 in
theorem c_growI_h0 (l : Launch) {G : GG} {L : List Nat} {ad : Nat → Nat} {v : Nat → Nat → Int32} {o : Nat → Nat → Option Nat} {w : Nat → Int64} {n : Nat} (hI : LI L ad v o G.2.2.2 2 n 14 16 60) (hn0 : n = 0) (hX9 : 14 ∉ L) : CtRw l G L ad v o w yJx4a65c_grow_92f84 cJx4a65c_grow_92f84 4 (.array (.object "java/lang/Object")) ({ frames := 1, cells := 1, slots := 10, locals := 14 }) [.ref (ad 2), .int 1] (fun ra P => ∃ q, ra = q ∧ P = (L ++ [14], upA ad 14 q, up1 v 14 z32, up2 (up1 o 14 nOp) 2 1 (some (upA ad 14 q 14)))) := by
  have hn9 := hn0; subst hn0; have hed : o 2 1 = some G.2.2.2 := by rcases hI.2.2.2.2.2.2.2.2.2.2 with ⟨_, h⟩ | ⟨h, _⟩ | ⟨h, _⟩; exact h; exact absurd h (by omega); exact absurd h (by omega)
  refine Met.ofW (cc := cJx4a65c_grow_92f84) (maxL := 4) (ret := (some (.array (.object "java/lang/Object")))) (by decide) rfl ?_
  intro p e s m args below meth c s₁ B hml0 hv
  obtain ⟨rfl, hE, h0, hW⟩ := hv
  have hx := B.exec; have hb := B.bytes; have hml := hml0; have hr := B.returns; have hts := hE.hts (args := ([.ref (ad 2), .int 1] : List Value).toArray); have hown : s.vm.findClass RJx4a65c = some m.cls := findClass_of_methodNamed B.named; have hlocks := B.notSynchronized
  have hl := lv_entry ([.ref (ad 2), .int 1] : List Value) (n := 4) (Nat.le_of_ble_eq_true rfl)
  rw [lg_entry_eq]
  generalize (lg_sl ([.ref (ad 2), .int 1] : List Value) ++ List.replicate (4 - (lg_sl ([.ref (ad 2), .int 1] : List Value)).length) Slot.unset).toArray = ls at hl ⊢
  generalize hH : s.heap = H at hW ⊢
  have hS : va_S (Ab G.2.2.1) s.heap H [] := hH ▸ va_S.rf
  obtain ⟨locs, hlc⟩ : ∃ z : List Loc, z = [] := ⟨_, rfl⟩
  rw [← hlc] at hS ⊢
  have hl : lv_has ls 4 [(0, .ref (ad 2)), (1, .int 1)] := hl
  refine lv_aload_n hx hb dJx4a65c_grow_92f84_0 rfl (lv_at hl 0 rfl) ?_
  refine q_getr hx hb hts hown hW (r := 2) hI.m rfl k_0 1 (by decide) rfl t_91 (a := G.2.2.2) hed dJx4a65c_grow_92f84_1 ?_
  refine q_tdlen hx hb hE hS dJx4a65c_grow_92f84_4 ?_
  refine lv_istore_n (lv' := [(2, .int 0), (0, .ref (ad 2)), (1, .int 1)]) hx hb dJx4a65c_grow_92f84_5 rfl hl (by decide) rfl (fun ls hl => ?_)
  refine lv_iload_n hx hb dJx4a65c_grow_92f84_6 rfl (lv_at hl 0 rfl) ?_
  refine lv_if_gt (tgt := 20) hx hb dJx4a65c_grow_92f84_7 (by decide) (fun c_7 => ?_) (fun c_7 => ?_)
  · skip
    exact absurd c_7 (by decide)
  · skip
    refine lv_aload_n hx hb dJx4a65c_grow_92f84_10 rfl (lv_at hl 1 rfl) ?_
    refine q_getr hx hb hts hown hW (r := 2) hI.m rfl k_0 1 (by decide) rfl t_91 (a := G.2.2.2) hed dJx4a65c_grow_92f84_11 ?_
    refine q_tdget hx hb hts hown hE hS t_89 dJx4a65c_grow_92f84_14 ?_
    refine lv_acmp_eq (rx := some (G.2.2.2)) (ry := some (G.2.2.2)) (tgt := 45) hx hb dJx4a65c_grow_92f84_17 (by decide) (fun c_17 => ?_) (fun c_17 => ?_)
    · skip
      refine lv_aload_n hx hb dJx4a65c_grow_92f84_45 rfl (lv_at hl 1 rfl) ?_
      refine lv_bipush (v := 10) hx hb dJx4a65c_grow_92f84_46 (by decide) ?_
      refine lv_iload_n hx hb dJx4a65c_grow_92f84_48 rfl (lv_at hl 2 rfl) ?_
      refine q_max hx hb hml hl.1 hts hown m_max t_500 (Nat.le_of_ble_eq_true rfl) (Nat.le_of_ble_eq_true rfl) (Nat.zero_le _) (Nat.zero_le _) dJx4a65c_grow_92f84_49 ?_
      refine q_newo hx hb hts hown hE h0 hW hS 14 hX9 rfl t_501 rfl (by decide) (by first | decide | omega | (dsimp only; omega)) (by first | decide | omega | (dsimp only; omega)) dJx4a65c_grow_92f84_52 (fun ad1 H q9 had hW hS => ?_)
      subst had
      have hl : lv_has ls 4 [(2, .int 0), (0, .ref ((upA ad 14 q9) 2)), (1, .int 1)] := by first | exact hl | (rw [e9]; exact hl)
      refine lv_dup_x1 hx hb dJx4a65c_grow_92f84_55 rfl rfl ?_
      refine q_putr hx hb hts hown hW hS (r := 2) (List.mem_append_left _ hI.m) rfl k_0 1 (by decide) rfl t_91 rfl (t := .array (.object "java/lang/Object")) (by decide +kernel) rfl rfl dJx4a65c_grow_92f84_56 (fun H locs hW hS => ?_)
      exact q_aretw hx hb hr (Or.inr ⟨_, rfl⟩) hlocks hW hS (by first | decide | omega | (dsimp only; omega)) (by first | decide | omega | (dsimp only; omega)) dJx4a65c_grow_92f84_59 (⟨q9, upA_s, rfl⟩)
    · skip
      exact absurd rfl c_17

set_option maxHeartbeats 4000000 in
set_option maxRecDepth 100000 in
theorem c_grow_h0 (l : Launch) {G : GG} {L : List Nat} {ad : Nat → Nat} {v : Nat → Nat → Int32} {o : Nat → Nat → Option Nat} {w : Nat → Int64} {n : Nat} (hI : LI L ad v o G.2.2.2 2 n 14 16 60) (hn0 : n = 0) (hX9 : 14 ∉ L) : CtRw l G L ad v o w yJx4a65c_grow_d5877 cJx4a65c_grow_d5877 1 (.array (.object "java/lang/Object")) ({ frames := 2, cells := 1, slots := 10, locals := 37 }) [.ref (ad 2)] (fun ra P => ∃ q, ra = q ∧ P = (L ++ [14], upA ad 14 q, up1 v 14 z32, up2 (up1 o 14 nOp) 2 1 (some (upA ad 14 q 14)))) := by
  have hn9 := hn0; subst hn0
  refine Met.ofW (cc := cJx4a65c_grow_d5877) (maxL := 1) (ret := (some (.array (.object "java/lang/Object")))) (by decide) rfl ?_
  intro p e s m args below meth c s₁ B hml0 hv
  obtain ⟨rfl, hE, h0, hW⟩ := hv
  have hx := B.exec; have hb := B.bytes; have hml := hml0; have hr := B.returns; have hts := hE.hts (args := ([.ref (ad 2)] : List Value).toArray); have hown : s.vm.findClass RJx4a65c = some m.cls := findClass_of_methodNamed B.named; have hlocks := B.notSynchronized
  have hl := lv_entry ([.ref (ad 2)] : List Value) (n := 1) (Nat.le_of_ble_eq_true rfl)
  rw [lg_entry_eq]
  generalize (lg_sl ([.ref (ad 2)] : List Value) ++ List.replicate (1 - (lg_sl ([.ref (ad 2)] : List Value)).length) Slot.unset).toArray = ls at hl ⊢
  generalize hH : s.heap = H at hW ⊢
  have hS : va_S (Ab G.2.2.1) s.heap H [] := hH ▸ va_S.rf
  obtain ⟨locs, hlc⟩ : ∃ z : List Loc, z = [] := ⟨_, rfl⟩
  rw [← hlc] at hS ⊢
  have hl : lv_has ls 1 [(0, .ref (ad 2))] := hl
  refine lv_aload_n hx hb dJx4a65c_grow_d5877_0 rfl (lv_at hl 0 rfl) ?_
  refine lv_aload_n hx hb dJx4a65c_grow_d5877_1 rfl (lv_at hl 0 rfl) ?_
  refine q_get hx hb hts hown hW (r := 2) hI.m rfl k_0 2 (by decide) rfl t_92 (x := (nI 0)) hI.s dJx4a65c_grow_d5877_2 ?_
  refine lv_iconst (v := 1) hx hb dJx4a65c_grow_d5877_5 (by decide) ?_
  refine lv_iadd hx hb dJx4a65c_grow_d5877_6 ?_
  refine lv_topi (fun xt et => ?_)
  obtain rfl : xt = 1 := et.trans (by decide)
  clear et
  refine q_cVrw (As := [.int 1]) (rest := []) (r := 2) hx hb hml hts hown hE h0 hW hS (c_growI_h0 l hI hn9 hX9) mw_Jx4a65c_grow_92f84 hI.m rfl k_0 t_459 ⟨Nat.le_of_ble_eq_true rfl, Nat.le_of_ble_eq_true rfl⟩ rfl hl.1 (Nat.le_of_ble_eq_true rfl) dJx4a65c_grow_d5877_7 ⟨(by first | decide | omega | (dsimp only; omega)), (by first | decide | omega | (dsimp only; omega))⟩ (fun ra P H locs hp hW hS => ?_)
  obtain ⟨q9, hq9, rfl⟩ := hp
  subst ra
  have hW : WD G (L ++ [14]) (upA ad 14 q9) (up1 v 14 z32) (up2 (up1 o 14 nOp) 2 1 (some (upA ad 14 q9 14))) w s H := hW
  have hl : lv_has ls 1 [(0, .ref ((upA ad 14 q9) 2))] := by first | exact hl | (rw [e9]; exact hl)
  exact q_aretw hx hb hr (Or.inr ⟨_, rfl⟩) hlocks hW hS (by first | decide | omega | (dsimp only; omega)) (by first | decide | omega | (dsimp only; omega)) dJx4a65c_grow_d5877_10 (⟨q9, rfl, rfl⟩)

set_option maxHeartbeats 4000000 in
set_option maxRecDepth 100000 in
theorem c_add3_h0 (l : Launch) {G : GG} {L : List Nat} {ad : Nat → Nat} {v : Nat → Nat → Int32} {o : Nat → Nat → Option Nat} {w : Nat → Int64} {n : Nat} (hI : LI L ad v o G.2.2.2 2 n 14 16 60) (hn0 : n = 0) (hX9 : 14 ∉ L) (hmq : 60 + n ∈ L) (hkq : kd (60 + n) = 2) : CtVw l G L ad v o w yJx4a65c_add_72be8 cJx4a65c_add_72be8 4 ({ frames := 3, cells := 1, slots := 10, locals := 57 }) [.ref (ad 2), .ref (ad (60 + 0)), .ref G.2.2.2, .int (nI 0)] (fun P => ∃ q, P = (L ++ [14], upA ad 14 q, up2 (up1 v 14 z32) 2 2 (nI 0 + 1), up2 (up2 (up1 o 14 nOp) 2 1 (some (upA ad 14 q 14))) 14 0 (some (upA ad 14 q (60 + 0))))) := by
  have hn9 := hn0; subst hn0; have hed : o 2 1 = some G.2.2.2 := by rcases hI.2.2.2.2.2.2.2.2.2.2 with ⟨_, h⟩ | ⟨h, _⟩ | ⟨h, _⟩; exact h; exact absurd h (by omega); exact absurd h (by omega)
  refine Met.ofW (cc := cJx4a65c_add_72be8) (maxL := 4) (ret := none) (by decide) rfl ?_
  intro p e s m args below meth c s₁ B hml0 hv
  obtain ⟨rfl, hE, h0, hW⟩ := hv
  have hx := B.exec; have hb := B.bytes; have hml := hml0; have hr := B.returns; have hts := hE.hts (args := ([.ref (ad 2), .ref (ad (60 + 0)), .ref G.2.2.2, .int (nI 0)] : List Value).toArray); have hown : s.vm.findClass RJx4a65c = some m.cls := findClass_of_methodNamed B.named; have hlocks := B.notSynchronized
  have hl := lv_entry ([.ref (ad 2), .ref (ad (60 + 0)), .ref G.2.2.2, .int (nI 0)] : List Value) (n := 4) (Nat.le_of_ble_eq_true rfl)
  rw [lg_entry_eq]
  generalize (lg_sl ([.ref (ad 2), .ref (ad (60 + 0)), .ref G.2.2.2, .int (nI 0)] : List Value) ++ List.replicate (4 - (lg_sl ([.ref (ad 2), .ref (ad (60 + 0)), .ref G.2.2.2, .int (nI 0)] : List Value)).length) Slot.unset).toArray = ls at hl ⊢
  generalize hH : s.heap = H at hW ⊢
  have hS : va_S (Ab G.2.2.1) s.heap H [] := hH ▸ va_S.rf
  obtain ⟨locs, hlc⟩ : ∃ z : List Loc, z = [] := ⟨_, rfl⟩
  rw [← hlc] at hS ⊢
  have hl : lv_has ls 4 [(0, .ref (ad 2)), (1, .ref (ad (60 + 0))), (2, .ref G.2.2.2), (3, .int (nI 0))] := hl
  refine lv_iload_n hx hb dJx4a65c_add_72be8_0 rfl (lv_at hl 3 rfl) ?_
  refine lv_aload_n hx hb dJx4a65c_add_72be8_1 rfl (lv_at hl 2 rfl) ?_
  refine q_tdlen hx hb hE hS dJx4a65c_add_72be8_2 ?_
  refine lv_icmp_ne (tgt := 11) hx hb dJx4a65c_add_72be8_3 (by decide) (fun c_3 => ?_) (fun c_3 => ?_)
  · skip
    exact absurd rfl c_3
  · skip
    refine lv_aload_n hx hb dJx4a65c_add_72be8_6 rfl (lv_at hl 0 rfl) ?_
    refine q_cVrw (As := []) (rest := []) (r := 2) hx hb hml hts hown hE h0 hW hS (c_grow_h0 l hI hn9 hX9) mw_Jx4a65c_grow_d5877 hI.m rfl k_0 t_455 ⟨Nat.le_of_ble_eq_true rfl, Nat.le_of_ble_eq_true rfl⟩ rfl hl.1 (Nat.le_of_ble_eq_true rfl) dJx4a65c_add_72be8_7 ⟨(by first | decide | omega | (dsimp only; omega)), (by first | decide | omega | (dsimp only; omega))⟩ (fun ra P H locs hp hW hS => ?_)
    obtain ⟨q9, hq9, rfl⟩ := hp
    subst ra
    have hW : WD G (L ++ [14]) (upA ad 14 q9) (up1 v 14 z32) (up2 (up1 o 14 nOp) 2 1 (some (upA ad 14 q9 14))) w s H := hW
    have e9 : upA ad 14 q9 (60 + 0) = ad (60 + 0) := upA_n (by omega)
    have hl : lv_has ls 4 [(0, .ref ((upA ad 14 q9) 2)), (1, .ref ((upA ad 14 q9) (60 + 0))), (2, .ref G.2.2.2), (3, .int (nI 0))] := by first | exact hl | (rw [e9]; exact hl)
    refine lv_astore_n (lv' := [(2, .ref ((upA ad 14 q9) 14)), (0, .ref ((upA ad 14 q9) 2)), (1, .ref ((upA ad 14 q9) (60 + 0))), (3, .int (nI 0))]) hx hb dJx4a65c_add_72be8_10 rfl hl (by decide) rfl (fun ls hl => ?_)
    refine lv_aload_n hx hb dJx4a65c_add_72be8_11 rfl (lv_at hl 0 rfl) ?_
    refine lv_iload_n hx hb dJx4a65c_add_72be8_12 rfl (lv_at hl 3 rfl) ?_
    refine lv_aload_n hx hb dJx4a65c_add_72be8_13 rfl (lv_at hl 2 rfl) ?_
    refine q_oast hx hb hts hW hS (r := 14) (q := (60 + 0)) (List.mem_append_right _ (List.mem_singleton.mpr rfl)) rfl (List.mem_append_left _ hmq) hkq k_2 t_1147 (0) rfl (by decide) (by decide) dJx4a65c_add_72be8_14 (fun H locs hW hS => ?_)
    refine lv_aload_n hx hb dJx4a65c_add_72be8_15 rfl (lv_at hl 1 rfl) ?_
    refine lv_iload_n hx hb dJx4a65c_add_72be8_16 rfl (lv_at hl 3 rfl) ?_
    refine lv_iconst (v := 1) hx hb dJx4a65c_add_72be8_17 (by decide) ?_
    refine lv_iadd hx hb dJx4a65c_add_72be8_18 ?_
    refine q_put hx hb hts hown hW hS (r := 2) (List.mem_append_left _ hI.m) rfl k_0 2 (by decide) rfl t_92 rfl (t := .int) (by decide +kernel) rfl rfl dJx4a65c_add_72be8_19 (fun H locs hW hS => ?_)
    exact q_vretw hx hb hr hlocks hW hS (by first | decide | omega | (dsimp only; omega)) (by first | decide | omega | (dsimp only; omega)) dJx4a65c_add_72be8_22 (⟨q9, rfl⟩)

set_option maxHeartbeats 4000000 in
set_option maxRecDepth 100000 in
theorem c_add_h0 (l : Launch) {G : GG} {L : List Nat} {ad : Nat → Nat} {v : Nat → Nat → Int32} {o : Nat → Nat → Option Nat} {w : Nat → Int64} {n : Nat} (hI : LI L ad v o G.2.2.2 2 n 14 16 60) (hn0 : n = 0) (hX9 : 14 ∉ L) (hmq : 60 + n ∈ L) (hkq : kd (60 + n) = 2) : CtIw l G L ad v o w yJx4a65c_add_9ea2d cJx4a65c_add_9ea2d 2 .boolean ({ frames := 4, cells := 1, slots := 10, locals := 80 }) [.ref (ad 2), .ref (ad (60 + 0))] (fun r P => r = 1 ∧ ∃ q, P = (L ++ [14], upA ad 14 q, up2 (up1 (up2 v 2 0 (v 2 0 + 1)) 14 z32) 2 2 (nI 0 + 1), up2 (up2 (up1 o 14 nOp) 2 1 (some (upA ad 14 q 14))) 14 0 (some (upA ad 14 q (60 + 0))))) := by
  have hn9 := hn0; subst hn0; have hed : o 2 1 = some G.2.2.2 := by rcases hI.2.2.2.2.2.2.2.2.2.2 with ⟨_, h⟩ | ⟨h, _⟩ | ⟨h, _⟩; exact h; exact absurd h (by omega); exact absurd h (by omega)
  refine Met.ofW (cc := cJx4a65c_add_9ea2d) (maxL := 2) (ret := (some .boolean)) (by decide) rfl ?_
  intro p e s m args below meth c s₁ B hml0 hv
  obtain ⟨rfl, hE, h0, hW⟩ := hv
  have hx := B.exec; have hb := B.bytes; have hml := hml0; have hr := B.returns; have hts := hE.hts (args := ([.ref (ad 2), .ref (ad (60 + 0))] : List Value).toArray); have hown : s.vm.findClass RJx4a65c = some m.cls := findClass_of_methodNamed B.named; have hlocks := B.notSynchronized
  have hl := lv_entry ([.ref (ad 2), .ref (ad (60 + 0))] : List Value) (n := 2) (Nat.le_of_ble_eq_true rfl)
  rw [lg_entry_eq]
  generalize (lg_sl ([.ref (ad 2), .ref (ad (60 + 0))] : List Value) ++ List.replicate (2 - (lg_sl ([.ref (ad 2), .ref (ad (60 + 0))] : List Value)).length) Slot.unset).toArray = ls at hl ⊢
  generalize hH : s.heap = H at hW ⊢
  have hS : va_S (Ab G.2.2.1) s.heap H [] := hH ▸ va_S.rf
  obtain ⟨locs, hlc⟩ : ∃ z : List Loc, z = [] := ⟨_, rfl⟩
  rw [← hlc] at hS ⊢
  have hl : lv_has ls 2 [(0, .ref (ad 2)), (1, .ref (ad (60 + 0)))] := hl
  refine lv_aload_n hx hb dJx4a65c_add_9ea2d_0 rfl (lv_at hl 0 rfl) ?_
  refine lv_dup hx hb dJx4a65c_add_9ea2d_1 rfl ?_
  refine q_getS hx hb hts hown hW (r := 2) hI.m rfl k_0 0 (by decide) rfl t_94 t_95 (x := (v 2 0)) rfl dJx4a65c_add_9ea2d_2 ?_
  refine lv_iconst (v := 1) hx hb dJx4a65c_add_9ea2d_5 (by decide) ?_
  refine lv_iadd hx hb dJx4a65c_add_9ea2d_6 ?_
  refine q_putS hx hb hts hown hW hS (r := 2) hI.m rfl k_0 0 (by decide) rfl t_94 t_95 rfl (t := .int) (by decide +kernel) rfl rfl dJx4a65c_add_9ea2d_7 (fun H locs hW hS => ?_)
  refine lv_aload_n hx hb dJx4a65c_add_9ea2d_10 rfl (lv_at hl 0 rfl) ?_
  refine lv_aload_n hx hb dJx4a65c_add_9ea2d_11 rfl (lv_at hl 1 rfl) ?_
  refine lv_aload_n hx hb dJx4a65c_add_9ea2d_12 rfl (lv_at hl 0 rfl) ?_
  refine q_getr hx hb hts hown hW (r := 2) hI.m rfl k_0 1 (by decide) rfl t_91 (a := G.2.2.2) hed dJx4a65c_add_9ea2d_13 ?_
  refine lv_aload_n hx hb dJx4a65c_add_9ea2d_16 rfl (lv_at hl 0 rfl) ?_
  refine q_get hx hb hts hown hW (r := 2) hI.m rfl k_0 2 (by decide) rfl t_92 (x := (nI 0)) hI.s dJx4a65c_add_9ea2d_17 ?_
  refine q_cVvw (As := [.ref (ad (60 + 0)), .ref G.2.2.2, .int (nI 0)]) (rest := []) (r := 2) hx hb hml hts hown hE h0 hW hS (c_add3_h0 l (hI.cong (v' := (up2 v 2 0 (v 2 0 + 1))) rfl) hn9 hX9 hmq hkq) mw_Jx4a65c_add_72be8 hI.m rfl k_0 t_451 ⟨Nat.le_of_ble_eq_true rfl, Nat.le_of_ble_eq_true rfl⟩ rfl hl.1 (Nat.le_of_ble_eq_true rfl) dJx4a65c_add_9ea2d_20 ⟨(by first | decide | omega | (dsimp only; omega)), (by first | decide | omega | (dsimp only; omega))⟩ (fun  P H locs hp hW hS => ?_)
  obtain ⟨q9, rfl⟩ := hp
  have hW : WD G (L ++ [14]) (upA ad 14 q9) (up2 (up1 (up2 v 2 0 (v 2 0 + 1)) 14 z32) 2 2 (nI 0 + 1)) (up2 (up2 (up1 o 14 nOp) 2 1 (some (upA ad 14 q9 14))) 14 0 (some (upA ad 14 q9 (60 + 0)))) w s H := hW
  have e9 : upA ad 14 q9 (60 + 0) = ad (60 + 0) := upA_n (by omega)
  have hl : lv_has ls 2 [(0, .ref ((upA ad 14 q9) 2)), (1, .ref ((upA ad 14 q9) (60 + 0)))] := by first | exact hl | (rw [e9]; exact hl)
  refine lv_iconst (v := 1) hx hb dJx4a65c_add_9ea2d_23 (by decide) ?_
  exact q_zretw hx hb hr hlocks hW hS (by first | decide | omega | (dsimp only; omega)) (by first | decide | omega | (dsimp only; omega)) (Or.inr rfl) dJx4a65c_add_9ea2d_24 (⟨rfl, q9, rfl⟩)

set_option maxHeartbeats 4000000 in
set_option maxRecDepth 100000 in
theorem c_add3_hm (l : Launch) {G : GG} {L : List Nat} {ad : Nat → Nat} {v : Nat → Nat → Int32} {o : Nat → Nat → Option Nat} {w : Nat → Int64} {n : Nat} (hI : LI L ad v o G.2.2.2 2 n 14 16 60) (hn1 : 0 < n) (hn2 : n < 10) (hmq : 60 + n ∈ L) (hkq : kd (60 + n) = 2) : CtVw l G L ad v o w yJx4a65c_add_72be8 cJx4a65c_add_72be8 4 ({ frames := 0, cells := 0, slots := 0, locals := 0 }) [.ref (ad 2), .ref (ad (60 + n)), .ref (ad 14), .int (nI n)] (fun P => P = (L, ad, up2 v 2 2 (nI n + 1), up2 o 14 n (some (ad (60 + n))))) := by
  obtain ⟨hXm, hed⟩ : 14 ∈ L ∧ o 2 1 = some (ad 14) := by rcases hI.2.2.2.2.2.2.2.2.2.2 with ⟨h, _⟩ | ⟨_, h, h1, h2, h3⟩ | ⟨h, h1, h2, h3⟩; exact absurd h (by omega); exact ⟨h1, h2⟩; exact absurd h (by omega)
  refine Met.ofW (cc := cJx4a65c_add_72be8) (maxL := 4) (ret := none) (by decide) rfl ?_
  intro p e s m args below meth c s₁ B hml0 hv
  obtain ⟨rfl, hE, h0, hW⟩ := hv
  have hx := B.exec; have hb := B.bytes; have hml := hml0; have hr := B.returns; have hts := hE.hts (args := ([.ref (ad 2), .ref (ad (60 + n)), .ref (ad 14), .int (nI n)] : List Value).toArray); have hown : s.vm.findClass RJx4a65c = some m.cls := findClass_of_methodNamed B.named; have hlocks := B.notSynchronized
  have hl := lv_entry ([.ref (ad 2), .ref (ad (60 + n)), .ref (ad 14), .int (nI n)] : List Value) (n := 4) (Nat.le_of_ble_eq_true rfl)
  rw [lg_entry_eq]
  generalize (lg_sl ([.ref (ad 2), .ref (ad (60 + n)), .ref (ad 14), .int (nI n)] : List Value) ++ List.replicate (4 - (lg_sl ([.ref (ad 2), .ref (ad (60 + n)), .ref (ad 14), .int (nI n)] : List Value)).length) Slot.unset).toArray = ls at hl ⊢
  generalize hH : s.heap = H at hW ⊢
  have hS : va_S (Ab G.2.2.1) s.heap H [] := hH ▸ va_S.rf
  obtain ⟨locs, hlc⟩ : ∃ z : List Loc, z = [] := ⟨_, rfl⟩
  rw [← hlc] at hS ⊢
  have hl : lv_has ls 4 [(0, .ref (ad 2)), (1, .ref (ad (60 + n))), (2, .ref (ad 14)), (3, .int (nI n))] := hl
  refine lv_iload_n hx hb dJx4a65c_add_72be8_0 rfl (lv_at hl 3 rfl) ?_
  refine lv_aload_n hx hb dJx4a65c_add_72be8_1 rfl (lv_at hl 2 rfl) ?_
  refine q_oalen hx hb hW (r := 14) hXm rfl (x := 10) rfl dJx4a65c_add_72be8_2 ?_
  refine lv_icmp_ne (tgt := 11) hx hb dJx4a65c_add_72be8_3 (by decide) (fun c_3 => ?_) (fun c_3 => ?_)
  · skip
    refine lv_aload_n hx hb dJx4a65c_add_72be8_11 rfl (lv_at hl 2 rfl) ?_
    refine lv_iload_n hx hb dJx4a65c_add_72be8_12 rfl (lv_at hl 3 rfl) ?_
    refine lv_aload_n hx hb dJx4a65c_add_72be8_13 rfl (lv_at hl 1 rfl) ?_
    refine q_oast hx hb hts hW hS (r := 14) (q := (60 + n)) hXm rfl hmq hkq k_2 t_1147 (n) rfl (show _ < 10 by omega) (by decide) dJx4a65c_add_72be8_14 (fun H locs hW hS => ?_)
    refine lv_aload_n hx hb dJx4a65c_add_72be8_15 rfl (lv_at hl 0 rfl) ?_
    refine lv_iload_n hx hb dJx4a65c_add_72be8_16 rfl (lv_at hl 3 rfl) ?_
    refine lv_iconst (v := 1) hx hb dJx4a65c_add_72be8_17 (by decide) ?_
    refine lv_iadd hx hb dJx4a65c_add_72be8_18 ?_
    refine q_put hx hb hts hown hW hS (r := 2) hI.m rfl k_0 2 (by decide) rfl t_92 rfl (t := .int) (by decide +kernel) rfl rfl dJx4a65c_add_72be8_19 (fun H locs hW hS => ?_)
    exact q_vretw hx hb hr hlocks hW hS (by first | decide | omega | (dsimp only; omega)) (by first | decide | omega | (dsimp only; omega)) dJx4a65c_add_72be8_22 (rfl)
  · skip
    exact absurd c_3 (nI_ne (m := 10) (by omega) (by omega) (by decide))

set_option maxHeartbeats 4000000 in
set_option maxRecDepth 100000 in
theorem c_add_hm (l : Launch) {G : GG} {L : List Nat} {ad : Nat → Nat} {v : Nat → Nat → Int32} {o : Nat → Nat → Option Nat} {w : Nat → Int64} {n : Nat} (hI : LI L ad v o G.2.2.2 2 n 14 16 60) (hn1 : 0 < n) (hn2 : n < 10) (hmq : 60 + n ∈ L) (hkq : kd (60 + n) = 2) : CtIw l G L ad v o w yJx4a65c_add_9ea2d cJx4a65c_add_9ea2d 2 .boolean ({ frames := 1, cells := 0, slots := 0, locals := 23 }) [.ref (ad 2), .ref (ad (60 + n))] (fun r P => r = 1 ∧ P = (L, ad, up2 (up2 v 2 0 (v 2 0 + 1)) 2 2 (nI n + 1), up2 o 14 n (some (ad (60 + n))))) := by
  obtain ⟨hXm, hed⟩ : 14 ∈ L ∧ o 2 1 = some (ad 14) := by rcases hI.2.2.2.2.2.2.2.2.2.2 with ⟨h, _⟩ | ⟨_, h, h1, h2, h3⟩ | ⟨h, h1, h2, h3⟩; exact absurd h (by omega); exact ⟨h1, h2⟩; exact absurd h (by omega)
  refine Met.ofW (cc := cJx4a65c_add_9ea2d) (maxL := 2) (ret := (some .boolean)) (by decide) rfl ?_
  intro p e s m args below meth c s₁ B hml0 hv
  obtain ⟨rfl, hE, h0, hW⟩ := hv
  have hx := B.exec; have hb := B.bytes; have hml := hml0; have hr := B.returns; have hts := hE.hts (args := ([.ref (ad 2), .ref (ad (60 + n))] : List Value).toArray); have hown : s.vm.findClass RJx4a65c = some m.cls := findClass_of_methodNamed B.named; have hlocks := B.notSynchronized
  have hl := lv_entry ([.ref (ad 2), .ref (ad (60 + n))] : List Value) (n := 2) (Nat.le_of_ble_eq_true rfl)
  rw [lg_entry_eq]
  generalize (lg_sl ([.ref (ad 2), .ref (ad (60 + n))] : List Value) ++ List.replicate (2 - (lg_sl ([.ref (ad 2), .ref (ad (60 + n))] : List Value)).length) Slot.unset).toArray = ls at hl ⊢
  generalize hH : s.heap = H at hW ⊢
  have hS : va_S (Ab G.2.2.1) s.heap H [] := hH ▸ va_S.rf
  obtain ⟨locs, hlc⟩ : ∃ z : List Loc, z = [] := ⟨_, rfl⟩
  rw [← hlc] at hS ⊢
  have hl : lv_has ls 2 [(0, .ref (ad 2)), (1, .ref (ad (60 + n)))] := hl
  refine lv_aload_n hx hb dJx4a65c_add_9ea2d_0 rfl (lv_at hl 0 rfl) ?_
  refine lv_dup hx hb dJx4a65c_add_9ea2d_1 rfl ?_
  refine q_getS hx hb hts hown hW (r := 2) hI.m rfl k_0 0 (by decide) rfl t_94 t_95 (x := (v 2 0)) rfl dJx4a65c_add_9ea2d_2 ?_
  refine lv_iconst (v := 1) hx hb dJx4a65c_add_9ea2d_5 (by decide) ?_
  refine lv_iadd hx hb dJx4a65c_add_9ea2d_6 ?_
  refine q_putS hx hb hts hown hW hS (r := 2) hI.m rfl k_0 0 (by decide) rfl t_94 t_95 rfl (t := .int) (by decide +kernel) rfl rfl dJx4a65c_add_9ea2d_7 (fun H locs hW hS => ?_)
  refine lv_aload_n hx hb dJx4a65c_add_9ea2d_10 rfl (lv_at hl 0 rfl) ?_
  refine lv_aload_n hx hb dJx4a65c_add_9ea2d_11 rfl (lv_at hl 1 rfl) ?_
  refine lv_aload_n hx hb dJx4a65c_add_9ea2d_12 rfl (lv_at hl 0 rfl) ?_
  refine q_getr hx hb hts hown hW (r := 2) hI.m rfl k_0 1 (by decide) rfl t_91 (a := ad 14) hed dJx4a65c_add_9ea2d_13 ?_
  refine lv_aload_n hx hb dJx4a65c_add_9ea2d_16 rfl (lv_at hl 0 rfl) ?_
  refine q_get hx hb hts hown hW (r := 2) hI.m rfl k_0 2 (by decide) rfl t_92 (x := (nI n)) hI.s dJx4a65c_add_9ea2d_17 ?_
  refine q_cVvw (As := [.ref (ad (60 + n)), .ref (ad 14), .int (nI n)]) (rest := []) (r := 2) hx hb hml hts hown hE h0 hW hS (c_add3_hm l (hI.cong (v' := (up2 v 2 0 (v 2 0 + 1))) rfl) hn1 hn2 hmq hkq) mw_Jx4a65c_add_72be8 hI.m rfl k_0 t_451 ⟨Nat.le_of_ble_eq_true rfl, Nat.le_of_ble_eq_true rfl⟩ rfl hl.1 (Nat.le_of_ble_eq_true rfl) dJx4a65c_add_9ea2d_20 ⟨(by first | decide | omega | (dsimp only; omega)), (by first | decide | omega | (dsimp only; omega))⟩ (fun  P H locs hp hW hS => ?_)
  obtain rfl := hp
  have hW : WD G L ad (up2 (up2 v 2 0 (v 2 0 + 1)) 2 2 (nI n + 1)) (up2 o 14 n (some (ad (60 + n)))) w s H := hW
  refine lv_iconst (v := 1) hx hb dJx4a65c_add_9ea2d_23 (by decide) ?_
  exact q_zretw hx hb hr hlocks hW hS (by first | decide | omega | (dsimp only; omega)) (by first | decide | omega | (dsimp only; omega)) (Or.inr rfl) dJx4a65c_add_9ea2d_24 (⟨rfl, rfl⟩)

set_option maxHeartbeats 4000000 in
set_option maxRecDepth 100000 in
theorem c_growI_l0 (l : Launch) {G : GG} {L : List Nat} {ad : Nat → Nat} {v : Nat → Nat → Int32} {o : Nat → Nat → Option Nat} {w : Nat → Int64} {n : Nat} (hI : LI L ad v o G.2.2.2 3 n 15 17 80) (hn0 : n = 0) (hX9 : 15 ∉ L) : CtRw l G L ad v o w yJx4a65c_grow_92f84 cJx4a65c_grow_92f84 4 (.array (.object "java/lang/Object")) ({ frames := 1, cells := 1, slots := 10, locals := 14 }) [.ref (ad 3), .int 1] (fun ra P => ∃ q, ra = q ∧ P = (L ++ [15], upA ad 15 q, up1 v 15 z32, up2 (up1 o 15 nOp) 3 1 (some (upA ad 15 q 15)))) := by
  have hn9 := hn0; subst hn0; have hed : o 3 1 = some G.2.2.2 := by rcases hI.2.2.2.2.2.2.2.2.2.2 with ⟨_, h⟩ | ⟨h, _⟩ | ⟨h, _⟩; exact h; exact absurd h (by omega); exact absurd h (by omega)
  refine Met.ofW (cc := cJx4a65c_grow_92f84) (maxL := 4) (ret := (some (.array (.object "java/lang/Object")))) (by decide) rfl ?_
  intro p e s m args below meth c s₁ B hml0 hv
  obtain ⟨rfl, hE, h0, hW⟩ := hv
  have hx := B.exec; have hb := B.bytes; have hml := hml0; have hr := B.returns; have hts := hE.hts (args := ([.ref (ad 3), .int 1] : List Value).toArray); have hown : s.vm.findClass RJx4a65c = some m.cls := findClass_of_methodNamed B.named; have hlocks := B.notSynchronized
  have hl := lv_entry ([.ref (ad 3), .int 1] : List Value) (n := 4) (Nat.le_of_ble_eq_true rfl)
  rw [lg_entry_eq]
  generalize (lg_sl ([.ref (ad 3), .int 1] : List Value) ++ List.replicate (4 - (lg_sl ([.ref (ad 3), .int 1] : List Value)).length) Slot.unset).toArray = ls at hl ⊢
  generalize hH : s.heap = H at hW ⊢
  have hS : va_S (Ab G.2.2.1) s.heap H [] := hH ▸ va_S.rf
  obtain ⟨locs, hlc⟩ : ∃ z : List Loc, z = [] := ⟨_, rfl⟩
  rw [← hlc] at hS ⊢
  have hl : lv_has ls 4 [(0, .ref (ad 3)), (1, .int 1)] := hl
  refine lv_aload_n hx hb dJx4a65c_grow_92f84_0 rfl (lv_at hl 0 rfl) ?_
  refine q_getr hx hb hts hown hW (r := 3) hI.m rfl k_0 1 (by decide) rfl t_91 (a := G.2.2.2) hed dJx4a65c_grow_92f84_1 ?_
  refine q_tdlen hx hb hE hS dJx4a65c_grow_92f84_4 ?_
  refine lv_istore_n (lv' := [(2, .int 0), (0, .ref (ad 3)), (1, .int 1)]) hx hb dJx4a65c_grow_92f84_5 rfl hl (by decide) rfl (fun ls hl => ?_)
  refine lv_iload_n hx hb dJx4a65c_grow_92f84_6 rfl (lv_at hl 0 rfl) ?_
  refine lv_if_gt (tgt := 20) hx hb dJx4a65c_grow_92f84_7 (by decide) (fun c_7 => ?_) (fun c_7 => ?_)
  · skip
    exact absurd c_7 (by decide)
  · skip
    refine lv_aload_n hx hb dJx4a65c_grow_92f84_10 rfl (lv_at hl 1 rfl) ?_
    refine q_getr hx hb hts hown hW (r := 3) hI.m rfl k_0 1 (by decide) rfl t_91 (a := G.2.2.2) hed dJx4a65c_grow_92f84_11 ?_
    refine q_tdget hx hb hts hown hE hS t_89 dJx4a65c_grow_92f84_14 ?_
    refine lv_acmp_eq (rx := some (G.2.2.2)) (ry := some (G.2.2.2)) (tgt := 45) hx hb dJx4a65c_grow_92f84_17 (by decide) (fun c_17 => ?_) (fun c_17 => ?_)
    · skip
      refine lv_aload_n hx hb dJx4a65c_grow_92f84_45 rfl (lv_at hl 1 rfl) ?_
      refine lv_bipush (v := 10) hx hb dJx4a65c_grow_92f84_46 (by decide) ?_
      refine lv_iload_n hx hb dJx4a65c_grow_92f84_48 rfl (lv_at hl 2 rfl) ?_
      refine q_max hx hb hml hl.1 hts hown m_max t_500 (Nat.le_of_ble_eq_true rfl) (Nat.le_of_ble_eq_true rfl) (Nat.zero_le _) (Nat.zero_le _) dJx4a65c_grow_92f84_49 ?_
      refine q_newo hx hb hts hown hE h0 hW hS 15 hX9 rfl t_501 rfl (by decide) (by first | decide | omega | (dsimp only; omega)) (by first | decide | omega | (dsimp only; omega)) dJx4a65c_grow_92f84_52 (fun ad1 H q9 had hW hS => ?_)
      subst had
      have hl : lv_has ls 4 [(2, .int 0), (0, .ref ((upA ad 15 q9) 3)), (1, .int 1)] := by first | exact hl | (rw [e9]; exact hl)
      refine lv_dup_x1 hx hb dJx4a65c_grow_92f84_55 rfl rfl ?_
      refine q_putr hx hb hts hown hW hS (r := 3) (List.mem_append_left _ hI.m) rfl k_0 1 (by decide) rfl t_91 rfl (t := .array (.object "java/lang/Object")) (by decide +kernel) rfl rfl dJx4a65c_grow_92f84_56 (fun H locs hW hS => ?_)
      exact q_aretw hx hb hr (Or.inr ⟨_, rfl⟩) hlocks hW hS (by first | decide | omega | (dsimp only; omega)) (by first | decide | omega | (dsimp only; omega)) dJx4a65c_grow_92f84_59 (⟨q9, upA_s, rfl⟩)
    · skip
      exact absurd rfl c_17

set_option maxHeartbeats 4000000 in
set_option maxRecDepth 100000 in
theorem c_grow_l0 (l : Launch) {G : GG} {L : List Nat} {ad : Nat → Nat} {v : Nat → Nat → Int32} {o : Nat → Nat → Option Nat} {w : Nat → Int64} {n : Nat} (hI : LI L ad v o G.2.2.2 3 n 15 17 80) (hn0 : n = 0) (hX9 : 15 ∉ L) : CtRw l G L ad v o w yJx4a65c_grow_d5877 cJx4a65c_grow_d5877 1 (.array (.object "java/lang/Object")) ({ frames := 2, cells := 1, slots := 10, locals := 37 }) [.ref (ad 3)] (fun ra P => ∃ q, ra = q ∧ P = (L ++ [15], upA ad 15 q, up1 v 15 z32, up2 (up1 o 15 nOp) 3 1 (some (upA ad 15 q 15)))) := by
  have hn9 := hn0; subst hn0
  refine Met.ofW (cc := cJx4a65c_grow_d5877) (maxL := 1) (ret := (some (.array (.object "java/lang/Object")))) (by decide) rfl ?_
  intro p e s m args below meth c s₁ B hml0 hv
  obtain ⟨rfl, hE, h0, hW⟩ := hv
  have hx := B.exec; have hb := B.bytes; have hml := hml0; have hr := B.returns; have hts := hE.hts (args := ([.ref (ad 3)] : List Value).toArray); have hown : s.vm.findClass RJx4a65c = some m.cls := findClass_of_methodNamed B.named; have hlocks := B.notSynchronized
  have hl := lv_entry ([.ref (ad 3)] : List Value) (n := 1) (Nat.le_of_ble_eq_true rfl)
  rw [lg_entry_eq]
  generalize (lg_sl ([.ref (ad 3)] : List Value) ++ List.replicate (1 - (lg_sl ([.ref (ad 3)] : List Value)).length) Slot.unset).toArray = ls at hl ⊢
  generalize hH : s.heap = H at hW ⊢
  have hS : va_S (Ab G.2.2.1) s.heap H [] := hH ▸ va_S.rf
  obtain ⟨locs, hlc⟩ : ∃ z : List Loc, z = [] := ⟨_, rfl⟩
  rw [← hlc] at hS ⊢
  have hl : lv_has ls 1 [(0, .ref (ad 3))] := hl
  refine lv_aload_n hx hb dJx4a65c_grow_d5877_0 rfl (lv_at hl 0 rfl) ?_
  refine lv_aload_n hx hb dJx4a65c_grow_d5877_1 rfl (lv_at hl 0 rfl) ?_
  refine q_get hx hb hts hown hW (r := 3) hI.m rfl k_0 2 (by decide) rfl t_92 (x := (nI 0)) hI.s dJx4a65c_grow_d5877_2 ?_
  refine lv_iconst (v := 1) hx hb dJx4a65c_grow_d5877_5 (by decide) ?_
  refine lv_iadd hx hb dJx4a65c_grow_d5877_6 ?_
  refine lv_topi (fun xt et => ?_)
  obtain rfl : xt = 1 := et.trans (by decide)
  clear et
  refine q_cVrw (As := [.int 1]) (rest := []) (r := 3) hx hb hml hts hown hE h0 hW hS (c_growI_l0 l hI hn9 hX9) mw_Jx4a65c_grow_92f84 hI.m rfl k_0 t_459 ⟨Nat.le_of_ble_eq_true rfl, Nat.le_of_ble_eq_true rfl⟩ rfl hl.1 (Nat.le_of_ble_eq_true rfl) dJx4a65c_grow_d5877_7 ⟨(by first | decide | omega | (dsimp only; omega)), (by first | decide | omega | (dsimp only; omega))⟩ (fun ra P H locs hp hW hS => ?_)
  obtain ⟨q9, hq9, rfl⟩ := hp
  subst ra
  have hW : WD G (L ++ [15]) (upA ad 15 q9) (up1 v 15 z32) (up2 (up1 o 15 nOp) 3 1 (some (upA ad 15 q9 15))) w s H := hW
  have hl : lv_has ls 1 [(0, .ref ((upA ad 15 q9) 3))] := by first | exact hl | (rw [e9]; exact hl)
  exact q_aretw hx hb hr (Or.inr ⟨_, rfl⟩) hlocks hW hS (by first | decide | omega | (dsimp only; omega)) (by first | decide | omega | (dsimp only; omega)) dJx4a65c_grow_d5877_10 (⟨q9, rfl, rfl⟩)

set_option maxHeartbeats 4000000 in
set_option maxRecDepth 100000 in
theorem c_add3_l0 (l : Launch) {G : GG} {L : List Nat} {ad : Nat → Nat} {v : Nat → Nat → Int32} {o : Nat → Nat → Option Nat} {w : Nat → Int64} {n : Nat} (hI : LI L ad v o G.2.2.2 3 n 15 17 80) (hn0 : n = 0) (hX9 : 15 ∉ L) (hmq : 80 + n ∈ L) (hkq : kd (80 + n) = 3) : CtVw l G L ad v o w yJx4a65c_add_72be8 cJx4a65c_add_72be8 4 ({ frames := 3, cells := 1, slots := 10, locals := 57 }) [.ref (ad 3), .ref (ad (80 + 0)), .ref G.2.2.2, .int (nI 0)] (fun P => ∃ q, P = (L ++ [15], upA ad 15 q, up2 (up1 v 15 z32) 3 2 (nI 0 + 1), up2 (up2 (up1 o 15 nOp) 3 1 (some (upA ad 15 q 15))) 15 0 (some (upA ad 15 q (80 + 0))))) := by
  have hn9 := hn0; subst hn0; have hed : o 3 1 = some G.2.2.2 := by rcases hI.2.2.2.2.2.2.2.2.2.2 with ⟨_, h⟩ | ⟨h, _⟩ | ⟨h, _⟩; exact h; exact absurd h (by omega); exact absurd h (by omega)
  refine Met.ofW (cc := cJx4a65c_add_72be8) (maxL := 4) (ret := none) (by decide) rfl ?_
  intro p e s m args below meth c s₁ B hml0 hv
  obtain ⟨rfl, hE, h0, hW⟩ := hv
  have hx := B.exec; have hb := B.bytes; have hml := hml0; have hr := B.returns; have hts := hE.hts (args := ([.ref (ad 3), .ref (ad (80 + 0)), .ref G.2.2.2, .int (nI 0)] : List Value).toArray); have hown : s.vm.findClass RJx4a65c = some m.cls := findClass_of_methodNamed B.named; have hlocks := B.notSynchronized
  have hl := lv_entry ([.ref (ad 3), .ref (ad (80 + 0)), .ref G.2.2.2, .int (nI 0)] : List Value) (n := 4) (Nat.le_of_ble_eq_true rfl)
  rw [lg_entry_eq]
  generalize (lg_sl ([.ref (ad 3), .ref (ad (80 + 0)), .ref G.2.2.2, .int (nI 0)] : List Value) ++ List.replicate (4 - (lg_sl ([.ref (ad 3), .ref (ad (80 + 0)), .ref G.2.2.2, .int (nI 0)] : List Value)).length) Slot.unset).toArray = ls at hl ⊢
  generalize hH : s.heap = H at hW ⊢
  have hS : va_S (Ab G.2.2.1) s.heap H [] := hH ▸ va_S.rf
  obtain ⟨locs, hlc⟩ : ∃ z : List Loc, z = [] := ⟨_, rfl⟩
  rw [← hlc] at hS ⊢
  have hl : lv_has ls 4 [(0, .ref (ad 3)), (1, .ref (ad (80 + 0))), (2, .ref G.2.2.2), (3, .int (nI 0))] := hl
  refine lv_iload_n hx hb dJx4a65c_add_72be8_0 rfl (lv_at hl 3 rfl) ?_
  refine lv_aload_n hx hb dJx4a65c_add_72be8_1 rfl (lv_at hl 2 rfl) ?_
  refine q_tdlen hx hb hE hS dJx4a65c_add_72be8_2 ?_
  refine lv_icmp_ne (tgt := 11) hx hb dJx4a65c_add_72be8_3 (by decide) (fun c_3 => ?_) (fun c_3 => ?_)
  · skip
    exact absurd rfl c_3
  · skip
    refine lv_aload_n hx hb dJx4a65c_add_72be8_6 rfl (lv_at hl 0 rfl) ?_
    refine q_cVrw (As := []) (rest := []) (r := 3) hx hb hml hts hown hE h0 hW hS (c_grow_l0 l hI hn9 hX9) mw_Jx4a65c_grow_d5877 hI.m rfl k_0 t_455 ⟨Nat.le_of_ble_eq_true rfl, Nat.le_of_ble_eq_true rfl⟩ rfl hl.1 (Nat.le_of_ble_eq_true rfl) dJx4a65c_add_72be8_7 ⟨(by first | decide | omega | (dsimp only; omega)), (by first | decide | omega | (dsimp only; omega))⟩ (fun ra P H locs hp hW hS => ?_)
    obtain ⟨q9, hq9, rfl⟩ := hp
    subst ra
    have hW : WD G (L ++ [15]) (upA ad 15 q9) (up1 v 15 z32) (up2 (up1 o 15 nOp) 3 1 (some (upA ad 15 q9 15))) w s H := hW
    have e9 : upA ad 15 q9 (80 + 0) = ad (80 + 0) := upA_n (by omega)
    have hl : lv_has ls 4 [(0, .ref ((upA ad 15 q9) 3)), (1, .ref ((upA ad 15 q9) (80 + 0))), (2, .ref G.2.2.2), (3, .int (nI 0))] := by first | exact hl | (rw [e9]; exact hl)
    refine lv_astore_n (lv' := [(2, .ref ((upA ad 15 q9) 15)), (0, .ref ((upA ad 15 q9) 3)), (1, .ref ((upA ad 15 q9) (80 + 0))), (3, .int (nI 0))]) hx hb dJx4a65c_add_72be8_10 rfl hl (by decide) rfl (fun ls hl => ?_)
    refine lv_aload_n hx hb dJx4a65c_add_72be8_11 rfl (lv_at hl 0 rfl) ?_
    refine lv_iload_n hx hb dJx4a65c_add_72be8_12 rfl (lv_at hl 3 rfl) ?_
    refine lv_aload_n hx hb dJx4a65c_add_72be8_13 rfl (lv_at hl 2 rfl) ?_
    refine q_oast hx hb hts hW hS (r := 15) (q := (80 + 0)) (List.mem_append_right _ (List.mem_singleton.mpr rfl)) rfl (List.mem_append_left _ hmq) hkq k_3 t_1148 (0) rfl (by decide) (by decide) dJx4a65c_add_72be8_14 (fun H locs hW hS => ?_)
    refine lv_aload_n hx hb dJx4a65c_add_72be8_15 rfl (lv_at hl 1 rfl) ?_
    refine lv_iload_n hx hb dJx4a65c_add_72be8_16 rfl (lv_at hl 3 rfl) ?_
    refine lv_iconst (v := 1) hx hb dJx4a65c_add_72be8_17 (by decide) ?_
    refine lv_iadd hx hb dJx4a65c_add_72be8_18 ?_
    refine q_put hx hb hts hown hW hS (r := 3) (List.mem_append_left _ hI.m) rfl k_0 2 (by decide) rfl t_92 rfl (t := .int) (by decide +kernel) rfl rfl dJx4a65c_add_72be8_19 (fun H locs hW hS => ?_)
    exact q_vretw hx hb hr hlocks hW hS (by first | decide | omega | (dsimp only; omega)) (by first | decide | omega | (dsimp only; omega)) dJx4a65c_add_72be8_22 (⟨q9, rfl⟩)

set_option maxHeartbeats 4000000 in
set_option maxRecDepth 100000 in
theorem c_add_l0 (l : Launch) {G : GG} {L : List Nat} {ad : Nat → Nat} {v : Nat → Nat → Int32} {o : Nat → Nat → Option Nat} {w : Nat → Int64} {n : Nat} (hI : LI L ad v o G.2.2.2 3 n 15 17 80) (hn0 : n = 0) (hX9 : 15 ∉ L) (hmq : 80 + n ∈ L) (hkq : kd (80 + n) = 3) : CtIw l G L ad v o w yJx4a65c_add_9ea2d cJx4a65c_add_9ea2d 2 .boolean ({ frames := 4, cells := 1, slots := 10, locals := 80 }) [.ref (ad 3), .ref (ad (80 + 0))] (fun r P => r = 1 ∧ ∃ q, P = (L ++ [15], upA ad 15 q, up2 (up1 (up2 v 3 0 (v 3 0 + 1)) 15 z32) 3 2 (nI 0 + 1), up2 (up2 (up1 o 15 nOp) 3 1 (some (upA ad 15 q 15))) 15 0 (some (upA ad 15 q (80 + 0))))) := by
  have hn9 := hn0; subst hn0; have hed : o 3 1 = some G.2.2.2 := by rcases hI.2.2.2.2.2.2.2.2.2.2 with ⟨_, h⟩ | ⟨h, _⟩ | ⟨h, _⟩; exact h; exact absurd h (by omega); exact absurd h (by omega)
  refine Met.ofW (cc := cJx4a65c_add_9ea2d) (maxL := 2) (ret := (some .boolean)) (by decide) rfl ?_
  intro p e s m args below meth c s₁ B hml0 hv
  obtain ⟨rfl, hE, h0, hW⟩ := hv
  have hx := B.exec; have hb := B.bytes; have hml := hml0; have hr := B.returns; have hts := hE.hts (args := ([.ref (ad 3), .ref (ad (80 + 0))] : List Value).toArray); have hown : s.vm.findClass RJx4a65c = some m.cls := findClass_of_methodNamed B.named; have hlocks := B.notSynchronized
  have hl := lv_entry ([.ref (ad 3), .ref (ad (80 + 0))] : List Value) (n := 2) (Nat.le_of_ble_eq_true rfl)
  rw [lg_entry_eq]
  generalize (lg_sl ([.ref (ad 3), .ref (ad (80 + 0))] : List Value) ++ List.replicate (2 - (lg_sl ([.ref (ad 3), .ref (ad (80 + 0))] : List Value)).length) Slot.unset).toArray = ls at hl ⊢
  generalize hH : s.heap = H at hW ⊢
  have hS : va_S (Ab G.2.2.1) s.heap H [] := hH ▸ va_S.rf
  obtain ⟨locs, hlc⟩ : ∃ z : List Loc, z = [] := ⟨_, rfl⟩
  rw [← hlc] at hS ⊢
  have hl : lv_has ls 2 [(0, .ref (ad 3)), (1, .ref (ad (80 + 0)))] := hl
  refine lv_aload_n hx hb dJx4a65c_add_9ea2d_0 rfl (lv_at hl 0 rfl) ?_
  refine lv_dup hx hb dJx4a65c_add_9ea2d_1 rfl ?_
  refine q_getS hx hb hts hown hW (r := 3) hI.m rfl k_0 0 (by decide) rfl t_94 t_95 (x := (v 3 0)) rfl dJx4a65c_add_9ea2d_2 ?_
  refine lv_iconst (v := 1) hx hb dJx4a65c_add_9ea2d_5 (by decide) ?_
  refine lv_iadd hx hb dJx4a65c_add_9ea2d_6 ?_
  refine q_putS hx hb hts hown hW hS (r := 3) hI.m rfl k_0 0 (by decide) rfl t_94 t_95 rfl (t := .int) (by decide +kernel) rfl rfl dJx4a65c_add_9ea2d_7 (fun H locs hW hS => ?_)
  refine lv_aload_n hx hb dJx4a65c_add_9ea2d_10 rfl (lv_at hl 0 rfl) ?_
  refine lv_aload_n hx hb dJx4a65c_add_9ea2d_11 rfl (lv_at hl 1 rfl) ?_
  refine lv_aload_n hx hb dJx4a65c_add_9ea2d_12 rfl (lv_at hl 0 rfl) ?_
  refine q_getr hx hb hts hown hW (r := 3) hI.m rfl k_0 1 (by decide) rfl t_91 (a := G.2.2.2) hed dJx4a65c_add_9ea2d_13 ?_
  refine lv_aload_n hx hb dJx4a65c_add_9ea2d_16 rfl (lv_at hl 0 rfl) ?_
  refine q_get hx hb hts hown hW (r := 3) hI.m rfl k_0 2 (by decide) rfl t_92 (x := (nI 0)) hI.s dJx4a65c_add_9ea2d_17 ?_
  refine q_cVvw (As := [.ref (ad (80 + 0)), .ref G.2.2.2, .int (nI 0)]) (rest := []) (r := 3) hx hb hml hts hown hE h0 hW hS (c_add3_l0 l (hI.cong (v' := (up2 v 3 0 (v 3 0 + 1))) rfl) hn9 hX9 hmq hkq) mw_Jx4a65c_add_72be8 hI.m rfl k_0 t_451 ⟨Nat.le_of_ble_eq_true rfl, Nat.le_of_ble_eq_true rfl⟩ rfl hl.1 (Nat.le_of_ble_eq_true rfl) dJx4a65c_add_9ea2d_20 ⟨(by first | decide | omega | (dsimp only; omega)), (by first | decide | omega | (dsimp only; omega))⟩ (fun  P H locs hp hW hS => ?_)
  obtain ⟨q9, rfl⟩ := hp
  have hW : WD G (L ++ [15]) (upA ad 15 q9) (up2 (up1 (up2 v 3 0 (v 3 0 + 1)) 15 z32) 3 2 (nI 0 + 1)) (up2 (up2 (up1 o 15 nOp) 3 1 (some (upA ad 15 q9 15))) 15 0 (some (upA ad 15 q9 (80 + 0)))) w s H := hW
  have e9 : upA ad 15 q9 (80 + 0) = ad (80 + 0) := upA_n (by omega)
  have hl : lv_has ls 2 [(0, .ref ((upA ad 15 q9) 3)), (1, .ref ((upA ad 15 q9) (80 + 0)))] := by first | exact hl | (rw [e9]; exact hl)
  refine lv_iconst (v := 1) hx hb dJx4a65c_add_9ea2d_23 (by decide) ?_
  exact q_zretw hx hb hr hlocks hW hS (by first | decide | omega | (dsimp only; omega)) (by first | decide | omega | (dsimp only; omega)) (Or.inr rfl) dJx4a65c_add_9ea2d_24 (⟨rfl, q9, rfl⟩)

set_option maxHeartbeats 4000000 in
set_option maxRecDepth 100000 in
theorem c_add3_lm (l : Launch) {G : GG} {L : List Nat} {ad : Nat → Nat} {v : Nat → Nat → Int32} {o : Nat → Nat → Option Nat} {w : Nat → Int64} {n : Nat} (hI : LI L ad v o G.2.2.2 3 n 15 17 80) (hn1 : 0 < n) (hn2 : n < 10) (hmq : 80 + n ∈ L) (hkq : kd (80 + n) = 3) : CtVw l G L ad v o w yJx4a65c_add_72be8 cJx4a65c_add_72be8 4 ({ frames := 0, cells := 0, slots := 0, locals := 0 }) [.ref (ad 3), .ref (ad (80 + n)), .ref (ad 15), .int (nI n)] (fun P => P = (L, ad, up2 v 3 2 (nI n + 1), up2 o 15 n (some (ad (80 + n))))) := by
  obtain ⟨hXm, hed⟩ : 15 ∈ L ∧ o 3 1 = some (ad 15) := by rcases hI.2.2.2.2.2.2.2.2.2.2 with ⟨h, _⟩ | ⟨_, h, h1, h2, h3⟩ | ⟨h, h1, h2, h3⟩; exact absurd h (by omega); exact ⟨h1, h2⟩; exact absurd h (by omega)
  refine Met.ofW (cc := cJx4a65c_add_72be8) (maxL := 4) (ret := none) (by decide) rfl ?_
  intro p e s m args below meth c s₁ B hml0 hv
  obtain ⟨rfl, hE, h0, hW⟩ := hv
  have hx := B.exec; have hb := B.bytes; have hml := hml0; have hr := B.returns; have hts := hE.hts (args := ([.ref (ad 3), .ref (ad (80 + n)), .ref (ad 15), .int (nI n)] : List Value).toArray); have hown : s.vm.findClass RJx4a65c = some m.cls := findClass_of_methodNamed B.named; have hlocks := B.notSynchronized
  have hl := lv_entry ([.ref (ad 3), .ref (ad (80 + n)), .ref (ad 15), .int (nI n)] : List Value) (n := 4) (Nat.le_of_ble_eq_true rfl)
  rw [lg_entry_eq]
  generalize (lg_sl ([.ref (ad 3), .ref (ad (80 + n)), .ref (ad 15), .int (nI n)] : List Value) ++ List.replicate (4 - (lg_sl ([.ref (ad 3), .ref (ad (80 + n)), .ref (ad 15), .int (nI n)] : List Value)).length) Slot.unset).toArray = ls at hl ⊢
  generalize hH : s.heap = H at hW ⊢
  have hS : va_S (Ab G.2.2.1) s.heap H [] := hH ▸ va_S.rf
  obtain ⟨locs, hlc⟩ : ∃ z : List Loc, z = [] := ⟨_, rfl⟩
  rw [← hlc] at hS ⊢
  have hl : lv_has ls 4 [(0, .ref (ad 3)), (1, .ref (ad (80 + n))), (2, .ref (ad 15)), (3, .int (nI n))] := hl
  refine lv_iload_n hx hb dJx4a65c_add_72be8_0 rfl (lv_at hl 3 rfl) ?_
  refine lv_aload_n hx hb dJx4a65c_add_72be8_1 rfl (lv_at hl 2 rfl) ?_
  refine q_oalen hx hb hW (r := 15) hXm rfl (x := 10) rfl dJx4a65c_add_72be8_2 ?_
  refine lv_icmp_ne (tgt := 11) hx hb dJx4a65c_add_72be8_3 (by decide) (fun c_3 => ?_) (fun c_3 => ?_)
  · skip
    refine lv_aload_n hx hb dJx4a65c_add_72be8_11 rfl (lv_at hl 2 rfl) ?_
    refine lv_iload_n hx hb dJx4a65c_add_72be8_12 rfl (lv_at hl 3 rfl) ?_
    refine lv_aload_n hx hb dJx4a65c_add_72be8_13 rfl (lv_at hl 1 rfl) ?_
    refine q_oast hx hb hts hW hS (r := 15) (q := (80 + n)) hXm rfl hmq hkq k_3 t_1148 (n) rfl (show _ < 10 by omega) (by decide) dJx4a65c_add_72be8_14 (fun H locs hW hS => ?_)
    refine lv_aload_n hx hb dJx4a65c_add_72be8_15 rfl (lv_at hl 0 rfl) ?_
    refine lv_iload_n hx hb dJx4a65c_add_72be8_16 rfl (lv_at hl 3 rfl) ?_
    refine lv_iconst (v := 1) hx hb dJx4a65c_add_72be8_17 (by decide) ?_
    refine lv_iadd hx hb dJx4a65c_add_72be8_18 ?_
    refine q_put hx hb hts hown hW hS (r := 3) hI.m rfl k_0 2 (by decide) rfl t_92 rfl (t := .int) (by decide +kernel) rfl rfl dJx4a65c_add_72be8_19 (fun H locs hW hS => ?_)
    exact q_vretw hx hb hr hlocks hW hS (by first | decide | omega | (dsimp only; omega)) (by first | decide | omega | (dsimp only; omega)) dJx4a65c_add_72be8_22 (rfl)
  · skip
    exact absurd c_3 (nI_ne (m := 10) (by omega) (by omega) (by decide))

set_option maxHeartbeats 4000000 in
set_option maxRecDepth 100000 in
theorem c_add_lm (l : Launch) {G : GG} {L : List Nat} {ad : Nat → Nat} {v : Nat → Nat → Int32} {o : Nat → Nat → Option Nat} {w : Nat → Int64} {n : Nat} (hI : LI L ad v o G.2.2.2 3 n 15 17 80) (hn1 : 0 < n) (hn2 : n < 10) (hmq : 80 + n ∈ L) (hkq : kd (80 + n) = 3) : CtIw l G L ad v o w yJx4a65c_add_9ea2d cJx4a65c_add_9ea2d 2 .boolean ({ frames := 1, cells := 0, slots := 0, locals := 23 }) [.ref (ad 3), .ref (ad (80 + n))] (fun r P => r = 1 ∧ P = (L, ad, up2 (up2 v 3 0 (v 3 0 + 1)) 3 2 (nI n + 1), up2 o 15 n (some (ad (80 + n))))) := by
  obtain ⟨hXm, hed⟩ : 15 ∈ L ∧ o 3 1 = some (ad 15) := by rcases hI.2.2.2.2.2.2.2.2.2.2 with ⟨h, _⟩ | ⟨_, h, h1, h2, h3⟩ | ⟨h, h1, h2, h3⟩; exact absurd h (by omega); exact ⟨h1, h2⟩; exact absurd h (by omega)
  refine Met.ofW (cc := cJx4a65c_add_9ea2d) (maxL := 2) (ret := (some .boolean)) (by decide) rfl ?_
  intro p e s m args below meth c s₁ B hml0 hv
  obtain ⟨rfl, hE, h0, hW⟩ := hv
  have hx := B.exec; have hb := B.bytes; have hml := hml0; have hr := B.returns; have hts := hE.hts (args := ([.ref (ad 3), .ref (ad (80 + n))] : List Value).toArray); have hown : s.vm.findClass RJx4a65c = some m.cls := findClass_of_methodNamed B.named; have hlocks := B.notSynchronized
  have hl := lv_entry ([.ref (ad 3), .ref (ad (80 + n))] : List Value) (n := 2) (Nat.le_of_ble_eq_true rfl)
  rw [lg_entry_eq]
  generalize (lg_sl ([.ref (ad 3), .ref (ad (80 + n))] : List Value) ++ List.replicate (2 - (lg_sl ([.ref (ad 3), .ref (ad (80 + n))] : List Value)).length) Slot.unset).toArray = ls at hl ⊢
  generalize hH : s.heap = H at hW ⊢
  have hS : va_S (Ab G.2.2.1) s.heap H [] := hH ▸ va_S.rf
  obtain ⟨locs, hlc⟩ : ∃ z : List Loc, z = [] := ⟨_, rfl⟩
  rw [← hlc] at hS ⊢
  have hl : lv_has ls 2 [(0, .ref (ad 3)), (1, .ref (ad (80 + n)))] := hl
  refine lv_aload_n hx hb dJx4a65c_add_9ea2d_0 rfl (lv_at hl 0 rfl) ?_
  refine lv_dup hx hb dJx4a65c_add_9ea2d_1 rfl ?_
  refine q_getS hx hb hts hown hW (r := 3) hI.m rfl k_0 0 (by decide) rfl t_94 t_95 (x := (v 3 0)) rfl dJx4a65c_add_9ea2d_2 ?_
  refine lv_iconst (v := 1) hx hb dJx4a65c_add_9ea2d_5 (by decide) ?_
  refine lv_iadd hx hb dJx4a65c_add_9ea2d_6 ?_
  refine q_putS hx hb hts hown hW hS (r := 3) hI.m rfl k_0 0 (by decide) rfl t_94 t_95 rfl (t := .int) (by decide +kernel) rfl rfl dJx4a65c_add_9ea2d_7 (fun H locs hW hS => ?_)
  refine lv_aload_n hx hb dJx4a65c_add_9ea2d_10 rfl (lv_at hl 0 rfl) ?_
  refine lv_aload_n hx hb dJx4a65c_add_9ea2d_11 rfl (lv_at hl 1 rfl) ?_
  refine lv_aload_n hx hb dJx4a65c_add_9ea2d_12 rfl (lv_at hl 0 rfl) ?_
  refine q_getr hx hb hts hown hW (r := 3) hI.m rfl k_0 1 (by decide) rfl t_91 (a := ad 15) hed dJx4a65c_add_9ea2d_13 ?_
  refine lv_aload_n hx hb dJx4a65c_add_9ea2d_16 rfl (lv_at hl 0 rfl) ?_
  refine q_get hx hb hts hown hW (r := 3) hI.m rfl k_0 2 (by decide) rfl t_92 (x := (nI n)) hI.s dJx4a65c_add_9ea2d_17 ?_
  refine q_cVvw (As := [.ref (ad (80 + n)), .ref (ad 15), .int (nI n)]) (rest := []) (r := 3) hx hb hml hts hown hE h0 hW hS (c_add3_lm l (hI.cong (v' := (up2 v 3 0 (v 3 0 + 1))) rfl) hn1 hn2 hmq hkq) mw_Jx4a65c_add_72be8 hI.m rfl k_0 t_451 ⟨Nat.le_of_ble_eq_true rfl, Nat.le_of_ble_eq_true rfl⟩ rfl hl.1 (Nat.le_of_ble_eq_true rfl) dJx4a65c_add_9ea2d_20 ⟨(by first | decide | omega | (dsimp only; omega)), (by first | decide | omega | (dsimp only; omega))⟩ (fun  P H locs hp hW hS => ?_)
  obtain rfl := hp
  have hW : WD G L ad (up2 (up2 v 3 0 (v 3 0 + 1)) 3 2 (nI n + 1)) (up2 o 15 n (some (ad (80 + n)))) w s H := hW
  refine lv_iconst (v := 1) hx hb dJx4a65c_add_9ea2d_23 (by decide) ?_
  exact q_zretw hx hb hr hlocks hW hS (by first | decide | omega | (dsimp only; omega)) (by first | decide | omega | (dsimp only; omega)) (Or.inr rfl) dJx4a65c_add_9ea2d_24 (⟨rfl, rfl⟩)

set_option maxHeartbeats 4000000 in
set_option maxRecDepth 100000 in
theorem c_copy3_hg (l : Launch) {G : GG} {L : List Nat} {ad : Nat → Nat} {v : Nat → Nat → Int32} {o : Nat → Nat → Option Nat} {w : Nat → Int64} {n : Nat} (hI : LI L ad v o G.2.2.2 2 n 14 16 60) (hn0 : n = 10) (hX9 : 16 ∉ L) {mi : Nat} : Met l yJ7_copyOf_6403c [Cond.code yJ7_copyOf_6403c cJ7_copyOf_6403c 4 (some (.array (.object "java/lang/Object")))] ({ frames := 1, cells := 1, slots := 15, locals := 30 }) (va_Pc [.ref (ad 14), .int 15, .ref mi] (fun U => CX G L ad v o w U ∧ va_Mi "[Ljava/lang/Object;" mi U)) (va_Qr (fun _ : PW => True) (fun P ra t => (fun ra P => ∃ q, ra = q ∧ P = (L ++ [16], upA ad 16 q, up1 v 16 z32, fun r' k => if r' = 16 then (if k < 10 then up1 o 16 nOp 14 k else up1 o 16 nOp 16 k) else up1 o 16 nOp r' k)) ra P ∧ WDp G P w t t.heap) (Ab G.2.2.1)) ({ frames := 1, cells := 1, slots := 15, locals := 30 } : Room).cells ({ frames := 1, cells := 1, slots := 15, locals := 30 } : Room).slots (Ab G.2.2.1) := by
  have hn9 := hn0; subst hn0; obtain ⟨hAm, hed, hed2⟩ : 14 ∈ L ∧ o 2 1 = some (ad 14) ∧ ∀ i, i < 10 → o 14 i = some (ad (60 + i)) := by rcases hI.2.2.2.2.2.2.2.2.2.2 with ⟨h, _⟩ | ⟨_, _, h1, h2, h3⟩ | ⟨h, _⟩; exact absurd h (by omega); exact ⟨h1, h2, h3⟩; exact absurd h (by omega)
  refine Met.ofW (cc := cJ7_copyOf_6403c) (maxL := 4) (ret := (some (.array (.object "java/lang/Object")))) (by decide) rfl ?_
  intro p e s m args below meth c s₁ B hml0 hv
  obtain ⟨rfl, ⟨hE, h0, hW⟩, hmi⟩ := hv
  have hx := B.exec; have hb := B.bytes; have hml := hml0; have hr := B.returns; have hts := hE.hts (args := ([.ref (ad 14), .int 15, .ref mi] : List Value).toArray); have hown : s.vm.findClass RJ7 = some m.cls := findClass_of_methodNamed B.named; have hlocks := B.notSynchronized
  have hl := lv_entry ([.ref (ad 14), .int 15, .ref mi] : List Value) (n := 4) (Nat.le_of_ble_eq_true rfl)
  rw [lg_entry_eq]
  generalize (lg_sl ([.ref (ad 14), .int 15, .ref mi] : List Value) ++ List.replicate (4 - (lg_sl ([.ref (ad 14), .int 15, .ref mi] : List Value)).length) Slot.unset).toArray = ls at hl ⊢
  generalize hH : s.heap = H at hW ⊢
  have hS : va_S (Ab G.2.2.1) s.heap H [] := hH ▸ va_S.rf
  obtain ⟨locs, hlc⟩ : ∃ z : List Loc, z = [] := ⟨_, rfl⟩
  rw [← hlc] at hS ⊢
  have hl : lv_has ls 4 [(0, .ref (ad 14)), (1, .int 15), (2, .ref mi)] := hl
  refine lv_aload_n hx hb dJ7_copyOf_6403c_0 rfl (lv_at hl 2 rfl) ?_
  refine va_ldcM hx hb hown (hts _ t_493) hmi dJ7_copyOf_6403c_1 ?_
  refine lv_acmp_ne (rx := some (mi)) (ry := some (mi)) (tgt := 13) hx hb dJ7_copyOf_6403c_3 (by decide) (fun c_3 => ?_) (fun c_3 => ?_)
  · skip
    exact absurd rfl c_3
  · skip
    refine lv_iload_n hx hb dJ7_copyOf_6403c_6 rfl (lv_at hl 1 rfl) ?_
    refine q_newo hx hb hts hown hE h0 hW hS 16 hX9 rfl t_495 rfl (by decide) (by first | decide | omega | (dsimp only; omega)) (by first | decide | omega | (dsimp only; omega)) dJ7_copyOf_6403c_7 (fun ad1 H q9 had hW hS => ?_)
    subst had
    have hl : lv_has ls 4 [(0, .ref ((upA ad 16 q9) 14)), (1, .int 15), (2, .ref mi)] := by first | exact hl | (rw [e9]; exact hl)
    refine lv_goto (tgt := 24) hx hb dJ7_copyOf_6403c_10 (by decide) ?_
    refine lv_astore_n (lv' := [(3, .ref ((upA ad 16 q9) 16)), (0, .ref ((upA ad 16 q9) 14)), (1, .int 15), (2, .ref mi)]) hx hb dJ7_copyOf_6403c_24 rfl hl (by decide) rfl (fun ls hl => ?_)
    refine lv_aload_n hx hb dJ7_copyOf_6403c_25 rfl (lv_at hl 1 rfl) ?_
    refine lv_iconst (v := 0) hx hb dJ7_copyOf_6403c_26 (by decide) ?_
    refine lv_aload_n hx hb dJ7_copyOf_6403c_27 rfl (lv_at hl 0 rfl) ?_
    refine lv_iconst (v := 0) hx hb dJ7_copyOf_6403c_28 (by decide) ?_
    refine lv_aload_n hx hb dJ7_copyOf_6403c_29 rfl (lv_at hl 1 rfl) ?_
    refine q_oalen hx hb hW (r := 14) (List.mem_append_left _ hAm) rfl (x := 10) rfl dJ7_copyOf_6403c_30 ?_
    refine lv_iload_n hx hb dJ7_copyOf_6403c_31 rfl (lv_at hl 2 rfl) ?_
    refine q_min hx hb hml hl.1 hts hown m_min t_496 (Nat.le_of_ble_eq_true rfl) (Nat.le_of_ble_eq_true rfl) (by decide) (by decide) dJ7_copyOf_6403c_32 ?_
    refine q_copyo (r0 := 14) (r1 := 16) hx hb hml hl.1 hts hown m_copy t_497 hW hS (List.mem_append_left _ hAm) (List.mem_append_right _ (List.mem_singleton.mpr rfl)) rfl rfl (by decide) 10 (by decide) (by decide) (by decide) (by decide) 60 (fun i hi => ⟨by rw [up1_n (by decide), upA_n (by omega)]; exact hed2 i hi, List.mem_append_left _ (hI.b i hi), kd_h (by omega)⟩) k_2 t_1147 (Nat.le_of_ble_eq_true rfl) (Nat.le_of_ble_eq_true rfl) dJ7_copyOf_6403c_35 (fun H locs hW hS => ?_)
    refine lv_aload_n hx hb dJ7_copyOf_6403c_38 rfl (lv_at hl 0 rfl) ?_
    exact q_aretw hx hb hr (Or.inr ⟨_, rfl⟩) hlocks hW hS (by first | decide | omega | (dsimp only; omega)) (by first | decide | omega | (dsimp only; omega)) dJ7_copyOf_6403c_39 (⟨q9, upA_s, rfl⟩)

set_option maxHeartbeats 4000000 in
set_option maxRecDepth 100000 in
theorem c_copy2_hg (l : Launch) {G : GG} {L : List Nat} {ad : Nat → Nat} {v : Nat → Nat → Int32} {o : Nat → Nat → Option Nat} {w : Nat → Int64} {n : Nat} (hI : LI L ad v o G.2.2.2 2 n 14 16 60) (hn0 : n = 10) (hX9 : 16 ∉ L) : CtRw l G L ad v o w yJ7_copyOf_1904c cJ7_copyOf_1904c 2 (.array (.object "java/lang/Object")) ({ frames := 2, cells := 1, slots := 15, locals := 53 }) [.ref (ad 14), .int 15] (fun ra P => ∃ q, ra = q ∧ P = (L ++ [16], upA ad 16 q, up1 v 16 z32, fun r' k => if r' = 16 then (if k < 10 then up1 o 16 nOp 14 k else up1 o 16 nOp 16 k) else up1 o 16 nOp r' k)) := by
  have hn9 := hn0; subst hn0; obtain ⟨hAm, hed, hed2⟩ : 14 ∈ L ∧ o 2 1 = some (ad 14) ∧ ∀ i, i < 10 → o 14 i = some (ad (60 + i)) := by rcases hI.2.2.2.2.2.2.2.2.2.2 with ⟨h, _⟩ | ⟨_, _, h1, h2, h3⟩ | ⟨h, _⟩; exact absurd h (by omega); exact ⟨h1, h2, h3⟩; exact absurd h (by omega)
  refine Met.ofW (cc := cJ7_copyOf_1904c) (maxL := 2) (ret := (some (.array (.object "java/lang/Object")))) (by decide) rfl ?_
  intro p e s m args below meth c s₁ B hml0 hv
  obtain ⟨rfl, hE, h0, hW⟩ := hv
  have hx := B.exec; have hb := B.bytes; have hml := hml0; have hr := B.returns; have hts := hE.hts (args := ([.ref (ad 14), .int 15] : List Value).toArray); have hown : s.vm.findClass RJ7 = some m.cls := findClass_of_methodNamed B.named; have hlocks := B.notSynchronized
  have hl := lv_entry ([.ref (ad 14), .int 15] : List Value) (n := 2) (Nat.le_of_ble_eq_true rfl)
  rw [lg_entry_eq]
  generalize (lg_sl ([.ref (ad 14), .int 15] : List Value) ++ List.replicate (2 - (lg_sl ([.ref (ad 14), .int 15] : List Value)).length) Slot.unset).toArray = ls at hl ⊢
  generalize hH : s.heap = H at hW ⊢
  have hS : va_S (Ab G.2.2.1) s.heap H [] := hH ▸ va_S.rf
  obtain ⟨locs, hlc⟩ : ∃ z : List Loc, z = [] := ⟨_, rfl⟩
  rw [← hlc] at hS ⊢
  have hl : lv_has ls 2 [(0, .ref (ad 14)), (1, .int 15)] := hl
  obtain ⟨mi, hmi⟩ := hE.2.2.2.2.2.2.2.2.2
  refine lv_aload_n hx hb dJ7_copyOf_1904c_0 rfl (lv_at hl 0 rfl) ?_
  refine lv_iload_n hx hb dJ7_copyOf_1904c_1 rfl (lv_at hl 1 rfl) ?_
  refine lv_aload_n hx hb dJ7_copyOf_1904c_2 rfl (lv_at hl 0 rfl) ?_
  refine q_getC (r := 14) hx hb hml hl.1 hts hown hmi hW hAm rfl t_474 (Nat.le_of_ble_eq_true rfl) (Nat.le_of_ble_eq_true rfl) dJ7_copyOf_1904c_3 ?_
  refine q_cSrwM (As := [.ref (ad 14), .int 15, .ref mi]) (rest := []) hx hb hml hts hown hE h0 hW hS hmi (c_copy3_hg l hI hn9 hX9) mw_J7_copyOf_6403c t_490 ⟨Nat.le_of_ble_eq_true rfl, Nat.le_of_ble_eq_true rfl⟩ rfl hl.1 (Nat.le_of_ble_eq_true rfl) dJ7_copyOf_1904c_6 ⟨(by first | decide | omega | (dsimp only; omega)), (by first | decide | omega | (dsimp only; omega))⟩ (fun ra P H locs hp hW hS => ?_)
  obtain ⟨q9, hq9, rfl⟩ := hp
  subst ra
  have hW : WD G (L ++ [16]) (upA ad 16 q9) (up1 v 16 z32) (fun r' k => if r' = 16 then (if k < 10 then up1 o 16 nOp 14 k else up1 o 16 nOp 16 k) else up1 o 16 nOp r' k) w s H := hW
  have hl : lv_has ls 2 [(0, .ref ((upA ad 16 q9) 14)), (1, .int 15)] := by first | exact hl | (rw [e9]; exact hl)
  exact q_aretw hx hb hr (Or.inr ⟨_, rfl⟩) hlocks hW hS (by first | decide | omega | (dsimp only; omega)) (by first | decide | omega | (dsimp only; omega)) dJ7_copyOf_1904c_9 (⟨q9, rfl, rfl⟩)

set_option maxHeartbeats 4000000 in
set_option maxRecDepth 100000 in
theorem c_growI_hg (l : Launch) {G : GG} {L : List Nat} {ad : Nat → Nat} {v : Nat → Nat → Int32} {o : Nat → Nat → Option Nat} {w : Nat → Int64} {n : Nat} (hI : LI L ad v o G.2.2.2 2 n 14 16 60) (hn0 : n = 10) (hX9 : 16 ∉ L) : CtRw l G L ad v o w yJx4a65c_grow_92f84 cJx4a65c_grow_92f84 4 (.array (.object "java/lang/Object")) ({ frames := 3, cells := 1, slots := 15, locals := 74 }) [.ref (ad 2), .int 11] (fun ra P => ∃ q, ra = q ∧ P = (L ++ [16], upA ad 16 q, up1 v 16 z32, up2 (fun r' k => if r' = 16 then (if k < 10 then up1 o 16 nOp 14 k else up1 o 16 nOp 16 k) else up1 o 16 nOp r' k) 2 1 (some (upA ad 16 q 16)))) := by
  have hn9 := hn0; subst hn0; obtain ⟨hAm, hed, hed2⟩ : 14 ∈ L ∧ o 2 1 = some (ad 14) ∧ ∀ i, i < 10 → o 14 i = some (ad (60 + i)) := by rcases hI.2.2.2.2.2.2.2.2.2.2 with ⟨h, _⟩ | ⟨_, _, h1, h2, h3⟩ | ⟨h, _⟩; exact absurd h (by omega); exact ⟨h1, h2, h3⟩; exact absurd h (by omega)
  refine Met.ofW (cc := cJx4a65c_grow_92f84) (maxL := 4) (ret := (some (.array (.object "java/lang/Object")))) (by decide) rfl ?_
  intro p e s m args below meth c s₁ B hml0 hv
  obtain ⟨rfl, hE, h0, hW⟩ := hv
  have hx := B.exec; have hb := B.bytes; have hml := hml0; have hr := B.returns; have hts := hE.hts (args := ([.ref (ad 2), .int 11] : List Value).toArray); have hown : s.vm.findClass RJx4a65c = some m.cls := findClass_of_methodNamed B.named; have hlocks := B.notSynchronized
  have hl := lv_entry ([.ref (ad 2), .int 11] : List Value) (n := 4) (Nat.le_of_ble_eq_true rfl)
  rw [lg_entry_eq]
  generalize (lg_sl ([.ref (ad 2), .int 11] : List Value) ++ List.replicate (4 - (lg_sl ([.ref (ad 2), .int 11] : List Value)).length) Slot.unset).toArray = ls at hl ⊢
  generalize hH : s.heap = H at hW ⊢
  have hS : va_S (Ab G.2.2.1) s.heap H [] := hH ▸ va_S.rf
  obtain ⟨locs, hlc⟩ : ∃ z : List Loc, z = [] := ⟨_, rfl⟩
  rw [← hlc] at hS ⊢
  have hl : lv_has ls 4 [(0, .ref (ad 2)), (1, .int 11)] := hl
  refine lv_aload_n hx hb dJx4a65c_grow_92f84_0 rfl (lv_at hl 0 rfl) ?_
  refine q_getr hx hb hts hown hW (r := 2) hI.m rfl k_0 1 (by decide) rfl t_91 (a := ad 14) hed dJx4a65c_grow_92f84_1 ?_
  refine q_oalen hx hb hW (r := 14) hAm rfl (x := 10) rfl dJx4a65c_grow_92f84_4 ?_
  refine lv_istore_n (lv' := [(2, .int 10), (0, .ref (ad 2)), (1, .int 11)]) hx hb dJx4a65c_grow_92f84_5 rfl hl (by decide) rfl (fun ls hl => ?_)
  refine lv_iload_n hx hb dJx4a65c_grow_92f84_6 rfl (lv_at hl 0 rfl) ?_
  refine lv_if_gt (tgt := 20) hx hb dJx4a65c_grow_92f84_7 (by decide) (fun c_7 => ?_) (fun c_7 => ?_)
  · skip
    refine lv_iload_n hx hb dJx4a65c_grow_92f84_20 rfl (lv_at hl 0 rfl) ?_
    refine lv_iload_n hx hb dJx4a65c_grow_92f84_21 rfl (lv_at hl 2 rfl) ?_
    refine lv_iload_n hx hb dJx4a65c_grow_92f84_22 rfl (lv_at hl 0 rfl) ?_
    refine lv_isub hx hb dJx4a65c_grow_92f84_23 ?_
    refine lv_topi (fun xt et => ?_)
    obtain rfl : xt = 1 := et.trans (by decide)
    clear et
    refine lv_iload_n hx hb dJx4a65c_grow_92f84_24 rfl (lv_at hl 0 rfl) ?_
    refine lv_iconst (v := 1) hx hb dJx4a65c_grow_92f84_25 (by decide) ?_
    refine lv_ishr hx hb dJx4a65c_grow_92f84_26 ?_
    refine lv_topi (fun xt et => ?_)
    obtain rfl : xt = 5 := et.trans (by decide)
    clear et
    refine q_cSiE (As := [.int 10, .int 1, .int 5]) (rest := []) hx hb hml hts hown hE h0 hW hS (c_newLen l) mw_J8_newLength_cabcc t_463 ⟨Nat.le_of_ble_eq_true rfl, Nat.le_of_ble_eq_true rfl⟩ rfl hl.1 (Nat.le_of_ble_eq_true rfl) dJx4a65c_grow_92f84_27 ⟨Nat.zero_le _, Nat.zero_le _⟩ ⟨rfl, rfl⟩ (fun H locs hW hS => ?_)
    refine lv_istore_n (lv' := [(3, .int 15), (2, .int 10), (0, .ref (ad 2)), (1, .int 11)]) hx hb dJx4a65c_grow_92f84_30 rfl hl (by decide) rfl (fun ls hl => ?_)
    refine lv_aload_n hx hb dJx4a65c_grow_92f84_31 rfl (lv_at hl 2 rfl) ?_
    refine lv_aload_n hx hb dJx4a65c_grow_92f84_32 rfl (lv_at hl 2 rfl) ?_
    refine q_getr hx hb hts hown hW (r := 2) hI.m rfl k_0 1 (by decide) rfl t_91 (a := ad 14) hed dJx4a65c_grow_92f84_33 ?_
    refine lv_iload_n hx hb dJx4a65c_grow_92f84_36 rfl (lv_at hl 0 rfl) ?_
    refine q_cSrw (As := [.ref (ad 14), .int 15]) (rest := [.ref (ad 2)]) hx hb hml hts hown hE h0 hW hS (c_copy2_hg l hI hn9 hX9) mw_J7_copyOf_1904c t_471 ⟨Nat.le_of_ble_eq_true rfl, Nat.le_of_ble_eq_true rfl⟩ rfl hl.1 (Nat.le_of_ble_eq_true rfl) dJx4a65c_grow_92f84_37 ⟨(by first | decide | omega | (dsimp only; omega)), (by first | decide | omega | (dsimp only; omega))⟩ (fun ra P H locs hp hW hS => ?_)
    obtain ⟨q9, hq9, rfl⟩ := hp
    subst ra
    have hW : WD G (L ++ [16]) (upA ad 16 q9) (up1 v 16 z32) (fun r' k => if r' = 16 then (if k < 10 then up1 o 16 nOp 14 k else up1 o 16 nOp 16 k) else up1 o 16 nOp r' k) w s H := hW
    have hl : lv_has ls 4 [(3, .int 15), (2, .int 10), (0, .ref ((upA ad 16 q9) 2)), (1, .int 11)] := by first | exact hl | (rw [e9]; exact hl)
    refine lv_dup_x1 hx hb dJx4a65c_grow_92f84_40 rfl rfl ?_
    refine q_putr hx hb hts hown hW hS (r := 2) (List.mem_append_left _ hI.m) rfl k_0 1 (by decide) rfl t_91 rfl (t := .array (.object "java/lang/Object")) (by decide +kernel) rfl rfl dJx4a65c_grow_92f84_41 (fun H locs hW hS => ?_)
    exact q_aretw hx hb hr (Or.inr ⟨_, rfl⟩) hlocks hW hS (by first | decide | omega | (dsimp only; omega)) (by first | decide | omega | (dsimp only; omega)) dJx4a65c_grow_92f84_44 (⟨q9, rfl, rfl⟩)
  · skip
    exact absurd (by decide) c_7

set_option maxHeartbeats 4000000 in
set_option maxRecDepth 100000 in
theorem c_grow_hg (l : Launch) {G : GG} {L : List Nat} {ad : Nat → Nat} {v : Nat → Nat → Int32} {o : Nat → Nat → Option Nat} {w : Nat → Int64} {n : Nat} (hI : LI L ad v o G.2.2.2 2 n 14 16 60) (hn0 : n = 10) (hX9 : 16 ∉ L) : CtRw l G L ad v o w yJx4a65c_grow_d5877 cJx4a65c_grow_d5877 1 (.array (.object "java/lang/Object")) ({ frames := 4, cells := 1, slots := 15, locals := 97 }) [.ref (ad 2)] (fun ra P => ∃ q, ra = q ∧ P = (L ++ [16], upA ad 16 q, up1 v 16 z32, up2 (fun r' k => if r' = 16 then (if k < 10 then up1 o 16 nOp 14 k else up1 o 16 nOp 16 k) else up1 o 16 nOp r' k) 2 1 (some (upA ad 16 q 16)))) := by
  have hn9 := hn0; subst hn0
  refine Met.ofW (cc := cJx4a65c_grow_d5877) (maxL := 1) (ret := (some (.array (.object "java/lang/Object")))) (by decide) rfl ?_
  intro p e s m args below meth c s₁ B hml0 hv
  obtain ⟨rfl, hE, h0, hW⟩ := hv
  have hx := B.exec; have hb := B.bytes; have hml := hml0; have hr := B.returns; have hts := hE.hts (args := ([.ref (ad 2)] : List Value).toArray); have hown : s.vm.findClass RJx4a65c = some m.cls := findClass_of_methodNamed B.named; have hlocks := B.notSynchronized
  have hl := lv_entry ([.ref (ad 2)] : List Value) (n := 1) (Nat.le_of_ble_eq_true rfl)
  rw [lg_entry_eq]
  generalize (lg_sl ([.ref (ad 2)] : List Value) ++ List.replicate (1 - (lg_sl ([.ref (ad 2)] : List Value)).length) Slot.unset).toArray = ls at hl ⊢
  generalize hH : s.heap = H at hW ⊢
  have hS : va_S (Ab G.2.2.1) s.heap H [] := hH ▸ va_S.rf
  obtain ⟨locs, hlc⟩ : ∃ z : List Loc, z = [] := ⟨_, rfl⟩
  rw [← hlc] at hS ⊢
  have hl : lv_has ls 1 [(0, .ref (ad 2))] := hl
  refine lv_aload_n hx hb dJx4a65c_grow_d5877_0 rfl (lv_at hl 0 rfl) ?_
  refine lv_aload_n hx hb dJx4a65c_grow_d5877_1 rfl (lv_at hl 0 rfl) ?_
  refine q_get hx hb hts hown hW (r := 2) hI.m rfl k_0 2 (by decide) rfl t_92 (x := (nI 10)) hI.s dJx4a65c_grow_d5877_2 ?_
  refine lv_iconst (v := 1) hx hb dJx4a65c_grow_d5877_5 (by decide) ?_
  refine lv_iadd hx hb dJx4a65c_grow_d5877_6 ?_
  refine lv_topi (fun xt et => ?_)
  obtain rfl : xt = 11 := et.trans (by decide)
  clear et
  refine q_cVrw (As := [.int 11]) (rest := []) (r := 2) hx hb hml hts hown hE h0 hW hS (c_growI_hg l hI hn9 hX9) mw_Jx4a65c_grow_92f84 hI.m rfl k_0 t_459 ⟨Nat.le_of_ble_eq_true rfl, Nat.le_of_ble_eq_true rfl⟩ rfl hl.1 (Nat.le_of_ble_eq_true rfl) dJx4a65c_grow_d5877_7 ⟨(by first | decide | omega | (dsimp only; omega)), (by first | decide | omega | (dsimp only; omega))⟩ (fun ra P H locs hp hW hS => ?_)
  obtain ⟨q9, hq9, rfl⟩ := hp
  subst ra
  have hW : WD G (L ++ [16]) (upA ad 16 q9) (up1 v 16 z32) (up2 (fun r' k => if r' = 16 then (if k < 10 then up1 o 16 nOp 14 k else up1 o 16 nOp 16 k) else up1 o 16 nOp r' k) 2 1 (some (upA ad 16 q9 16))) w s H := hW
  have hl : lv_has ls 1 [(0, .ref ((upA ad 16 q9) 2))] := by first | exact hl | (rw [e9]; exact hl)
  exact q_aretw hx hb hr (Or.inr ⟨_, rfl⟩) hlocks hW hS (by first | decide | omega | (dsimp only; omega)) (by first | decide | omega | (dsimp only; omega)) dJx4a65c_grow_d5877_10 (⟨q9, rfl, rfl⟩)

set_option maxHeartbeats 4000000 in
set_option maxRecDepth 100000 in
theorem c_add3_hg (l : Launch) {G : GG} {L : List Nat} {ad : Nat → Nat} {v : Nat → Nat → Int32} {o : Nat → Nat → Option Nat} {w : Nat → Int64} {n : Nat} (hI : LI L ad v o G.2.2.2 2 n 14 16 60) (hn0 : n = 10) (hX9 : 16 ∉ L) (hmq : 60 + n ∈ L) (hkq : kd (60 + n) = 2) : CtVw l G L ad v o w yJx4a65c_add_72be8 cJx4a65c_add_72be8 4 ({ frames := 5, cells := 1, slots := 15, locals := 117 }) [.ref (ad 2), .ref (ad (60 + 10)), .ref (ad 14), .int (nI 10)] (fun P => ∃ q, P = (L ++ [16], upA ad 16 q, up2 (up1 v 16 z32) 2 2 (nI 10 + 1), up2 (up2 (fun r' k => if r' = 16 then (if k < 10 then up1 o 16 nOp 14 k else up1 o 16 nOp 16 k) else up1 o 16 nOp r' k) 2 1 (some (upA ad 16 q 16))) 16 10 (some (upA ad 16 q (60 + 10))))) := by
  have hn9 := hn0; subst hn0; obtain ⟨hAm, hed⟩ : 14 ∈ L ∧ o 2 1 = some (ad 14) := by rcases hI.2.2.2.2.2.2.2.2.2.2 with ⟨h, _⟩ | ⟨_, _, h1, h2, h3⟩ | ⟨h, _⟩; exact absurd h (by omega); exact ⟨h1, h2⟩; exact absurd h (by omega)
  refine Met.ofW (cc := cJx4a65c_add_72be8) (maxL := 4) (ret := none) (by decide) rfl ?_
  intro p e s m args below meth c s₁ B hml0 hv
  obtain ⟨rfl, hE, h0, hW⟩ := hv
  have hx := B.exec; have hb := B.bytes; have hml := hml0; have hr := B.returns; have hts := hE.hts (args := ([.ref (ad 2), .ref (ad (60 + 10)), .ref (ad 14), .int (nI 10)] : List Value).toArray); have hown : s.vm.findClass RJx4a65c = some m.cls := findClass_of_methodNamed B.named; have hlocks := B.notSynchronized
  have hl := lv_entry ([.ref (ad 2), .ref (ad (60 + 10)), .ref (ad 14), .int (nI 10)] : List Value) (n := 4) (Nat.le_of_ble_eq_true rfl)
  rw [lg_entry_eq]
  generalize (lg_sl ([.ref (ad 2), .ref (ad (60 + 10)), .ref (ad 14), .int (nI 10)] : List Value) ++ List.replicate (4 - (lg_sl ([.ref (ad 2), .ref (ad (60 + 10)), .ref (ad 14), .int (nI 10)] : List Value)).length) Slot.unset).toArray = ls at hl ⊢
  generalize hH : s.heap = H at hW ⊢
  have hS : va_S (Ab G.2.2.1) s.heap H [] := hH ▸ va_S.rf
  obtain ⟨locs, hlc⟩ : ∃ z : List Loc, z = [] := ⟨_, rfl⟩
  rw [← hlc] at hS ⊢
  have hl : lv_has ls 4 [(0, .ref (ad 2)), (1, .ref (ad (60 + 10))), (2, .ref (ad 14)), (3, .int (nI 10))] := hl
  refine lv_iload_n hx hb dJx4a65c_add_72be8_0 rfl (lv_at hl 3 rfl) ?_
  refine lv_aload_n hx hb dJx4a65c_add_72be8_1 rfl (lv_at hl 2 rfl) ?_
  refine q_oalen hx hb hW (r := 14) hAm rfl (x := 10) rfl dJx4a65c_add_72be8_2 ?_
  refine lv_icmp_ne (tgt := 11) hx hb dJx4a65c_add_72be8_3 (by decide) (fun c_3 => ?_) (fun c_3 => ?_)
  · skip
    exact absurd rfl c_3
  · skip
    refine lv_aload_n hx hb dJx4a65c_add_72be8_6 rfl (lv_at hl 0 rfl) ?_
    refine q_cVrw (As := []) (rest := []) (r := 2) hx hb hml hts hown hE h0 hW hS (c_grow_hg l hI hn9 hX9) mw_Jx4a65c_grow_d5877 hI.m rfl k_0 t_455 ⟨Nat.le_of_ble_eq_true rfl, Nat.le_of_ble_eq_true rfl⟩ rfl hl.1 (Nat.le_of_ble_eq_true rfl) dJx4a65c_add_72be8_7 ⟨(by first | decide | omega | (dsimp only; omega)), (by first | decide | omega | (dsimp only; omega))⟩ (fun ra P H locs hp hW hS => ?_)
    obtain ⟨q9, hq9, rfl⟩ := hp
    subst ra
    have hW : WD G (L ++ [16]) (upA ad 16 q9) (up1 v 16 z32) (up2 (fun r' k => if r' = 16 then (if k < 10 then up1 o 16 nOp 14 k else up1 o 16 nOp 16 k) else up1 o 16 nOp r' k) 2 1 (some (upA ad 16 q9 16))) w s H := hW
    have e9 : upA ad 16 q9 (60 + 10) = ad (60 + 10) := upA_n (by omega)
    have hl : lv_has ls 4 [(0, .ref ((upA ad 16 q9) 2)), (1, .ref ((upA ad 16 q9) (60 + 10))), (2, .ref ((upA ad 16 q9) 14)), (3, .int (nI 10))] := by first | exact hl | (rw [e9]; exact hl)
    refine lv_astore_n (lv' := [(2, .ref ((upA ad 16 q9) 16)), (0, .ref ((upA ad 16 q9) 2)), (1, .ref ((upA ad 16 q9) (60 + 10))), (3, .int (nI 10))]) hx hb dJx4a65c_add_72be8_10 rfl hl (by decide) rfl (fun ls hl => ?_)
    refine lv_aload_n hx hb dJx4a65c_add_72be8_11 rfl (lv_at hl 0 rfl) ?_
    refine lv_iload_n hx hb dJx4a65c_add_72be8_12 rfl (lv_at hl 3 rfl) ?_
    refine lv_aload_n hx hb dJx4a65c_add_72be8_13 rfl (lv_at hl 2 rfl) ?_
    refine q_oast hx hb hts hW hS (r := 16) (q := (60 + 10)) (List.mem_append_right _ (List.mem_singleton.mpr rfl)) rfl (List.mem_append_left _ hmq) hkq k_2 t_1147 (10) rfl (by decide) (by decide) dJx4a65c_add_72be8_14 (fun H locs hW hS => ?_)
    refine lv_aload_n hx hb dJx4a65c_add_72be8_15 rfl (lv_at hl 1 rfl) ?_
    refine lv_iload_n hx hb dJx4a65c_add_72be8_16 rfl (lv_at hl 3 rfl) ?_
    refine lv_iconst (v := 1) hx hb dJx4a65c_add_72be8_17 (by decide) ?_
    refine lv_iadd hx hb dJx4a65c_add_72be8_18 ?_
    refine q_put hx hb hts hown hW hS (r := 2) (List.mem_append_left _ hI.m) rfl k_0 2 (by decide) rfl t_92 rfl (t := .int) (by decide +kernel) rfl rfl dJx4a65c_add_72be8_19 (fun H locs hW hS => ?_)
    exact q_vretw hx hb hr hlocks hW hS (by first | decide | omega | (dsimp only; omega)) (by first | decide | omega | (dsimp only; omega)) dJx4a65c_add_72be8_22 (⟨q9, rfl⟩)

set_option maxHeartbeats 4000000 in
set_option maxRecDepth 100000 in
theorem c_add_hg (l : Launch) {G : GG} {L : List Nat} {ad : Nat → Nat} {v : Nat → Nat → Int32} {o : Nat → Nat → Option Nat} {w : Nat → Int64} {n : Nat} (hI : LI L ad v o G.2.2.2 2 n 14 16 60) (hn0 : n = 10) (hX9 : 16 ∉ L) (hmq : 60 + n ∈ L) (hkq : kd (60 + n) = 2) : CtIw l G L ad v o w yJx4a65c_add_9ea2d cJx4a65c_add_9ea2d 2 .boolean ({ frames := 6, cells := 1, slots := 15, locals := 140 }) [.ref (ad 2), .ref (ad (60 + 10))] (fun r P => r = 1 ∧ ∃ q, P = (L ++ [16], upA ad 16 q, up2 (up1 (up2 v 2 0 (v 2 0 + 1)) 16 z32) 2 2 (nI 10 + 1), up2 (up2 (fun r' k => if r' = 16 then (if k < 10 then up1 o 16 nOp 14 k else up1 o 16 nOp 16 k) else up1 o 16 nOp r' k) 2 1 (some (upA ad 16 q 16))) 16 10 (some (upA ad 16 q (60 + 10))))) := by
  have hn9 := hn0; subst hn0; obtain ⟨hAm, hed⟩ : 14 ∈ L ∧ o 2 1 = some (ad 14) := by rcases hI.2.2.2.2.2.2.2.2.2.2 with ⟨h, _⟩ | ⟨_, _, h1, h2, h3⟩ | ⟨h, _⟩; exact absurd h (by omega); exact ⟨h1, h2⟩; exact absurd h (by omega)
  refine Met.ofW (cc := cJx4a65c_add_9ea2d) (maxL := 2) (ret := (some .boolean)) (by decide) rfl ?_
  intro p e s m args below meth c s₁ B hml0 hv
  obtain ⟨rfl, hE, h0, hW⟩ := hv
  have hx := B.exec; have hb := B.bytes; have hml := hml0; have hr := B.returns; have hts := hE.hts (args := ([.ref (ad 2), .ref (ad (60 + 10))] : List Value).toArray); have hown : s.vm.findClass RJx4a65c = some m.cls := findClass_of_methodNamed B.named; have hlocks := B.notSynchronized
  have hl := lv_entry ([.ref (ad 2), .ref (ad (60 + 10))] : List Value) (n := 2) (Nat.le_of_ble_eq_true rfl)
  rw [lg_entry_eq]
  generalize (lg_sl ([.ref (ad 2), .ref (ad (60 + 10))] : List Value) ++ List.replicate (2 - (lg_sl ([.ref (ad 2), .ref (ad (60 + 10))] : List Value)).length) Slot.unset).toArray = ls at hl ⊢
  generalize hH : s.heap = H at hW ⊢
  have hS : va_S (Ab G.2.2.1) s.heap H [] := hH ▸ va_S.rf
  obtain ⟨locs, hlc⟩ : ∃ z : List Loc, z = [] := ⟨_, rfl⟩
  rw [← hlc] at hS ⊢
  have hl : lv_has ls 2 [(0, .ref (ad 2)), (1, .ref (ad (60 + 10)))] := hl
  refine lv_aload_n hx hb dJx4a65c_add_9ea2d_0 rfl (lv_at hl 0 rfl) ?_
  refine lv_dup hx hb dJx4a65c_add_9ea2d_1 rfl ?_
  refine q_getS hx hb hts hown hW (r := 2) hI.m rfl k_0 0 (by decide) rfl t_94 t_95 (x := (v 2 0)) rfl dJx4a65c_add_9ea2d_2 ?_
  refine lv_iconst (v := 1) hx hb dJx4a65c_add_9ea2d_5 (by decide) ?_
  refine lv_iadd hx hb dJx4a65c_add_9ea2d_6 ?_
  refine q_putS hx hb hts hown hW hS (r := 2) hI.m rfl k_0 0 (by decide) rfl t_94 t_95 rfl (t := .int) (by decide +kernel) rfl rfl dJx4a65c_add_9ea2d_7 (fun H locs hW hS => ?_)
  refine lv_aload_n hx hb dJx4a65c_add_9ea2d_10 rfl (lv_at hl 0 rfl) ?_
  refine lv_aload_n hx hb dJx4a65c_add_9ea2d_11 rfl (lv_at hl 1 rfl) ?_
  refine lv_aload_n hx hb dJx4a65c_add_9ea2d_12 rfl (lv_at hl 0 rfl) ?_
  refine q_getr hx hb hts hown hW (r := 2) hI.m rfl k_0 1 (by decide) rfl t_91 (a := ad 14) hed dJx4a65c_add_9ea2d_13 ?_
  refine lv_aload_n hx hb dJx4a65c_add_9ea2d_16 rfl (lv_at hl 0 rfl) ?_
  refine q_get hx hb hts hown hW (r := 2) hI.m rfl k_0 2 (by decide) rfl t_92 (x := (nI 10)) hI.s dJx4a65c_add_9ea2d_17 ?_
  refine q_cVvw (As := [.ref (ad (60 + 10)), .ref (ad 14), .int (nI 10)]) (rest := []) (r := 2) hx hb hml hts hown hE h0 hW hS (c_add3_hg l (hI.cong (v' := (up2 v 2 0 (v 2 0 + 1))) rfl) hn9 hX9 hmq hkq) mw_Jx4a65c_add_72be8 hI.m rfl k_0 t_451 ⟨Nat.le_of_ble_eq_true rfl, Nat.le_of_ble_eq_true rfl⟩ rfl hl.1 (Nat.le_of_ble_eq_true rfl) dJx4a65c_add_9ea2d_20 ⟨(by first | decide | omega | (dsimp only; omega)), (by first | decide | omega | (dsimp only; omega))⟩ (fun  P H locs hp hW hS => ?_)
  obtain ⟨q9, rfl⟩ := hp
  have hW : WD G (L ++ [16]) (upA ad 16 q9) (up2 (up1 (up2 v 2 0 (v 2 0 + 1)) 16 z32) 2 2 (nI 10 + 1)) (up2 (up2 (fun r' k => if r' = 16 then (if k < 10 then up1 o 16 nOp 14 k else up1 o 16 nOp 16 k) else up1 o 16 nOp r' k) 2 1 (some (upA ad 16 q9 16))) 16 10 (some (upA ad 16 q9 (60 + 10)))) w s H := hW
  have e9 : upA ad 16 q9 (60 + 10) = ad (60 + 10) := upA_n (by omega)
  have hl : lv_has ls 2 [(0, .ref ((upA ad 16 q9) 2)), (1, .ref ((upA ad 16 q9) (60 + 10)))] := by first | exact hl | (rw [e9]; exact hl)
  refine lv_iconst (v := 1) hx hb dJx4a65c_add_9ea2d_23 (by decide) ?_
  exact q_zretw hx hb hr hlocks hW hS (by first | decide | omega | (dsimp only; omega)) (by first | decide | omega | (dsimp only; omega)) (Or.inr rfl) dJx4a65c_add_9ea2d_24 (⟨rfl, q9, rfl⟩)

set_option maxHeartbeats 4000000 in
set_option maxRecDepth 100000 in
theorem c_add3_hn (l : Launch) {G : GG} {L : List Nat} {ad : Nat → Nat} {v : Nat → Nat → Int32} {o : Nat → Nat → Option Nat} {w : Nat → Int64} {n : Nat} (hI : LI L ad v o G.2.2.2 2 n 14 16 60) (hn1 : 10 < n) (hn2 : n < 15) (hmq : 60 + n ∈ L) (hkq : kd (60 + n) = 2) : CtVw l G L ad v o w yJx4a65c_add_72be8 cJx4a65c_add_72be8 4 ({ frames := 0, cells := 0, slots := 0, locals := 0 }) [.ref (ad 2), .ref (ad (60 + n)), .ref (ad 16), .int (nI n)] (fun P => P = (L, ad, up2 v 2 2 (nI n + 1), up2 o 16 n (some (ad (60 + n))))) := by
  obtain ⟨hXm, hed⟩ : 16 ∈ L ∧ o 2 1 = some (ad 16) := by rcases hI.2.2.2.2.2.2.2.2.2.2 with ⟨h, _⟩ | ⟨_, h, h1, h2, h3⟩ | ⟨h, h1, h2, h3⟩; exact absurd h (by omega); exact absurd h (by omega); exact ⟨h1, h2⟩
  refine Met.ofW (cc := cJx4a65c_add_72be8) (maxL := 4) (ret := none) (by decide) rfl ?_
  intro p e s m args below meth c s₁ B hml0 hv
  obtain ⟨rfl, hE, h0, hW⟩ := hv
  have hx := B.exec; have hb := B.bytes; have hml := hml0; have hr := B.returns; have hts := hE.hts (args := ([.ref (ad 2), .ref (ad (60 + n)), .ref (ad 16), .int (nI n)] : List Value).toArray); have hown : s.vm.findClass RJx4a65c = some m.cls := findClass_of_methodNamed B.named; have hlocks := B.notSynchronized
  have hl := lv_entry ([.ref (ad 2), .ref (ad (60 + n)), .ref (ad 16), .int (nI n)] : List Value) (n := 4) (Nat.le_of_ble_eq_true rfl)
  rw [lg_entry_eq]
  generalize (lg_sl ([.ref (ad 2), .ref (ad (60 + n)), .ref (ad 16), .int (nI n)] : List Value) ++ List.replicate (4 - (lg_sl ([.ref (ad 2), .ref (ad (60 + n)), .ref (ad 16), .int (nI n)] : List Value)).length) Slot.unset).toArray = ls at hl ⊢
  generalize hH : s.heap = H at hW ⊢
  have hS : va_S (Ab G.2.2.1) s.heap H [] := hH ▸ va_S.rf
  obtain ⟨locs, hlc⟩ : ∃ z : List Loc, z = [] := ⟨_, rfl⟩
  rw [← hlc] at hS ⊢
  have hl : lv_has ls 4 [(0, .ref (ad 2)), (1, .ref (ad (60 + n))), (2, .ref (ad 16)), (3, .int (nI n))] := hl
  refine lv_iload_n hx hb dJx4a65c_add_72be8_0 rfl (lv_at hl 3 rfl) ?_
  refine lv_aload_n hx hb dJx4a65c_add_72be8_1 rfl (lv_at hl 2 rfl) ?_
  refine q_oalen hx hb hW (r := 16) hXm rfl (x := 15) rfl dJx4a65c_add_72be8_2 ?_
  refine lv_icmp_ne (tgt := 11) hx hb dJx4a65c_add_72be8_3 (by decide) (fun c_3 => ?_) (fun c_3 => ?_)
  · skip
    refine lv_aload_n hx hb dJx4a65c_add_72be8_11 rfl (lv_at hl 2 rfl) ?_
    refine lv_iload_n hx hb dJx4a65c_add_72be8_12 rfl (lv_at hl 3 rfl) ?_
    refine lv_aload_n hx hb dJx4a65c_add_72be8_13 rfl (lv_at hl 1 rfl) ?_
    refine q_oast hx hb hts hW hS (r := 16) (q := (60 + n)) hXm rfl hmq hkq k_2 t_1147 (n) rfl (show _ < 15 by omega) (by decide) dJx4a65c_add_72be8_14 (fun H locs hW hS => ?_)
    refine lv_aload_n hx hb dJx4a65c_add_72be8_15 rfl (lv_at hl 0 rfl) ?_
    refine lv_iload_n hx hb dJx4a65c_add_72be8_16 rfl (lv_at hl 3 rfl) ?_
    refine lv_iconst (v := 1) hx hb dJx4a65c_add_72be8_17 (by decide) ?_
    refine lv_iadd hx hb dJx4a65c_add_72be8_18 ?_
    refine q_put hx hb hts hown hW hS (r := 2) hI.m rfl k_0 2 (by decide) rfl t_92 rfl (t := .int) (by decide +kernel) rfl rfl dJx4a65c_add_72be8_19 (fun H locs hW hS => ?_)
    exact q_vretw hx hb hr hlocks hW hS (by first | decide | omega | (dsimp only; omega)) (by first | decide | omega | (dsimp only; omega)) dJx4a65c_add_72be8_22 (rfl)
  · skip
    exact absurd c_3 (nI_ne (m := 15) (by omega) (by omega) (by decide))

set_option maxHeartbeats 4000000 in
set_option maxRecDepth 100000 in
theorem c_add_hn (l : Launch) {G : GG} {L : List Nat} {ad : Nat → Nat} {v : Nat → Nat → Int32} {o : Nat → Nat → Option Nat} {w : Nat → Int64} {n : Nat} (hI : LI L ad v o G.2.2.2 2 n 14 16 60) (hn1 : 10 < n) (hn2 : n < 15) (hmq : 60 + n ∈ L) (hkq : kd (60 + n) = 2) : CtIw l G L ad v o w yJx4a65c_add_9ea2d cJx4a65c_add_9ea2d 2 .boolean ({ frames := 1, cells := 0, slots := 0, locals := 23 }) [.ref (ad 2), .ref (ad (60 + n))] (fun r P => r = 1 ∧ P = (L, ad, up2 (up2 v 2 0 (v 2 0 + 1)) 2 2 (nI n + 1), up2 o 16 n (some (ad (60 + n))))) := by
  obtain ⟨hXm, hed⟩ : 16 ∈ L ∧ o 2 1 = some (ad 16) := by rcases hI.2.2.2.2.2.2.2.2.2.2 with ⟨h, _⟩ | ⟨_, h, h1, h2, h3⟩ | ⟨h, h1, h2, h3⟩; exact absurd h (by omega); exact absurd h (by omega); exact ⟨h1, h2⟩
  refine Met.ofW (cc := cJx4a65c_add_9ea2d) (maxL := 2) (ret := (some .boolean)) (by decide) rfl ?_
  intro p e s m args below meth c s₁ B hml0 hv
  obtain ⟨rfl, hE, h0, hW⟩ := hv
  have hx := B.exec; have hb := B.bytes; have hml := hml0; have hr := B.returns; have hts := hE.hts (args := ([.ref (ad 2), .ref (ad (60 + n))] : List Value).toArray); have hown : s.vm.findClass RJx4a65c = some m.cls := findClass_of_methodNamed B.named; have hlocks := B.notSynchronized
  have hl := lv_entry ([.ref (ad 2), .ref (ad (60 + n))] : List Value) (n := 2) (Nat.le_of_ble_eq_true rfl)
  rw [lg_entry_eq]
  generalize (lg_sl ([.ref (ad 2), .ref (ad (60 + n))] : List Value) ++ List.replicate (2 - (lg_sl ([.ref (ad 2), .ref (ad (60 + n))] : List Value)).length) Slot.unset).toArray = ls at hl ⊢
  generalize hH : s.heap = H at hW ⊢
  have hS : va_S (Ab G.2.2.1) s.heap H [] := hH ▸ va_S.rf
  obtain ⟨locs, hlc⟩ : ∃ z : List Loc, z = [] := ⟨_, rfl⟩
  rw [← hlc] at hS ⊢
  have hl : lv_has ls 2 [(0, .ref (ad 2)), (1, .ref (ad (60 + n)))] := hl
  refine lv_aload_n hx hb dJx4a65c_add_9ea2d_0 rfl (lv_at hl 0 rfl) ?_
  refine lv_dup hx hb dJx4a65c_add_9ea2d_1 rfl ?_
  refine q_getS hx hb hts hown hW (r := 2) hI.m rfl k_0 0 (by decide) rfl t_94 t_95 (x := (v 2 0)) rfl dJx4a65c_add_9ea2d_2 ?_
  refine lv_iconst (v := 1) hx hb dJx4a65c_add_9ea2d_5 (by decide) ?_
  refine lv_iadd hx hb dJx4a65c_add_9ea2d_6 ?_
  refine q_putS hx hb hts hown hW hS (r := 2) hI.m rfl k_0 0 (by decide) rfl t_94 t_95 rfl (t := .int) (by decide +kernel) rfl rfl dJx4a65c_add_9ea2d_7 (fun H locs hW hS => ?_)
  refine lv_aload_n hx hb dJx4a65c_add_9ea2d_10 rfl (lv_at hl 0 rfl) ?_
  refine lv_aload_n hx hb dJx4a65c_add_9ea2d_11 rfl (lv_at hl 1 rfl) ?_
  refine lv_aload_n hx hb dJx4a65c_add_9ea2d_12 rfl (lv_at hl 0 rfl) ?_
  refine q_getr hx hb hts hown hW (r := 2) hI.m rfl k_0 1 (by decide) rfl t_91 (a := ad 16) hed dJx4a65c_add_9ea2d_13 ?_
  refine lv_aload_n hx hb dJx4a65c_add_9ea2d_16 rfl (lv_at hl 0 rfl) ?_
  refine q_get hx hb hts hown hW (r := 2) hI.m rfl k_0 2 (by decide) rfl t_92 (x := (nI n)) hI.s dJx4a65c_add_9ea2d_17 ?_
  refine q_cVvw (As := [.ref (ad (60 + n)), .ref (ad 16), .int (nI n)]) (rest := []) (r := 2) hx hb hml hts hown hE h0 hW hS (c_add3_hn l (hI.cong (v' := (up2 v 2 0 (v 2 0 + 1))) rfl) hn1 hn2 hmq hkq) mw_Jx4a65c_add_72be8 hI.m rfl k_0 t_451 ⟨Nat.le_of_ble_eq_true rfl, Nat.le_of_ble_eq_true rfl⟩ rfl hl.1 (Nat.le_of_ble_eq_true rfl) dJx4a65c_add_9ea2d_20 ⟨(by first | decide | omega | (dsimp only; omega)), (by first | decide | omega | (dsimp only; omega))⟩ (fun  P H locs hp hW hS => ?_)
  obtain rfl := hp
  have hW : WD G L ad (up2 (up2 v 2 0 (v 2 0 + 1)) 2 2 (nI n + 1)) (up2 o 16 n (some (ad (60 + n)))) w s H := hW
  refine lv_iconst (v := 1) hx hb dJx4a65c_add_9ea2d_23 (by decide) ?_
  exact q_zretw hx hb hr hlocks hW hS (by first | decide | omega | (dsimp only; omega)) (by first | decide | omega | (dsimp only; omega)) (Or.inr rfl) dJx4a65c_add_9ea2d_24 (⟨rfl, rfl⟩)
