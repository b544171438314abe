/-! the list's own methods -/
set_option maxHeartbeats 4000000 in
set_option maxRecDepth 100000 in
theorem c_size (l : Launch) {G : GG} {L : List Nat} {ad : Nat → Nat} {v : Nat → Nat → Int32} {o : Nat → Nat → Option Nat} {w : Nat → Int64} {td lr n A B base : Nat} (hI : LI L ad v o td lr n A B base) : CtI l G L ad v o w yJx4a65c_size_8abf5 cJx4a65c_size_8abf5 1 .int ({ frames := 0, cells := 0, slots := 0, locals := 0 }) [.ref (ad lr)] (fun r u => r = nI n ∧ u = v) := by
  refine q_ofI (by decide) (Nat.le_of_ble_eq_true rfl) ?_
  intro p e s m below meth c hx hb hr hml hts hown hlocks hE h0 hW hS ls hl
  generalize hH : s.heap = H at hW
  have hS : va_S (Ab G.2.2.1) s.heap H [] := hH ▸ hS
  obtain ⟨locs, hlc⟩ : ∃ z : List Loc, z = [] := ⟨_, rfl⟩
  rw [← hlc] at hS ⊢
  have hl : lv_has ls 1 [(0, .ref (ad lr))] := hl
  refine lv_aload_n hx hb dJx4a65c_size_8abf5_0 rfl (lv_at hl 0 rfl) ?_
  refine q_get hx hb hts hown hW (r := lr) hI.m hI.k k_0 2 (by decide) rfl t_92 (x := (nI n)) hI.s dJx4a65c_size_8abf5_1 ?_
  exact q_iret hx hb hr hlocks hW hS (Nat.le_refl _) (Nat.le_refl _) dJx4a65c_size_8abf5_4 (⟨rfl, rfl⟩)

set_option maxHeartbeats 4000000 in
set_option maxRecDepth 100000 in
theorem c_cki3 (l : Launch) {G : GG} {L : List Nat} {ad : Nat → Nat} {v : Nat → Nat → Int32} {o : Nat → Nat → Option Nat} {w : Nat → Int64} {i n : Nat} (hi : i < n) (hn : n < 2 ^ 31) : CtI l G L ad v o w yJ3_checkIndex_8e157 cJ3_checkIndex_8e157 3 .int ({ frames := 0, cells := 0, slots := 0, locals := 0 }) [.int (nI i), .int (nI n), .null] (fun r u => r = nI i ∧ u = v) := by
  refine q_ofI (by decide) (Nat.le_of_ble_eq_true rfl) ?_
  intro p e s m below meth c hx hb hr hml hts hown hlocks hE h0 hW hS ls hl
  generalize hH : s.heap = H at hW
  have hS : va_S (Ab G.2.2.1) s.heap H [] := hH ▸ hS
  obtain ⟨locs, hlc⟩ : ∃ z : List Loc, z = [] := ⟨_, rfl⟩
  rw [← hlc] at hS ⊢
  have hl : lv_has ls 3 [(0, .int (nI i)), (1, .int (nI n)), (2, .null)] := hl
  refine lv_iload_n hx hb dJ3_checkIndex_8e157_0 rfl (lv_at hl 0 rfl) ?_
  refine lv_if_lt (tgt := 9) hx hb dJ3_checkIndex_8e157_1 (by decide) (fun c_1 => ?_) (fun c_1 => ?_)
  · skip
    exact absurd c_1 (nI_pos (by omega))
  · skip
    refine lv_iload_n hx hb dJ3_checkIndex_8e157_4 rfl (lv_at hl 0 rfl) ?_
    refine lv_iload_n hx hb dJ3_checkIndex_8e157_5 rfl (lv_at hl 1 rfl) ?_
    refine lv_icmp_lt (tgt := 16) hx hb dJ3_checkIndex_8e157_6 (by decide) (fun c_6 => ?_) (fun c_6 => ?_)
    · skip
      refine lv_iload_n hx hb dJ3_checkIndex_8e157_16 rfl (lv_at hl 0 rfl) ?_
      exact q_iret hx hb hr hlocks hW hS (Nat.le_refl _) (Nat.le_refl _) dJ3_checkIndex_8e157_17 (⟨rfl, rfl⟩)
    · skip
      exact absurd (nI_lt hi hn) c_6

set_option maxHeartbeats 4000000 in
set_option maxRecDepth 100000 in
theorem c_cki (l : Launch) {G : GG} {L : List Nat} {ad : Nat → Nat} {v : Nat → Nat → Int32} {o : Nat → Nat → Option Nat} {w : Nat → Int64} {i n : Nat} (hi : i < n) (hn : n < 2 ^ 31) : CtI l G L ad v o w yJ15_checkIndex_7cf53 cJ15_checkIndex_7cf53 2 .int ({ frames := 1, cells := 0, slots := 0, locals := 22 }) [.int (nI i), .int (nI n)] (fun r u => r = nI i ∧ u = v) := by
  refine q_ofI (by decide) (Nat.le_of_ble_eq_true rfl) ?_
  intro p e s m below meth c hx hb hr hml hts hown hlocks hE h0 hW hS ls hl
  generalize hH : s.heap = H at hW
  have hS : va_S (Ab G.2.2.1) s.heap H [] := hH ▸ hS
  obtain ⟨locs, hlc⟩ : ∃ z : List Loc, z = [] := ⟨_, rfl⟩
  rw [← hlc] at hS ⊢
  have hl : lv_has ls 2 [(0, .int (nI i)), (1, .int (nI n))] := hl
  refine lv_iload_n hx hb dJ15_checkIndex_7cf53_0 rfl (lv_at hl 0 rfl) ?_
  refine lv_iload_n hx hb dJ15_checkIndex_7cf53_1 rfl (lv_at hl 1 rfl) ?_
  refine lv_null hx hb dJ15_checkIndex_7cf53_2 ?_
  refine q_cSiE (As := [.int (nI i), .int (nI n), .null]) (rest := []) hx hb hml hts hown hE h0 hW hS (c_cki3 l hi hn) mw_J3_checkIndex_8e157 t_195 ⟨Nat.le_of_ble_eq_true rfl, Nat.le_of_ble_eq_true rfl⟩ rfl hl.1 (Nat.le_of_ble_eq_true rfl) dJ15_checkIndex_7cf53_3 ⟨Nat.zero_le _, Nat.zero_le _⟩ ⟨rfl, rfl⟩ (fun H locs hW hS => ?_)
  exact q_iret hx hb hr hlocks hW hS (Nat.le_refl _) (Nat.le_refl _) dJ15_checkIndex_7cf53_6 (⟨rfl, rfl⟩)

set_option maxHeartbeats 4000000 in
set_option maxRecDepth 100000 in
theorem c_elem (l : Launch) {G : GG} {L : List Nat} {ad : Nat → Nat} {v : Nat → Nat → Int32} {o : Nat → Nat → Option Nat} {w : Nat → Int64} {td lr n A B base : Nat} (hI : LI L ad v o td lr n A B base) {i X : Nat} (hX : X ∈ L) (kX : kd X = 11) (eX : o lr 1 = some (ad X)) (eE : o X i = some (ad (base + i))) (hiX : i < ln X) (hlX : ln X < 2 ^ 31) : CtR l G L ad v o w yJx4a65c_elementData_915e3 cJx4a65c_elementData_915e3 2 (.object "java/lang/Object") ({ frames := 0, cells := 0, slots := 0, locals := 0 }) [.ref (ad lr), .int (nI i)] (ad (base + i)) := by
  refine q_ofR (by decide) (Nat.le_of_ble_eq_true rfl) ?_
  intro p e s m below meth c hx hb hr hml hts hown hlocks hE h0 hW hS ls hl
  generalize hH : s.heap = H at hW
  have hS : va_S (Ab G.2.2.1) s.heap H [] := hH ▸ hS
  obtain ⟨locs, hlc⟩ : ∃ z : List Loc, z = [] := ⟨_, rfl⟩
  rw [← hlc] at hS ⊢
  have hl : lv_has ls 2 [(0, .ref (ad lr)), (1, .int (nI i))] := hl
  refine lv_aload_n hx hb dJx4a65c_elementData_915e3_0 rfl (lv_at hl 0 rfl) ?_
  refine q_getr hx hb hts hown hW (r := lr) hI.m hI.k k_0 1 (by decide) rfl t_91 (a := ad X) eX dJx4a65c_elementData_915e3_1 ?_
  refine lv_iload_n hx hb dJx4a65c_elementData_915e3_4 rfl (lv_at hl 1 rfl) ?_
  refine q_oald hx hb hW (r := X) hX kX (a := ad (base + i)) i rfl hiX hlX eE dJx4a65c_elementData_915e3_5 ?_
  exact q_aret hx hb hr (Or.inl ⟨_, rfl⟩) hlocks hW hS (Nat.le_refl _) (Nat.le_refl _) dJx4a65c_elementData_915e3_6

set_option maxHeartbeats 4000000 in
set_option maxRecDepth 100000 in
theorem c_get (l : Launch) {G : GG} {L : List Nat} {ad : Nat → Nat} {v : Nat → Nat → Int32} {o : Nat → Nat → Option Nat} {w : Nat → Int64} {td lr n A B base : Nat} (hI : LI L ad v o td lr n A B base) {i : Nat} (hi : i < n) : CtR l G L ad v o w yJx4a65c_get_915e3 cJx4a65c_get_915e3 2 (.object "java/lang/Object") ({ frames := 2, cells := 0, slots := 0, locals := 43 }) [.ref (ad lr), .int (nI i)] (ad (base + i)) := by
  obtain ⟨X, hX, kX, eX, eE, hiX, hlX⟩ := hI.arr hi
  refine q_ofR (by decide) (Nat.le_of_ble_eq_true rfl) ?_
  intro p e s m below meth c hx hb hr hml hts hown hlocks hE h0 hW hS ls hl
  generalize hH : s.heap = H at hW
  have hS : va_S (Ab G.2.2.1) s.heap H [] := hH ▸ hS
  obtain ⟨locs, hlc⟩ : ∃ z : List Loc, z = [] := ⟨_, rfl⟩
  rw [← hlc] at hS ⊢
  have hl : lv_has ls 2 [(0, .ref (ad lr)), (1, .int (nI i))] := hl
  refine lv_iload_n hx hb dJx4a65c_get_915e3_0 rfl (lv_at hl 1 rfl) ?_
  refine lv_aload_n hx hb dJx4a65c_get_915e3_1 rfl (lv_at hl 0 rfl) ?_
  refine q_get hx hb hts hown hW (r := lr) hI.m hI.k k_0 2 (by decide) rfl t_92 (x := (nI n)) hI.s dJx4a65c_get_915e3_2 ?_
  refine q_cSiE (As := [.int (nI i), .int (nI n)]) (rest := []) hx hb hml hts hown hE h0 hW hS (c_cki l hi (by have := hI.n15; omega)) mw_J15_checkIndex_7cf53 t_192 ⟨Nat.le_of_ble_eq_true rfl, Nat.le_of_ble_eq_true rfl⟩ rfl hl.1 (Nat.le_of_ble_eq_true rfl) dJx4a65c_get_915e3_5 ⟨Nat.zero_le _, Nat.zero_le _⟩ ⟨rfl, rfl⟩ (fun H locs hW hS => ?_)
  refine lv_pop hx hb dJx4a65c_get_915e3_8 rfl ?_
  refine lv_aload_n hx hb dJx4a65c_get_915e3_9 rfl (lv_at hl 0 rfl) ?_
  refine lv_iload_n hx hb dJx4a65c_get_915e3_10 rfl (lv_at hl 1 rfl) ?_
  refine q_cVrE (As := [.int (nI i)]) (rest := []) (r := lr) hx hb hml hts hown hE h0 hW hS (c_elem l hI hX kX eX eE hiX hlX) mw_Jx4a65c_elementData_915e3 hI.m hI.k k_0 t_198 ⟨Nat.le_of_ble_eq_true rfl, Nat.le_of_ble_eq_true rfl⟩ rfl hl.1 (Nat.le_of_ble_eq_true rfl) dJx4a65c_get_915e3_11 ⟨Nat.zero_le _, Nat.zero_le _⟩ ⟨rfl, rfl⟩ (fun H locs hW hS => ?_)
  exact q_aret hx hb hr (Or.inl ⟨_, rfl⟩) hlocks hW hS (Nat.le_refl _) (Nat.le_refl _) dJx4a65c_get_915e3_14
