/-! the class: constructors of its objects; what is refused -/
set_option maxHeartbeats 4000000 in
set_option maxRecDepth 100000 in
theorem c_X0_init (l : Launch) {G : GG} {L : List Nat} {ad : Nat → Nat} {v : Nat → Nat → Int32} {o : Nat → Nat → Option Nat} {w : Nat → Int64} {r : Nat} (hr9 : r ∈ L) (hk9 : kd r = 1) (a : Int32) : CtV l G L ad v o w yX0_init cX0_init 2 ({ frames := 1, cells := 0, slots := 0, locals := 12 }) [.ref (ad r), .int a] (fun u => u = iG v r a) := by
  refine q_ofV (by decide) (Nat.le_of_ble_eq_true rfl) ?_
  intro p e s m below meth c hx hb hr hml hts hown hlocks hE h0 hW hS hin ls hl
  generalize hH : s.heap = H at hW
  have hS : va_S (Ab G.2.2.1) s.heap H [] := hH ▸ hS
  obtain ⟨locs, hlc⟩ : ∃ z : List Loc, z = [] := ⟨_, rfl⟩
  rw [← hlc] at hS ⊢
  have hl : lv_has ls 2 [(0, .ref (ad r)), (1, .int a)] := hl
  refine lv_aload_n hx hb dX0_init_0 rfl (lv_at hl 0 rfl) ?_
  refine q_oinit hx hb hml hl.1 hts hown t_409 t_75 t_76 dX0_init_1 (Nat.le_of_ble_eq_true rfl) (Nat.le_of_ble_eq_true rfl) ?_
  refine lv_aload_n hx hb dX0_init_4 rfl (lv_at hl 0 rfl) ?_
  refine lv_bipush (v := 100) hx hb dX0_init_5 (by decide) ?_
  refine q_put hx hb hts hown hW hS (r := r) hr9 hk9 k_1 5 (by decide) rfl t_420 rfl (t := .int) (by decide +kernel) rfl rfl dX0_init_7 (fun H locs hW hS => ?_)
  refine lv_aload_n hx hb dX0_init_10 rfl (lv_at hl 0 rfl) ?_
  refine lv_iload_n hx hb dX0_init_11 rfl (lv_at hl 1 rfl) ?_
  refine q_put hx hb hts hown hW hS (r := r) hr9 hk9 k_1 0 (by decide) rfl t_410 rfl (t := .int) (by decide +kernel) rfl rfl dX0_init_12 (fun H locs hW hS => ?_)
  exact q_vret hx hb hr hlocks hW hS (Nat.le_refl _) (Nat.le_refl _) dX0_init_15 (rfl)

set_option maxHeartbeats 4000000 in
set_option maxRecDepth 100000 in
theorem c_X1_init (l : Launch) {G : GG} {L : List Nat} {ad : Nat → Nat} {v : Nat → Nat → Int32} {o : Nat → Nat → Option Nat} {w : Nat → Int64} {r : Nat} (hr9 : r ∈ L) (hk9 : kd r = 2) (a b c0 d e0 f g0 : Int32) : CtV l G L ad v o w yX1_init cX1_init 8 ({ frames := 1, cells := 0, slots := 0, locals := 12 }) [.ref (ad r), .int a, .int b, .int c0, .int d, .int e0, .int f, .int g0] (fun u => u = iH v r a b c0 d e0 f g0) := by
  refine q_ofV (by decide) (Nat.le_of_ble_eq_true rfl) ?_
  intro p e s m below meth c hx hb hr hml hts hown hlocks hE h0 hW hS hin ls hl
  generalize hH : s.heap = H at hW
  have hS : va_S (Ab G.2.2.1) s.heap H [] := hH ▸ hS
  obtain ⟨locs, hlc⟩ : ∃ z : List Loc, z = [] := ⟨_, rfl⟩
  rw [← hlc] at hS ⊢
  have hl : lv_has ls 8 [(0, .ref (ad r)), (1, .int a), (2, .int b), (3, .int c0), (4, .int d), (5, .int e0), (6, .int f), (7, .int g0)] := hl
  refine lv_aload_n hx hb dX1_init_0 rfl (lv_at hl 0 rfl) ?_
  refine q_oinit hx hb hml hl.1 hts hown t_548 t_75 t_76 dX1_init_1 (Nat.le_of_ble_eq_true rfl) (Nat.le_of_ble_eq_true rfl) ?_
  refine lv_aload_n hx hb dX1_init_4 rfl (lv_at hl 0 rfl) ?_
  refine lv_iload_n hx hb dX1_init_5 rfl (lv_at hl 1 rfl) ?_
  refine q_putF hx hb hts hown hW hS (r := r) hr9 hk9 k_2 0 (by decide) rfl t_549 rfl hin rfl (t := .int) (by decide +kernel) rfl rfl dX1_init_6 (fun H locs hW hS => ?_)
  refine lv_aload_n hx hb dX1_init_9 rfl (lv_at hl 0 rfl) ?_
  refine lv_iload_n hx hb dX1_init_10 rfl (lv_at hl 2 rfl) ?_
  refine q_putF hx hb hts hown hW hS (r := r) hr9 hk9 k_2 1 (by decide) rfl t_552 rfl hin rfl (t := .int) (by decide +kernel) rfl rfl dX1_init_11 (fun H locs hW hS => ?_)
  refine lv_aload_n hx hb dX1_init_14 rfl (lv_at hl 0 rfl) ?_
  refine lv_iload_n hx hb dX1_init_15 rfl (lv_at hl 3 rfl) ?_
  refine q_putF hx hb hts hown hW hS (r := r) hr9 hk9 k_2 2 (by decide) rfl t_554 rfl hin rfl (t := .int) (by decide +kernel) rfl rfl dX1_init_16 (fun H locs hW hS => ?_)
  refine lv_aload_n hx hb dX1_init_19 rfl (lv_at hl 0 rfl) ?_
  refine lv_iload hx hb dX1_init_20 (lv_at hl 4 rfl) ?_
  refine q_putF hx hb hts hown hW hS (r := r) hr9 hk9 k_2 3 (by decide) rfl t_556 rfl hin rfl (t := .int) (by decide +kernel) rfl rfl dX1_init_22 (fun H locs hW hS => ?_)
  refine lv_aload_n hx hb dX1_init_25 rfl (lv_at hl 0 rfl) ?_
  refine lv_iload hx hb dX1_init_26 (lv_at hl 5 rfl) ?_
  refine q_putF hx hb hts hown hW hS (r := r) hr9 hk9 k_2 4 (by decide) rfl t_558 rfl hin rfl (t := .int) (by decide +kernel) rfl rfl dX1_init_28 (fun H locs hW hS => ?_)
  refine lv_aload_n hx hb dX1_init_31 rfl (lv_at hl 0 rfl) ?_
  refine lv_iload hx hb dX1_init_32 (lv_at hl 6 rfl) ?_
  refine q_putF hx hb hts hown hW hS (r := r) hr9 hk9 k_2 5 (by decide) rfl t_560 rfl hin rfl (t := .int) (by decide +kernel) rfl rfl dX1_init_34 (fun H locs hW hS => ?_)
  refine lv_aload_n hx hb dX1_init_37 rfl (lv_at hl 0 rfl) ?_
  refine lv_iload hx hb dX1_init_38 (lv_at hl 7 rfl) ?_
  refine q_putF hx hb hts hown hW hS (r := r) hr9 hk9 k_2 6 (by decide) rfl t_563 rfl hin rfl (t := .int) (by decide +kernel) rfl rfl dX1_init_40 (fun H locs hW hS => ?_)
  exact q_vret hx hb hr hlocks hW hS (Nat.le_refl _) (Nat.le_refl _) dX1_init_43 (rfl)

set_option maxHeartbeats 4000000 in
set_option maxRecDepth 100000 in
theorem c_X2_init (l : Launch) {G : GG} {L : List Nat} {ad : Nat → Nat} {v : Nat → Nat → Int32} {o : Nat → Nat → Option Nat} {w : Nat → Int64} {r : Nat} (hr9 : r ∈ L) (hk9 : kd r = 3) (a b c0 : Int32) : CtV l G L ad v o w yX2_init cX2_init 4 ({ frames := 1, cells := 0, slots := 0, locals := 12 }) [.ref (ad r), .int a, .int b, .int c0] (fun u => u = iL v r a b c0) := by
  refine q_ofV (by decide) (Nat.le_of_ble_eq_true rfl) ?_
  intro p e s m below meth c hx hb hr hml hts hown hlocks hE h0 hW hS hin ls hl
  generalize hH : s.heap = H at hW
  have hS : va_S (Ab G.2.2.1) s.heap H [] := hH ▸ hS
  obtain ⟨locs, hlc⟩ : ∃ z : List Loc, z = [] := ⟨_, rfl⟩
  rw [← hlc] at hS ⊢
  have hl : lv_has ls 4 [(0, .ref (ad r)), (1, .int a), (2, .int b), (3, .int c0)] := hl
  refine lv_aload_n hx hb dX2_init_0 rfl (lv_at hl 0 rfl) ?_
  refine q_oinit hx hb hml hl.1 hts hown t_669 t_75 t_76 dX2_init_1 (Nat.le_of_ble_eq_true rfl) (Nat.le_of_ble_eq_true rfl) ?_
  refine lv_aload_n hx hb dX2_init_4 rfl (lv_at hl 0 rfl) ?_
  refine lv_iload_n hx hb dX2_init_5 rfl (lv_at hl 1 rfl) ?_
  refine q_putF hx hb hts hown hW hS (r := r) hr9 hk9 k_3 0 (by decide) rfl t_670 rfl hin rfl (t := .int) (by decide +kernel) rfl rfl dX2_init_6 (fun H locs hW hS => ?_)
  refine lv_aload_n hx hb dX2_init_9 rfl (lv_at hl 0 rfl) ?_
  refine lv_iload_n hx hb dX2_init_10 rfl (lv_at hl 2 rfl) ?_
  refine q_putF hx hb hts hown hW hS (r := r) hr9 hk9 k_3 1 (by decide) rfl t_672 rfl hin rfl (t := .int) (by decide +kernel) rfl rfl dX2_init_11 (fun H locs hW hS => ?_)
  refine lv_aload_n hx hb dX2_init_14 rfl (lv_at hl 0 rfl) ?_
  refine lv_iload_n hx hb dX2_init_15 rfl (lv_at hl 3 rfl) ?_
  refine q_putF hx hb hts hown hW hS (r := r) hr9 hk9 k_3 2 (by decide) rfl t_674 rfl hin rfl (t := .int) (by decide +kernel) rfl rfl dX2_init_16 (fun H locs hW hS => ?_)
  refine lv_aload_n hx hb dX2_init_19 rfl (lv_at hl 0 rfl) ?_
  refine lv_iconst (v := 2) hx hb dX2_init_20 (by decide) ?_
  refine lv_iload_n hx hb dX2_init_21 rfl (lv_at hl 2 rfl) ?_
  refine lv_imul hx hb dX2_init_22 ?_
  refine q_put hx hb hts hown hW hS (r := r) hr9 hk9 k_3 3 (by decide) rfl t_676 rfl (t := .int) (by decide +kernel) rfl rfl dX2_init_23 (fun H locs hW hS => ?_)
  exact q_vret hx hb hr hlocks hW hS (Nat.le_refl _) (Nat.le_refl _) dX2_init_26 (rfl)

set_option maxHeartbeats 4000000 in
set_option maxRecDepth 100000 in
theorem c_X3_init (l : Launch) {G : GG} {L : List Nat} {ad : Nat → Nat} {v : Nat → Nat → Int32} {o : Nat → Nat → Option Nat} {w : Nat → Int64} {r : Nat} (hr9 : r ∈ L) (hk9 : kd r = 4) (a b c0 d e0 f g0 : Int32) : CtV l G L ad v o w yX3_init cX3_init 8 ({ frames := 1, cells := 0, slots := 0, locals := 12 }) [.ref (ad r), .int a, .int b, .int c0, .int d, .int e0, .int f, .int g0] (fun u => u = iS v r a b c0 d e0 f g0) := by
  refine q_ofV (by decide) (Nat.le_of_ble_eq_true rfl) ?_
  intro p e s m below meth c hx hb hr hml hts hown hlocks hE h0 hW hS hin ls hl
  generalize hH : s.heap = H at hW
  have hS : va_S (Ab G.2.2.1) s.heap H [] := hH ▸ hS
  obtain ⟨locs, hlc⟩ : ∃ z : List Loc, z = [] := ⟨_, rfl⟩
  rw [← hlc] at hS ⊢
  have hl : lv_has ls 8 [(0, .ref (ad r)), (1, .int a), (2, .int b), (3, .int c0), (4, .int d), (5, .int e0), (6, .int f), (7, .int g0)] := hl
  refine lv_aload_n hx hb dX3_init_0 rfl (lv_at hl 0 rfl) ?_
  refine q_oinit hx hb hml hl.1 hts hown t_717 t_75 t_76 dX3_init_1 (Nat.le_of_ble_eq_true rfl) (Nat.le_of_ble_eq_true rfl) ?_
  refine lv_aload_n hx hb dX3_init_4 rfl (lv_at hl 0 rfl) ?_
  refine lv_iload_n hx hb dX3_init_5 rfl (lv_at hl 1 rfl) ?_
  refine q_putF hx hb hts hown hW hS (r := r) hr9 hk9 k_4 0 (by decide) rfl t_718 rfl hin rfl (t := .int) (by decide +kernel) rfl rfl dX3_init_6 (fun H locs hW hS => ?_)
  refine lv_aload_n hx hb dX3_init_9 rfl (lv_at hl 0 rfl) ?_
  refine lv_iload_n hx hb dX3_init_10 rfl (lv_at hl 2 rfl) ?_
  refine q_put hx hb hts hown hW hS (r := r) hr9 hk9 k_4 1 (by decide) rfl t_720 rfl (t := .int) (by decide +kernel) rfl rfl dX3_init_11 (fun H locs hW hS => ?_)
  refine lv_aload_n hx hb dX3_init_14 rfl (lv_at hl 0 rfl) ?_
  refine lv_iload_n hx hb dX3_init_15 rfl (lv_at hl 3 rfl) ?_
  refine q_putF hx hb hts hown hW hS (r := r) hr9 hk9 k_4 2 (by decide) rfl t_722 rfl hin rfl (t := .int) (by decide +kernel) rfl rfl dX3_init_16 (fun H locs hW hS => ?_)
  refine lv_aload_n hx hb dX3_init_19 rfl (lv_at hl 0 rfl) ?_
  refine lv_iload hx hb dX3_init_20 (lv_at hl 4 rfl) ?_
  refine q_putF hx hb hts hown hW hS (r := r) hr9 hk9 k_4 3 (by decide) rfl t_724 rfl hin rfl (t := .int) (by decide +kernel) rfl rfl dX3_init_22 (fun H locs hW hS => ?_)
  refine lv_aload_n hx hb dX3_init_25 rfl (lv_at hl 0 rfl) ?_
  refine lv_iload hx hb dX3_init_26 (lv_at hl 5 rfl) ?_
  refine q_putF hx hb hts hown hW hS (r := r) hr9 hk9 k_4 4 (by decide) rfl t_726 rfl hin rfl (t := .int) (by decide +kernel) rfl rfl dX3_init_28 (fun H locs hW hS => ?_)
  refine lv_aload_n hx hb dX3_init_31 rfl (lv_at hl 0 rfl) ?_
  refine lv_iload hx hb dX3_init_32 (lv_at hl 6 rfl) ?_
  refine q_putF hx hb hts hown hW hS (r := r) hr9 hk9 k_4 5 (by decide) rfl t_728 rfl hin rfl (t := .int) (by decide +kernel) rfl rfl dX3_init_34 (fun H locs hW hS => ?_)
  refine lv_aload_n hx hb dX3_init_37 rfl (lv_at hl 0 rfl) ?_
  refine lv_iload hx hb dX3_init_38 (lv_at hl 7 rfl) ?_
  refine q_putF hx hb hts hown hW hS (r := r) hr9 hk9 k_4 6 (by decide) rfl t_730 rfl hin rfl (t := .int) (by decide +kernel) rfl rfl dX3_init_40 (fun H locs hW hS => ?_)
  exact q_vret hx hb hr hlocks hW hS (Nat.le_refl _) (Nat.le_refl _) dX3_init_43 (rfl)

set_option maxHeartbeats 4000000 in
set_option maxRecDepth 100000 in
theorem c_X3_isAllowed (l : Launch) {G : GG} {L : List Nat} {ad : Nat → Nat} {v : Nat → Nat → Int32} {o : Nat → Nat → Option Nat} {w : Nat → Int64} (h180 : 180 ∈ L) : CtI l G L ad v o w yX3_isAllowed cX3_isAllowed 1 .boolean ({ frames := 1, cells := 0, slots := 0, locals := 22 }) [.ref (ad 180)] (fun r u => r = fSto (v 180 0) (v 180 1) (v 180 2) (v 180 3) (v 180 4) (v 180 5) (v 180 6) ∧ u = v) := by
  refine q_ofI (by decide) (Nat.le_of_ble_eq_true rfl) ?_
  intro p e s m below meth c hx hb hr hml hts hown hlocks hE h0 hW hS ls hl
  generalize hH : s.heap = H at hW
  have hS : va_S (Ab G.2.2.1) s.heap H [] := hH ▸ hS
  obtain ⟨locs, hlc⟩ : ∃ z : List Loc, z = [] := ⟨_, rfl⟩
  rw [← hlc] at hS ⊢
  have hl : lv_has ls 1 [(0, .ref (ad 180))] := hl
  refine lv_aload_n hx hb dX3_isAllowed_0 rfl (lv_at hl 0 rfl) ?_
  refine q_get hx hb hts hown hW (r := 180) h180 rfl k_4 0 (by decide) rfl t_718 (x := (v 180 0)) rfl dX3_isAllowed_1 ?_
  refine lv_bipush (v := (-20)) hx hb dX3_isAllowed_4 (by decide) ?_
  refine lv_bipush (v := 39) hx hb dX3_isAllowed_6 (by decide) ?_
  refine q_cSNiE (As := [.int (v 180 0), .int (-20), .int 39]) (rest := []) hx hb hml hts hown hE h0 hW hS (c_X5_isIn l (v 180 0) (-20) 39) mw_X5_isIn t_754 ⟨Nat.le_of_ble_eq_true rfl, Nat.le_of_ble_eq_true rfl⟩ rfl hl.1 (Nat.le_of_ble_eq_true rfl) dX3_isAllowed_8 ⟨Nat.zero_le _, Nat.zero_le _⟩ ⟨rfl, rfl⟩ (fun H locs hW hS => ?_)
  refine lv_if_eq (tgt := 96) hx hb dX3_isAllowed_11 (by decide) (fun c_11 => ?_) (fun c_11 => ?_)
  · skip
    refine lv_iconst (v := 0) hx hb dX3_isAllowed_96 (by decide) ?_
    exact q_zret hx hb hr hlocks hW hS (Nat.le_refl _) (Nat.le_refl _) (by decide) dX3_isAllowed_97 (⟨by first | exact fSto_1 c_11 c_25 c_38 c_51 c_63 c_76 c_89 | exact fSto_0 (Or.inl c_11) | exact fSto_0 (Or.inr (Or.inl c_25)) | exact fSto_0 (Or.inr (Or.inr (Or.inl c_38))) | exact fSto_0 (Or.inr (Or.inr (Or.inr (Or.inl c_51)))) | exact fSto_0 (Or.inr (Or.inr (Or.inr (Or.inr (Or.inl c_63))))) | exact fSto_0 (Or.inr (Or.inr (Or.inr (Or.inr (Or.inr (Or.inl c_76)))))) | exact fSto_0 (Or.inr (Or.inr (Or.inr (Or.inr (Or.inr (Or.inr (c_89))))))), rfl⟩)
  · skip
    refine lv_aload_n hx hb dX3_isAllowed_14 rfl (lv_at hl 0 rfl) ?_
    refine q_get hx hb hts hown hW (r := 180) h180 rfl k_4 1 (by decide) rfl t_720 (x := (v 180 1)) rfl dX3_isAllowed_15 ?_
    refine lv_bipush (v := (-20)) hx hb dX3_isAllowed_18 (by decide) ?_
    refine lv_bipush (v := 39) hx hb dX3_isAllowed_20 (by decide) ?_
    refine q_cSNiE (As := [.int (v 180 1), .int (-20), .int 39]) (rest := []) hx hb hml hts hown hE h0 hW hS (c_X5_isIn l (v 180 1) (-20) 39) mw_X5_isIn t_754 ⟨Nat.le_of_ble_eq_true rfl, Nat.le_of_ble_eq_true rfl⟩ rfl hl.1 (Nat.le_of_ble_eq_true rfl) dX3_isAllowed_22 ⟨Nat.zero_le _, Nat.zero_le _⟩ ⟨rfl, rfl⟩ (fun H locs hW hS => ?_)
    refine lv_if_eq (tgt := 96) hx hb dX3_isAllowed_25 (by decide) (fun c_25 => ?_) (fun c_25 => ?_)
    · skip
      refine lv_iconst (v := 0) hx hb dX3_isAllowed_96 (by decide) ?_
      exact q_zret hx hb hr hlocks hW hS (Nat.le_refl _) (Nat.le_refl _) (by decide) dX3_isAllowed_97 (⟨by first | exact fSto_1 c_11 c_25 c_38 c_51 c_63 c_76 c_89 | exact fSto_0 (Or.inl c_11) | exact fSto_0 (Or.inr (Or.inl c_25)) | exact fSto_0 (Or.inr (Or.inr (Or.inl c_38))) | exact fSto_0 (Or.inr (Or.inr (Or.inr (Or.inl c_51)))) | exact fSto_0 (Or.inr (Or.inr (Or.inr (Or.inr (Or.inl c_63))))) | exact fSto_0 (Or.inr (Or.inr (Or.inr (Or.inr (Or.inr (Or.inl c_76)))))) | exact fSto_0 (Or.inr (Or.inr (Or.inr (Or.inr (Or.inr (Or.inr (c_89))))))), rfl⟩)
    · skip
      refine lv_aload_n hx hb dX3_isAllowed_28 rfl (lv_at hl 0 rfl) ?_
      refine q_get hx hb hts hown hW (r := 180) h180 rfl k_4 2 (by decide) rfl t_722 (x := (v 180 2)) rfl dX3_isAllowed_29 ?_
      refine lv_bipush (v := (-3)) hx hb dX3_isAllowed_32 (by decide) ?_
      refine lv_iconst (v := 3) hx hb dX3_isAllowed_34 (by decide) ?_
      refine q_cSNiE (As := [.int (v 180 2), .int (-3), .int 3]) (rest := []) hx hb hml hts hown hE h0 hW hS (c_X5_isIn l (v 180 2) (-3) 3) mw_X5_isIn t_754 ⟨Nat.le_of_ble_eq_true rfl, Nat.le_of_ble_eq_true rfl⟩ rfl hl.1 (Nat.le_of_ble_eq_true rfl) dX3_isAllowed_35 ⟨Nat.zero_le _, Nat.zero_le _⟩ ⟨rfl, rfl⟩ (fun H locs hW hS => ?_)
      refine lv_if_eq (tgt := 96) hx hb dX3_isAllowed_38 (by decide) (fun c_38 => ?_) (fun c_38 => ?_)
      · skip
        refine lv_iconst (v := 0) hx hb dX3_isAllowed_96 (by decide) ?_
        exact q_zret hx hb hr hlocks hW hS (Nat.le_refl _) (Nat.le_refl _) (by decide) dX3_isAllowed_97 (⟨by first | exact fSto_1 c_11 c_25 c_38 c_51 c_63 c_76 c_89 | exact fSto_0 (Or.inl c_11) | exact fSto_0 (Or.inr (Or.inl c_25)) | exact fSto_0 (Or.inr (Or.inr (Or.inl c_38))) | exact fSto_0 (Or.inr (Or.inr (Or.inr (Or.inl c_51)))) | exact fSto_0 (Or.inr (Or.inr (Or.inr (Or.inr (Or.inl c_63))))) | exact fSto_0 (Or.inr (Or.inr (Or.inr (Or.inr (Or.inr (Or.inl c_76)))))) | exact fSto_0 (Or.inr (Or.inr (Or.inr (Or.inr (Or.inr (Or.inr (c_89))))))), rfl⟩)
      · skip
        refine lv_aload_n hx hb dX3_isAllowed_41 rfl (lv_at hl 0 rfl) ?_
        refine q_get hx hb hts hown hW (r := 180) h180 rfl k_4 3 (by decide) rfl t_724 (x := (v 180 3)) rfl dX3_isAllowed_42 ?_
        refine lv_bipush (v := (-3)) hx hb dX3_isAllowed_45 (by decide) ?_
        refine lv_iconst (v := 3) hx hb dX3_isAllowed_47 (by decide) ?_
        refine q_cSNiE (As := [.int (v 180 3), .int (-3), .int 3]) (rest := []) hx hb hml hts hown hE h0 hW hS (c_X5_isIn l (v 180 3) (-3) 3) mw_X5_isIn t_754 ⟨Nat.le_of_ble_eq_true rfl, Nat.le_of_ble_eq_true rfl⟩ rfl hl.1 (Nat.le_of_ble_eq_true rfl) dX3_isAllowed_48 ⟨Nat.zero_le _, Nat.zero_le _⟩ ⟨rfl, rfl⟩ (fun H locs hW hS => ?_)
        refine lv_if_eq (tgt := 96) hx hb dX3_isAllowed_51 (by decide) (fun c_51 => ?_) (fun c_51 => ?_)
        · skip
          refine lv_iconst (v := 0) hx hb dX3_isAllowed_96 (by decide) ?_
          exact q_zret hx hb hr hlocks hW hS (Nat.le_refl _) (Nat.le_refl _) (by decide) dX3_isAllowed_97 (⟨by first | exact fSto_1 c_11 c_25 c_38 c_51 c_63 c_76 c_89 | exact fSto_0 (Or.inl c_11) | exact fSto_0 (Or.inr (Or.inl c_25)) | exact fSto_0 (Or.inr (Or.inr (Or.inl c_38))) | exact fSto_0 (Or.inr (Or.inr (Or.inr (Or.inl c_51)))) | exact fSto_0 (Or.inr (Or.inr (Or.inr (Or.inr (Or.inl c_63))))) | exact fSto_0 (Or.inr (Or.inr (Or.inr (Or.inr (Or.inr (Or.inl c_76)))))) | exact fSto_0 (Or.inr (Or.inr (Or.inr (Or.inr (Or.inr (Or.inr (c_89))))))), rfl⟩)
        · skip
          refine lv_aload_n hx hb dX3_isAllowed_54 rfl (lv_at hl 0 rfl) ?_
          refine q_get hx hb hts hown hW (r := 180) h180 rfl k_4 4 (by decide) rfl t_726 (x := (v 180 4)) rfl dX3_isAllowed_55 ?_
          refine lv_iconst (v := 0) hx hb dX3_isAllowed_58 (by decide) ?_
          refine lv_iconst (v := 5) hx hb dX3_isAllowed_59 (by decide) ?_
          refine q_cSNiE (As := [.int (v 180 4), .int 0, .int 5]) (rest := []) hx hb hml hts hown hE h0 hW hS (c_X5_isIn l (v 180 4) 0 5) mw_X5_isIn t_754 ⟨Nat.le_of_ble_eq_true rfl, Nat.le_of_ble_eq_true rfl⟩ rfl hl.1 (Nat.le_of_ble_eq_true rfl) dX3_isAllowed_60 ⟨Nat.zero_le _, Nat.zero_le _⟩ ⟨rfl, rfl⟩ (fun H locs hW hS => ?_)
          refine lv_if_eq (tgt := 96) hx hb dX3_isAllowed_63 (by decide) (fun c_63 => ?_) (fun c_63 => ?_)
          · skip
            refine lv_iconst (v := 0) hx hb dX3_isAllowed_96 (by decide) ?_
            exact q_zret hx hb hr hlocks hW hS (Nat.le_refl _) (Nat.le_refl _) (by decide) dX3_isAllowed_97 (⟨by first | exact fSto_1 c_11 c_25 c_38 c_51 c_63 c_76 c_89 | exact fSto_0 (Or.inl c_11) | exact fSto_0 (Or.inr (Or.inl c_25)) | exact fSto_0 (Or.inr (Or.inr (Or.inl c_38))) | exact fSto_0 (Or.inr (Or.inr (Or.inr (Or.inl c_51)))) | exact fSto_0 (Or.inr (Or.inr (Or.inr (Or.inr (Or.inl c_63))))) | exact fSto_0 (Or.inr (Or.inr (Or.inr (Or.inr (Or.inr (Or.inl c_76)))))) | exact fSto_0 (Or.inr (Or.inr (Or.inr (Or.inr (Or.inr (Or.inr (c_89))))))), rfl⟩)
          · skip
            refine lv_aload_n hx hb dX3_isAllowed_66 rfl (lv_at hl 0 rfl) ?_
            refine q_get hx hb hts hown hW (r := 180) h180 rfl k_4 5 (by decide) rfl t_728 (x := (v 180 5)) rfl dX3_isAllowed_67 ?_
            refine lv_iconst (v := 1) hx hb dX3_isAllowed_70 (by decide) ?_
            refine lv_bipush (v := 20) hx hb dX3_isAllowed_71 (by decide) ?_
            refine q_cSNiE (As := [.int (v 180 5), .int 1, .int 20]) (rest := []) hx hb hml hts hown hE h0 hW hS (c_X5_isIn l (v 180 5) 1 20) mw_X5_isIn t_754 ⟨Nat.le_of_ble_eq_true rfl, Nat.le_of_ble_eq_true rfl⟩ rfl hl.1 (Nat.le_of_ble_eq_true rfl) dX3_isAllowed_73 ⟨Nat.zero_le _, Nat.zero_le _⟩ ⟨rfl, rfl⟩ (fun H locs hW hS => ?_)
            refine lv_if_eq (tgt := 96) hx hb dX3_isAllowed_76 (by decide) (fun c_76 => ?_) (fun c_76 => ?_)
            · skip
              refine lv_iconst (v := 0) hx hb dX3_isAllowed_96 (by decide) ?_
              exact q_zret hx hb hr hlocks hW hS (Nat.le_refl _) (Nat.le_refl _) (by decide) dX3_isAllowed_97 (⟨by first | exact fSto_1 c_11 c_25 c_38 c_51 c_63 c_76 c_89 | exact fSto_0 (Or.inl c_11) | exact fSto_0 (Or.inr (Or.inl c_25)) | exact fSto_0 (Or.inr (Or.inr (Or.inl c_38))) | exact fSto_0 (Or.inr (Or.inr (Or.inr (Or.inl c_51)))) | exact fSto_0 (Or.inr (Or.inr (Or.inr (Or.inr (Or.inl c_63))))) | exact fSto_0 (Or.inr (Or.inr (Or.inr (Or.inr (Or.inr (Or.inl c_76)))))) | exact fSto_0 (Or.inr (Or.inr (Or.inr (Or.inr (Or.inr (Or.inr (c_89))))))), rfl⟩)
            · skip
              refine lv_aload_n hx hb dX3_isAllowed_79 rfl (lv_at hl 0 rfl) ?_
              refine q_get hx hb hts hown hW (r := 180) h180 rfl k_4 6 (by decide) rfl t_730 (x := (v 180 6)) rfl dX3_isAllowed_80 ?_
              refine lv_iconst (v := 1) hx hb dX3_isAllowed_83 (by decide) ?_
              refine lv_bipush (v := 30) hx hb dX3_isAllowed_84 (by decide) ?_
              refine q_cSNiE (As := [.int (v 180 6), .int 1, .int 30]) (rest := []) hx hb hml hts hown hE h0 hW hS (c_X5_isIn l (v 180 6) 1 30) mw_X5_isIn t_754 ⟨Nat.le_of_ble_eq_true rfl, Nat.le_of_ble_eq_true rfl⟩ rfl hl.1 (Nat.le_of_ble_eq_true rfl) dX3_isAllowed_86 ⟨Nat.zero_le _, Nat.zero_le _⟩ ⟨rfl, rfl⟩ (fun H locs hW hS => ?_)
              refine lv_if_eq (tgt := 96) hx hb dX3_isAllowed_89 (by decide) (fun c_89 => ?_) (fun c_89 => ?_)
              · skip
                refine lv_iconst (v := 0) hx hb dX3_isAllowed_96 (by decide) ?_
                exact q_zret hx hb hr hlocks hW hS (Nat.le_refl _) (Nat.le_refl _) (by decide) dX3_isAllowed_97 (⟨by first | exact fSto_1 c_11 c_25 c_38 c_51 c_63 c_76 c_89 | exact fSto_0 (Or.inl c_11) | exact fSto_0 (Or.inr (Or.inl c_25)) | exact fSto_0 (Or.inr (Or.inr (Or.inl c_38))) | exact fSto_0 (Or.inr (Or.inr (Or.inr (Or.inl c_51)))) | exact fSto_0 (Or.inr (Or.inr (Or.inr (Or.inr (Or.inl c_63))))) | exact fSto_0 (Or.inr (Or.inr (Or.inr (Or.inr (Or.inr (Or.inl c_76)))))) | exact fSto_0 (Or.inr (Or.inr (Or.inr (Or.inr (Or.inr (Or.inr (c_89))))))), rfl⟩)
              · skip
                refine lv_iconst (v := 1) hx hb dX3_isAllowed_92 (by decide) ?_
                refine lv_goto (tgt := 97) hx hb dX3_isAllowed_93 (by decide) ?_
                exact q_zret hx hb hr hlocks hW hS (Nat.le_refl _) (Nat.le_refl _) (by decide) dX3_isAllowed_97 (⟨by first | exact fSto_1 c_11 c_25 c_38 c_51 c_63 c_76 c_89 | exact fSto_0 (Or.inl c_11) | exact fSto_0 (Or.inr (Or.inl c_25)) | exact fSto_0 (Or.inr (Or.inr (Or.inl c_38))) | exact fSto_0 (Or.inr (Or.inr (Or.inr (Or.inl c_51)))) | exact fSto_0 (Or.inr (Or.inr (Or.inr (Or.inr (Or.inl c_63))))) | exact fSto_0 (Or.inr (Or.inr (Or.inr (Or.inr (Or.inr (Or.inl c_76)))))) | exact fSto_0 (Or.inr (Or.inr (Or.inr (Or.inr (Or.inr (Or.inr (c_89))))))), rfl⟩)

set_option maxHeartbeats 4000000 in
set_option maxRecDepth 100000 in
theorem c_X5_checkStorm (l : Launch) {G : GG} {L : List Nat} {ad : Nat → Nat} {v : Nat → Nat → Int32} {o : Nat → Nat → Option Nat} {w : Nat → Int64} (h180 : 180 ∈ L) (k1 : fSto (v 180 0) (v 180 1) (v 180 2) (v 180 3) (v 180 4) (v 180 5) (v 180 6) = 1) : CtV l G L ad v o w yX5_checkStorm cX5_checkStorm 1 ({ frames := 2, cells := 0, slots := 0, locals := 42 }) [.ref (ad 180)] (fun u => u = v) := by
  refine q_ofV (by decide) (Nat.le_of_ble_eq_true rfl) ?_
  intro p e s m below meth c hx hb hr hml hts hown hlocks hE h0 hW hS hin ls hl
  generalize hH : s.heap = H at hW
  have hS : va_S (Ab G.2.2.1) s.heap H [] := hH ▸ hS
  obtain ⟨locs, hlc⟩ : ∃ z : List Loc, z = [] := ⟨_, rfl⟩
  rw [← hlc] at hS ⊢
  have hl : lv_has ls 1 [(0, .ref (ad 180))] := hl
  refine lv_aload_n hx hb dX5_checkStorm_0 rfl (lv_at hl 0 rfl) ?_
  refine q_cViE (As := []) (rest := []) (r := 180) hx hb hml hts hown hE h0 hW hS (c_X3_isAllowed l h180) mw_X3_isAllowed h180 rfl k_4 t_750 ⟨Nat.le_of_ble_eq_true rfl, Nat.le_of_ble_eq_true rfl⟩ rfl hl.1 (Nat.le_of_ble_eq_true rfl) dX5_checkStorm_1 ⟨Nat.zero_le _, Nat.zero_le _⟩ ⟨rfl, rfl⟩ (fun H locs hW hS => ?_)
  refine lv_if_ne (tgt := 18) hx hb dX5_checkStorm_4 (by decide) (fun c_4 => ?_) (fun c_4 => ?_)
  · skip
    exact q_vret hx hb hr hlocks hW hS (Nat.le_refl _) (Nat.le_refl _) dX5_checkStorm_18 (rfl)
  · skip
    exact absurd (k1.symm.trans c_4) (by decide)

set_option maxHeartbeats 4000000 in
set_option maxRecDepth 100000 in
theorem x_X5_checkGrower (l : Launch) (hst9 : l.stackTraces = false) {G : GG} {L : List Nat} {ad : Nat → Nat} {v : Nat → Nat → Int32} {o : Nat → Nat → Option Nat} {w : Nat → Int64} {ng nh nl ns : Nat} {ow gx gy gw gd : Nat → Nat} (hI : PI G.2.2.2 L ad v o ng nh nl ns ow gx gy gw gd) {a : Int32} (k1 : fIn a 0 (nI ng - 1) = 0) : CtXv l G L ad v o w yX5_checkGrower cX5_checkGrower 2 ({ frames := 6, cells := 1, slots := 6, locals := 82 }) [.ref (ad 0), .int a] "java/lang/IndexOutOfBoundsException" := by
  have hb6 := hI.g6; have hb12 := hI.h12; have hbl := hI.l6; have hbs := hI.s30
  refine vx_ofW (cc := cX5_checkGrower) (maxL := 2) (ret := none) (by decide) rfl ?_
  intro p e s m args below meth c s₁ B hml hnt hv
  obtain ⟨rfl, hE, h0, hW⟩ := hv
  have hx := B.exec; have hb := B.bytes; have hts := hE.hts (args := ([.ref (ad 0), .int a] : List Value).toArray); have hown : s.vm.findClass RX5 = some m.cls := findClass_of_methodNamed B.named; have hlocks := B.notSynchronized
  have hl := lv_entry ([.ref (ad 0), .int a] : List Value) (n := 2) (Nat.le_of_ble_eq_true rfl)
  rw [lg_entry_eq]
  generalize (lg_sl ([.ref (ad 0), .int a] : List Value) ++ List.replicate (2 - (lg_sl ([.ref (ad 0), .int a] : List Value)).length) Slot.unset).toArray = ls at hl ⊢
  generalize hH : s.heap = H at hW ⊢
  have hS : va_S (Ab G.2.2.1) s.heap H [] := hH ▸ va_S.rf
  obtain ⟨locs, hlc⟩ : ∃ z : List Loc, z = [] := ⟨_, rfl⟩
  rw [← hlc] at hS ⊢
  have hl : lv_has ls 2 [(0, .ref (ad 0)), (1, .int a)] := hl
  refine lv_iload_n hx hb dX5_checkGrower_0 rfl (lv_at hl 1 rfl) ?_
  refine lv_iconst (v := 0) hx hb dX5_checkGrower_1 (by decide) ?_
  refine lv_aload_n hx hb dX5_checkGrower_2 rfl (lv_at hl 0 rfl) ?_
  refine q_getr hx hb hts hown hW (r := 0) (hI.c 0 (by decide)) rfl k_6 0 (by decide) rfl t_137 (a := ad 1) (hI.o0 0 (by decide)) dX5_checkGrower_3 ?_
  refine q_cFiE (As := []) (rest := [.int 0, .int a]) (r := 1) hx hb hml hts hown hE h0 hW hS hE.2.1 (c_size l hI.lg) t_178 t_176 t_174 t_49 (by decide) (by decide +kernel) (hI.c 1 (by decide)) rfl k_0 t_170 ⟨Nat.le_of_ble_eq_true rfl, Nat.le_of_ble_eq_true rfl⟩ rfl hl.1 (Nat.le_of_ble_eq_true rfl) dX5_checkGrower_6 ⟨Nat.zero_le _, Nat.zero_le _⟩ ⟨rfl, rfl⟩ (fun H locs hW hS => ?_)
  refine lv_iconst (v := 1) hx hb dX5_checkGrower_11 (by decide) ?_
  refine lv_isub hx hb dX5_checkGrower_12 ?_
  refine q_cSiE (As := [.int a, .int 0, .int ((nI ng) - 1)]) (rest := []) hx hb hml hts hown hE h0 hW hS (c_X5_isIn l a 0 ((nI ng) - 1)) mw_X5_isIn t_318 ⟨Nat.le_of_ble_eq_true rfl, Nat.le_of_ble_eq_true rfl⟩ rfl hl.1 (Nat.le_of_ble_eq_true rfl) dX5_checkGrower_13 ⟨Nat.zero_le _, Nat.zero_le _⟩ ⟨rfl, rfl⟩ (fun H locs hW hS => ?_)
  refine lv_if_ne (tgt := 30) hx hb dX5_checkGrower_16 (by decide) (fun c_16 => ?_) (fun c_16 => ?_)
  · skip
    exact absurd k1 c_16
  · skip
    exact q_throwW hx hb hst9 hml hl.1 hts hown hE hnt hlocks (by decide) t_514 t_63 (is := 256) (text := "there is no such grower") (by decide) xa_157 xg_157 hW hS dX5_checkGrower_19 dX5_checkGrower_22 dX5_checkGrower_23 dX5_checkGrower_26 dX5_checkGrower_29 (Nat.le_of_ble_eq_true rfl) (Nat.le_of_ble_eq_true rfl) (by first | decide | omega | (dsimp only; omega)) (by first | decide | omega | (dsimp only; omega)) (by first | decide | omega | (dsimp only; omega)) (by first | decide | omega | (dsimp only; omega)) (fun _ h => h)

set_option maxHeartbeats 4000000 in
set_option maxRecDepth 100000 in
theorem x_X5_checkHouse (l : Launch) (hst9 : l.stackTraces = false) {G : GG} {L : List Nat} {ad : Nat → Nat} {v : Nat → Nat → Int32} {o : Nat → Nat → Option Nat} {w : Nat → Int64} {ng nh nl ns : Nat} {ow gx gy gw gd : Nat → Nat} (hI : PI G.2.2.2 L ad v o ng nh nl ns ow gx gy gw gd) {a : Int32} (k1 : fIn a 0 (nI nh - 1) = 0) : CtXv l G L ad v o w yX5_checkHouse cX5_checkHouse 2 ({ frames := 6, cells := 1, slots := 6, locals := 82 }) [.ref (ad 0), .int a] "java/lang/IndexOutOfBoundsException" := by
  have hb6 := hI.g6; have hb12 := hI.h12; have hbl := hI.l6; have hbs := hI.s30
  refine vx_ofW (cc := cX5_checkHouse) (maxL := 2) (ret := none) (by decide) rfl ?_
  intro p e s m args below meth c s₁ B hml hnt hv
  obtain ⟨rfl, hE, h0, hW⟩ := hv
  have hx := B.exec; have hb := B.bytes; have hts := hE.hts (args := ([.ref (ad 0), .int a] : List Value).toArray); have hown : s.vm.findClass RX5 = some m.cls := findClass_of_methodNamed B.named; have hlocks := B.notSynchronized
  have hl := lv_entry ([.ref (ad 0), .int a] : List Value) (n := 2) (Nat.le_of_ble_eq_true rfl)
  rw [lg_entry_eq]
  generalize (lg_sl ([.ref (ad 0), .int a] : List Value) ++ List.replicate (2 - (lg_sl ([.ref (ad 0), .int a] : List Value)).length) Slot.unset).toArray = ls at hl ⊢
  generalize hH : s.heap = H at hW ⊢
  have hS : va_S (Ab G.2.2.1) s.heap H [] := hH ▸ va_S.rf
  obtain ⟨locs, hlc⟩ : ∃ z : List Loc, z = [] := ⟨_, rfl⟩
  rw [← hlc] at hS ⊢
  have hl : lv_has ls 2 [(0, .ref (ad 0)), (1, .int a)] := hl
  refine lv_iload_n hx hb dX5_checkHouse_0 rfl (lv_at hl 1 rfl) ?_
  refine lv_iconst (v := 0) hx hb dX5_checkHouse_1 (by decide) ?_
  refine lv_aload_n hx hb dX5_checkHouse_2 rfl (lv_at hl 0 rfl) ?_
  refine q_getr hx hb hts hown hW (r := 0) (hI.c 0 (by decide)) rfl k_6 1 (by decide) rfl t_138 (a := ad 2) (hI.o0 1 (by decide)) dX5_checkHouse_3 ?_
  refine q_cFiE (As := []) (rest := [.int 0, .int a]) (r := 2) hx hb hml hts hown hE h0 hW hS hE.2.1 (c_size l hI.lh) t_178 t_176 t_174 t_49 (by decide) (by decide +kernel) (hI.c 2 (by decide)) rfl k_0 t_170 ⟨Nat.le_of_ble_eq_true rfl, Nat.le_of_ble_eq_true rfl⟩ rfl hl.1 (Nat.le_of_ble_eq_true rfl) dX5_checkHouse_6 ⟨Nat.zero_le _, Nat.zero_le _⟩ ⟨rfl, rfl⟩ (fun H locs hW hS => ?_)
  refine lv_iconst (v := 1) hx hb dX5_checkHouse_11 (by decide) ?_
  refine lv_isub hx hb dX5_checkHouse_12 ?_
  refine q_cSiE (As := [.int a, .int 0, .int ((nI nh) - 1)]) (rest := []) hx hb hml hts hown hE h0 hW hS (c_X5_isIn l a 0 ((nI nh) - 1)) mw_X5_isIn t_318 ⟨Nat.le_of_ble_eq_true rfl, Nat.le_of_ble_eq_true rfl⟩ rfl hl.1 (Nat.le_of_ble_eq_true rfl) dX5_checkHouse_13 ⟨Nat.zero_le _, Nat.zero_le _⟩ ⟨rfl, rfl⟩ (fun H locs hW hS => ?_)
  refine lv_if_ne (tgt := 30) hx hb dX5_checkHouse_16 (by decide) (fun c_16 => ?_) (fun c_16 => ?_)
  · skip
    exact absurd k1 c_16
  · skip
    exact q_throwW hx hb hst9 hml hl.1 hts hown hE hnt hlocks (by decide) t_514 t_63 (is := 258) (text := "there is no such house") (by decide) xa_157 xg_157 hW hS dX5_checkHouse_19 dX5_checkHouse_22 dX5_checkHouse_23 dX5_checkHouse_26 dX5_checkHouse_29 (Nat.le_of_ble_eq_true rfl) (Nat.le_of_ble_eq_true rfl) (by first | decide | omega | (dsimp only; omega)) (by first | decide | omega | (dsimp only; omega)) (by first | decide | omega | (dsimp only; omega)) (by first | decide | omega | (dsimp only; omega)) (fun _ h => h)

set_option maxHeartbeats 4000000 in
set_option maxRecDepth 100000 in
theorem x_X5_checkWhat (l : Launch) (hst9 : l.stackTraces = false) {G : GG} {L : List Nat} {ad : Nat → Nat} {v : Nat → Nat → Int32} {o : Nat → Nat → Option Nat} {w : Nat → Int64} {a : Int32} {n : Nat} (k1 : fIn a 0 (nI n - 1) = 0) : CtXv l G L ad v o w yX5_checkWhat cX5_checkWhat 2 ({ frames := 6, cells := 1, slots := 6, locals := 82 }) [.int a, .int (nI n)] "java/lang/IndexOutOfBoundsException" := by
  refine vx_ofW (cc := cX5_checkWhat) (maxL := 2) (ret := none) (by decide) rfl ?_
  intro p e s m args below meth c s₁ B hml hnt hv
  obtain ⟨rfl, hE, h0, hW⟩ := hv
  have hx := B.exec; have hb := B.bytes; have hts := hE.hts (args := ([.int a, .int (nI n)] : List Value).toArray); have hown : s.vm.findClass RX5 = some m.cls := findClass_of_methodNamed B.named; have hlocks := B.notSynchronized
  have hl := lv_entry ([.int a, .int (nI n)] : List Value) (n := 2) (Nat.le_of_ble_eq_true rfl)
  rw [lg_entry_eq]
  generalize (lg_sl ([.int a, .int (nI n)] : List Value) ++ List.replicate (2 - (lg_sl ([.int a, .int (nI n)] : List Value)).length) Slot.unset).toArray = ls at hl ⊢
  generalize hH : s.heap = H at hW ⊢
  have hS : va_S (Ab G.2.2.1) s.heap H [] := hH ▸ va_S.rf
  obtain ⟨locs, hlc⟩ : ∃ z : List Loc, z = [] := ⟨_, rfl⟩
  rw [← hlc] at hS ⊢
  have hl : lv_has ls 2 [(0, .int a), (1, .int (nI n))] := hl
  refine lv_iload_n hx hb dX5_checkWhat_0 rfl (lv_at hl 0 rfl) ?_
  refine lv_iconst (v := 0) hx hb dX5_checkWhat_1 (by decide) ?_
  refine lv_iload_n hx hb dX5_checkWhat_2 rfl (lv_at hl 1 rfl) ?_
  refine lv_iconst (v := 1) hx hb dX5_checkWhat_3 (by decide) ?_
  refine lv_isub hx hb dX5_checkWhat_4 ?_
  refine q_cSiE (As := [.int a, .int 0, .int ((nI n) - 1)]) (rest := []) hx hb hml hts hown hE h0 hW hS (c_X5_isIn l a 0 ((nI n) - 1)) mw_X5_isIn t_318 ⟨Nat.le_of_ble_eq_true rfl, Nat.le_of_ble_eq_true rfl⟩ rfl hl.1 (Nat.le_of_ble_eq_true rfl) dX5_checkWhat_5 ⟨Nat.zero_le _, Nat.zero_le _⟩ ⟨rfl, rfl⟩ (fun H locs hW hS => ?_)
  refine lv_if_ne (tgt := 22) hx hb dX5_checkWhat_8 (by decide) (fun c_8 => ?_) (fun c_8 => ?_)
  · skip
    exact absurd k1 c_8
  · skip
    exact q_throwW hx hb hst9 hml hl.1 hts hown hE hnt hlocks (by decide) t_514 t_63 (is := 260) (text := "what is not a number of what is told") (by decide) xa_157 xg_157 hW hS dX5_checkWhat_11 dX5_checkWhat_14 dX5_checkWhat_15 dX5_checkWhat_18 dX5_checkWhat_21 (Nat.le_of_ble_eq_true rfl) (Nat.le_of_ble_eq_true rfl) (by first | decide | omega | (dsimp only; omega)) (by first | decide | omega | (dsimp only; omega)) (by first | decide | omega | (dsimp only; omega)) (by first | decide | omega | (dsimp only; omega)) (fun _ h => h)

set_option maxHeartbeats 4000000 in
set_option maxRecDepth 100000 in
theorem x_X5_checkStorm (l : Launch) (hst9 : l.stackTraces = false) {G : GG} {L : List Nat} {ad : Nat → Nat} {v : Nat → Nat → Int32} {o : Nat → Nat → Option Nat} {w : Nat → Int64} (h180 : 180 ∈ L) (k1 : fSto (v 180 0) (v 180 1) (v 180 2) (v 180 3) (v 180 4) (v 180 5) (v 180 6) = 0) : CtXv l G L ad v o w yX5_checkStorm cX5_checkStorm 1 ({ frames := 6, cells := 1, slots := 6, locals := 82 }) [.ref (ad 180)] "java/lang/IllegalArgumentException" := by
  refine vx_ofW (cc := cX5_checkStorm) (maxL := 1) (ret := none) (by decide) rfl ?_
  intro p e s m args below meth c s₁ B hml hnt hv
  obtain ⟨rfl, hE, h0, hW⟩ := hv
  have hx := B.exec; have hb := B.bytes; have hts := hE.hts (args := ([.ref (ad 180)] : List Value).toArray); have hown : s.vm.findClass RX5 = some m.cls := findClass_of_methodNamed B.named; have hlocks := B.notSynchronized
  have hl := lv_entry ([.ref (ad 180)] : List Value) (n := 1) (Nat.le_of_ble_eq_true rfl)
  rw [lg_entry_eq]
  generalize (lg_sl ([.ref (ad 180)] : List Value) ++ List.replicate (1 - (lg_sl ([.ref (ad 180)] : List Value)).length) Slot.unset).toArray = ls at hl ⊢
  generalize hH : s.heap = H at hW ⊢
  have hS : va_S (Ab G.2.2.1) s.heap H [] := hH ▸ va_S.rf
  obtain ⟨locs, hlc⟩ : ∃ z : List Loc, z = [] := ⟨_, rfl⟩
  rw [← hlc] at hS ⊢
  have hl : lv_has ls 1 [(0, .ref (ad 180))] := hl
  refine lv_aload_n hx hb dX5_checkStorm_0 rfl (lv_at hl 0 rfl) ?_
  refine q_cViE (As := []) (rest := []) (r := 180) hx hb hml hts hown hE h0 hW hS (c_X3_isAllowed l h180) mw_X3_isAllowed h180 rfl k_4 t_750 ⟨Nat.le_of_ble_eq_true rfl, Nat.le_of_ble_eq_true rfl⟩ rfl hl.1 (Nat.le_of_ble_eq_true rfl) dX5_checkStorm_1 ⟨Nat.zero_le _, Nat.zero_le _⟩ ⟨rfl, rfl⟩ (fun H locs hW hS => ?_)
  refine lv_if_ne (tgt := 18) hx hb dX5_checkStorm_4 (by decide) (fun c_4 => ?_) (fun c_4 => ?_)
  · skip
    exact absurd k1 c_4
  · skip
    exact q_throwW hx hb hst9 hml hl.1 hts hown hE hnt hlocks (by decide) t_321 t_56 (is := 266) (text := "the storm is not within its bounds") (by decide) xa_47 xg_47 hW hS dX5_checkStorm_7 dX5_checkStorm_10 dX5_checkStorm_11 dX5_checkStorm_14 dX5_checkStorm_17 (Nat.le_of_ble_eq_true rfl) (Nat.le_of_ble_eq_true rfl) (by first | decide | omega | (dsimp only; omega)) (by first | decide | omega | (dsimp only; omega)) (by first | decide | omega | (dsimp only; omega)) (by first | decide | omega | (dsimp only; omega)) (fun _ h => h)

set_option maxHeartbeats 4000000 in
set_option maxRecDepth 100000 in
theorem x_X5_addGrower_1 (l : Launch) (hst9 : l.stackTraces = false) {G : GG} {L : List Nat} {ad : Nat → Nat} {v : Nat → Nat → Int32} {o : Nat → Nat → Option Nat} {w : Nat → Int64} {ng nh nl ns : Nat} {ow gx gy gw gd : Nat → Nat} (hI : PI G.2.2.2 L ad v o ng nh nl ns ow gx gy gw gd) {cn : Int32} (k1 : fIn cn 0 1000000 = 0) : CtXi l G L ad v o w yX5_addGrower cX5_addGrower 2 .int ({ frames := 6, cells := 1, slots := 6, locals := 82 }) [.ref (ad 0), .int cn] "java/lang/IllegalArgumentException" := by
  have hb6 := hI.g6; have hb12 := hI.h12; have hbl := hI.l6; have hbs := hI.s30
  refine vx_ofW (cc := cX5_addGrower) (maxL := 2) (ret := (some .int)) (by decide) rfl ?_
  intro p e s m args below meth c s₁ B hml hnt hv
  obtain ⟨rfl, hE, h0, hW⟩ := hv
  have hx := B.exec; have hb := B.bytes; have hts := hE.hts (args := ([.ref (ad 0), .int cn] : List Value).toArray); have hown : s.vm.findClass RX5 = some m.cls := findClass_of_methodNamed B.named; have hlocks := B.notSynchronized
  have hl := lv_entry ([.ref (ad 0), .int cn] : List Value) (n := 2) (Nat.le_of_ble_eq_true rfl)
  rw [lg_entry_eq]
  generalize (lg_sl ([.ref (ad 0), .int cn] : List Value) ++ List.replicate (2 - (lg_sl ([.ref (ad 0), .int cn] : List Value)).length) Slot.unset).toArray = ls at hl ⊢
  generalize hH : s.heap = H at hW ⊢
  have hS : va_S (Ab G.2.2.1) s.heap H [] := hH ▸ va_S.rf
  obtain ⟨locs, hlc⟩ : ∃ z : List Loc, z = [] := ⟨_, rfl⟩
  rw [← hlc] at hS ⊢
  have hl : lv_has ls 2 [(0, .ref (ad 0)), (1, .int cn)] := hl
  refine lv_iload_n hx hb dX5_addGrower_0 rfl (lv_at hl 1 rfl) ?_
  refine lv_iconst (v := 0) hx hb dX5_addGrower_1 (by decide) ?_
  refine lv_ldc (v := 1000000) hx hb hown (hts _ t_317) dX5_addGrower_2 ?_
  refine q_cSiE (As := [.int cn, .int 0, .int 1000000]) (rest := []) hx hb hml hts hown hE h0 hW hS (c_X5_isIn l cn 0 1000000) mw_X5_isIn t_318 ⟨Nat.le_of_ble_eq_true rfl, Nat.le_of_ble_eq_true rfl⟩ rfl hl.1 (Nat.le_of_ble_eq_true rfl) dX5_addGrower_4 ⟨Nat.zero_le _, Nat.zero_le _⟩ ⟨rfl, rfl⟩ (fun H locs hW hS => ?_)
  refine lv_if_ne (tgt := 20) hx hb dX5_addGrower_7 (by decide) (fun c_7 => ?_) (fun c_7 => ?_)
  · skip
    exact absurd k1 c_7
  · skip
    exact q_throw hx hb hst9 hml hl.1 hts hown hE hnt hlocks (by decide) t_321 t_56 (is := 45) (text := "coins is not 0 to 1000000") (by decide) xa_47 xg_47 hW hS dX5_addGrower_10 dX5_addGrower_13 dX5_addGrower_14 dX5_addGrower_16 dX5_addGrower_19 (Nat.le_of_ble_eq_true rfl) (Nat.le_of_ble_eq_true rfl) (by first | decide | omega | (dsimp only; omega)) (by first | decide | omega | (dsimp only; omega)) (by first | decide | omega | (dsimp only; omega)) (by first | decide | omega | (dsimp only; omega)) (fun _ h => h)

set_option maxHeartbeats 4000000 in
set_option maxRecDepth 100000 in
theorem x_X5_addGrower_2 (l : Launch) (hst9 : l.stackTraces = false) {G : GG} {L : List Nat} {ad : Nat → Nat} {v : Nat → Nat → Int32} {o : Nat → Nat → Option Nat} {w : Nat → Int64} {ng nh nl ns : Nat} {ow gx gy gw gd : Nat → Nat} (hI : PI G.2.2.2 L ad v o ng nh nl ns ow gx gy gw gd) {cn : Int32} (k1 : fIn cn 0 1000000 = 1) (k2 : ng = 6) : CtXi l G L ad v o w yX5_addGrower cX5_addGrower 2 .int ({ frames := 6, cells := 1, slots := 6, locals := 82 }) [.ref (ad 0), .int cn] "java/lang/IllegalStateException" := by
  have hb6 := hI.g6; have hb12 := hI.h12; have hbl := hI.l6; have hbs := hI.s30
  refine vx_ofW (cc := cX5_addGrower) (maxL := 2) (ret := (some .int)) (by decide) rfl ?_
  intro p e s m args below meth c s₁ B hml hnt hv
  obtain ⟨rfl, hE, h0, hW⟩ := hv
  have hx := B.exec; have hb := B.bytes; have hts := hE.hts (args := ([.ref (ad 0), .int cn] : List Value).toArray); have hown : s.vm.findClass RX5 = some m.cls := findClass_of_methodNamed B.named; have hlocks := B.notSynchronized
  have hl := lv_entry ([.ref (ad 0), .int cn] : List Value) (n := 2) (Nat.le_of_ble_eq_true rfl)
  rw [lg_entry_eq]
  generalize (lg_sl ([.ref (ad 0), .int cn] : List Value) ++ List.replicate (2 - (lg_sl ([.ref (ad 0), .int cn] : List Value)).length) Slot.unset).toArray = ls at hl ⊢
  generalize hH : s.heap = H at hW ⊢
  have hS : va_S (Ab G.2.2.1) s.heap H [] := hH ▸ va_S.rf
  obtain ⟨locs, hlc⟩ : ∃ z : List Loc, z = [] := ⟨_, rfl⟩
  rw [← hlc] at hS ⊢
  have hl : lv_has ls 2 [(0, .ref (ad 0)), (1, .int cn)] := hl
  refine lv_iload_n hx hb dX5_addGrower_0 rfl (lv_at hl 1 rfl) ?_
  refine lv_iconst (v := 0) hx hb dX5_addGrower_1 (by decide) ?_
  refine lv_ldc (v := 1000000) hx hb hown (hts _ t_317) dX5_addGrower_2 ?_
  refine q_cSiE (As := [.int cn, .int 0, .int 1000000]) (rest := []) hx hb hml hts hown hE h0 hW hS (c_X5_isIn l cn 0 1000000) mw_X5_isIn t_318 ⟨Nat.le_of_ble_eq_true rfl, Nat.le_of_ble_eq_true rfl⟩ rfl hl.1 (Nat.le_of_ble_eq_true rfl) dX5_addGrower_4 ⟨Nat.zero_le _, Nat.zero_le _⟩ ⟨rfl, rfl⟩ (fun H locs hW hS => ?_)
  refine lv_if_ne (tgt := 20) hx hb dX5_addGrower_7 (by decide) (fun c_7 => ?_) (fun c_7 => ?_)
  · skip
    refine lv_aload_n hx hb dX5_addGrower_20 rfl (lv_at hl 0 rfl) ?_
    refine q_getr hx hb hts hown hW (r := 0) (hI.c 0 (by decide)) rfl k_6 0 (by decide) rfl t_137 (a := ad 1) (hI.o0 0 (by decide)) dX5_addGrower_21 ?_
    refine q_cFiE (As := []) (rest := []) (r := 1) hx hb hml hts hown hE h0 hW hS hE.2.1 (c_size l hI.lg) t_178 t_176 t_174 t_49 (by decide) (by decide +kernel) (hI.c 1 (by decide)) rfl k_0 t_170 ⟨Nat.le_of_ble_eq_true rfl, Nat.le_of_ble_eq_true rfl⟩ rfl hl.1 (Nat.le_of_ble_eq_true rfl) dX5_addGrower_24 ⟨Nat.zero_le _, Nat.zero_le _⟩ ⟨rfl, rfl⟩ (fun H locs hW hS => ?_)
    refine lv_bipush (v := 6) hx hb dX5_addGrower_29 (by decide) ?_
    refine lv_icmp_lt (tgt := 44) hx hb dX5_addGrower_31 (by decide) (fun c_31 => ?_) (fun c_31 => ?_)
    · skip
      exact absurd c_31 (by rw [k2]; decide)
    · skip
      exact q_throw hx hb hst9 hml hl.1 hts hown hE hnt hlocks (by decide) t_389 t_57 (is := 58) (text := "there are 6 growers") (by decide) xa_60 xg_60 hW hS dX5_addGrower_34 dX5_addGrower_37 dX5_addGrower_38 dX5_addGrower_40 dX5_addGrower_43 (Nat.le_of_ble_eq_true rfl) (Nat.le_of_ble_eq_true rfl) (by first | decide | omega | (dsimp only; omega)) (by first | decide | omega | (dsimp only; omega)) (by first | decide | omega | (dsimp only; omega)) (by first | decide | omega | (dsimp only; omega)) (fun _ h => h)
  · skip
    exact absurd (k1.symm.trans c_7) (by decide)

set_option maxHeartbeats 4000000 in
set_option maxRecDepth 100000 in
theorem x_X5_setNet_1 (l : Launch) (hst9 : l.stackTraces = false) {G : GG} {L : List Nat} {ad : Nat → Nat} {v : Nat → Nat → Int32} {o : Nat → Nat → Option Nat} {w : Nat → Int64} {ng nh nl ns : Nat} {ow gx gy gw gd : Nat → Nat} (hI : PI G.2.2.2 L ad v o ng nh nl ns ow gx gy gw gd) {a b : Int32} (k1 : fIn a 0 (nI nh - 1) = 0) : CtXi l G L ad v o w yX5_setNet cX5_setNet 5 .boolean ({ frames := 7, cells := 1, slots := 6, locals := 103 }) [.ref (ad 0), .int a, .int b] "java/lang/IndexOutOfBoundsException" := by
  have hb6 := hI.g6; have hb12 := hI.h12; have hbl := hI.l6; have hbs := hI.s30
  refine vx_ofW (cc := cX5_setNet) (maxL := 5) (ret := (some .boolean)) (by decide) rfl ?_
  intro p e s m args below meth c s₁ B hml hnt hv
  obtain ⟨rfl, hE, h0, hW⟩ := hv
  have hx := B.exec; have hb := B.bytes; have hts := hE.hts (args := ([.ref (ad 0), .int a, .int b] : List Value).toArray); have hown : s.vm.findClass RX5 = some m.cls := findClass_of_methodNamed B.named; have hlocks := B.notSynchronized
  have hl := lv_entry ([.ref (ad 0), .int a, .int b] : List Value) (n := 5) (Nat.le_of_ble_eq_true rfl)
  rw [lg_entry_eq]
  generalize (lg_sl ([.ref (ad 0), .int a, .int b] : List Value) ++ List.replicate (5 - (lg_sl ([.ref (ad 0), .int a, .int b] : List Value)).length) Slot.unset).toArray = ls at hl ⊢
  generalize hH : s.heap = H at hW ⊢
  have hS : va_S (Ab G.2.2.1) s.heap H [] := hH ▸ va_S.rf
  obtain ⟨locs, hlc⟩ : ∃ z : List Loc, z = [] := ⟨_, rfl⟩
  rw [← hlc] at hS ⊢
  have hl : lv_has ls 5 [(0, .ref (ad 0)), (1, .int a), (2, .int b)] := hl
  refine lv_aload_n hx hb dX5_setNet_0 rfl (lv_at hl 0 rfl) ?_
  refine lv_iload_n hx hb dX5_setNet_1 rfl (lv_at hl 1 rfl) ?_
  exact q_xV (As := [.int a]) (rest := []) (r := 0) hx hb hml hts hown hE h0 hW hS hnt hlocks (x_X5_checkHouse l hst9 hI k1) mw_X5_checkHouse (hI.c 0 (by decide)) rfl k_6 t_595 ⟨Nat.le_of_ble_eq_true rfl, Nat.le_of_ble_eq_true rfl⟩ rfl hl.1 (Nat.le_of_ble_eq_true rfl) dX5_setNet_2 ⟨(by first | decide | omega | (dsimp only; omega)), (by first | decide | omega | (dsimp only; omega))⟩ (by first | decide | omega | (dsimp only; omega)) (by first | decide | omega | (dsimp only; omega)) (fun _ h => h)

set_option maxHeartbeats 4000000 in
set_option maxRecDepth 100000 in
theorem x_X5_insure_1 (l : Launch) (hst9 : l.stackTraces = false) {G : GG} {L : List Nat} {ad : Nat → Nat} {v : Nat → Nat → Int32} {o : Nat → Nat → Option Nat} {w : Nat → Int64} {ng nh nl ns : Nat} {ow gx gy gw gd : Nat → Nat} (hI : PI G.2.2.2 L ad v o ng nh nl ns ow gx gy gw gd) {a d li ra : Int32} (k1 : fIn a 0 (nI ng - 1) = 0) : CtXi l G L ad v o w yX5_insure cX5_insure 7 .int ({ frames := 7, cells := 1, slots := 6, locals := 103 }) [.ref (ad 0), .int a, .int d, .int li, .int ra] "java/lang/IndexOutOfBoundsException" := by
  have hb6 := hI.g6; have hb12 := hI.h12; have hbl := hI.l6; have hbs := hI.s30
  refine vx_ofW (cc := cX5_insure) (maxL := 7) (ret := (some .int)) (by decide) rfl ?_
  intro p e s m args below meth c s₁ B hml hnt hv
  obtain ⟨rfl, hE, h0, hW⟩ := hv
  have hx := B.exec; have hb := B.bytes; have hts := hE.hts (args := ([.ref (ad 0), .int a, .int d, .int li, .int ra] : List Value).toArray); have hown : s.vm.findClass RX5 = some m.cls := findClass_of_methodNamed B.named; have hlocks := B.notSynchronized
  have hl := lv_entry ([.ref (ad 0), .int a, .int d, .int li, .int ra] : List Value) (n := 7) (Nat.le_of_ble_eq_true rfl)
  rw [lg_entry_eq]
  generalize (lg_sl ([.ref (ad 0), .int a, .int d, .int li, .int ra] : List Value) ++ List.replicate (7 - (lg_sl ([.ref (ad 0), .int a, .int d, .int li, .int ra] : List Value)).length) Slot.unset).toArray = ls at hl ⊢
  generalize hH : s.heap = H at hW ⊢
  have hS : va_S (Ab G.2.2.1) s.heap H [] := hH ▸ va_S.rf
  obtain ⟨locs, hlc⟩ : ∃ z : List Loc, z = [] := ⟨_, rfl⟩
  rw [← hlc] at hS ⊢
  have hl : lv_has ls 7 [(0, .ref (ad 0)), (1, .int a), (2, .int d), (3, .int li), (4, .int ra)] := hl
  refine lv_aload_n hx hb dX5_insure_0 rfl (lv_at hl 0 rfl) ?_
  refine lv_iload_n hx hb dX5_insure_1 rfl (lv_at hl 1 rfl) ?_
  exact q_xV (As := [.int a]) (rest := []) (r := 0) hx hb hml hts hown hE h0 hW hS hnt hlocks (x_X5_checkGrower l hst9 hI k1) mw_X5_checkGrower (hI.c 0 (by decide)) rfl k_6 t_510 ⟨Nat.le_of_ble_eq_true rfl, Nat.le_of_ble_eq_true rfl⟩ rfl hl.1 (Nat.le_of_ble_eq_true rfl) dX5_insure_2 ⟨(by first | decide | omega | (dsimp only; omega)), (by first | decide | omega | (dsimp only; omega))⟩ (by first | decide | omega | (dsimp only; omega)) (by first | decide | omega | (dsimp only; omega)) (fun _ h => h)

set_option maxHeartbeats 4000000 in
set_option maxRecDepth 100000 in
theorem x_X5_insure_2a (l : Launch) (hst9 : l.stackTraces = false) {G : GG} {L : List Nat} {ad : Nat → Nat} {v : Nat → Nat → Int32} {o : Nat → Nat → Option Nat} {w : Nat → Int64} {ng nh nl ns : Nat} {ow gx gy gw gd : Nat → Nat} (hI : PI G.2.2.2 L ad v o ng nh nl ns ow gx gy gw gd) {g : Nat} (hg : g < ng) {d li ra : Int32} (k1 : fIn d 0 10000 = 0) : CtXi l G L ad v o w yX5_insure cX5_insure 7 .int ({ frames := 6, cells := 1, slots := 6, locals := 82 }) [.ref (ad 0), .int (nI g), .int d, .int li, .int ra] "java/lang/IllegalArgumentException" := by
  have hb6 := hI.g6; have hb12 := hI.h12; have hbl := hI.l6; have hbs := hI.s30
  refine vx_ofW (cc := cX5_insure) (maxL := 7) (ret := (some .int)) (by decide) rfl ?_
  intro p e s m args below meth c s₁ B hml hnt hv
  obtain ⟨rfl, hE, h0, hW⟩ := hv
  have hx := B.exec; have hb := B.bytes; have hts := hE.hts (args := ([.ref (ad 0), .int (nI g), .int d, .int li, .int ra] : List Value).toArray); have hown : s.vm.findClass RX5 = some m.cls := findClass_of_methodNamed B.named; have hlocks := B.notSynchronized
  have hl := lv_entry ([.ref (ad 0), .int (nI g), .int d, .int li, .int ra] : List Value) (n := 7) (Nat.le_of_ble_eq_true rfl)
  rw [lg_entry_eq]
  generalize (lg_sl ([.ref (ad 0), .int (nI g), .int d, .int li, .int ra] : List Value) ++ List.replicate (7 - (lg_sl ([.ref (ad 0), .int (nI g), .int d, .int li, .int ra] : List Value)).length) Slot.unset).toArray = ls at hl ⊢
  generalize hH : s.heap = H at hW ⊢
  have hS : va_S (Ab G.2.2.1) s.heap H [] := hH ▸ va_S.rf
  obtain ⟨locs, hlc⟩ : ∃ z : List Loc, z = [] := ⟨_, rfl⟩
  rw [← hlc] at hS ⊢
  have hl : lv_has ls 7 [(0, .ref (ad 0)), (1, .int (nI g)), (2, .int d), (3, .int li), (4, .int ra)] := hl
  refine lv_aload_n hx hb dX5_insure_0 rfl (lv_at hl 0 rfl) ?_
  refine lv_iload_n hx hb dX5_insure_1 rfl (lv_at hl 1 rfl) ?_
  refine q_cVvE (As := [.int (nI g)]) (rest := []) (r := 0) hx hb hml hts hown hE h0 hW hS (c_X5_checkGrower l hI hg) mw_X5_checkGrower (hI.c 0 (by decide)) rfl k_6 t_510 ⟨Nat.le_of_ble_eq_true rfl, Nat.le_of_ble_eq_true rfl⟩ rfl hl.1 (Nat.le_of_ble_eq_true rfl) dX5_insure_2 ⟨Nat.zero_le _, Nat.zero_le _⟩ ⟨rfl, rfl⟩ (fun H locs hW hS => ?_)
  refine lv_iload_n hx hb dX5_insure_5 rfl (lv_at hl 2 rfl) ?_
  refine lv_iconst (v := 0) hx hb dX5_insure_6 (by decide) ?_
  refine lv_sipush (v := 10000) hx hb dX5_insure_7 (by decide) ?_
  refine q_cSiE (As := [.int d, .int 0, .int 10000]) (rest := []) hx hb hml hts hown hE h0 hW hS (c_X5_isIn l d 0 10000) mw_X5_isIn t_318 ⟨Nat.le_of_ble_eq_true rfl, Nat.le_of_ble_eq_true rfl⟩ rfl hl.1 (Nat.le_of_ble_eq_true rfl) dX5_insure_10 ⟨Nat.zero_le _, Nat.zero_le _⟩ ⟨rfl, rfl⟩ (fun H locs hW hS => ?_)
  refine lv_if_ne (tgt := 26) hx hb dX5_insure_13 (by decide) (fun c_13 => ?_) (fun c_13 => ?_)
  · skip
    exact absurd k1 c_13
  · skip
    exact q_throw hx hb hst9 hml hl.1 hts hown hE hnt hlocks (by decide) t_321 t_56 (is := 109) (text := "deductible is not 0 to 10000") (by decide) xa_47 xg_47 hW hS dX5_insure_16 dX5_insure_19 dX5_insure_20 dX5_insure_22 dX5_insure_25 (Nat.le_of_ble_eq_true rfl) (Nat.le_of_ble_eq_true rfl) (by first | decide | omega | (dsimp only; omega)) (by first | decide | omega | (dsimp only; omega)) (by first | decide | omega | (dsimp only; omega)) (by first | decide | omega | (dsimp only; omega)) (fun _ h => h)

set_option maxHeartbeats 4000000 in
set_option maxRecDepth 100000 in
theorem x_X5_insure_2b (l : Launch) (hst9 : l.stackTraces = false) {G : GG} {L : List Nat} {ad : Nat → Nat} {v : Nat → Nat → Int32} {o : Nat → Nat → Option Nat} {w : Nat → Int64} {ng nh nl ns : Nat} {ow gx gy gw gd : Nat → Nat} (hI : PI G.2.2.2 L ad v o ng nh nl ns ow gx gy gw gd) {g : Nat} (hg : g < ng) {d li ra : Int32} (k1 : fIn d 0 10000 = 1) (k2 : fIn li 1 100000 = 0) : CtXi l G L ad v o w yX5_insure cX5_insure 7 .int ({ frames := 6, cells := 1, slots := 6, locals := 82 }) [.ref (ad 0), .int (nI g), .int d, .int li, .int ra] "java/lang/IllegalArgumentException" := by
  have hb6 := hI.g6; have hb12 := hI.h12; have hbl := hI.l6; have hbs := hI.s30
  refine vx_ofW (cc := cX5_insure) (maxL := 7) (ret := (some .int)) (by decide) rfl ?_
  intro p e s m args below meth c s₁ B hml hnt hv
  obtain ⟨rfl, hE, h0, hW⟩ := hv
  have hx := B.exec; have hb := B.bytes; have hts := hE.hts (args := ([.ref (ad 0), .int (nI g), .int d, .int li, .int ra] : List Value).toArray); have hown : s.vm.findClass RX5 = some m.cls := findClass_of_methodNamed B.named; have hlocks := B.notSynchronized
  have hl := lv_entry ([.ref (ad 0), .int (nI g), .int d, .int li, .int ra] : List Value) (n := 7) (Nat.le_of_ble_eq_true rfl)
  rw [lg_entry_eq]
  generalize (lg_sl ([.ref (ad 0), .int (nI g), .int d, .int li, .int ra] : List Value) ++ List.replicate (7 - (lg_sl ([.ref (ad 0), .int (nI g), .int d, .int li, .int ra] : List Value)).length) Slot.unset).toArray = ls at hl ⊢
  generalize hH : s.heap = H at hW ⊢
  have hS : va_S (Ab G.2.2.1) s.heap H [] := hH ▸ va_S.rf
  obtain ⟨locs, hlc⟩ : ∃ z : List Loc, z = [] := ⟨_, rfl⟩
  rw [← hlc] at hS ⊢
  have hl : lv_has ls 7 [(0, .ref (ad 0)), (1, .int (nI g)), (2, .int d), (3, .int li), (4, .int ra)] := hl
  refine lv_aload_n hx hb dX5_insure_0 rfl (lv_at hl 0 rfl) ?_
  refine lv_iload_n hx hb dX5_insure_1 rfl (lv_at hl 1 rfl) ?_
  refine q_cVvE (As := [.int (nI g)]) (rest := []) (r := 0) hx hb hml hts hown hE h0 hW hS (c_X5_checkGrower l hI hg) mw_X5_checkGrower (hI.c 0 (by decide)) rfl k_6 t_510 ⟨Nat.le_of_ble_eq_true rfl, Nat.le_of_ble_eq_true rfl⟩ rfl hl.1 (Nat.le_of_ble_eq_true rfl) dX5_insure_2 ⟨Nat.zero_le _, Nat.zero_le _⟩ ⟨rfl, rfl⟩ (fun H locs hW hS => ?_)
  refine lv_iload_n hx hb dX5_insure_5 rfl (lv_at hl 2 rfl) ?_
  refine lv_iconst (v := 0) hx hb dX5_insure_6 (by decide) ?_
  refine lv_sipush (v := 10000) hx hb dX5_insure_7 (by decide) ?_
  refine q_cSiE (As := [.int d, .int 0, .int 10000]) (rest := []) hx hb hml hts hown hE h0 hW hS (c_X5_isIn l d 0 10000) mw_X5_isIn t_318 ⟨Nat.le_of_ble_eq_true rfl, Nat.le_of_ble_eq_true rfl⟩ rfl hl.1 (Nat.le_of_ble_eq_true rfl) dX5_insure_10 ⟨Nat.zero_le _, Nat.zero_le _⟩ ⟨rfl, rfl⟩ (fun H locs hW hS => ?_)
  refine lv_if_ne (tgt := 26) hx hb dX5_insure_13 (by decide) (fun c_13 => ?_) (fun c_13 => ?_)
  · skip
    refine lv_iload_n hx hb dX5_insure_26 rfl (lv_at hl 3 rfl) ?_
    refine lv_iconst (v := 1) hx hb dX5_insure_27 (by decide) ?_
    refine lv_ldc (v := 100000) hx hb hown (hts _ t_608) dX5_insure_28 ?_
    refine q_cSiE (As := [.int li, .int 1, .int 100000]) (rest := []) hx hb hml hts hown hE h0 hW hS (c_X5_isIn l li 1 100000) mw_X5_isIn t_318 ⟨Nat.le_of_ble_eq_true rfl, Nat.le_of_ble_eq_true rfl⟩ rfl hl.1 (Nat.le_of_ble_eq_true rfl) dX5_insure_30 ⟨Nat.zero_le _, Nat.zero_le _⟩ ⟨rfl, rfl⟩ (fun H locs hW hS => ?_)
    refine lv_if_ne (tgt := 46) hx hb dX5_insure_33 (by decide) (fun c_33 => ?_) (fun c_33 => ?_)
    · skip
      exact absurd k2 c_33
    · skip
      exact q_throw hx hb hst9 hml hl.1 hts hown hE hnt hlocks (by decide) t_321 t_56 (is := 112) (text := "limit is not 1 to 100000") (by decide) xa_47 xg_47 hW hS dX5_insure_36 dX5_insure_39 dX5_insure_40 dX5_insure_42 dX5_insure_45 (Nat.le_of_ble_eq_true rfl) (Nat.le_of_ble_eq_true rfl) (by first | decide | omega | (dsimp only; omega)) (by first | decide | omega | (dsimp only; omega)) (by first | decide | omega | (dsimp only; omega)) (by first | decide | omega | (dsimp only; omega)) (fun _ h => h)
  · skip
    exact absurd (k1.symm.trans c_13) (by decide)

set_option maxHeartbeats 4000000 in
set_option maxRecDepth 100000 in
theorem x_X5_insure_2c (l : Launch) (hst9 : l.stackTraces = false) {G : GG} {L : List Nat} {ad : Nat → Nat} {v : Nat → Nat → Int32} {o : Nat → Nat → Option Nat} {w : Nat → Int64} {ng nh nl ns : Nat} {ow gx gy gw gd : Nat → Nat} (hI : PI G.2.2.2 L ad v o ng nh nl ns ow gx gy gw gd) {g : Nat} (hg : g < ng) {d li ra : Int32} (k1 : fIn d 0 10000 = 1) (k2 : fIn li 1 100000 = 1) (k3 : fIn ra 1 100 = 0) : CtXi l G L ad v o w yX5_insure cX5_insure 7 .int ({ frames := 6, cells := 1, slots := 6, locals := 82 }) [.ref (ad 0), .int (nI g), .int d, .int li, .int ra] "java/lang/IllegalArgumentException" := by
  have hb6 := hI.g6; have hb12 := hI.h12; have hbl := hI.l6; have hbs := hI.s30
  refine vx_ofW (cc := cX5_insure) (maxL := 7) (ret := (some .int)) (by decide) rfl ?_
  intro p e s m args below meth c s₁ B hml hnt hv
  obtain ⟨rfl, hE, h0, hW⟩ := hv
  have hx := B.exec; have hb := B.bytes; have hts := hE.hts (args := ([.ref (ad 0), .int (nI g), .int d, .int li, .int ra] : List Value).toArray); have hown : s.vm.findClass RX5 = some m.cls := findClass_of_methodNamed B.named; have hlocks := B.notSynchronized
  have hl := lv_entry ([.ref (ad 0), .int (nI g), .int d, .int li, .int ra] : List Value) (n := 7) (Nat.le_of_ble_eq_true rfl)
  rw [lg_entry_eq]
  generalize (lg_sl ([.ref (ad 0), .int (nI g), .int d, .int li, .int ra] : List Value) ++ List.replicate (7 - (lg_sl ([.ref (ad 0), .int (nI g), .int d, .int li, .int ra] : List Value)).length) Slot.unset).toArray = ls at hl ⊢
  generalize hH : s.heap = H at hW ⊢
  have hS : va_S (Ab G.2.2.1) s.heap H [] := hH ▸ va_S.rf
  obtain ⟨locs, hlc⟩ : ∃ z : List Loc, z = [] := ⟨_, rfl⟩
  rw [← hlc] at hS ⊢
  have hl : lv_has ls 7 [(0, .ref (ad 0)), (1, .int (nI g)), (2, .int d), (3, .int li), (4, .int ra)] := hl
  refine lv_aload_n hx hb dX5_insure_0 rfl (lv_at hl 0 rfl) ?_
  refine lv_iload_n hx hb dX5_insure_1 rfl (lv_at hl 1 rfl) ?_
  refine q_cVvE (As := [.int (nI g)]) (rest := []) (r := 0) hx hb hml hts hown hE h0 hW hS (c_X5_checkGrower l hI hg) mw_X5_checkGrower (hI.c 0 (by decide)) rfl k_6 t_510 ⟨Nat.le_of_ble_eq_true rfl, Nat.le_of_ble_eq_true rfl⟩ rfl hl.1 (Nat.le_of_ble_eq_true rfl) dX5_insure_2 ⟨Nat.zero_le _, Nat.zero_le _⟩ ⟨rfl, rfl⟩ (fun H locs hW hS => ?_)
  refine lv_iload_n hx hb dX5_insure_5 rfl (lv_at hl 2 rfl) ?_
  refine lv_iconst (v := 0) hx hb dX5_insure_6 (by decide) ?_
  refine lv_sipush (v := 10000) hx hb dX5_insure_7 (by decide) ?_
  refine q_cSiE (As := [.int d, .int 0, .int 10000]) (rest := []) hx hb hml hts hown hE h0 hW hS (c_X5_isIn l d 0 10000) mw_X5_isIn t_318 ⟨Nat.le_of_ble_eq_true rfl, Nat.le_of_ble_eq_true rfl⟩ rfl hl.1 (Nat.le_of_ble_eq_true rfl) dX5_insure_10 ⟨Nat.zero_le _, Nat.zero_le _⟩ ⟨rfl, rfl⟩ (fun H locs hW hS => ?_)
  refine lv_if_ne (tgt := 26) hx hb dX5_insure_13 (by decide) (fun c_13 => ?_) (fun c_13 => ?_)
  · skip
    refine lv_iload_n hx hb dX5_insure_26 rfl (lv_at hl 3 rfl) ?_
    refine lv_iconst (v := 1) hx hb dX5_insure_27 (by decide) ?_
    refine lv_ldc (v := 100000) hx hb hown (hts _ t_608) dX5_insure_28 ?_
    refine q_cSiE (As := [.int li, .int 1, .int 100000]) (rest := []) hx hb hml hts hown hE h0 hW hS (c_X5_isIn l li 1 100000) mw_X5_isIn t_318 ⟨Nat.le_of_ble_eq_true rfl, Nat.le_of_ble_eq_true rfl⟩ rfl hl.1 (Nat.le_of_ble_eq_true rfl) dX5_insure_30 ⟨Nat.zero_le _, Nat.zero_le _⟩ ⟨rfl, rfl⟩ (fun H locs hW hS => ?_)
    refine lv_if_ne (tgt := 46) hx hb dX5_insure_33 (by decide) (fun c_33 => ?_) (fun c_33 => ?_)
    · skip
      refine lv_iload hx hb dX5_insure_46 (lv_at hl 4 rfl) ?_
      refine lv_iconst (v := 1) hx hb dX5_insure_48 (by decide) ?_
      refine lv_bipush (v := 100) hx hb dX5_insure_49 (by decide) ?_
      refine q_cSiE (As := [.int ra, .int 1, .int 100]) (rest := []) hx hb hml hts hown hE h0 hW hS (c_X5_isIn l ra 1 100) mw_X5_isIn t_318 ⟨Nat.le_of_ble_eq_true rfl, Nat.le_of_ble_eq_true rfl⟩ rfl hl.1 (Nat.le_of_ble_eq_true rfl) dX5_insure_51 ⟨Nat.zero_le _, Nat.zero_le _⟩ ⟨rfl, rfl⟩ (fun H locs hW hS => ?_)
      refine lv_if_ne (tgt := 67) hx hb dX5_insure_54 (by decide) (fun c_54 => ?_) (fun c_54 => ?_)
      · skip
        exact absurd k3 c_54
      · skip
        exact q_throw hx hb hst9 hml hl.1 hts hown hE hnt hlocks (by decide) t_321 t_56 (is := 114) (text := "rate is not 1 to 100") (by decide) xa_47 xg_47 hW hS dX5_insure_57 dX5_insure_60 dX5_insure_61 dX5_insure_63 dX5_insure_66 (Nat.le_of_ble_eq_true rfl) (Nat.le_of_ble_eq_true rfl) (by first | decide | omega | (dsimp only; omega)) (by first | decide | omega | (dsimp only; omega)) (by first | decide | omega | (dsimp only; omega)) (by first | decide | omega | (dsimp only; omega)) (fun _ h => h)
    · skip
      exact absurd (k2.symm.trans c_33) (by decide)
  · skip
    exact absurd (k1.symm.trans c_13) (by decide)

set_option maxHeartbeats 4000000 in
set_option maxRecDepth 100000 in
theorem x_X5_mend_1 (l : Launch) (hst9 : l.stackTraces = false) {G : GG} {L : List Nat} {ad : Nat → Nat} {v : Nat → Nat → Int32} {o : Nat → Nat → Option Nat} {w : Nat → Int64} {ng nh nl ns : Nat} {ow gx gy gw gd : Nat → Nat} (hI : PI G.2.2.2 L ad v o ng nh nl ns ow gx gy gw gd) {a : Int32} (k1 : fIn a 0 (nI nh - 1) = 0) : CtXi l G L ad v o w yX5_mend cX5_mend 5 .int ({ frames := 7, cells := 1, slots := 6, locals := 103 }) [.ref (ad 0), .int a] "java/lang/IndexOutOfBoundsException" := by
  have hb6 := hI.g6; have hb12 := hI.h12; have hbl := hI.l6; have hbs := hI.s30
  refine vx_ofW (cc := cX5_mend) (maxL := 5) (ret := (some .int)) (by decide) rfl ?_
  intro p e s m args below meth c s₁ B hml hnt hv
  obtain ⟨rfl, hE, h0, hW⟩ := hv
  have hx := B.exec; have hb := B.bytes; have hts := hE.hts (args := ([.ref (ad 0), .int a] : List Value).toArray); have hown : s.vm.findClass RX5 = some m.cls := findClass_of_methodNamed B.named; have hlocks := B.notSynchronized
  have hl := lv_entry ([.ref (ad 0), .int a] : List Value) (n := 5) (Nat.le_of_ble_eq_true rfl)
  rw [lg_entry_eq]
  generalize (lg_sl ([.ref (ad 0), .int a] : List Value) ++ List.replicate (5 - (lg_sl ([.ref (ad 0), .int a] : List Value)).length) Slot.unset).toArray = ls at hl ⊢
  generalize hH : s.heap = H at hW ⊢
  have hS : va_S (Ab G.2.2.1) s.heap H [] := hH ▸ va_S.rf
  obtain ⟨locs, hlc⟩ : ∃ z : List Loc, z = [] := ⟨_, rfl⟩
  rw [← hlc] at hS ⊢
  have hl : lv_has ls 5 [(0, .ref (ad 0)), (1, .int a)] := hl
  refine lv_aload_n hx hb dX5_mend_0 rfl (lv_at hl 0 rfl) ?_
  refine lv_iload_n hx hb dX5_mend_1 rfl (lv_at hl 1 rfl) ?_
  exact q_xV (As := [.int a]) (rest := []) (r := 0) hx hb hml hts hown hE h0 hW hS hnt hlocks (x_X5_checkHouse l hst9 hI k1) mw_X5_checkHouse (hI.c 0 (by decide)) rfl k_6 t_595 ⟨Nat.le_of_ble_eq_true rfl, Nat.le_of_ble_eq_true rfl⟩ rfl hl.1 (Nat.le_of_ble_eq_true rfl) dX5_mend_2 ⟨(by first | decide | omega | (dsimp only; omega)), (by first | decide | omega | (dsimp only; omega))⟩ (by first | decide | omega | (dsimp only; omega)) (by first | decide | omega | (dsimp only; omega)) (fun _ h => h)

set_option maxHeartbeats 4000000 in
set_option maxRecDepth 100000 in
theorem x_X5_mend_2 (l : Launch) (hst9 : l.stackTraces = false) {G : GG} {L : List Nat} {ad : Nat → Nat} {v : Nat → Nat → Int32} {o : Nat → Nat → Option Nat} {w : Nat → Int64} {ng nh nl ns : Nat} {ow gx gy gw gd : Nat → Nat} (hI : PI G.2.2.2 L ad v o ng nh nl ns ow gx gy gw gd) {h : Nat} (hh : h < nh) (k1 : ¬ hLost v gx gy gw gd h ≤ v (50 + ow h) 0) : CtXi l G L ad v o w yX5_mend cX5_mend 5 .int ({ frames := 6, cells := 1, slots := 6, locals := 100 }) [.ref (ad 0), .int (nI h)] "java/lang/IllegalStateException" := by
  have hb6 := hI.g6; have hb12 := hI.h12; have hbl := hI.l6; have hbs := hI.s30; have hgeo := (hI.hs h hh).1
  refine vx_ofW (cc := cX5_mend) (maxL := 5) (ret := (some .int)) (by decide) rfl ?_
  intro p e s m args below meth c s₁ B hml hnt hv
  obtain ⟨rfl, hE, h0, hW⟩ := hv
  have hx := B.exec; have hb := B.bytes; have hts := hE.hts (args := ([.ref (ad 0), .int (nI h)] : List Value).toArray); have hown : s.vm.findClass RX5 = some m.cls := findClass_of_methodNamed B.named; have hlocks := B.notSynchronized
  have hl := lv_entry ([.ref (ad 0), .int (nI h)] : List Value) (n := 5) (Nat.le_of_ble_eq_true rfl)
  rw [lg_entry_eq]
  generalize (lg_sl ([.ref (ad 0), .int (nI h)] : List Value) ++ List.replicate (5 - (lg_sl ([.ref (ad 0), .int (nI h)] : List Value)).length) Slot.unset).toArray = ls at hl ⊢
  generalize hH : s.heap = H at hW ⊢
  have hS : va_S (Ab G.2.2.1) s.heap H [] := hH ▸ va_S.rf
  obtain ⟨locs, hlc⟩ : ∃ z : List Loc, z = [] := ⟨_, rfl⟩
  rw [← hlc] at hS ⊢
  have hl : lv_has ls 5 [(0, .ref (ad 0)), (1, .int (nI h))] := hl
  refine lv_aload_n hx hb dX5_mend_0 rfl (lv_at hl 0 rfl) ?_
  refine lv_iload_n hx hb dX5_mend_1 rfl (lv_at hl 1 rfl) ?_
  refine q_cVvE (As := [.int (nI h)]) (rest := []) (r := 0) hx hb hml hts hown hE h0 hW hS (c_X5_checkHouse l hI hh) mw_X5_checkHouse (hI.c 0 (by decide)) rfl k_6 t_595 ⟨Nat.le_of_ble_eq_true rfl, Nat.le_of_ble_eq_true rfl⟩ rfl hl.1 (Nat.le_of_ble_eq_true rfl) dX5_mend_2 ⟨Nat.zero_le _, Nat.zero_le _⟩ ⟨rfl, rfl⟩ (fun H locs hW hS => ?_)
  refine lv_aload_n hx hb dX5_mend_5 rfl (lv_at hl 0 rfl) ?_
  refine q_getr hx hb hts hown hW (r := 0) (hI.c 0 (by decide)) rfl k_6 1 (by decide) rfl t_138 (a := ad 2) (hI.o0 1 (by decide)) dX5_mend_6 ?_
  refine lv_iload_n hx hb dX5_mend_9 rfl (lv_at hl 1 rfl) ?_
  refine q_cFrE (n := 1) (As := [.int (nI h)]) (rest := []) (r := 2) hx hb hml hts hown hE h0 hW hS hE.2.2.1 (c_get l hI.lh (i := h) hh) t_191 t_189 t_187 t_49 (by decide) (by decide +kernel) (hI.c 2 (by decide)) rfl k_0 t_184 ⟨Nat.le_of_ble_eq_true rfl, Nat.le_of_ble_eq_true rfl⟩ rfl hl.1 (Nat.le_of_ble_eq_true rfl) dX5_mend_10 ⟨Nat.zero_le _, Nat.zero_le _⟩ ⟨rfl, rfl⟩ (fun H locs hW hS => ?_)
  refine q_castS hx hb hts hown hW (r := (60 + h)) (hI.mh hh) (hI.kh hh) k_2 t_207 dX5_mend_15 ?_
  refine lv_astore_n (lv' := [(2, .ref (ad (60 + h))), (0, .ref (ad 0)), (1, .int (nI h))]) hx hb dX5_mend_18 rfl hl (by decide) rfl (fun ls hl => ?_)
  refine lv_aload_n hx hb dX5_mend_19 rfl (lv_at hl 1 rfl) ?_
  refine q_getr hx hb hts hown hW (r := 0) (hI.c 0 (by decide)) rfl k_6 0 (by decide) rfl t_137 (a := ad 1) (hI.o0 0 (by decide)) dX5_mend_20 ?_
  refine lv_aload_n hx hb dX5_mend_23 rfl (lv_at hl 0 rfl) ?_
  refine q_get hx hb hts hown hW (r := (60 + h)) (hI.mh hh) (hI.kh hh) k_2 0 (by decide) rfl t_551 (x := (nI (ow h))) (hI.eO hh) dX5_mend_24 ?_
  refine q_cFrE (n := 1) (As := [.int (nI (ow h))]) (rest := []) (r := 1) hx hb hml hts hown hE h0 hW hS hE.2.2.1 (c_get l hI.lg (i := (ow h)) hgeo.1) t_191 t_189 t_187 t_49 (by decide) (by decide +kernel) (hI.c 1 (by decide)) rfl k_0 t_184 ⟨Nat.le_of_ble_eq_true rfl, Nat.le_of_ble_eq_true rfl⟩ rfl hl.1 (Nat.le_of_ble_eq_true rfl) dX5_mend_27 ⟨Nat.zero_le _, Nat.zero_le _⟩ ⟨rfl, rfl⟩ (fun H locs hW hS => ?_)
  refine q_castS hx hb hts hown hW (r := (50 + (ow h))) (hI.mg hgeo.1) (hI.kg hgeo.1) k_1 t_202 dX5_mend_32 ?_
  refine lv_astore_n (lv' := [(3, .ref (ad (50 + (ow h)))), (2, .ref (ad (60 + h))), (0, .ref (ad 0)), (1, .int (nI h))]) hx hb dX5_mend_35 rfl hl (by decide) rfl (fun ls hl => ?_)
  refine lv_aload_n hx hb dX5_mend_36 rfl (lv_at hl 2 rfl) ?_
  refine lv_aload_n hx hb dX5_mend_37 rfl (lv_at hl 1 rfl) ?_
  refine q_cViE (As := [.ref (ad (60 + h))]) (rest := []) (r := 0) hx hb hml hts hown hE h0 hW hS (c_X5_lostOfHouse l hI hh) mw_X5_lostOfHouse (hI.c 0 (by decide)) rfl k_6 t_244 ⟨Nat.le_of_ble_eq_true rfl, Nat.le_of_ble_eq_true rfl⟩ rfl hl.1 (Nat.le_of_ble_eq_true rfl) dX5_mend_38 ⟨Nat.zero_le _, Nat.zero_le _⟩ ⟨rfl, rfl⟩ (fun H locs hW hS => ?_)
  refine lv_istore (lv' := [(4, .int (hLost v gx gy gw gd h)), (3, .ref (ad (50 + (ow h)))), (2, .ref (ad (60 + h))), (0, .ref (ad 0)), (1, .int (nI h))]) hx hb dX5_mend_41 hl (by decide) rfl (fun ls hl => ?_)
  refine lv_aload_n hx hb dX5_mend_43 rfl (lv_at hl 1 rfl) ?_
  refine q_get hx hb hts hown hW (r := (50 + (ow h))) (hI.mg hgeo.1) (hI.kg hgeo.1) k_1 0 (by decide) rfl t_411 (x := (v (50 + (ow h)) 0)) rfl dX5_mend_44 ?_
  refine lv_iload hx hb dX5_mend_47 (lv_at hl 0 rfl) ?_
  refine lv_icmp_ge (tgt := 62) hx hb dX5_mend_49 (by decide) (fun c_49 => ?_) (fun c_49 => ?_)
  · skip
    exact absurd c_49 k1
  · skip
    exact q_throw hx hb hst9 hml hl.1 hts hown hE hnt hlocks (by decide) t_389 t_57 (is := 139) (text := "the grower does not have the coins") (by decide) xa_60 xg_60 hW hS dX5_mend_52 dX5_mend_55 dX5_mend_56 dX5_mend_58 dX5_mend_61 (Nat.le_of_ble_eq_true rfl) (Nat.le_of_ble_eq_true rfl) (by first | decide | omega | (dsimp only; omega)) (by first | decide | omega | (dsimp only; omega)) (by first | decide | omega | (dsimp only; omega)) (by first | decide | omega | (dsimp only; omega)) (fun _ h => h)

set_option maxHeartbeats 4000000 in
set_option maxRecDepth 100000 in
theorem x_X5_grower_1a (l : Launch) (hst9 : l.stackTraces = false) {G : GG} {L : List Nat} {ad : Nat → Nat} {v : Nat → Nat → Int32} {o : Nat → Nat → Option Nat} {w : Nat → Int64} {ng nh nl ns : Nat} {ow gx gy gw gd : Nat → Nat} (hI : PI G.2.2.2 L ad v o ng nh nl ns ow gx gy gw gd) {a b : Int32} (k1 : fIn a 0 (nI ng - 1) = 0) : CtXi l G L ad v o w yX5_grower cX5_grower 3 .int ({ frames := 7, cells := 1, slots := 6, locals := 103 }) [.ref (ad 0), .int a, .int b] "java/lang/IndexOutOfBoundsException" := by
  have hb6 := hI.g6; have hb12 := hI.h12; have hbl := hI.l6; have hbs := hI.s30
  refine vx_ofW (cc := cX5_grower) (maxL := 3) (ret := (some .int)) (by decide) rfl ?_
  intro p e s m args below meth c s₁ B hml hnt hv
  obtain ⟨rfl, hE, h0, hW⟩ := hv
  have hx := B.exec; have hb := B.bytes; have hts := hE.hts (args := ([.ref (ad 0), .int a, .int b] : List Value).toArray); have hown : s.vm.findClass RX5 = some m.cls := findClass_of_methodNamed B.named; have hlocks := B.notSynchronized
  have hl := lv_entry ([.ref (ad 0), .int a, .int b] : List Value) (n := 3) (Nat.le_of_ble_eq_true rfl)
  rw [lg_entry_eq]
  generalize (lg_sl ([.ref (ad 0), .int a, .int b] : List Value) ++ List.replicate (3 - (lg_sl ([.ref (ad 0), .int a, .int b] : List Value)).length) Slot.unset).toArray = ls at hl ⊢
  generalize hH : s.heap = H at hW ⊢
  have hS : va_S (Ab G.2.2.1) s.heap H [] := hH ▸ va_S.rf
  obtain ⟨locs, hlc⟩ : ∃ z : List Loc, z = [] := ⟨_, rfl⟩
  rw [← hlc] at hS ⊢
  have hl : lv_has ls 3 [(0, .ref (ad 0)), (1, .int a), (2, .int b)] := hl
  refine lv_aload_n hx hb dX5_grower_0 rfl (lv_at hl 0 rfl) ?_
  refine lv_iload_n hx hb dX5_grower_1 rfl (lv_at hl 1 rfl) ?_
  exact q_xV (As := [.int a]) (rest := []) (r := 0) hx hb hml hts hown hE h0 hW hS hnt hlocks (x_X5_checkGrower l hst9 hI k1) mw_X5_checkGrower (hI.c 0 (by decide)) rfl k_6 t_510 ⟨Nat.le_of_ble_eq_true rfl, Nat.le_of_ble_eq_true rfl⟩ rfl hl.1 (Nat.le_of_ble_eq_true rfl) dX5_grower_2 ⟨(by first | decide | omega | (dsimp only; omega)), (by first | decide | omega | (dsimp only; omega))⟩ (by first | decide | omega | (dsimp only; omega)) (by first | decide | omega | (dsimp only; omega)) (fun _ h => h)

set_option maxHeartbeats 4000000 in
set_option maxRecDepth 100000 in
theorem x_X5_grower_1b (l : Launch) (hst9 : l.stackTraces = false) {G : GG} {L : List Nat} {ad : Nat → Nat} {v : Nat → Nat → Int32} {o : Nat → Nat → Option Nat} {w : Nat → Int64} {ng nh nl ns : Nat} {ow gx gy gw gd : Nat → Nat} (hI : PI G.2.2.2 L ad v o ng nh nl ns ow gx gy gw gd) {g : Nat} (hg : g < ng) {b : Int32} (k1 : fIn b 0 9 = 0) : CtXi l G L ad v o w yX5_grower cX5_grower 3 .int ({ frames := 7, cells := 1, slots := 6, locals := 103 }) [.ref (ad 0), .int (nI g), .int b] "java/lang/IndexOutOfBoundsException" := by
  have hb6 := hI.g6; have hb12 := hI.h12; have hbl := hI.l6; have hbs := hI.s30
  refine vx_ofW (cc := cX5_grower) (maxL := 3) (ret := (some .int)) (by decide) rfl ?_
  intro p e s m args below meth c s₁ B hml hnt hv
  obtain ⟨rfl, hE, h0, hW⟩ := hv
  have hx := B.exec; have hb := B.bytes; have hts := hE.hts (args := ([.ref (ad 0), .int (nI g), .int b] : List Value).toArray); have hown : s.vm.findClass RX5 = some m.cls := findClass_of_methodNamed B.named; have hlocks := B.notSynchronized
  have hl := lv_entry ([.ref (ad 0), .int (nI g), .int b] : List Value) (n := 3) (Nat.le_of_ble_eq_true rfl)
  rw [lg_entry_eq]
  generalize (lg_sl ([.ref (ad 0), .int (nI g), .int b] : List Value) ++ List.replicate (3 - (lg_sl ([.ref (ad 0), .int (nI g), .int b] : List Value)).length) Slot.unset).toArray = ls at hl ⊢
  generalize hH : s.heap = H at hW ⊢
  have hS : va_S (Ab G.2.2.1) s.heap H [] := hH ▸ va_S.rf
  obtain ⟨locs, hlc⟩ : ∃ z : List Loc, z = [] := ⟨_, rfl⟩
  rw [← hlc] at hS ⊢
  have hl : lv_has ls 3 [(0, .ref (ad 0)), (1, .int (nI g)), (2, .int b)] := hl
  refine lv_aload_n hx hb dX5_grower_0 rfl (lv_at hl 0 rfl) ?_
  refine lv_iload_n hx hb dX5_grower_1 rfl (lv_at hl 1 rfl) ?_
  refine q_cVvE (As := [.int (nI g)]) (rest := []) (r := 0) hx hb hml hts hown hE h0 hW hS (c_X5_checkGrower l hI hg) mw_X5_checkGrower (hI.c 0 (by decide)) rfl k_6 t_510 ⟨Nat.le_of_ble_eq_true rfl, Nat.le_of_ble_eq_true rfl⟩ rfl hl.1 (Nat.le_of_ble_eq_true rfl) dX5_grower_2 ⟨Nat.zero_le _, Nat.zero_le _⟩ ⟨rfl, rfl⟩ (fun H locs hW hS => ?_)
  refine lv_iload_n hx hb dX5_grower_5 rfl (lv_at hl 2 rfl) ?_
  refine lv_bipush (v := 10) hx hb dX5_grower_6 (by decide) ?_
  exact q_xS (As := [.int b, .int 10]) (rest := []) hx hb hml hts hown hE h0 hW hS hnt hlocks (x_X5_checkWhat l hst9 (n := 10) k1) mw_X5_checkWhat t_626 ⟨Nat.le_of_ble_eq_true rfl, Nat.le_of_ble_eq_true rfl⟩ rfl hl.1 (Nat.le_of_ble_eq_true rfl) dX5_grower_8 ⟨(by first | decide | omega | (dsimp only; omega)), (by first | decide | omega | (dsimp only; omega))⟩ (by first | decide | omega | (dsimp only; omega)) (by first | decide | omega | (dsimp only; omega)) (fun _ h => h)

set_option maxHeartbeats 4000000 in
set_option maxRecDepth 100000 in
theorem x_X5_house_1a (l : Launch) (hst9 : l.stackTraces = false) {G : GG} {L : List Nat} {ad : Nat → Nat} {v : Nat → Nat → Int32} {o : Nat → Nat → Option Nat} {w : Nat → Int64} {ng nh nl ns : Nat} {ow gx gy gw gd : Nat → Nat} (hI : PI G.2.2.2 L ad v o ng nh nl ns ow gx gy gw gd) {a b : Int32} (k1 : fIn a 0 (nI nh - 1) = 0) : CtXi l G L ad v o w yX5_house cX5_house 3 .int ({ frames := 7, cells := 1, slots := 6, locals := 103 }) [.ref (ad 0), .int a, .int b] "java/lang/IndexOutOfBoundsException" := by
  have hb6 := hI.g6; have hb12 := hI.h12; have hbl := hI.l6; have hbs := hI.s30
  refine vx_ofW (cc := cX5_house) (maxL := 3) (ret := (some .int)) (by decide) rfl ?_
  intro p e s m args below meth c s₁ B hml hnt hv
  obtain ⟨rfl, hE, h0, hW⟩ := hv
  have hx := B.exec; have hb := B.bytes; have hts := hE.hts (args := ([.ref (ad 0), .int a, .int b] : List Value).toArray); have hown : s.vm.findClass RX5 = some m.cls := findClass_of_methodNamed B.named; have hlocks := B.notSynchronized
  have hl := lv_entry ([.ref (ad 0), .int a, .int b] : List Value) (n := 3) (Nat.le_of_ble_eq_true rfl)
  rw [lg_entry_eq]
  generalize (lg_sl ([.ref (ad 0), .int a, .int b] : List Value) ++ List.replicate (3 - (lg_sl ([.ref (ad 0), .int a, .int b] : List Value)).length) Slot.unset).toArray = ls at hl ⊢
  generalize hH : s.heap = H at hW ⊢
  have hS : va_S (Ab G.2.2.1) s.heap H [] := hH ▸ va_S.rf
  obtain ⟨locs, hlc⟩ : ∃ z : List Loc, z = [] := ⟨_, rfl⟩
  rw [← hlc] at hS ⊢
  have hl : lv_has ls 3 [(0, .ref (ad 0)), (1, .int a), (2, .int b)] := hl
  refine lv_aload_n hx hb dX5_house_0 rfl (lv_at hl 0 rfl) ?_
  refine lv_iload_n hx hb dX5_house_1 rfl (lv_at hl 1 rfl) ?_
  exact q_xV (As := [.int a]) (rest := []) (r := 0) hx hb hml hts hown hE h0 hW hS hnt hlocks (x_X5_checkHouse l hst9 hI k1) mw_X5_checkHouse (hI.c 0 (by decide)) rfl k_6 t_595 ⟨Nat.le_of_ble_eq_true rfl, Nat.le_of_ble_eq_true rfl⟩ rfl hl.1 (Nat.le_of_ble_eq_true rfl) dX5_house_2 ⟨(by first | decide | omega | (dsimp only; omega)), (by first | decide | omega | (dsimp only; omega))⟩ (by first | decide | omega | (dsimp only; omega)) (by first | decide | omega | (dsimp only; omega)) (fun _ h => h)

set_option maxHeartbeats 4000000 in
set_option maxRecDepth 100000 in
theorem x_X5_house_1b (l : Launch) (hst9 : l.stackTraces = false) {G : GG} {L : List Nat} {ad : Nat → Nat} {v : Nat → Nat → Int32} {o : Nat → Nat → Option Nat} {w : Nat → Int64} {ng nh nl ns : Nat} {ow gx gy gw gd : Nat → Nat} (hI : PI G.2.2.2 L ad v o ng nh nl ns ow gx gy gw gd) {h : Nat} (hh : h < nh) {b : Int32} (k1 : fIn b 0 10 = 0) : CtXi l G L ad v o w yX5_house cX5_house 3 .int ({ frames := 7, cells := 1, slots := 6, locals := 103 }) [.ref (ad 0), .int (nI h), .int b] "java/lang/IndexOutOfBoundsException" := by
  have hb6 := hI.g6; have hb12 := hI.h12; have hbl := hI.l6; have hbs := hI.s30
  refine vx_ofW (cc := cX5_house) (maxL := 3) (ret := (some .int)) (by decide) rfl ?_
  intro p e s m args below meth c s₁ B hml hnt hv
  obtain ⟨rfl, hE, h0, hW⟩ := hv
  have hx := B.exec; have hb := B.bytes; have hts := hE.hts (args := ([.ref (ad 0), .int (nI h), .int b] : List Value).toArray); have hown : s.vm.findClass RX5 = some m.cls := findClass_of_methodNamed B.named; have hlocks := B.notSynchronized
  have hl := lv_entry ([.ref (ad 0), .int (nI h), .int b] : List Value) (n := 3) (Nat.le_of_ble_eq_true rfl)
  rw [lg_entry_eq]
  generalize (lg_sl ([.ref (ad 0), .int (nI h), .int b] : List Value) ++ List.replicate (3 - (lg_sl ([.ref (ad 0), .int (nI h), .int b] : List Value)).length) Slot.unset).toArray = ls at hl ⊢
  generalize hH : s.heap = H at hW ⊢
  have hS : va_S (Ab G.2.2.1) s.heap H [] := hH ▸ va_S.rf
  obtain ⟨locs, hlc⟩ : ∃ z : List Loc, z = [] := ⟨_, rfl⟩
  rw [← hlc] at hS ⊢
  have hl : lv_has ls 3 [(0, .ref (ad 0)), (1, .int (nI h)), (2, .int b)] := hl
  refine lv_aload_n hx hb dX5_house_0 rfl (lv_at hl 0 rfl) ?_
  refine lv_iload_n hx hb dX5_house_1 rfl (lv_at hl 1 rfl) ?_
  refine q_cVvE (As := [.int (nI h)]) (rest := []) (r := 0) hx hb hml hts hown hE h0 hW hS (c_X5_checkHouse l hI hh) mw_X5_checkHouse (hI.c 0 (by decide)) rfl k_6 t_595 ⟨Nat.le_of_ble_eq_true rfl, Nat.le_of_ble_eq_true rfl⟩ rfl hl.1 (Nat.le_of_ble_eq_true rfl) dX5_house_2 ⟨Nat.zero_le _, Nat.zero_le _⟩ ⟨rfl, rfl⟩ (fun H locs hW hS => ?_)
  refine lv_iload_n hx hb dX5_house_5 rfl (lv_at hl 2 rfl) ?_
  refine lv_bipush (v := 11) hx hb dX5_house_6 (by decide) ?_
  exact q_xS (As := [.int b, .int 11]) (rest := []) hx hb hml hts hown hE h0 hW hS hnt hlocks (x_X5_checkWhat l hst9 (n := 11) k1) mw_X5_checkWhat t_626 ⟨Nat.le_of_ble_eq_true rfl, Nat.le_of_ble_eq_true rfl⟩ rfl hl.1 (Nat.le_of_ble_eq_true rfl) dX5_house_8 ⟨(by first | decide | omega | (dsimp only; omega)), (by first | decide | omega | (dsimp only; omega))⟩ (by first | decide | omega | (dsimp only; omega)) (by first | decide | omega | (dsimp only; omega)) (fun _ h => h)

set_option maxHeartbeats 4000000 in
set_option maxRecDepth 100000 in
theorem x_X5_pane_1a (l : Launch) (hst9 : l.stackTraces = false) {G : GG} {L : List Nat} {ad : Nat → Nat} {v : Nat → Nat → Int32} {o : Nat → Nat → Option Nat} {w : Nat → Int64} {ng nh nl ns : Nat} {ow gx gy gw gd : Nat → Nat} (hI : PI G.2.2.2 L ad v o ng nh nl ns ow gx gy gw gd) {a b : Int32} (k1 : fIn a 0 19 = 0) : CtXi l G L ad v o w yX5_pane cX5_pane 3 .int ({ frames := 6, cells := 1, slots := 6, locals := 82 }) [.ref (ad 0), .int a, .int b] "java/lang/IndexOutOfBoundsException" := by
  have hb6 := hI.g6; have hb12 := hI.h12; have hbl := hI.l6; have hbs := hI.s30
  refine vx_ofW (cc := cX5_pane) (maxL := 3) (ret := (some .int)) (by decide) rfl ?_
  intro p e s m args below meth c s₁ B hml hnt hv
  obtain ⟨rfl, hE, h0, hW⟩ := hv
  have hx := B.exec; have hb := B.bytes; have hts := hE.hts (args := ([.ref (ad 0), .int a, .int b] : List Value).toArray); have hown : s.vm.findClass RX5 = some m.cls := findClass_of_methodNamed B.named; have hlocks := B.notSynchronized
  have hl := lv_entry ([.ref (ad 0), .int a, .int b] : List Value) (n := 3) (Nat.le_of_ble_eq_true rfl)
  rw [lg_entry_eq]
  generalize (lg_sl ([.ref (ad 0), .int a, .int b] : List Value) ++ List.replicate (3 - (lg_sl ([.ref (ad 0), .int a, .int b] : List Value)).length) Slot.unset).toArray = ls at hl ⊢
  generalize hH : s.heap = H at hW ⊢
  have hS : va_S (Ab G.2.2.1) s.heap H [] := hH ▸ va_S.rf
  obtain ⟨locs, hlc⟩ : ∃ z : List Loc, z = [] := ⟨_, rfl⟩
  rw [← hlc] at hS ⊢
  have hl : lv_has ls 3 [(0, .ref (ad 0)), (1, .int a), (2, .int b)] := hl
  refine lv_iload_n hx hb dX5_pane_0 rfl (lv_at hl 1 rfl) ?_
  refine lv_iconst (v := 0) hx hb dX5_pane_1 (by decide) ?_
  refine lv_bipush (v := 19) hx hb dX5_pane_2 (by decide) ?_
  refine q_cSiE (As := [.int a, .int 0, .int 19]) (rest := []) hx hb hml hts hown hE h0 hW hS (c_X5_isIn l a 0 19) mw_X5_isIn t_318 ⟨Nat.le_of_ble_eq_true rfl, Nat.le_of_ble_eq_true rfl⟩ rfl hl.1 (Nat.le_of_ble_eq_true rfl) dX5_pane_4 ⟨Nat.zero_le _, Nat.zero_le _⟩ ⟨rfl, rfl⟩ (fun H locs hW hS => ?_)
  refine lv_if_eq (tgt := 20) hx hb dX5_pane_7 (by decide) (fun c_7 => ?_) (fun c_7 => ?_)
  · skip
    exact q_throw hx hb hst9 hml hl.1 hts hown hE hnt hlocks (by decide) t_514 t_63 (is := 155) (text := "x or y is not 0 to 19") (by decide) xa_157 xg_157 hW hS dX5_pane_20 dX5_pane_23 dX5_pane_24 dX5_pane_26 dX5_pane_29 (Nat.le_of_ble_eq_true rfl) (Nat.le_of_ble_eq_true rfl) (by first | decide | omega | (dsimp only; omega)) (by first | decide | omega | (dsimp only; omega)) (by first | decide | omega | (dsimp only; omega)) (by first | decide | omega | (dsimp only; omega)) (fun _ h => h)
  · skip
    exact absurd k1 c_7

set_option maxHeartbeats 4000000 in
set_option maxRecDepth 100000 in
theorem x_X5_pane_1b (l : Launch) (hst9 : l.stackTraces = false) {G : GG} {L : List Nat} {ad : Nat → Nat} {v : Nat → Nat → Int32} {o : Nat → Nat → Option Nat} {w : Nat → Int64} {ng nh nl ns : Nat} {ow gx gy gw gd : Nat → Nat} (hI : PI G.2.2.2 L ad v o ng nh nl ns ow gx gy gw gd) {a b : Int32} (k1 : fIn a 0 19 = 1) (k2 : fIn b 0 19 = 0) : CtXi l G L ad v o w yX5_pane cX5_pane 3 .int ({ frames := 6, cells := 1, slots := 6, locals := 82 }) [.ref (ad 0), .int a, .int b] "java/lang/IndexOutOfBoundsException" := by
  have hb6 := hI.g6; have hb12 := hI.h12; have hbl := hI.l6; have hbs := hI.s30
  refine vx_ofW (cc := cX5_pane) (maxL := 3) (ret := (some .int)) (by decide) rfl ?_
  intro p e s m args below meth c s₁ B hml hnt hv
  obtain ⟨rfl, hE, h0, hW⟩ := hv
  have hx := B.exec; have hb := B.bytes; have hts := hE.hts (args := ([.ref (ad 0), .int a, .int b] : List Value).toArray); have hown : s.vm.findClass RX5 = some m.cls := findClass_of_methodNamed B.named; have hlocks := B.notSynchronized
  have hl := lv_entry ([.ref (ad 0), .int a, .int b] : List Value) (n := 3) (Nat.le_of_ble_eq_true rfl)
  rw [lg_entry_eq]
  generalize (lg_sl ([.ref (ad 0), .int a, .int b] : List Value) ++ List.replicate (3 - (lg_sl ([.ref (ad 0), .int a, .int b] : List Value)).length) Slot.unset).toArray = ls at hl ⊢
  generalize hH : s.heap = H at hW ⊢
  have hS : va_S (Ab G.2.2.1) s.heap H [] := hH ▸ va_S.rf
  obtain ⟨locs, hlc⟩ : ∃ z : List Loc, z = [] := ⟨_, rfl⟩
  rw [← hlc] at hS ⊢
  have hl : lv_has ls 3 [(0, .ref (ad 0)), (1, .int a), (2, .int b)] := hl
  refine lv_iload_n hx hb dX5_pane_0 rfl (lv_at hl 1 rfl) ?_
  refine lv_iconst (v := 0) hx hb dX5_pane_1 (by decide) ?_
  refine lv_bipush (v := 19) hx hb dX5_pane_2 (by decide) ?_
  refine q_cSiE (As := [.int a, .int 0, .int 19]) (rest := []) hx hb hml hts hown hE h0 hW hS (c_X5_isIn l a 0 19) mw_X5_isIn t_318 ⟨Nat.le_of_ble_eq_true rfl, Nat.le_of_ble_eq_true rfl⟩ rfl hl.1 (Nat.le_of_ble_eq_true rfl) dX5_pane_4 ⟨Nat.zero_le _, Nat.zero_le _⟩ ⟨rfl, rfl⟩ (fun H locs hW hS => ?_)
  refine lv_if_eq (tgt := 20) hx hb dX5_pane_7 (by decide) (fun c_7 => ?_) (fun c_7 => ?_)
  · skip
    exact absurd (k1.symm.trans c_7) (by decide)
  · skip
    refine lv_iload_n hx hb dX5_pane_10 rfl (lv_at hl 2 rfl) ?_
    refine lv_iconst (v := 0) hx hb dX5_pane_11 (by decide) ?_
    refine lv_bipush (v := 19) hx hb dX5_pane_12 (by decide) ?_
    refine q_cSiE (As := [.int b, .int 0, .int 19]) (rest := []) hx hb hml hts hown hE h0 hW hS (c_X5_isIn l b 0 19) mw_X5_isIn t_318 ⟨Nat.le_of_ble_eq_true rfl, Nat.le_of_ble_eq_true rfl⟩ rfl hl.1 (Nat.le_of_ble_eq_true rfl) dX5_pane_14 ⟨Nat.zero_le _, Nat.zero_le _⟩ ⟨rfl, rfl⟩ (fun H locs hW hS => ?_)
    refine lv_if_ne (tgt := 30) hx hb dX5_pane_17 (by decide) (fun c_17 => ?_) (fun c_17 => ?_)
    · skip
      exact absurd k2 c_17
    · skip
      exact q_throw hx hb hst9 hml hl.1 hts hown hE hnt hlocks (by decide) t_514 t_63 (is := 155) (text := "x or y is not 0 to 19") (by decide) xa_157 xg_157 hW hS dX5_pane_20 dX5_pane_23 dX5_pane_24 dX5_pane_26 dX5_pane_29 (Nat.le_of_ble_eq_true rfl) (Nat.le_of_ble_eq_true rfl) (by first | decide | omega | (dsimp only; omega)) (by first | decide | omega | (dsimp only; omega)) (by first | decide | omega | (dsimp only; omega)) (by first | decide | omega | (dsimp only; omega)) (fun _ h => h)

set_option maxHeartbeats 4000000 in
set_option maxRecDepth 100000 in
theorem x_X5_fund_1 (l : Launch) (hst9 : l.stackTraces = false) {G : GG} {L : List Nat} {ad : Nat → Nat} {v : Nat → Nat → Int32} {o : Nat → Nat → Option Nat} {w : Nat → Int64} {ng nh nl ns : Nat} {ow gx gy gw gd : Nat → Nat} (hI : PI G.2.2.2 L ad v o ng nh nl ns ow gx gy gw gd) {cn : Int32} (k1 : fIn cn 1 1000000 = 0) : CtXi l G L ad v o w yX5_fund cX5_fund 2 .int ({ frames := 6, cells := 1, slots := 6, locals := 82 }) [.ref (ad 0), .int cn] "java/lang/IllegalArgumentException" := by
  have hb6 := hI.g6; have hb12 := hI.h12; have hbl := hI.l6; have hbs := hI.s30
  refine vx_ofW (cc := cX5_fund) (maxL := 2) (ret := (some .int)) (by decide) rfl ?_
  intro p e s m args below meth c s₁ B hml hnt hv
  obtain ⟨rfl, hE, h0, hW⟩ := hv
  have hx := B.exec; have hb := B.bytes; have hts := hE.hts (args := ([.ref (ad 0), .int cn] : List Value).toArray); have hown : s.vm.findClass RX5 = some m.cls := findClass_of_methodNamed B.named; have hlocks := B.notSynchronized
  have hl := lv_entry ([.ref (ad 0), .int cn] : List Value) (n := 2) (Nat.le_of_ble_eq_true rfl)
  rw [lg_entry_eq]
  generalize (lg_sl ([.ref (ad 0), .int cn] : List Value) ++ List.replicate (2 - (lg_sl ([.ref (ad 0), .int cn] : List Value)).length) Slot.unset).toArray = ls at hl ⊢
  generalize hH : s.heap = H at hW ⊢
  have hS : va_S (Ab G.2.2.1) s.heap H [] := hH ▸ va_S.rf
  obtain ⟨locs, hlc⟩ : ∃ z : List Loc, z = [] := ⟨_, rfl⟩
  rw [← hlc] at hS ⊢
  have hl : lv_has ls 2 [(0, .ref (ad 0)), (1, .int cn)] := hl
  refine lv_iload_n hx hb dX5_fund_0 rfl (lv_at hl 1 rfl) ?_
  refine lv_iconst (v := 1) hx hb dX5_fund_1 (by decide) ?_
  refine lv_ldc (v := 1000000) hx hb hown (hts _ t_317) dX5_fund_2 ?_
  refine q_cSiE (As := [.int cn, .int 1, .int 1000000]) (rest := []) hx hb hml hts hown hE h0 hW hS (c_X5_isIn l cn 1 1000000) mw_X5_isIn t_318 ⟨Nat.le_of_ble_eq_true rfl, Nat.le_of_ble_eq_true rfl⟩ rfl hl.1 (Nat.le_of_ble_eq_true rfl) dX5_fund_4 ⟨Nat.zero_le _, Nat.zero_le _⟩ ⟨rfl, rfl⟩ (fun H locs hW hS => ?_)
  refine lv_if_ne (tgt := 20) hx hb dX5_fund_7 (by decide) (fun c_7 => ?_) (fun c_7 => ?_)
  · skip
    exact absurd k1 c_7
  · skip
    exact q_throw hx hb hst9 hml hl.1 hts hown hE hnt hlocks (by decide) t_321 t_56 (is := 161) (text := "coins is not 1 to 1000000") (by decide) xa_47 xg_47 hW hS dX5_fund_10 dX5_fund_13 dX5_fund_14 dX5_fund_16 dX5_fund_19 (Nat.le_of_ble_eq_true rfl) (Nat.le_of_ble_eq_true rfl) (by first | decide | omega | (dsimp only; omega)) (by first | decide | omega | (dsimp only; omega)) (by first | decide | omega | (dsimp only; omega)) (by first | decide | omega | (dsimp only; omega)) (fun _ h => h)

set_option maxHeartbeats 4000000 in
set_option maxRecDepth 100000 in
theorem x_X5_fund_2 (l : Launch) (hst9 : l.stackTraces = false) {G : GG} {L : List Nat} {ad : Nat → Nat} {v : Nat → Nat → Int32} {o : Nat → Nat → Option Nat} {w : Nat → Int64} {ng nh nl ns : Nat} {ow gx gy gw gd : Nat → Nat} (hI : PI G.2.2.2 L ad v o ng nh nl ns ow gx gy gw gd) {cn : Int32} (k1 : fIn cn 1 1000000 = 1) (k2 : ¬ v 0 6 ≤ 100000000 - cn) : CtXi l G L ad v o w yX5_fund cX5_fund 2 .int ({ frames := 6, cells := 1, slots := 6, locals := 82 }) [.ref (ad 0), .int cn] "java/lang/IllegalStateException" := by
  have hb6 := hI.g6; have hb12 := hI.h12; have hbl := hI.l6; have hbs := hI.s30
  refine vx_ofW (cc := cX5_fund) (maxL := 2) (ret := (some .int)) (by decide) rfl ?_
  intro p e s m args below meth c s₁ B hml hnt hv
  obtain ⟨rfl, hE, h0, hW⟩ := hv
  have hx := B.exec; have hb := B.bytes; have hts := hE.hts (args := ([.ref (ad 0), .int cn] : List Value).toArray); have hown : s.vm.findClass RX5 = some m.cls := findClass_of_methodNamed B.named; have hlocks := B.notSynchronized
  have hl := lv_entry ([.ref (ad 0), .int cn] : List Value) (n := 2) (Nat.le_of_ble_eq_true rfl)
  rw [lg_entry_eq]
  generalize (lg_sl ([.ref (ad 0), .int cn] : List Value) ++ List.replicate (2 - (lg_sl ([.ref (ad 0), .int cn] : List Value)).length) Slot.unset).toArray = ls at hl ⊢
  generalize hH : s.heap = H at hW ⊢
  have hS : va_S (Ab G.2.2.1) s.heap H [] := hH ▸ va_S.rf
  obtain ⟨locs, hlc⟩ : ∃ z : List Loc, z = [] := ⟨_, rfl⟩
  rw [← hlc] at hS ⊢
  have hl : lv_has ls 2 [(0, .ref (ad 0)), (1, .int cn)] := hl
  refine lv_iload_n hx hb dX5_fund_0 rfl (lv_at hl 1 rfl) ?_
  refine lv_iconst (v := 1) hx hb dX5_fund_1 (by decide) ?_
  refine lv_ldc (v := 1000000) hx hb hown (hts _ t_317) dX5_fund_2 ?_
  refine q_cSiE (As := [.int cn, .int 1, .int 1000000]) (rest := []) hx hb hml hts hown hE h0 hW hS (c_X5_isIn l cn 1 1000000) mw_X5_isIn t_318 ⟨Nat.le_of_ble_eq_true rfl, Nat.le_of_ble_eq_true rfl⟩ rfl hl.1 (Nat.le_of_ble_eq_true rfl) dX5_fund_4 ⟨Nat.zero_le _, Nat.zero_le _⟩ ⟨rfl, rfl⟩ (fun H locs hW hS => ?_)
  refine lv_if_ne (tgt := 20) hx hb dX5_fund_7 (by decide) (fun c_7 => ?_) (fun c_7 => ?_)
  · skip
    refine lv_aload_n hx hb dX5_fund_20 rfl (lv_at hl 0 rfl) ?_
    refine q_get hx hb hts hown hW (r := 0) (hI.c 0 (by decide)) rfl k_6 6 (by decide) rfl t_143 (x := (v 0 6)) rfl dX5_fund_21 ?_
    refine lv_ldc (v := 100000000) hx hb hown (hts _ t_653) dX5_fund_24 ?_
    refine lv_iload_n hx hb dX5_fund_26 rfl (lv_at hl 1 rfl) ?_
    refine lv_isub hx hb dX5_fund_27 ?_
    refine lv_icmp_le (tgt := 41) hx hb dX5_fund_28 (by decide) (fun c_28 => ?_) (fun c_28 => ?_)
    · skip
      exact absurd c_28 k2
    · skip
      exact q_throw hx hb hst9 hml hl.1 hts hown hE hnt hlocks (by decide) t_389 t_57 (is := 167) (text := "the pool would have more than 100000000") (by decide) xa_60 xg_60 hW hS dX5_fund_31 dX5_fund_34 dX5_fund_35 dX5_fund_37 dX5_fund_40 (Nat.le_of_ble_eq_true rfl) (Nat.le_of_ble_eq_true rfl) (by first | decide | omega | (dsimp only; omega)) (by first | decide | omega | (dsimp only; omega)) (by first | decide | omega | (dsimp only; omega)) (by first | decide | omega | (dsimp only; omega)) (fun _ h => h)
  · skip
    exact absurd (k1.symm.trans c_7) (by decide)

set_option maxHeartbeats 4000000 in
set_option maxRecDepth 100000 in
theorem x_X5_addLayer_1a (l : Launch) (hst9 : l.stackTraces = false) {G : GG} {L : List Nat} {ad : Nat → Nat} {v : Nat → Nat → Int32} {o : Nat → Nat → Option Nat} {w : Nat → Int64} {ng nh nl ns : Nat} {ow gx gy gw gd : Nat → Nat} (hI : PI G.2.2.2 L ad v o ng nh nl ns ow gx gy gw gd) {a b c0 : Int32} (k1 : fIn a 0 100000 = 0) : CtXi l G L ad v o w yX5_addLayer cX5_addLayer 4 .int ({ frames := 6, cells := 1, slots := 6, locals := 82 }) [.ref (ad 0), .int a, .int b, .int c0] "java/lang/IllegalArgumentException" := by
  have hb6 := hI.g6; have hb12 := hI.h12; have hbl := hI.l6; have hbs := hI.s30
  refine vx_ofW (cc := cX5_addLayer) (maxL := 4) (ret := (some .int)) (by decide) rfl ?_
  intro p e s m args below meth c s₁ B hml hnt hv
  obtain ⟨rfl, hE, h0, hW⟩ := hv
  have hx := B.exec; have hb := B.bytes; have hts := hE.hts (args := ([.ref (ad 0), .int a, .int b, .int c0] : List Value).toArray); have hown : s.vm.findClass RX5 = some m.cls := findClass_of_methodNamed B.named; have hlocks := B.notSynchronized
  have hl := lv_entry ([.ref (ad 0), .int a, .int b, .int c0] : List Value) (n := 4) (Nat.le_of_ble_eq_true rfl)
  rw [lg_entry_eq]
  generalize (lg_sl ([.ref (ad 0), .int a, .int b, .int c0] : List Value) ++ List.replicate (4 - (lg_sl ([.ref (ad 0), .int a, .int b, .int c0] : List Value)).length) Slot.unset).toArray = ls at hl ⊢
  generalize hH : s.heap = H at hW ⊢
  have hS : va_S (Ab G.2.2.1) s.heap H [] := hH ▸ va_S.rf
  obtain ⟨locs, hlc⟩ : ∃ z : List Loc, z = [] := ⟨_, rfl⟩
  rw [← hlc] at hS ⊢
  have hl : lv_has ls 4 [(0, .ref (ad 0)), (1, .int a), (2, .int b), (3, .int c0)] := hl
  refine lv_iload_n hx hb dX5_addLayer_0 rfl (lv_at hl 1 rfl) ?_
  refine lv_iconst (v := 0) hx hb dX5_addLayer_1 (by decide) ?_
  refine lv_ldc (v := 100000) hx hb hown (hts _ t_608) dX5_addLayer_2 ?_
  refine q_cSiE (As := [.int a, .int 0, .int 100000]) (rest := []) hx hb hml hts hown hE h0 hW hS (c_X5_isIn l a 0 100000) mw_X5_isIn t_318 ⟨Nat.le_of_ble_eq_true rfl, Nat.le_of_ble_eq_true rfl⟩ rfl hl.1 (Nat.le_of_ble_eq_true rfl) dX5_addLayer_4 ⟨Nat.zero_le _, Nat.zero_le _⟩ ⟨rfl, rfl⟩ (fun H locs hW hS => ?_)
  refine lv_if_ne (tgt := 20) hx hb dX5_addLayer_7 (by decide) (fun c_7 => ?_) (fun c_7 => ?_)
  · skip
    exact absurd k1 c_7
  · skip
    exact q_throw hx hb hst9 hml hl.1 hts hown hE hnt hlocks (by decide) t_321 t_56 (is := 169) (text := "attachment is not 0 to 100000") (by decide) xa_47 xg_47 hW hS dX5_addLayer_10 dX5_addLayer_13 dX5_addLayer_14 dX5_addLayer_16 dX5_addLayer_19 (Nat.le_of_ble_eq_true rfl) (Nat.le_of_ble_eq_true rfl) (by first | decide | omega | (dsimp only; omega)) (by first | decide | omega | (dsimp only; omega)) (by first | decide | omega | (dsimp only; omega)) (by first | decide | omega | (dsimp only; omega)) (fun _ h => h)

set_option maxHeartbeats 4000000 in
set_option maxRecDepth 100000 in
theorem x_X5_addLayer_1b (l : Launch) (hst9 : l.stackTraces = false) {G : GG} {L : List Nat} {ad : Nat → Nat} {v : Nat → Nat → Int32} {o : Nat → Nat → Option Nat} {w : Nat → Int64} {ng nh nl ns : Nat} {ow gx gy gw gd : Nat → Nat} (hI : PI G.2.2.2 L ad v o ng nh nl ns ow gx gy gw gd) {a b c0 : Int32} (k1 : fIn a 0 100000 = 1) (k2 : fIn b 1 100000 = 0) : CtXi l G L ad v o w yX5_addLayer cX5_addLayer 4 .int ({ frames := 6, cells := 1, slots := 6, locals := 82 }) [.ref (ad 0), .int a, .int b, .int c0] "java/lang/IllegalArgumentException" := by
  have hb6 := hI.g6; have hb12 := hI.h12; have hbl := hI.l6; have hbs := hI.s30
  refine vx_ofW (cc := cX5_addLayer) (maxL := 4) (ret := (some .int)) (by decide) rfl ?_
  intro p e s m args below meth c s₁ B hml hnt hv
  obtain ⟨rfl, hE, h0, hW⟩ := hv
  have hx := B.exec; have hb := B.bytes; have hts := hE.hts (args := ([.ref (ad 0), .int a, .int b, .int c0] : List Value).toArray); have hown : s.vm.findClass RX5 = some m.cls := findClass_of_methodNamed B.named; have hlocks := B.notSynchronized
  have hl := lv_entry ([.ref (ad 0), .int a, .int b, .int c0] : List Value) (n := 4) (Nat.le_of_ble_eq_true rfl)
  rw [lg_entry_eq]
  generalize (lg_sl ([.ref (ad 0), .int a, .int b, .int c0] : List Value) ++ List.replicate (4 - (lg_sl ([.ref (ad 0), .int a, .int b, .int c0] : List Value)).length) Slot.unset).toArray = ls at hl ⊢
  generalize hH : s.heap = H at hW ⊢
  have hS : va_S (Ab G.2.2.1) s.heap H [] := hH ▸ va_S.rf
  obtain ⟨locs, hlc⟩ : ∃ z : List Loc, z = [] := ⟨_, rfl⟩
  rw [← hlc] at hS ⊢
  have hl : lv_has ls 4 [(0, .ref (ad 0)), (1, .int a), (2, .int b), (3, .int c0)] := hl
  refine lv_iload_n hx hb dX5_addLayer_0 rfl (lv_at hl 1 rfl) ?_
  refine lv_iconst (v := 0) hx hb dX5_addLayer_1 (by decide) ?_
  refine lv_ldc (v := 100000) hx hb hown (hts _ t_608) dX5_addLayer_2 ?_
  refine q_cSiE (As := [.int a, .int 0, .int 100000]) (rest := []) hx hb hml hts hown hE h0 hW hS (c_X5_isIn l a 0 100000) mw_X5_isIn t_318 ⟨Nat.le_of_ble_eq_true rfl, Nat.le_of_ble_eq_true rfl⟩ rfl hl.1 (Nat.le_of_ble_eq_true rfl) dX5_addLayer_4 ⟨Nat.zero_le _, Nat.zero_le _⟩ ⟨rfl, rfl⟩ (fun H locs hW hS => ?_)
  refine lv_if_ne (tgt := 20) hx hb dX5_addLayer_7 (by decide) (fun c_7 => ?_) (fun c_7 => ?_)
  · skip
    refine lv_iload_n hx hb dX5_addLayer_20 rfl (lv_at hl 2 rfl) ?_
    refine lv_iconst (v := 1) hx hb dX5_addLayer_21 (by decide) ?_
    refine lv_ldc (v := 100000) hx hb hown (hts _ t_608) dX5_addLayer_22 ?_
    refine q_cSiE (As := [.int b, .int 1, .int 100000]) (rest := []) hx hb hml hts hown hE h0 hW hS (c_X5_isIn l b 1 100000) mw_X5_isIn t_318 ⟨Nat.le_of_ble_eq_true rfl, Nat.le_of_ble_eq_true rfl⟩ rfl hl.1 (Nat.le_of_ble_eq_true rfl) dX5_addLayer_24 ⟨Nat.zero_le _, Nat.zero_le _⟩ ⟨rfl, rfl⟩ (fun H locs hW hS => ?_)
    refine lv_if_ne (tgt := 40) hx hb dX5_addLayer_27 (by decide) (fun c_27 => ?_) (fun c_27 => ?_)
    · skip
      exact absurd k2 c_27
    · skip
      exact q_throw hx hb hst9 hml hl.1 hts hown hE hnt hlocks (by decide) t_321 t_56 (is := 112) (text := "limit is not 1 to 100000") (by decide) xa_47 xg_47 hW hS dX5_addLayer_30 dX5_addLayer_33 dX5_addLayer_34 dX5_addLayer_36 dX5_addLayer_39 (Nat.le_of_ble_eq_true rfl) (Nat.le_of_ble_eq_true rfl) (by first | decide | omega | (dsimp only; omega)) (by first | decide | omega | (dsimp only; omega)) (by first | decide | omega | (dsimp only; omega)) (by first | decide | omega | (dsimp only; omega)) (fun _ h => h)
  · skip
    exact absurd (k1.symm.trans c_7) (by decide)

set_option maxHeartbeats 4000000 in
set_option maxRecDepth 100000 in
theorem x_X5_addLayer_1c (l : Launch) (hst9 : l.stackTraces = false) {G : GG} {L : List Nat} {ad : Nat → Nat} {v : Nat → Nat → Int32} {o : Nat → Nat → Option Nat} {w : Nat → Int64} {ng nh nl ns : Nat} {ow gx gy gw gd : Nat → Nat} (hI : PI G.2.2.2 L ad v o ng nh nl ns ow gx gy gw gd) {a b c0 : Int32} (k1 : fIn a 0 100000 = 1) (k2 : fIn b 1 100000 = 1) (k3 : fIn c0 1 100 = 0) : CtXi l G L ad v o w yX5_addLayer cX5_addLayer 4 .int ({ frames := 6, cells := 1, slots := 6, locals := 82 }) [.ref (ad 0), .int a, .int b, .int c0] "java/lang/IllegalArgumentException" := by
  have hb6 := hI.g6; have hb12 := hI.h12; have hbl := hI.l6; have hbs := hI.s30
  refine vx_ofW (cc := cX5_addLayer) (maxL := 4) (ret := (some .int)) (by decide) rfl ?_
  intro p e s m args below meth c s₁ B hml hnt hv
  obtain ⟨rfl, hE, h0, hW⟩ := hv
  have hx := B.exec; have hb := B.bytes; have hts := hE.hts (args := ([.ref (ad 0), .int a, .int b, .int c0] : List Value).toArray); have hown : s.vm.findClass RX5 = some m.cls := findClass_of_methodNamed B.named; have hlocks := B.notSynchronized
  have hl := lv_entry ([.ref (ad 0), .int a, .int b, .int c0] : List Value) (n := 4) (Nat.le_of_ble_eq_true rfl)
  rw [lg_entry_eq]
  generalize (lg_sl ([.ref (ad 0), .int a, .int b, .int c0] : List Value) ++ List.replicate (4 - (lg_sl ([.ref (ad 0), .int a, .int b, .int c0] : List Value)).length) Slot.unset).toArray = ls at hl ⊢
  generalize hH : s.heap = H at hW ⊢
  have hS : va_S (Ab G.2.2.1) s.heap H [] := hH ▸ va_S.rf
  obtain ⟨locs, hlc⟩ : ∃ z : List Loc, z = [] := ⟨_, rfl⟩
  rw [← hlc] at hS ⊢
  have hl : lv_has ls 4 [(0, .ref (ad 0)), (1, .int a), (2, .int b), (3, .int c0)] := hl
  refine lv_iload_n hx hb dX5_addLayer_0 rfl (lv_at hl 1 rfl) ?_
  refine lv_iconst (v := 0) hx hb dX5_addLayer_1 (by decide) ?_
  refine lv_ldc (v := 100000) hx hb hown (hts _ t_608) dX5_addLayer_2 ?_
  refine q_cSiE (As := [.int a, .int 0, .int 100000]) (rest := []) hx hb hml hts hown hE h0 hW hS (c_X5_isIn l a 0 100000) mw_X5_isIn t_318 ⟨Nat.le_of_ble_eq_true rfl, Nat.le_of_ble_eq_true rfl⟩ rfl hl.1 (Nat.le_of_ble_eq_true rfl) dX5_addLayer_4 ⟨Nat.zero_le _, Nat.zero_le _⟩ ⟨rfl, rfl⟩ (fun H locs hW hS => ?_)
  refine lv_if_ne (tgt := 20) hx hb dX5_addLayer_7 (by decide) (fun c_7 => ?_) (fun c_7 => ?_)
  · skip
    refine lv_iload_n hx hb dX5_addLayer_20 rfl (lv_at hl 2 rfl) ?_
    refine lv_iconst (v := 1) hx hb dX5_addLayer_21 (by decide) ?_
    refine lv_ldc (v := 100000) hx hb hown (hts _ t_608) dX5_addLayer_22 ?_
    refine q_cSiE (As := [.int b, .int 1, .int 100000]) (rest := []) hx hb hml hts hown hE h0 hW hS (c_X5_isIn l b 1 100000) mw_X5_isIn t_318 ⟨Nat.le_of_ble_eq_true rfl, Nat.le_of_ble_eq_true rfl⟩ rfl hl.1 (Nat.le_of_ble_eq_true rfl) dX5_addLayer_24 ⟨Nat.zero_le _, Nat.zero_le _⟩ ⟨rfl, rfl⟩ (fun H locs hW hS => ?_)
    refine lv_if_ne (tgt := 40) hx hb dX5_addLayer_27 (by decide) (fun c_27 => ?_) (fun c_27 => ?_)
    · skip
      refine lv_iload_n hx hb dX5_addLayer_40 rfl (lv_at hl 3 rfl) ?_
      refine lv_iconst (v := 1) hx hb dX5_addLayer_41 (by decide) ?_
      refine lv_bipush (v := 100) hx hb dX5_addLayer_42 (by decide) ?_
      refine q_cSiE (As := [.int c0, .int 1, .int 100]) (rest := []) hx hb hml hts hown hE h0 hW hS (c_X5_isIn l c0 1 100) mw_X5_isIn t_318 ⟨Nat.le_of_ble_eq_true rfl, Nat.le_of_ble_eq_true rfl⟩ rfl hl.1 (Nat.le_of_ble_eq_true rfl) dX5_addLayer_44 ⟨Nat.zero_le _, Nat.zero_le _⟩ ⟨rfl, rfl⟩ (fun H locs hW hS => ?_)
      refine lv_if_ne (tgt := 60) hx hb dX5_addLayer_47 (by decide) (fun c_47 => ?_) (fun c_47 => ?_)
      · skip
        exact absurd k3 c_47
      · skip
        exact q_throw hx hb hst9 hml hl.1 hts hown hE hnt hlocks (by decide) t_321 t_56 (is := 171) (text := "share is not 1 to 100") (by decide) xa_47 xg_47 hW hS dX5_addLayer_50 dX5_addLayer_53 dX5_addLayer_54 dX5_addLayer_56 dX5_addLayer_59 (Nat.le_of_ble_eq_true rfl) (Nat.le_of_ble_eq_true rfl) (by first | decide | omega | (dsimp only; omega)) (by first | decide | omega | (dsimp only; omega)) (by first | decide | omega | (dsimp only; omega)) (by first | decide | omega | (dsimp only; omega)) (fun _ h => h)
    · skip
      exact absurd (k2.symm.trans c_27) (by decide)
  · skip
    exact absurd (k1.symm.trans c_7) (by decide)

set_option maxHeartbeats 4000000 in
set_option maxRecDepth 100000 in
theorem x_X5_addLayer_2 (l : Launch) (hst9 : l.stackTraces = false) {G : GG} {L : List Nat} {ad : Nat → Nat} {v : Nat → Nat → Int32} {o : Nat → Nat → Option Nat} {w : Nat → Int64} {ng nh nl ns : Nat} {ow gx gy gw gd : Nat → Nat} (hI : PI G.2.2.2 L ad v o ng nh nl ns ow gx gy gw gd) {a b c0 : Int32} (k1 : fIn a 0 100000 = 1) (k2 : fIn b 1 100000 = 1) (k3 : fIn c0 1 100 = 1) (k4 : nl = 6) : CtXi l G L ad v o w yX5_addLayer cX5_addLayer 4 .int ({ frames := 6, cells := 1, slots := 6, locals := 82 }) [.ref (ad 0), .int a, .int b, .int c0] "java/lang/IllegalStateException" := by
  have hb6 := hI.g6; have hb12 := hI.h12; have hbl := hI.l6; have hbs := hI.s30
  refine vx_ofW (cc := cX5_addLayer) (maxL := 4) (ret := (some .int)) (by decide) rfl ?_
  intro p e s m args below meth c s₁ B hml hnt hv
  obtain ⟨rfl, hE, h0, hW⟩ := hv
  have hx := B.exec; have hb := B.bytes; have hts := hE.hts (args := ([.ref (ad 0), .int a, .int b, .int c0] : List Value).toArray); have hown : s.vm.findClass RX5 = some m.cls := findClass_of_methodNamed B.named; have hlocks := B.notSynchronized
  have hl := lv_entry ([.ref (ad 0), .int a, .int b, .int c0] : List Value) (n := 4) (Nat.le_of_ble_eq_true rfl)
  rw [lg_entry_eq]
  generalize (lg_sl ([.ref (ad 0), .int a, .int b, .int c0] : List Value) ++ List.replicate (4 - (lg_sl ([.ref (ad 0), .int a, .int b, .int c0] : List Value)).length) Slot.unset).toArray = ls at hl ⊢
  generalize hH : s.heap = H at hW ⊢
  have hS : va_S (Ab G.2.2.1) s.heap H [] := hH ▸ va_S.rf
  obtain ⟨locs, hlc⟩ : ∃ z : List Loc, z = [] := ⟨_, rfl⟩
  rw [← hlc] at hS ⊢
  have hl : lv_has ls 4 [(0, .ref (ad 0)), (1, .int a), (2, .int b), (3, .int c0)] := hl
  refine lv_iload_n hx hb dX5_addLayer_0 rfl (lv_at hl 1 rfl) ?_
  refine lv_iconst (v := 0) hx hb dX5_addLayer_1 (by decide) ?_
  refine lv_ldc (v := 100000) hx hb hown (hts _ t_608) dX5_addLayer_2 ?_
  refine q_cSiE (As := [.int a, .int 0, .int 100000]) (rest := []) hx hb hml hts hown hE h0 hW hS (c_X5_isIn l a 0 100000) mw_X5_isIn t_318 ⟨Nat.le_of_ble_eq_true rfl, Nat.le_of_ble_eq_true rfl⟩ rfl hl.1 (Nat.le_of_ble_eq_true rfl) dX5_addLayer_4 ⟨Nat.zero_le _, Nat.zero_le _⟩ ⟨rfl, rfl⟩ (fun H locs hW hS => ?_)
  refine lv_if_ne (tgt := 20) hx hb dX5_addLayer_7 (by decide) (fun c_7 => ?_) (fun c_7 => ?_)
  · skip
    refine lv_iload_n hx hb dX5_addLayer_20 rfl (lv_at hl 2 rfl) ?_
    refine lv_iconst (v := 1) hx hb dX5_addLayer_21 (by decide) ?_
    refine lv_ldc (v := 100000) hx hb hown (hts _ t_608) dX5_addLayer_22 ?_
    refine q_cSiE (As := [.int b, .int 1, .int 100000]) (rest := []) hx hb hml hts hown hE h0 hW hS (c_X5_isIn l b 1 100000) mw_X5_isIn t_318 ⟨Nat.le_of_ble_eq_true rfl, Nat.le_of_ble_eq_true rfl⟩ rfl hl.1 (Nat.le_of_ble_eq_true rfl) dX5_addLayer_24 ⟨Nat.zero_le _, Nat.zero_le _⟩ ⟨rfl, rfl⟩ (fun H locs hW hS => ?_)
    refine lv_if_ne (tgt := 40) hx hb dX5_addLayer_27 (by decide) (fun c_27 => ?_) (fun c_27 => ?_)
    · skip
      refine lv_iload_n hx hb dX5_addLayer_40 rfl (lv_at hl 3 rfl) ?_
      refine lv_iconst (v := 1) hx hb dX5_addLayer_41 (by decide) ?_
      refine lv_bipush (v := 100) hx hb dX5_addLayer_42 (by decide) ?_
      refine q_cSiE (As := [.int c0, .int 1, .int 100]) (rest := []) hx hb hml hts hown hE h0 hW hS (c_X5_isIn l c0 1 100) mw_X5_isIn t_318 ⟨Nat.le_of_ble_eq_true rfl, Nat.le_of_ble_eq_true rfl⟩ rfl hl.1 (Nat.le_of_ble_eq_true rfl) dX5_addLayer_44 ⟨Nat.zero_le _, Nat.zero_le _⟩ ⟨rfl, rfl⟩ (fun H locs hW hS => ?_)
      refine lv_if_ne (tgt := 60) hx hb dX5_addLayer_47 (by decide) (fun c_47 => ?_) (fun c_47 => ?_)
      · skip
        refine lv_aload_n hx hb dX5_addLayer_60 rfl (lv_at hl 0 rfl) ?_
        refine q_getr hx hb hts hown hW (r := 0) (hI.c 0 (by decide)) rfl k_6 2 (by decide) rfl t_139 (a := ad 3) (hI.o0 2 (by decide)) dX5_addLayer_61 ?_
        refine q_cFiE (As := []) (rest := []) (r := 3) hx hb hml hts hown hE h0 hW hS hE.2.1 (c_size l hI.ll) t_178 t_176 t_174 t_49 (by decide) (by decide +kernel) (hI.c 3 (by decide)) rfl k_0 t_170 ⟨Nat.le_of_ble_eq_true rfl, Nat.le_of_ble_eq_true rfl⟩ rfl hl.1 (Nat.le_of_ble_eq_true rfl) dX5_addLayer_64 ⟨Nat.zero_le _, Nat.zero_le _⟩ ⟨rfl, rfl⟩ (fun H locs hW hS => ?_)
        refine lv_bipush (v := 6) hx hb dX5_addLayer_69 (by decide) ?_
        refine lv_icmp_lt (tgt := 84) hx hb dX5_addLayer_71 (by decide) (fun c_71 => ?_) (fun c_71 => ?_)
        · skip
          exact absurd c_71 (by rw [k4]; decide)
        · skip
          exact q_throw hx hb hst9 hml hl.1 hts hown hE hnt hlocks (by decide) t_389 t_57 (is := 173) (text := "there are 6 layers") (by decide) xa_60 xg_60 hW hS dX5_addLayer_74 dX5_addLayer_77 dX5_addLayer_78 dX5_addLayer_80 dX5_addLayer_83 (Nat.le_of_ble_eq_true rfl) (Nat.le_of_ble_eq_true rfl) (by first | decide | omega | (dsimp only; omega)) (by first | decide | omega | (dsimp only; omega)) (by first | decide | omega | (dsimp only; omega)) (by first | decide | omega | (dsimp only; omega)) (fun _ h => h)
      · skip
        exact absurd (k3.symm.trans c_47) (by decide)
    · skip
      exact absurd (k2.symm.trans c_27) (by decide)
  · skip
    exact absurd (k1.symm.trans c_7) (by decide)

set_option maxHeartbeats 4000000 in
set_option maxRecDepth 100000 in
theorem x_X5_layer_1a (l : Launch) (hst9 : l.stackTraces = false) {G : GG} {L : List Nat} {ad : Nat → Nat} {v : Nat → Nat → Int32} {o : Nat → Nat → Option Nat} {w : Nat → Int64} {ng nh nl ns : Nat} {ow gx gy gw gd : Nat → Nat} (hI : PI G.2.2.2 L ad v o ng nh nl ns ow gx gy gw gd) {a b : Int32} (k1 : fIn a 0 (nI nl - 1) = 0) : CtXi l G L ad v o w yX5_layer cX5_layer 3 .int ({ frames := 6, cells := 1, slots := 6, locals := 82 }) [.ref (ad 0), .int a, .int b] "java/lang/IndexOutOfBoundsException" := by
  have hb6 := hI.g6; have hb12 := hI.h12; have hbl := hI.l6; have hbs := hI.s30
  refine vx_ofW (cc := cX5_layer) (maxL := 3) (ret := (some .int)) (by decide) rfl ?_
  intro p e s m args below meth c s₁ B hml hnt hv
  obtain ⟨rfl, hE, h0, hW⟩ := hv
  have hx := B.exec; have hb := B.bytes; have hts := hE.hts (args := ([.ref (ad 0), .int a, .int b] : List Value).toArray); have hown : s.vm.findClass RX5 = some m.cls := findClass_of_methodNamed B.named; have hlocks := B.notSynchronized
  have hl := lv_entry ([.ref (ad 0), .int a, .int b] : List Value) (n := 3) (Nat.le_of_ble_eq_true rfl)
  rw [lg_entry_eq]
  generalize (lg_sl ([.ref (ad 0), .int a, .int b] : List Value) ++ List.replicate (3 - (lg_sl ([.ref (ad 0), .int a, .int b] : List Value)).length) Slot.unset).toArray = ls at hl ⊢
  generalize hH : s.heap = H at hW ⊢
  have hS : va_S (Ab G.2.2.1) s.heap H [] := hH ▸ va_S.rf
  obtain ⟨locs, hlc⟩ : ∃ z : List Loc, z = [] := ⟨_, rfl⟩
  rw [← hlc] at hS ⊢
  have hl : lv_has ls 3 [(0, .ref (ad 0)), (1, .int a), (2, .int b)] := hl
  refine lv_iload_n hx hb dX5_layer_0 rfl (lv_at hl 1 rfl) ?_
  refine lv_iconst (v := 0) hx hb dX5_layer_1 (by decide) ?_
  refine lv_aload_n hx hb dX5_layer_2 rfl (lv_at hl 0 rfl) ?_
  refine q_getr hx hb hts hown hW (r := 0) (hI.c 0 (by decide)) rfl k_6 2 (by decide) rfl t_139 (a := ad 3) (hI.o0 2 (by decide)) dX5_layer_3 ?_
  refine q_cFiE (As := []) (rest := [.int 0, .int a]) (r := 3) hx hb hml hts hown hE h0 hW hS hE.2.1 (c_size l hI.ll) t_178 t_176 t_174 t_49 (by decide) (by decide +kernel) (hI.c 3 (by decide)) rfl k_0 t_170 ⟨Nat.le_of_ble_eq_true rfl, Nat.le_of_ble_eq_true rfl⟩ rfl hl.1 (Nat.le_of_ble_eq_true rfl) dX5_layer_6 ⟨Nat.zero_le _, Nat.zero_le _⟩ ⟨rfl, rfl⟩ (fun H locs hW hS => ?_)
  refine lv_iconst (v := 1) hx hb dX5_layer_11 (by decide) ?_
  refine lv_isub hx hb dX5_layer_12 ?_
  refine q_cSiE (As := [.int a, .int 0, .int ((nI nl) - 1)]) (rest := []) hx hb hml hts hown hE h0 hW hS (c_X5_isIn l a 0 ((nI nl) - 1)) mw_X5_isIn t_318 ⟨Nat.le_of_ble_eq_true rfl, Nat.le_of_ble_eq_true rfl⟩ rfl hl.1 (Nat.le_of_ble_eq_true rfl) dX5_layer_13 ⟨Nat.zero_le _, Nat.zero_le _⟩ ⟨rfl, rfl⟩ (fun H locs hW hS => ?_)
  refine lv_if_ne (tgt := 29) hx hb dX5_layer_16 (by decide) (fun c_16 => ?_) (fun c_16 => ?_)
  · skip
    exact absurd k1 c_16
  · skip
    exact q_throw hx hb hst9 hml hl.1 hts hown hE hnt hlocks (by decide) t_514 t_63 (is := 180) (text := "there is no such layer") (by decide) xa_157 xg_157 hW hS dX5_layer_19 dX5_layer_22 dX5_layer_23 dX5_layer_25 dX5_layer_28 (Nat.le_of_ble_eq_true rfl) (Nat.le_of_ble_eq_true rfl) (by first | decide | omega | (dsimp only; omega)) (by first | decide | omega | (dsimp only; omega)) (by first | decide | omega | (dsimp only; omega)) (by first | decide | omega | (dsimp only; omega)) (fun _ h => h)

set_option maxHeartbeats 4000000 in
set_option maxRecDepth 100000 in
theorem x_X5_layer_1b (l : Launch) (hst9 : l.stackTraces = false) {G : GG} {L : List Nat} {ad : Nat → Nat} {v : Nat → Nat → Int32} {o : Nat → Nat → Option Nat} {w : Nat → Int64} {ng nh nl ns : Nat} {ow gx gy gw gd : Nat → Nat} (hI : PI G.2.2.2 L ad v o ng nh nl ns ow gx gy gw gd) {k : Nat} (hk : k < nl) {b : Int32} (k1 : fIn b 0 4 = 0) : CtXi l G L ad v o w yX5_layer cX5_layer 3 .int ({ frames := 7, cells := 1, slots := 6, locals := 103 }) [.ref (ad 0), .int (nI k), .int b] "java/lang/IndexOutOfBoundsException" := by
  have hb6 := hI.g6; have hb12 := hI.h12; have hbl := hI.l6; have hbs := hI.s30; have hck := fIn_nat hk (by omega)
  refine vx_ofW (cc := cX5_layer) (maxL := 3) (ret := (some .int)) (by decide) rfl ?_
  intro p e s m args below meth c s₁ B hml hnt hv
  obtain ⟨rfl, hE, h0, hW⟩ := hv
  have hx := B.exec; have hb := B.bytes; have hts := hE.hts (args := ([.ref (ad 0), .int (nI k), .int b] : List Value).toArray); have hown : s.vm.findClass RX5 = some m.cls := findClass_of_methodNamed B.named; have hlocks := B.notSynchronized
  have hl := lv_entry ([.ref (ad 0), .int (nI k), .int b] : List Value) (n := 3) (Nat.le_of_ble_eq_true rfl)
  rw [lg_entry_eq]
  generalize (lg_sl ([.ref (ad 0), .int (nI k), .int b] : List Value) ++ List.replicate (3 - (lg_sl ([.ref (ad 0), .int (nI k), .int b] : List Value)).length) Slot.unset).toArray = ls at hl ⊢
  generalize hH : s.heap = H at hW ⊢
  have hS : va_S (Ab G.2.2.1) s.heap H [] := hH ▸ va_S.rf
  obtain ⟨locs, hlc⟩ : ∃ z : List Loc, z = [] := ⟨_, rfl⟩
  rw [← hlc] at hS ⊢
  have hl : lv_has ls 3 [(0, .ref (ad 0)), (1, .int (nI k)), (2, .int b)] := hl
  refine lv_iload_n hx hb dX5_layer_0 rfl (lv_at hl 1 rfl) ?_
  refine lv_iconst (v := 0) hx hb dX5_layer_1 (by decide) ?_
  refine lv_aload_n hx hb dX5_layer_2 rfl (lv_at hl 0 rfl) ?_
  refine q_getr hx hb hts hown hW (r := 0) (hI.c 0 (by decide)) rfl k_6 2 (by decide) rfl t_139 (a := ad 3) (hI.o0 2 (by decide)) dX5_layer_3 ?_
  refine q_cFiE (As := []) (rest := [.int 0, .int (nI k)]) (r := 3) hx hb hml hts hown hE h0 hW hS hE.2.1 (c_size l hI.ll) t_178 t_176 t_174 t_49 (by decide) (by decide +kernel) (hI.c 3 (by decide)) rfl k_0 t_170 ⟨Nat.le_of_ble_eq_true rfl, Nat.le_of_ble_eq_true rfl⟩ rfl hl.1 (Nat.le_of_ble_eq_true rfl) dX5_layer_6 ⟨Nat.zero_le _, Nat.zero_le _⟩ ⟨rfl, rfl⟩ (fun H locs hW hS => ?_)
  refine lv_iconst (v := 1) hx hb dX5_layer_11 (by decide) ?_
  refine lv_isub hx hb dX5_layer_12 ?_
  refine q_cSiE (As := [.int (nI k), .int 0, .int ((nI nl) - 1)]) (rest := []) hx hb hml hts hown hE h0 hW hS (c_X5_isIn l (nI k) 0 ((nI nl) - 1)) mw_X5_isIn t_318 ⟨Nat.le_of_ble_eq_true rfl, Nat.le_of_ble_eq_true rfl⟩ rfl hl.1 (Nat.le_of_ble_eq_true rfl) dX5_layer_13 ⟨Nat.zero_le _, Nat.zero_le _⟩ ⟨rfl, rfl⟩ (fun H locs hW hS => ?_)
  refine lv_if_ne (tgt := 29) hx hb dX5_layer_16 (by decide) (fun c_16 => ?_) (fun c_16 => ?_)
  · skip
    refine lv_iload_n hx hb dX5_layer_29 rfl (lv_at hl 2 rfl) ?_
    refine lv_iconst (v := 5) hx hb dX5_layer_30 (by decide) ?_
    exact q_xS (As := [.int b, .int 5]) (rest := []) hx hb hml hts hown hE h0 hW hS hnt hlocks (x_X5_checkWhat l hst9 (n := 5) k1) mw_X5_checkWhat t_626 ⟨Nat.le_of_ble_eq_true rfl, Nat.le_of_ble_eq_true rfl⟩ rfl hl.1 (Nat.le_of_ble_eq_true rfl) dX5_layer_31 ⟨(by first | decide | omega | (dsimp only; omega)), (by first | decide | omega | (dsimp only; omega))⟩ (by first | decide | omega | (dsimp only; omega)) (by first | decide | omega | (dsimp only; omega)) (fun _ h => h)
  · skip
    exact absurd (hck.symm.trans c_16) (by decide)

set_option maxHeartbeats 4000000 in
set_option maxRecDepth 100000 in
theorem x_X5_count_1 (l : Launch) (hst9 : l.stackTraces = false) {G : GG} {L : List Nat} {ad : Nat → Nat} {v : Nat → Nat → Int32} {o : Nat → Nat → Option Nat} {w : Nat → Int64} {ng nh nl ns : Nat} {ow gx gy gw gd : Nat → Nat} (hI : PI G.2.2.2 L ad v o ng nh nl ns ow gx gy gw gd) {a : Int32} (k1 : fIn a 0 10 = 0) : CtXi l G L ad v o w yX5_count cX5_count 2 .int ({ frames := 7, cells := 1, slots := 6, locals := 103 }) [.ref (ad 0), .int a] "java/lang/IndexOutOfBoundsException" := by
  have hb6 := hI.g6; have hb12 := hI.h12; have hbl := hI.l6; have hbs := hI.s30
  refine vx_ofW (cc := cX5_count) (maxL := 2) (ret := (some .int)) (by decide) rfl ?_
  intro p e s m args below meth c s₁ B hml hnt hv
  obtain ⟨rfl, hE, h0, hW⟩ := hv
  have hx := B.exec; have hb := B.bytes; have hts := hE.hts (args := ([.ref (ad 0), .int a] : List Value).toArray); have hown : s.vm.findClass RX5 = some m.cls := findClass_of_methodNamed B.named; have hlocks := B.notSynchronized
  have hl := lv_entry ([.ref (ad 0), .int a] : List Value) (n := 2) (Nat.le_of_ble_eq_true rfl)
  rw [lg_entry_eq]
  generalize (lg_sl ([.ref (ad 0), .int a] : List Value) ++ List.replicate (2 - (lg_sl ([.ref (ad 0), .int a] : List Value)).length) Slot.unset).toArray = ls at hl ⊢
  generalize hH : s.heap = H at hW ⊢
  have hS : va_S (Ab G.2.2.1) s.heap H [] := hH ▸ va_S.rf
  obtain ⟨locs, hlc⟩ : ∃ z : List Loc, z = [] := ⟨_, rfl⟩
  rw [← hlc] at hS ⊢
  have hl : lv_has ls 2 [(0, .ref (ad 0)), (1, .int a)] := hl
  refine lv_iload_n hx hb dX5_count_0 rfl (lv_at hl 1 rfl) ?_
  refine lv_bipush (v := 11) hx hb dX5_count_1 (by decide) ?_
  exact q_xS (As := [.int a, .int 11]) (rest := []) hx hb hml hts hown hE h0 hW hS hnt hlocks (x_X5_checkWhat l hst9 (n := 11) k1) mw_X5_checkWhat t_626 ⟨Nat.le_of_ble_eq_true rfl, Nat.le_of_ble_eq_true rfl⟩ rfl hl.1 (Nat.le_of_ble_eq_true rfl) dX5_count_3 ⟨(by first | decide | omega | (dsimp only; omega)), (by first | decide | omega | (dsimp only; omega))⟩ (by first | decide | omega | (dsimp only; omega)) (by first | decide | omega | (dsimp only; omega)) (fun _ h => h)

set_option maxHeartbeats 4000000 in
set_option maxRecDepth 100000 in
theorem x_X5_told_1a (l : Launch) (hst9 : l.stackTraces = false) {G : GG} {L : List Nat} {ad : Nat → Nat} {v : Nat → Nat → Int32} {o : Nat → Nat → Option Nat} {w : Nat → Int64} {ng nh nl ns : Nat} {ow gx gy gw gd : Nat → Nat} (hI : PI G.2.2.2 L ad v o ng nh nl ns ow gx gy gw gd) {a b : Int32} (k1 : fIn a 0 (nI ns - 1) = 0) : CtXi l G L ad v o w yX5_told cX5_told 3 .int ({ frames := 6, cells := 1, slots := 6, locals := 82 }) [.ref (ad 0), .int a, .int b] "java/lang/IndexOutOfBoundsException" := by
  have hb6 := hI.g6; have hb12 := hI.h12; have hbl := hI.l6; have hbs := hI.s30
  refine vx_ofW (cc := cX5_told) (maxL := 3) (ret := (some .int)) (by decide) rfl ?_
  intro p e s m args below meth c s₁ B hml hnt hv
  obtain ⟨rfl, hE, h0, hW⟩ := hv
  have hx := B.exec; have hb := B.bytes; have hts := hE.hts (args := ([.ref (ad 0), .int a, .int b] : List Value).toArray); have hown : s.vm.findClass RX5 = some m.cls := findClass_of_methodNamed B.named; have hlocks := B.notSynchronized
  have hl := lv_entry ([.ref (ad 0), .int a, .int b] : List Value) (n := 3) (Nat.le_of_ble_eq_true rfl)
  rw [lg_entry_eq]
  generalize (lg_sl ([.ref (ad 0), .int a, .int b] : List Value) ++ List.replicate (3 - (lg_sl ([.ref (ad 0), .int a, .int b] : List Value)).length) Slot.unset).toArray = ls at hl ⊢
  generalize hH : s.heap = H at hW ⊢
  have hS : va_S (Ab G.2.2.1) s.heap H [] := hH ▸ va_S.rf
  obtain ⟨locs, hlc⟩ : ∃ z : List Loc, z = [] := ⟨_, rfl⟩
  rw [← hlc] at hS ⊢
  have hl : lv_has ls 3 [(0, .ref (ad 0)), (1, .int a), (2, .int b)] := hl
  refine lv_iload_n hx hb dX5_told_0 rfl (lv_at hl 1 rfl) ?_
  refine lv_iconst (v := 0) hx hb dX5_told_1 (by decide) ?_
  refine lv_aload_n hx hb dX5_told_2 rfl (lv_at hl 0 rfl) ?_
  refine q_get hx hb hts hown hW (r := 0) (hI.c 0 (by decide)) rfl k_6 7 (by decide) rfl t_144 (x := (nI ns)) hI.eS dX5_told_3 ?_
  refine lv_iconst (v := 1) hx hb dX5_told_6 (by decide) ?_
  refine lv_isub hx hb dX5_told_7 ?_
  refine q_cSiE (As := [.int a, .int 0, .int ((nI ns) - 1)]) (rest := []) hx hb hml hts hown hE h0 hW hS (c_X5_isIn l a 0 ((nI ns) - 1)) mw_X5_isIn t_318 ⟨Nat.le_of_ble_eq_true rfl, Nat.le_of_ble_eq_true rfl⟩ rfl hl.1 (Nat.le_of_ble_eq_true rfl) dX5_told_8 ⟨Nat.zero_le _, Nat.zero_le _⟩ ⟨rfl, rfl⟩ (fun H locs hW hS => ?_)
  refine lv_if_ne (tgt := 24) hx hb dX5_told_11 (by decide) (fun c_11 => ?_) (fun c_11 => ?_)
  · skip
    exact absurd k1 c_11
  · skip
    exact q_throw hx hb hst9 hml hl.1 hts hown hE hnt hlocks (by decide) t_514 t_63 (is := 223) (text := "there is no such storm") (by decide) xa_157 xg_157 hW hS dX5_told_14 dX5_told_17 dX5_told_18 dX5_told_20 dX5_told_23 (Nat.le_of_ble_eq_true rfl) (Nat.le_of_ble_eq_true rfl) (by first | decide | omega | (dsimp only; omega)) (by first | decide | omega | (dsimp only; omega)) (by first | decide | omega | (dsimp only; omega)) (by first | decide | omega | (dsimp only; omega)) (fun _ h => h)

set_option maxHeartbeats 4000000 in
set_option maxRecDepth 100000 in
theorem x_X5_told_1b (l : Launch) (hst9 : l.stackTraces = false) {G : GG} {L : List Nat} {ad : Nat → Nat} {v : Nat → Nat → Int32} {o : Nat → Nat → Option Nat} {w : Nat → Int64} {ng nh nl ns : Nat} {ow gx gy gw gd : Nat → Nat} (hI : PI G.2.2.2 L ad v o ng nh nl ns ow gx gy gw gd) {k : Nat} (hk : k < ns) {b : Int32} (k1 : fIn b 0 5 = 0) : CtXi l G L ad v o w yX5_told cX5_told 3 .int ({ frames := 7, cells := 1, slots := 6, locals := 103 }) [.ref (ad 0), .int (nI k), .int b] "java/lang/IndexOutOfBoundsException" := by
  have hb6 := hI.g6; have hb12 := hI.h12; have hbl := hI.l6; have hbs := hI.s30; have hck := fIn_nat hk (by omega)
  refine vx_ofW (cc := cX5_told) (maxL := 3) (ret := (some .int)) (by decide) rfl ?_
  intro p e s m args below meth c s₁ B hml hnt hv
  obtain ⟨rfl, hE, h0, hW⟩ := hv
  have hx := B.exec; have hb := B.bytes; have hts := hE.hts (args := ([.ref (ad 0), .int (nI k), .int b] : List Value).toArray); have hown : s.vm.findClass RX5 = some m.cls := findClass_of_methodNamed B.named; have hlocks := B.notSynchronized
  have hl := lv_entry ([.ref (ad 0), .int (nI k), .int b] : List Value) (n := 3) (Nat.le_of_ble_eq_true rfl)
  rw [lg_entry_eq]
  generalize (lg_sl ([.ref (ad 0), .int (nI k), .int b] : List Value) ++ List.replicate (3 - (lg_sl ([.ref (ad 0), .int (nI k), .int b] : List Value)).length) Slot.unset).toArray = ls at hl ⊢
  generalize hH : s.heap = H at hW ⊢
  have hS : va_S (Ab G.2.2.1) s.heap H [] := hH ▸ va_S.rf
  obtain ⟨locs, hlc⟩ : ∃ z : List Loc, z = [] := ⟨_, rfl⟩
  rw [← hlc] at hS ⊢
  have hl : lv_has ls 3 [(0, .ref (ad 0)), (1, .int (nI k)), (2, .int b)] := hl
  refine lv_iload_n hx hb dX5_told_0 rfl (lv_at hl 1 rfl) ?_
  refine lv_iconst (v := 0) hx hb dX5_told_1 (by decide) ?_
  refine lv_aload_n hx hb dX5_told_2 rfl (lv_at hl 0 rfl) ?_
  refine q_get hx hb hts hown hW (r := 0) (hI.c 0 (by decide)) rfl k_6 7 (by decide) rfl t_144 (x := (nI ns)) hI.eS dX5_told_3 ?_
  refine lv_iconst (v := 1) hx hb dX5_told_6 (by decide) ?_
  refine lv_isub hx hb dX5_told_7 ?_
  refine q_cSiE (As := [.int (nI k), .int 0, .int ((nI ns) - 1)]) (rest := []) hx hb hml hts hown hE h0 hW hS (c_X5_isIn l (nI k) 0 ((nI ns) - 1)) mw_X5_isIn t_318 ⟨Nat.le_of_ble_eq_true rfl, Nat.le_of_ble_eq_true rfl⟩ rfl hl.1 (Nat.le_of_ble_eq_true rfl) dX5_told_8 ⟨Nat.zero_le _, Nat.zero_le _⟩ ⟨rfl, rfl⟩ (fun H locs hW hS => ?_)
  refine lv_if_ne (tgt := 24) hx hb dX5_told_11 (by decide) (fun c_11 => ?_) (fun c_11 => ?_)
  · skip
    refine lv_iload_n hx hb dX5_told_24 rfl (lv_at hl 2 rfl) ?_
    refine lv_bipush (v := 6) hx hb dX5_told_25 (by decide) ?_
    exact q_xS (As := [.int b, .int 6]) (rest := []) hx hb hml hts hown hE h0 hW hS hnt hlocks (x_X5_checkWhat l hst9 (n := 6) k1) mw_X5_checkWhat t_626 ⟨Nat.le_of_ble_eq_true rfl, Nat.le_of_ble_eq_true rfl⟩ rfl hl.1 (Nat.le_of_ble_eq_true rfl) dX5_told_27 ⟨(by first | decide | omega | (dsimp only; omega)), (by first | decide | omega | (dsimp only; omega))⟩ (by first | decide | omega | (dsimp only; omega)) (by first | decide | omega | (dsimp only; omega)) (fun _ h => h)
  · skip
    exact absurd (hck.symm.trans c_11) (by decide)

set_option maxHeartbeats 4000000 in
set_option maxRecDepth 100000 in
theorem x_X5_build_1 (l : Launch) (hst9 : l.stackTraces = false) {G : GG} {L : List Nat} {ad : Nat → Nat} {v : Nat → Nat → Int32} {o : Nat → Nat → Option Nat} {w : Nat → Int64} {ng nh nl ns : Nat} {ow gx gy gw gd : Nat → Nat} (hI : PI G.2.2.2 L ad v o ng nh nl ns ow gx gy gw gd) {g0 a b c0 d e0 f : Int32} (k1 : fIn g0 0 (nI ng - 1) = 0) : CtXi l G L ad v o w yX5_build cX5_build 9 .int ({ frames := 7, cells := 1, slots := 6, locals := 103 }) [.ref (ad 0), .int g0, .int a, .int b, .int c0, .int d, .int e0, .int f] "java/lang/IndexOutOfBoundsException" := by
  have hb6 := hI.g6; have hb12 := hI.h12; have hbl := hI.l6; have hbs := hI.s30
  refine vx_ofW (cc := cX5_build) (maxL := 9) (ret := (some .int)) (by decide) rfl ?_
  intro p e s m args below meth c s₁ B hml hnt hv
  obtain ⟨rfl, hE, h0, hW⟩ := hv
  have hx := B.exec; have hb := B.bytes; have hts := hE.hts (args := ([.ref (ad 0), .int g0, .int a, .int b, .int c0, .int d, .int e0, .int f] : List Value).toArray); have hown : s.vm.findClass RX5 = some m.cls := findClass_of_methodNamed B.named; have hlocks := B.notSynchronized
  have hl := lv_entry ([.ref (ad 0), .int g0, .int a, .int b, .int c0, .int d, .int e0, .int f] : List Value) (n := 9) (Nat.le_of_ble_eq_true rfl)
  rw [lg_entry_eq]
  generalize (lg_sl ([.ref (ad 0), .int g0, .int a, .int b, .int c0, .int d, .int e0, .int f] : List Value) ++ List.replicate (9 - (lg_sl ([.ref (ad 0), .int g0, .int a, .int b, .int c0, .int d, .int e0, .int f] : List Value)).length) Slot.unset).toArray = ls at hl ⊢
  generalize hH : s.heap = H at hW ⊢
  have hS : va_S (Ab G.2.2.1) s.heap H [] := hH ▸ va_S.rf
  obtain ⟨locs, hlc⟩ : ∃ z : List Loc, z = [] := ⟨_, rfl⟩
  rw [← hlc] at hS ⊢
  have hl : lv_has ls 9 [(0, .ref (ad 0)), (1, .int g0), (2, .int a), (3, .int b), (4, .int c0), (5, .int d), (6, .int e0), (7, .int f)] := hl
  refine lv_aload_n hx hb dX5_build_0 rfl (lv_at hl 0 rfl) ?_
  refine lv_iload_n hx hb dX5_build_1 rfl (lv_at hl 1 rfl) ?_
  exact q_xV (As := [.int g0]) (rest := []) (r := 0) hx hb hml hts hown hE h0 hW hS hnt hlocks (x_X5_checkGrower l hst9 hI k1) mw_X5_checkGrower (hI.c 0 (by decide)) rfl k_6 t_510 ⟨Nat.le_of_ble_eq_true rfl, Nat.le_of_ble_eq_true rfl⟩ rfl hl.1 (Nat.le_of_ble_eq_true rfl) dX5_build_2 ⟨(by first | decide | omega | (dsimp only; omega)), (by first | decide | omega | (dsimp only; omega))⟩ (by first | decide | omega | (dsimp only; omega)) (by first | decide | omega | (dsimp only; omega)) (fun _ h => h)

set_option maxHeartbeats 4000000 in
set_option maxRecDepth 100000 in
theorem x_X5_build_2a (l : Launch) (hst9 : l.stackTraces = false) {G : GG} {L : List Nat} {ad : Nat → Nat} {v : Nat → Nat → Int32} {o : Nat → Nat → Option Nat} {w : Nat → Int64} {ng nh nl ns : Nat} {ow gx gy gw gd : Nat → Nat} (hI : PI G.2.2.2 L ad v o ng nh nl ns ow gx gy gw gd) {g : Nat} (hg : g < ng) {a b c0 d e0 f : Int32} (k1 : fIn c0 1 6 = 0) : CtXi l G L ad v o w yX5_build cX5_build 9 .int ({ frames := 6, cells := 1, slots := 6, locals := 82 }) [.ref (ad 0), .int (nI g), .int a, .int b, .int c0, .int d, .int e0, .int f] "java/lang/IllegalArgumentException" := by
  have hb6 := hI.g6; have hb12 := hI.h12; have hbl := hI.l6; have hbs := hI.s30
  refine vx_ofW (cc := cX5_build) (maxL := 9) (ret := (some .int)) (by decide) rfl ?_
  intro p e s m args below meth c s₁ B hml hnt hv
  obtain ⟨rfl, hE, h0, hW⟩ := hv
  have hx := B.exec; have hb := B.bytes; have hts := hE.hts (args := ([.ref (ad 0), .int (nI g), .int a, .int b, .int c0, .int d, .int e0, .int f] : List Value).toArray); have hown : s.vm.findClass RX5 = some m.cls := findClass_of_methodNamed B.named; have hlocks := B.notSynchronized
  have hl := lv_entry ([.ref (ad 0), .int (nI g), .int a, .int b, .int c0, .int d, .int e0, .int f] : List Value) (n := 9) (Nat.le_of_ble_eq_true rfl)
  rw [lg_entry_eq]
  generalize (lg_sl ([.ref (ad 0), .int (nI g), .int a, .int b, .int c0, .int d, .int e0, .int f] : List Value) ++ List.replicate (9 - (lg_sl ([.ref (ad 0), .int (nI g), .int a, .int b, .int c0, .int d, .int e0, .int f] : List Value)).length) Slot.unset).toArray = ls at hl ⊢
  generalize hH : s.heap = H at hW ⊢
  have hS : va_S (Ab G.2.2.1) s.heap H [] := hH ▸ va_S.rf
  obtain ⟨locs, hlc⟩ : ∃ z : List Loc, z = [] := ⟨_, rfl⟩
  rw [← hlc] at hS ⊢
  have hl : lv_has ls 9 [(0, .ref (ad 0)), (1, .int (nI g)), (2, .int a), (3, .int b), (4, .int c0), (5, .int d), (6, .int e0), (7, .int f)] := hl
  refine lv_aload_n hx hb dX5_build_0 rfl (lv_at hl 0 rfl) ?_
  refine lv_iload_n hx hb dX5_build_1 rfl (lv_at hl 1 rfl) ?_
  refine q_cVvE (As := [.int (nI g)]) (rest := []) (r := 0) hx hb hml hts hown hE h0 hW hS (c_X5_checkGrower l hI hg) mw_X5_checkGrower (hI.c 0 (by decide)) rfl k_6 t_510 ⟨Nat.le_of_ble_eq_true rfl, Nat.le_of_ble_eq_true rfl⟩ rfl hl.1 (Nat.le_of_ble_eq_true rfl) dX5_build_2 ⟨Nat.zero_le _, Nat.zero_le _⟩ ⟨rfl, rfl⟩ (fun H locs hW hS => ?_)
  refine lv_iload hx hb dX5_build_5 (lv_at hl 4 rfl) ?_
  refine lv_iconst (v := 1) hx hb dX5_build_7 (by decide) ?_
  refine lv_bipush (v := 6) hx hb dX5_build_8 (by decide) ?_
  refine q_cSiE (As := [.int c0, .int 1, .int 6]) (rest := []) hx hb hml hts hown hE h0 hW hS (c_X5_isIn l c0 1 6) mw_X5_isIn t_318 ⟨Nat.le_of_ble_eq_true rfl, Nat.le_of_ble_eq_true rfl⟩ rfl hl.1 (Nat.le_of_ble_eq_true rfl) dX5_build_10 ⟨Nat.zero_le _, Nat.zero_le _⟩ ⟨rfl, rfl⟩ (fun H locs hW hS => ?_)
  refine lv_if_eq (tgt := 27) hx hb dX5_build_13 (by decide) (fun c_13 => ?_) (fun c_13 => ?_)
  · skip
    exact q_throw hx hb hst9 hml hl.1 hts hown hE hnt hlocks (by decide) t_321 t_56 (is := 73) (text := "wide or deep is not 1 to 6") (by decide) xa_47 xg_47 hW hS dX5_build_27 dX5_build_30 dX5_build_31 dX5_build_33 dX5_build_36 (Nat.le_of_ble_eq_true rfl) (Nat.le_of_ble_eq_true rfl) (by first | decide | omega | (dsimp only; omega)) (by first | decide | omega | (dsimp only; omega)) (by first | decide | omega | (dsimp only; omega)) (by first | decide | omega | (dsimp only; omega)) (fun _ h => h)
  · skip
    exact absurd k1 c_13

set_option maxHeartbeats 4000000 in
set_option maxRecDepth 100000 in
theorem x_X5_build_2b (l : Launch) (hst9 : l.stackTraces = false) {G : GG} {L : List Nat} {ad : Nat → Nat} {v : Nat → Nat → Int32} {o : Nat → Nat → Option Nat} {w : Nat → Int64} {ng nh nl ns : Nat} {ow gx gy gw gd : Nat → Nat} (hI : PI G.2.2.2 L ad v o ng nh nl ns ow gx gy gw gd) {g : Nat} (hg : g < ng) {a b c0 d e0 f : Int32} (k1 : fIn c0 1 6 = 1) (k2 : fIn d 1 6 = 0) : CtXi l G L ad v o w yX5_build cX5_build 9 .int ({ frames := 6, cells := 1, slots := 6, locals := 82 }) [.ref (ad 0), .int (nI g), .int a, .int b, .int c0, .int d, .int e0, .int f] "java/lang/IllegalArgumentException" := by
  have hb6 := hI.g6; have hb12 := hI.h12; have hbl := hI.l6; have hbs := hI.s30
  refine vx_ofW (cc := cX5_build) (maxL := 9) (ret := (some .int)) (by decide) rfl ?_
  intro p e s m args below meth c s₁ B hml hnt hv
  obtain ⟨rfl, hE, h0, hW⟩ := hv
  have hx := B.exec; have hb := B.bytes; have hts := hE.hts (args := ([.ref (ad 0), .int (nI g), .int a, .int b, .int c0, .int d, .int e0, .int f] : List Value).toArray); have hown : s.vm.findClass RX5 = some m.cls := findClass_of_methodNamed B.named; have hlocks := B.notSynchronized
  have hl := lv_entry ([.ref (ad 0), .int (nI g), .int a, .int b, .int c0, .int d, .int e0, .int f] : List Value) (n := 9) (Nat.le_of_ble_eq_true rfl)
  rw [lg_entry_eq]
  generalize (lg_sl ([.ref (ad 0), .int (nI g), .int a, .int b, .int c0, .int d, .int e0, .int f] : List Value) ++ List.replicate (9 - (lg_sl ([.ref (ad 0), .int (nI g), .int a, .int b, .int c0, .int d, .int e0, .int f] : List Value)).length) Slot.unset).toArray = ls at hl ⊢
  generalize hH : s.heap = H at hW ⊢
  have hS : va_S (Ab G.2.2.1) s.heap H [] := hH ▸ va_S.rf
  obtain ⟨locs, hlc⟩ : ∃ z : List Loc, z = [] := ⟨_, rfl⟩
  rw [← hlc] at hS ⊢
  have hl : lv_has ls 9 [(0, .ref (ad 0)), (1, .int (nI g)), (2, .int a), (3, .int b), (4, .int c0), (5, .int d), (6, .int e0), (7, .int f)] := hl
  refine lv_aload_n hx hb dX5_build_0 rfl (lv_at hl 0 rfl) ?_
  refine lv_iload_n hx hb dX5_build_1 rfl (lv_at hl 1 rfl) ?_
  refine q_cVvE (As := [.int (nI g)]) (rest := []) (r := 0) hx hb hml hts hown hE h0 hW hS (c_X5_checkGrower l hI hg) mw_X5_checkGrower (hI.c 0 (by decide)) rfl k_6 t_510 ⟨Nat.le_of_ble_eq_true rfl, Nat.le_of_ble_eq_true rfl⟩ rfl hl.1 (Nat.le_of_ble_eq_true rfl) dX5_build_2 ⟨Nat.zero_le _, Nat.zero_le _⟩ ⟨rfl, rfl⟩ (fun H locs hW hS => ?_)
  refine lv_iload hx hb dX5_build_5 (lv_at hl 4 rfl) ?_
  refine lv_iconst (v := 1) hx hb dX5_build_7 (by decide) ?_
  refine lv_bipush (v := 6) hx hb dX5_build_8 (by decide) ?_
  refine q_cSiE (As := [.int c0, .int 1, .int 6]) (rest := []) hx hb hml hts hown hE h0 hW hS (c_X5_isIn l c0 1 6) mw_X5_isIn t_318 ⟨Nat.le_of_ble_eq_true rfl, Nat.le_of_ble_eq_true rfl⟩ rfl hl.1 (Nat.le_of_ble_eq_true rfl) dX5_build_10 ⟨Nat.zero_le _, Nat.zero_le _⟩ ⟨rfl, rfl⟩ (fun H locs hW hS => ?_)
  refine lv_if_eq (tgt := 27) hx hb dX5_build_13 (by decide) (fun c_13 => ?_) (fun c_13 => ?_)
  · skip
    exact absurd (k1.symm.trans c_13) (by decide)
  · skip
    refine lv_iload hx hb dX5_build_16 (lv_at hl 5 rfl) ?_
    refine lv_iconst (v := 1) hx hb dX5_build_18 (by decide) ?_
    refine lv_bipush (v := 6) hx hb dX5_build_19 (by decide) ?_
    refine q_cSiE (As := [.int d, .int 1, .int 6]) (rest := []) hx hb hml hts hown hE h0 hW hS (c_X5_isIn l d 1 6) mw_X5_isIn t_318 ⟨Nat.le_of_ble_eq_true rfl, Nat.le_of_ble_eq_true rfl⟩ rfl hl.1 (Nat.le_of_ble_eq_true rfl) dX5_build_21 ⟨Nat.zero_le _, Nat.zero_le _⟩ ⟨rfl, rfl⟩ (fun H locs hW hS => ?_)
    refine lv_if_ne (tgt := 37) hx hb dX5_build_24 (by decide) (fun c_24 => ?_) (fun c_24 => ?_)
    · skip
      exact absurd k2 c_24
    · skip
      exact q_throw hx hb hst9 hml hl.1 hts hown hE hnt hlocks (by decide) t_321 t_56 (is := 73) (text := "wide or deep is not 1 to 6") (by decide) xa_47 xg_47 hW hS dX5_build_27 dX5_build_30 dX5_build_31 dX5_build_33 dX5_build_36 (Nat.le_of_ble_eq_true rfl) (Nat.le_of_ble_eq_true rfl) (by first | decide | omega | (dsimp only; omega)) (by first | decide | omega | (dsimp only; omega)) (by first | decide | omega | (dsimp only; omega)) (by first | decide | omega | (dsimp only; omega)) (fun _ h => h)

set_option maxHeartbeats 4000000 in
set_option maxRecDepth 100000 in
theorem x_X5_build_2c (l : Launch) (hst9 : l.stackTraces = false) {G : GG} {L : List Nat} {ad : Nat → Nat} {v : Nat → Nat → Int32} {o : Nat → Nat → Option Nat} {w : Nat → Int64} {ng nh nl ns : Nat} {ow gx gy gw gd : Nat → Nat} (hI : PI G.2.2.2 L ad v o ng nh nl ns ow gx gy gw gd) {g : Nat} (hg : g < ng) {a b c0 d e0 f : Int32} (k1 : fIn c0 1 6 = 1) (k2 : fIn d 1 6 = 1) (k3 : fIn a 0 (20 - c0) = 0) : CtXi l G L ad v o w yX5_build cX5_build 9 .int ({ frames := 6, cells := 1, slots := 6, locals := 82 }) [.ref (ad 0), .int (nI g), .int a, .int b, .int c0, .int d, .int e0, .int f] "java/lang/IllegalArgumentException" := by
  have hb6 := hI.g6; have hb12 := hI.h12; have hbl := hI.l6; have hbs := hI.s30
  refine vx_ofW (cc := cX5_build) (maxL := 9) (ret := (some .int)) (by decide) rfl ?_
  intro p e s m args below meth c s₁ B hml hnt hv
  obtain ⟨rfl, hE, h0, hW⟩ := hv
  have hx := B.exec; have hb := B.bytes; have hts := hE.hts (args := ([.ref (ad 0), .int (nI g), .int a, .int b, .int c0, .int d, .int e0, .int f] : List Value).toArray); have hown : s.vm.findClass RX5 = some m.cls := findClass_of_methodNamed B.named; have hlocks := B.notSynchronized
  have hl := lv_entry ([.ref (ad 0), .int (nI g), .int a, .int b, .int c0, .int d, .int e0, .int f] : List Value) (n := 9) (Nat.le_of_ble_eq_true rfl)
  rw [lg_entry_eq]
  generalize (lg_sl ([.ref (ad 0), .int (nI g), .int a, .int b, .int c0, .int d, .int e0, .int f] : List Value) ++ List.replicate (9 - (lg_sl ([.ref (ad 0), .int (nI g), .int a, .int b, .int c0, .int d, .int e0, .int f] : List Value)).length) Slot.unset).toArray = ls at hl ⊢
  generalize hH : s.heap = H at hW ⊢
  have hS : va_S (Ab G.2.2.1) s.heap H [] := hH ▸ va_S.rf
  obtain ⟨locs, hlc⟩ : ∃ z : List Loc, z = [] := ⟨_, rfl⟩
  rw [← hlc] at hS ⊢
  have hl : lv_has ls 9 [(0, .ref (ad 0)), (1, .int (nI g)), (2, .int a), (3, .int b), (4, .int c0), (5, .int d), (6, .int e0), (7, .int f)] := hl
  refine lv_aload_n hx hb dX5_build_0 rfl (lv_at hl 0 rfl) ?_
  refine lv_iload_n hx hb dX5_build_1 rfl (lv_at hl 1 rfl) ?_
  refine q_cVvE (As := [.int (nI g)]) (rest := []) (r := 0) hx hb hml hts hown hE h0 hW hS (c_X5_checkGrower l hI hg) mw_X5_checkGrower (hI.c 0 (by decide)) rfl k_6 t_510 ⟨Nat.le_of_ble_eq_true rfl, Nat.le_of_ble_eq_true rfl⟩ rfl hl.1 (Nat.le_of_ble_eq_true rfl) dX5_build_2 ⟨Nat.zero_le _, Nat.zero_le _⟩ ⟨rfl, rfl⟩ (fun H locs hW hS => ?_)
  refine lv_iload hx hb dX5_build_5 (lv_at hl 4 rfl) ?_
  refine lv_iconst (v := 1) hx hb dX5_build_7 (by decide) ?_
  refine lv_bipush (v := 6) hx hb dX5_build_8 (by decide) ?_
  refine q_cSiE (As := [.int c0, .int 1, .int 6]) (rest := []) hx hb hml hts hown hE h0 hW hS (c_X5_isIn l c0 1 6) mw_X5_isIn t_318 ⟨Nat.le_of_ble_eq_true rfl, Nat.le_of_ble_eq_true rfl⟩ rfl hl.1 (Nat.le_of_ble_eq_true rfl) dX5_build_10 ⟨Nat.zero_le _, Nat.zero_le _⟩ ⟨rfl, rfl⟩ (fun H locs hW hS => ?_)
  refine lv_if_eq (tgt := 27) hx hb dX5_build_13 (by decide) (fun c_13 => ?_) (fun c_13 => ?_)
  · skip
    exact absurd (k1.symm.trans c_13) (by decide)
  · skip
    refine lv_iload hx hb dX5_build_16 (lv_at hl 5 rfl) ?_
    refine lv_iconst (v := 1) hx hb dX5_build_18 (by decide) ?_
    refine lv_bipush (v := 6) hx hb dX5_build_19 (by decide) ?_
    refine q_cSiE (As := [.int d, .int 1, .int 6]) (rest := []) hx hb hml hts hown hE h0 hW hS (c_X5_isIn l d 1 6) mw_X5_isIn t_318 ⟨Nat.le_of_ble_eq_true rfl, Nat.le_of_ble_eq_true rfl⟩ rfl hl.1 (Nat.le_of_ble_eq_true rfl) dX5_build_21 ⟨Nat.zero_le _, Nat.zero_le _⟩ ⟨rfl, rfl⟩ (fun H locs hW hS => ?_)
    refine lv_if_ne (tgt := 37) hx hb dX5_build_24 (by decide) (fun c_24 => ?_) (fun c_24 => ?_)
    · skip
      refine lv_iload_n hx hb dX5_build_37 rfl (lv_at hl 2 rfl) ?_
      refine lv_iconst (v := 0) hx hb dX5_build_38 (by decide) ?_
      refine lv_bipush (v := 20) hx hb dX5_build_39 (by decide) ?_
      refine lv_iload hx hb dX5_build_41 (lv_at hl 4 rfl) ?_
      refine lv_isub hx hb dX5_build_43 ?_
      refine q_cSiE (As := [.int a, .int 0, .int (20 - c0)]) (rest := []) hx hb hml hts hown hE h0 hW hS (c_X5_isIn l a 0 (20 - c0)) mw_X5_isIn t_318 ⟨Nat.le_of_ble_eq_true rfl, Nat.le_of_ble_eq_true rfl⟩ rfl hl.1 (Nat.le_of_ble_eq_true rfl) dX5_build_44 ⟨Nat.zero_le _, Nat.zero_le _⟩ ⟨rfl, rfl⟩ (fun H locs hW hS => ?_)
      refine lv_if_eq (tgt := 63) hx hb dX5_build_47 (by decide) (fun c_47 => ?_) (fun c_47 => ?_)
      · skip
        exact q_throw hx hb hst9 hml hl.1 hts hown hE hnt hlocks (by decide) t_321 t_56 (is := 75) (text := "the house is not all on the land") (by decide) xa_47 xg_47 hW hS dX5_build_63 dX5_build_66 dX5_build_67 dX5_build_69 dX5_build_72 (Nat.le_of_ble_eq_true rfl) (Nat.le_of_ble_eq_true rfl) (by first | decide | omega | (dsimp only; omega)) (by first | decide | omega | (dsimp only; omega)) (by first | decide | omega | (dsimp only; omega)) (by first | decide | omega | (dsimp only; omega)) (fun _ h => h)
      · skip
        exact absurd k3 c_47
    · skip
      exact absurd (k2.symm.trans c_24) (by decide)

set_option maxHeartbeats 4000000 in
set_option maxRecDepth 100000 in
theorem x_X5_build_2d (l : Launch) (hst9 : l.stackTraces = false) {G : GG} {L : List Nat} {ad : Nat → Nat} {v : Nat → Nat → Int32} {o : Nat → Nat → Option Nat} {w : Nat → Int64} {ng nh nl ns : Nat} {ow gx gy gw gd : Nat → Nat} (hI : PI G.2.2.2 L ad v o ng nh nl ns ow gx gy gw gd) {g : Nat} (hg : g < ng) {a b c0 d e0 f : Int32} (k1 : fIn c0 1 6 = 1) (k2 : fIn d 1 6 = 1) (k3 : fIn a 0 (20 - c0) = 1) (k4 : fIn b 0 (20 - d) = 0) : CtXi l G L ad v o w yX5_build cX5_build 9 .int ({ frames := 6, cells := 1, slots := 6, locals := 82 }) [.ref (ad 0), .int (nI g), .int a, .int b, .int c0, .int d, .int e0, .int f] "java/lang/IllegalArgumentException" := by
  have hb6 := hI.g6; have hb12 := hI.h12; have hbl := hI.l6; have hbs := hI.s30
  refine vx_ofW (cc := cX5_build) (maxL := 9) (ret := (some .int)) (by decide) rfl ?_
  intro p e s m args below meth c s₁ B hml hnt hv
  obtain ⟨rfl, hE, h0, hW⟩ := hv
  have hx := B.exec; have hb := B.bytes; have hts := hE.hts (args := ([.ref (ad 0), .int (nI g), .int a, .int b, .int c0, .int d, .int e0, .int f] : List Value).toArray); have hown : s.vm.findClass RX5 = some m.cls := findClass_of_methodNamed B.named; have hlocks := B.notSynchronized
  have hl := lv_entry ([.ref (ad 0), .int (nI g), .int a, .int b, .int c0, .int d, .int e0, .int f] : List Value) (n := 9) (Nat.le_of_ble_eq_true rfl)
  rw [lg_entry_eq]
  generalize (lg_sl ([.ref (ad 0), .int (nI g), .int a, .int b, .int c0, .int d, .int e0, .int f] : List Value) ++ List.replicate (9 - (lg_sl ([.ref (ad 0), .int (nI g), .int a, .int b, .int c0, .int d, .int e0, .int f] : List Value)).length) Slot.unset).toArray = ls at hl ⊢
  generalize hH : s.heap = H at hW ⊢
  have hS : va_S (Ab G.2.2.1) s.heap H [] := hH ▸ va_S.rf
  obtain ⟨locs, hlc⟩ : ∃ z : List Loc, z = [] := ⟨_, rfl⟩
  rw [← hlc] at hS ⊢
  have hl : lv_has ls 9 [(0, .ref (ad 0)), (1, .int (nI g)), (2, .int a), (3, .int b), (4, .int c0), (5, .int d), (6, .int e0), (7, .int f)] := hl
  refine lv_aload_n hx hb dX5_build_0 rfl (lv_at hl 0 rfl) ?_
  refine lv_iload_n hx hb dX5_build_1 rfl (lv_at hl 1 rfl) ?_
  refine q_cVvE (As := [.int (nI g)]) (rest := []) (r := 0) hx hb hml hts hown hE h0 hW hS (c_X5_checkGrower l hI hg) mw_X5_checkGrower (hI.c 0 (by decide)) rfl k_6 t_510 ⟨Nat.le_of_ble_eq_true rfl, Nat.le_of_ble_eq_true rfl⟩ rfl hl.1 (Nat.le_of_ble_eq_true rfl) dX5_build_2 ⟨Nat.zero_le _, Nat.zero_le _⟩ ⟨rfl, rfl⟩ (fun H locs hW hS => ?_)
  refine lv_iload hx hb dX5_build_5 (lv_at hl 4 rfl) ?_
  refine lv_iconst (v := 1) hx hb dX5_build_7 (by decide) ?_
  refine lv_bipush (v := 6) hx hb dX5_build_8 (by decide) ?_
  refine q_cSiE (As := [.int c0, .int 1, .int 6]) (rest := []) hx hb hml hts hown hE h0 hW hS (c_X5_isIn l c0 1 6) mw_X5_isIn t_318 ⟨Nat.le_of_ble_eq_true rfl, Nat.le_of_ble_eq_true rfl⟩ rfl hl.1 (Nat.le_of_ble_eq_true rfl) dX5_build_10 ⟨Nat.zero_le _, Nat.zero_le _⟩ ⟨rfl, rfl⟩ (fun H locs hW hS => ?_)
  refine lv_if_eq (tgt := 27) hx hb dX5_build_13 (by decide) (fun c_13 => ?_) (fun c_13 => ?_)
  · skip
    exact absurd (k1.symm.trans c_13) (by decide)
  · skip
    refine lv_iload hx hb dX5_build_16 (lv_at hl 5 rfl) ?_
    refine lv_iconst (v := 1) hx hb dX5_build_18 (by decide) ?_
    refine lv_bipush (v := 6) hx hb dX5_build_19 (by decide) ?_
    refine q_cSiE (As := [.int d, .int 1, .int 6]) (rest := []) hx hb hml hts hown hE h0 hW hS (c_X5_isIn l d 1 6) mw_X5_isIn t_318 ⟨Nat.le_of_ble_eq_true rfl, Nat.le_of_ble_eq_true rfl⟩ rfl hl.1 (Nat.le_of_ble_eq_true rfl) dX5_build_21 ⟨Nat.zero_le _, Nat.zero_le _⟩ ⟨rfl, rfl⟩ (fun H locs hW hS => ?_)
    refine lv_if_ne (tgt := 37) hx hb dX5_build_24 (by decide) (fun c_24 => ?_) (fun c_24 => ?_)
    · skip
      refine lv_iload_n hx hb dX5_build_37 rfl (lv_at hl 2 rfl) ?_
      refine lv_iconst (v := 0) hx hb dX5_build_38 (by decide) ?_
      refine lv_bipush (v := 20) hx hb dX5_build_39 (by decide) ?_
      refine lv_iload hx hb dX5_build_41 (lv_at hl 4 rfl) ?_
      refine lv_isub hx hb dX5_build_43 ?_
      refine q_cSiE (As := [.int a, .int 0, .int (20 - c0)]) (rest := []) hx hb hml hts hown hE h0 hW hS (c_X5_isIn l a 0 (20 - c0)) mw_X5_isIn t_318 ⟨Nat.le_of_ble_eq_true rfl, Nat.le_of_ble_eq_true rfl⟩ rfl hl.1 (Nat.le_of_ble_eq_true rfl) dX5_build_44 ⟨Nat.zero_le _, Nat.zero_le _⟩ ⟨rfl, rfl⟩ (fun H locs hW hS => ?_)
      refine lv_if_eq (tgt := 63) hx hb dX5_build_47 (by decide) (fun c_47 => ?_) (fun c_47 => ?_)
      · skip
        exact absurd (k3.symm.trans c_47) (by decide)
      · skip
        refine lv_iload_n hx hb dX5_build_50 rfl (lv_at hl 3 rfl) ?_
        refine lv_iconst (v := 0) hx hb dX5_build_51 (by decide) ?_
        refine lv_bipush (v := 20) hx hb dX5_build_52 (by decide) ?_
        refine lv_iload hx hb dX5_build_54 (lv_at hl 5 rfl) ?_
        refine lv_isub hx hb dX5_build_56 ?_
        refine q_cSiE (As := [.int b, .int 0, .int (20 - d)]) (rest := []) hx hb hml hts hown hE h0 hW hS (c_X5_isIn l b 0 (20 - d)) mw_X5_isIn t_318 ⟨Nat.le_of_ble_eq_true rfl, Nat.le_of_ble_eq_true rfl⟩ rfl hl.1 (Nat.le_of_ble_eq_true rfl) dX5_build_57 ⟨Nat.zero_le _, Nat.zero_le _⟩ ⟨rfl, rfl⟩ (fun H locs hW hS => ?_)
        refine lv_if_ne (tgt := 73) hx hb dX5_build_60 (by decide) (fun c_60 => ?_) (fun c_60 => ?_)
        · skip
          exact absurd k4 c_60
        · skip
          exact q_throw hx hb hst9 hml hl.1 hts hown hE hnt hlocks (by decide) t_321 t_56 (is := 75) (text := "the house is not all on the land") (by decide) xa_47 xg_47 hW hS dX5_build_63 dX5_build_66 dX5_build_67 dX5_build_69 dX5_build_72 (Nat.le_of_ble_eq_true rfl) (Nat.le_of_ble_eq_true rfl) (by first | decide | omega | (dsimp only; omega)) (by first | decide | omega | (dsimp only; omega)) (by first | decide | omega | (dsimp only; omega)) (by first | decide | omega | (dsimp only; omega)) (fun _ h => h)
    · skip
      exact absurd (k2.symm.trans c_24) (by decide)

set_option maxHeartbeats 4000000 in
set_option maxRecDepth 100000 in
theorem x_X5_build_2e (l : Launch) (hst9 : l.stackTraces = false) {G : GG} {L : List Nat} {ad : Nat → Nat} {v : Nat → Nat → Int32} {o : Nat → Nat → Option Nat} {w : Nat → Int64} {ng nh nl ns : Nat} {ow gx gy gw gd : Nat → Nat} (hI : PI G.2.2.2 L ad v o ng nh nl ns ow gx gy gw gd) {g : Nat} (hg : g < ng) {a b c0 d e0 f : Int32} (k1 : fIn c0 1 6 = 1) (k2 : fIn d 1 6 = 1) (k3 : fIn a 0 (20 - c0) = 1) (k4 : fIn b 0 (20 - d) = 1) (k5 : fIn e0 1 9 = 0) : CtXi l G L ad v o w yX5_build cX5_build 9 .int ({ frames := 6, cells := 1, slots := 6, locals := 82 }) [.ref (ad 0), .int (nI g), .int a, .int b, .int c0, .int d, .int e0, .int f] "java/lang/IllegalArgumentException" := by
  have hb6 := hI.g6; have hb12 := hI.h12; have hbl := hI.l6; have hbs := hI.s30
  refine vx_ofW (cc := cX5_build) (maxL := 9) (ret := (some .int)) (by decide) rfl ?_
  intro p e s m args below meth c s₁ B hml hnt hv
  obtain ⟨rfl, hE, h0, hW⟩ := hv
  have hx := B.exec; have hb := B.bytes; have hts := hE.hts (args := ([.ref (ad 0), .int (nI g), .int a, .int b, .int c0, .int d, .int e0, .int f] : List Value).toArray); have hown : s.vm.findClass RX5 = some m.cls := findClass_of_methodNamed B.named; have hlocks := B.notSynchronized
  have hl := lv_entry ([.ref (ad 0), .int (nI g), .int a, .int b, .int c0, .int d, .int e0, .int f] : List Value) (n := 9) (Nat.le_of_ble_eq_true rfl)
  rw [lg_entry_eq]
  generalize (lg_sl ([.ref (ad 0), .int (nI g), .int a, .int b, .int c0, .int d, .int e0, .int f] : List Value) ++ List.replicate (9 - (lg_sl ([.ref (ad 0), .int (nI g), .int a, .int b, .int c0, .int d, .int e0, .int f] : List Value)).length) Slot.unset).toArray = ls at hl ⊢
  generalize hH : s.heap = H at hW ⊢
  have hS : va_S (Ab G.2.2.1) s.heap H [] := hH ▸ va_S.rf
  obtain ⟨locs, hlc⟩ : ∃ z : List Loc, z = [] := ⟨_, rfl⟩
  rw [← hlc] at hS ⊢
  have hl : lv_has ls 9 [(0, .ref (ad 0)), (1, .int (nI g)), (2, .int a), (3, .int b), (4, .int c0), (5, .int d), (6, .int e0), (7, .int f)] := hl
  refine lv_aload_n hx hb dX5_build_0 rfl (lv_at hl 0 rfl) ?_
  refine lv_iload_n hx hb dX5_build_1 rfl (lv_at hl 1 rfl) ?_
  refine q_cVvE (As := [.int (nI g)]) (rest := []) (r := 0) hx hb hml hts hown hE h0 hW hS (c_X5_checkGrower l hI hg) mw_X5_checkGrower (hI.c 0 (by decide)) rfl k_6 t_510 ⟨Nat.le_of_ble_eq_true rfl, Nat.le_of_ble_eq_true rfl⟩ rfl hl.1 (Nat.le_of_ble_eq_true rfl) dX5_build_2 ⟨Nat.zero_le _, Nat.zero_le _⟩ ⟨rfl, rfl⟩ (fun H locs hW hS => ?_)
  refine lv_iload hx hb dX5_build_5 (lv_at hl 4 rfl) ?_
  refine lv_iconst (v := 1) hx hb dX5_build_7 (by decide) ?_
  refine lv_bipush (v := 6) hx hb dX5_build_8 (by decide) ?_
  refine q_cSiE (As := [.int c0, .int 1, .int 6]) (rest := []) hx hb hml hts hown hE h0 hW hS (c_X5_isIn l c0 1 6) mw_X5_isIn t_318 ⟨Nat.le_of_ble_eq_true rfl, Nat.le_of_ble_eq_true rfl⟩ rfl hl.1 (Nat.le_of_ble_eq_true rfl) dX5_build_10 ⟨Nat.zero_le _, Nat.zero_le _⟩ ⟨rfl, rfl⟩ (fun H locs hW hS => ?_)
  refine lv_if_eq (tgt := 27) hx hb dX5_build_13 (by decide) (fun c_13 => ?_) (fun c_13 => ?_)
  · skip
    exact absurd (k1.symm.trans c_13) (by decide)
  · skip
    refine lv_iload hx hb dX5_build_16 (lv_at hl 5 rfl) ?_
    refine lv_iconst (v := 1) hx hb dX5_build_18 (by decide) ?_
    refine lv_bipush (v := 6) hx hb dX5_build_19 (by decide) ?_
    refine q_cSiE (As := [.int d, .int 1, .int 6]) (rest := []) hx hb hml hts hown hE h0 hW hS (c_X5_isIn l d 1 6) mw_X5_isIn t_318 ⟨Nat.le_of_ble_eq_true rfl, Nat.le_of_ble_eq_true rfl⟩ rfl hl.1 (Nat.le_of_ble_eq_true rfl) dX5_build_21 ⟨Nat.zero_le _, Nat.zero_le _⟩ ⟨rfl, rfl⟩ (fun H locs hW hS => ?_)
    refine lv_if_ne (tgt := 37) hx hb dX5_build_24 (by decide) (fun c_24 => ?_) (fun c_24 => ?_)
    · skip
      refine lv_iload_n hx hb dX5_build_37 rfl (lv_at hl 2 rfl) ?_
      refine lv_iconst (v := 0) hx hb dX5_build_38 (by decide) ?_
      refine lv_bipush (v := 20) hx hb dX5_build_39 (by decide) ?_
      refine lv_iload hx hb dX5_build_41 (lv_at hl 4 rfl) ?_
      refine lv_isub hx hb dX5_build_43 ?_
      refine q_cSiE (As := [.int a, .int 0, .int (20 - c0)]) (rest := []) hx hb hml hts hown hE h0 hW hS (c_X5_isIn l a 0 (20 - c0)) mw_X5_isIn t_318 ⟨Nat.le_of_ble_eq_true rfl, Nat.le_of_ble_eq_true rfl⟩ rfl hl.1 (Nat.le_of_ble_eq_true rfl) dX5_build_44 ⟨Nat.zero_le _, Nat.zero_le _⟩ ⟨rfl, rfl⟩ (fun H locs hW hS => ?_)
      refine lv_if_eq (tgt := 63) hx hb dX5_build_47 (by decide) (fun c_47 => ?_) (fun c_47 => ?_)
      · skip
        exact absurd (k3.symm.trans c_47) (by decide)
      · skip
        refine lv_iload_n hx hb dX5_build_50 rfl (lv_at hl 3 rfl) ?_
        refine lv_iconst (v := 0) hx hb dX5_build_51 (by decide) ?_
        refine lv_bipush (v := 20) hx hb dX5_build_52 (by decide) ?_
        refine lv_iload hx hb dX5_build_54 (lv_at hl 5 rfl) ?_
        refine lv_isub hx hb dX5_build_56 ?_
        refine q_cSiE (As := [.int b, .int 0, .int (20 - d)]) (rest := []) hx hb hml hts hown hE h0 hW hS (c_X5_isIn l b 0 (20 - d)) mw_X5_isIn t_318 ⟨Nat.le_of_ble_eq_true rfl, Nat.le_of_ble_eq_true rfl⟩ rfl hl.1 (Nat.le_of_ble_eq_true rfl) dX5_build_57 ⟨Nat.zero_le _, Nat.zero_le _⟩ ⟨rfl, rfl⟩ (fun H locs hW hS => ?_)
        refine lv_if_ne (tgt := 73) hx hb dX5_build_60 (by decide) (fun c_60 => ?_) (fun c_60 => ?_)
        · skip
          refine lv_iload hx hb dX5_build_73 (lv_at hl 6 rfl) ?_
          refine lv_iconst (v := 1) hx hb dX5_build_75 (by decide) ?_
          refine lv_bipush (v := 9) hx hb dX5_build_76 (by decide) ?_
          refine q_cSiE (As := [.int e0, .int 1, .int 9]) (rest := []) hx hb hml hts hown hE h0 hW hS (c_X5_isIn l e0 1 9) mw_X5_isIn t_318 ⟨Nat.le_of_ble_eq_true rfl, Nat.le_of_ble_eq_true rfl⟩ rfl hl.1 (Nat.le_of_ble_eq_true rfl) dX5_build_78 ⟨Nat.zero_le _, Nat.zero_le _⟩ ⟨rfl, rfl⟩ (fun H locs hW hS => ?_)
          refine lv_if_ne (tgt := 94) hx hb dX5_build_81 (by decide) (fun c_81 => ?_) (fun c_81 => ?_)
          · skip
            exact absurd k5 c_81
          · skip
            exact q_throw hx hb hst9 hml hl.1 hts hown hE hnt hlocks (by decide) t_321 t_56 (is := 77) (text := "strength is not 1 to 9") (by decide) xa_47 xg_47 hW hS dX5_build_84 dX5_build_87 dX5_build_88 dX5_build_90 dX5_build_93 (Nat.le_of_ble_eq_true rfl) (Nat.le_of_ble_eq_true rfl) (by first | decide | omega | (dsimp only; omega)) (by first | decide | omega | (dsimp only; omega)) (by first | decide | omega | (dsimp only; omega)) (by first | decide | omega | (dsimp only; omega)) (fun _ h => h)
        · skip
          exact absurd (k4.symm.trans c_60) (by decide)
    · skip
      exact absurd (k2.symm.trans c_24) (by decide)

set_option maxHeartbeats 4000000 in
set_option maxRecDepth 100000 in
theorem x_X5_build_2f (l : Launch) (hst9 : l.stackTraces = false) {G : GG} {L : List Nat} {ad : Nat → Nat} {v : Nat → Nat → Int32} {o : Nat → Nat → Option Nat} {w : Nat → Int64} {ng nh nl ns : Nat} {ow gx gy gw gd : Nat → Nat} (hI : PI G.2.2.2 L ad v o ng nh nl ns ow gx gy gw gd) {g : Nat} (hg : g < ng) {a b c0 d e0 f : Int32} (k1 : fIn c0 1 6 = 1) (k2 : fIn d 1 6 = 1) (k3 : fIn a 0 (20 - c0) = 1) (k4 : fIn b 0 (20 - d) = 1) (k5 : fIn e0 1 9 = 1) (k6 : fIn f 1 1000 = 0) : CtXi l G L ad v o w yX5_build cX5_build 9 .int ({ frames := 6, cells := 1, slots := 6, locals := 82 }) [.ref (ad 0), .int (nI g), .int a, .int b, .int c0, .int d, .int e0, .int f] "java/lang/IllegalArgumentException" := by
  have hb6 := hI.g6; have hb12 := hI.h12; have hbl := hI.l6; have hbs := hI.s30
  refine vx_ofW (cc := cX5_build) (maxL := 9) (ret := (some .int)) (by decide) rfl ?_
  intro p e s m args below meth c s₁ B hml hnt hv
  obtain ⟨rfl, hE, h0, hW⟩ := hv
  have hx := B.exec; have hb := B.bytes; have hts := hE.hts (args := ([.ref (ad 0), .int (nI g), .int a, .int b, .int c0, .int d, .int e0, .int f] : List Value).toArray); have hown : s.vm.findClass RX5 = some m.cls := findClass_of_methodNamed B.named; have hlocks := B.notSynchronized
  have hl := lv_entry ([.ref (ad 0), .int (nI g), .int a, .int b, .int c0, .int d, .int e0, .int f] : List Value) (n := 9) (Nat.le_of_ble_eq_true rfl)
  rw [lg_entry_eq]
  generalize (lg_sl ([.ref (ad 0), .int (nI g), .int a, .int b, .int c0, .int d, .int e0, .int f] : List Value) ++ List.replicate (9 - (lg_sl ([.ref (ad 0), .int (nI g), .int a, .int b, .int c0, .int d, .int e0, .int f] : List Value)).length) Slot.unset).toArray = ls at hl ⊢
  generalize hH : s.heap = H at hW ⊢
  have hS : va_S (Ab G.2.2.1) s.heap H [] := hH ▸ va_S.rf
  obtain ⟨locs, hlc⟩ : ∃ z : List Loc, z = [] := ⟨_, rfl⟩
  rw [← hlc] at hS ⊢
  have hl : lv_has ls 9 [(0, .ref (ad 0)), (1, .int (nI g)), (2, .int a), (3, .int b), (4, .int c0), (5, .int d), (6, .int e0), (7, .int f)] := hl
  refine lv_aload_n hx hb dX5_build_0 rfl (lv_at hl 0 rfl) ?_
  refine lv_iload_n hx hb dX5_build_1 rfl (lv_at hl 1 rfl) ?_
  refine q_cVvE (As := [.int (nI g)]) (rest := []) (r := 0) hx hb hml hts hown hE h0 hW hS (c_X5_checkGrower l hI hg) mw_X5_checkGrower (hI.c 0 (by decide)) rfl k_6 t_510 ⟨Nat.le_of_ble_eq_true rfl, Nat.le_of_ble_eq_true rfl⟩ rfl hl.1 (Nat.le_of_ble_eq_true rfl) dX5_build_2 ⟨Nat.zero_le _, Nat.zero_le _⟩ ⟨rfl, rfl⟩ (fun H locs hW hS => ?_)
  refine lv_iload hx hb dX5_build_5 (lv_at hl 4 rfl) ?_
  refine lv_iconst (v := 1) hx hb dX5_build_7 (by decide) ?_
  refine lv_bipush (v := 6) hx hb dX5_build_8 (by decide) ?_
  refine q_cSiE (As := [.int c0, .int 1, .int 6]) (rest := []) hx hb hml hts hown hE h0 hW hS (c_X5_isIn l c0 1 6) mw_X5_isIn t_318 ⟨Nat.le_of_ble_eq_true rfl, Nat.le_of_ble_eq_true rfl⟩ rfl hl.1 (Nat.le_of_ble_eq_true rfl) dX5_build_10 ⟨Nat.zero_le _, Nat.zero_le _⟩ ⟨rfl, rfl⟩ (fun H locs hW hS => ?_)
  refine lv_if_eq (tgt := 27) hx hb dX5_build_13 (by decide) (fun c_13 => ?_) (fun c_13 => ?_)
  · skip
    exact absurd (k1.symm.trans c_13) (by decide)
  · skip
    refine lv_iload hx hb dX5_build_16 (lv_at hl 5 rfl) ?_
    refine lv_iconst (v := 1) hx hb dX5_build_18 (by decide) ?_
    refine lv_bipush (v := 6) hx hb dX5_build_19 (by decide) ?_
    refine q_cSiE (As := [.int d, .int 1, .int 6]) (rest := []) hx hb hml hts hown hE h0 hW hS (c_X5_isIn l d 1 6) mw_X5_isIn t_318 ⟨Nat.le_of_ble_eq_true rfl, Nat.le_of_ble_eq_true rfl⟩ rfl hl.1 (Nat.le_of_ble_eq_true rfl) dX5_build_21 ⟨Nat.zero_le _, Nat.zero_le _⟩ ⟨rfl, rfl⟩ (fun H locs hW hS => ?_)
    refine lv_if_ne (tgt := 37) hx hb dX5_build_24 (by decide) (fun c_24 => ?_) (fun c_24 => ?_)
    · skip
      refine lv_iload_n hx hb dX5_build_37 rfl (lv_at hl 2 rfl) ?_
      refine lv_iconst (v := 0) hx hb dX5_build_38 (by decide) ?_
      refine lv_bipush (v := 20) hx hb dX5_build_39 (by decide) ?_
      refine lv_iload hx hb dX5_build_41 (lv_at hl 4 rfl) ?_
      refine lv_isub hx hb dX5_build_43 ?_
      refine q_cSiE (As := [.int a, .int 0, .int (20 - c0)]) (rest := []) hx hb hml hts hown hE h0 hW hS (c_X5_isIn l a 0 (20 - c0)) mw_X5_isIn t_318 ⟨Nat.le_of_ble_eq_true rfl, Nat.le_of_ble_eq_true rfl⟩ rfl hl.1 (Nat.le_of_ble_eq_true rfl) dX5_build_44 ⟨Nat.zero_le _, Nat.zero_le _⟩ ⟨rfl, rfl⟩ (fun H locs hW hS => ?_)
      refine lv_if_eq (tgt := 63) hx hb dX5_build_47 (by decide) (fun c_47 => ?_) (fun c_47 => ?_)
      · skip
        exact absurd (k3.symm.trans c_47) (by decide)
      · skip
        refine lv_iload_n hx hb dX5_build_50 rfl (lv_at hl 3 rfl) ?_
        refine lv_iconst (v := 0) hx hb dX5_build_51 (by decide) ?_
        refine lv_bipush (v := 20) hx hb dX5_build_52 (by decide) ?_
        refine lv_iload hx hb dX5_build_54 (lv_at hl 5 rfl) ?_
        refine lv_isub hx hb dX5_build_56 ?_
        refine q_cSiE (As := [.int b, .int 0, .int (20 - d)]) (rest := []) hx hb hml hts hown hE h0 hW hS (c_X5_isIn l b 0 (20 - d)) mw_X5_isIn t_318 ⟨Nat.le_of_ble_eq_true rfl, Nat.le_of_ble_eq_true rfl⟩ rfl hl.1 (Nat.le_of_ble_eq_true rfl) dX5_build_57 ⟨Nat.zero_le _, Nat.zero_le _⟩ ⟨rfl, rfl⟩ (fun H locs hW hS => ?_)
        refine lv_if_ne (tgt := 73) hx hb dX5_build_60 (by decide) (fun c_60 => ?_) (fun c_60 => ?_)
        · skip
          refine lv_iload hx hb dX5_build_73 (lv_at hl 6 rfl) ?_
          refine lv_iconst (v := 1) hx hb dX5_build_75 (by decide) ?_
          refine lv_bipush (v := 9) hx hb dX5_build_76 (by decide) ?_
          refine q_cSiE (As := [.int e0, .int 1, .int 9]) (rest := []) hx hb hml hts hown hE h0 hW hS (c_X5_isIn l e0 1 9) mw_X5_isIn t_318 ⟨Nat.le_of_ble_eq_true rfl, Nat.le_of_ble_eq_true rfl⟩ rfl hl.1 (Nat.le_of_ble_eq_true rfl) dX5_build_78 ⟨Nat.zero_le _, Nat.zero_le _⟩ ⟨rfl, rfl⟩ (fun H locs hW hS => ?_)
          refine lv_if_ne (tgt := 94) hx hb dX5_build_81 (by decide) (fun c_81 => ?_) (fun c_81 => ?_)
          · skip
            refine lv_iload hx hb dX5_build_94 (lv_at hl 7 rfl) ?_
            refine lv_iconst (v := 1) hx hb dX5_build_96 (by decide) ?_
            refine lv_sipush (v := 1000) hx hb dX5_build_97 (by decide) ?_
            refine q_cSiE (As := [.int f, .int 1, .int 1000]) (rest := []) hx hb hml hts hown hE h0 hW hS (c_X5_isIn l f 1 1000) mw_X5_isIn t_318 ⟨Nat.le_of_ble_eq_true rfl, Nat.le_of_ble_eq_true rfl⟩ rfl hl.1 (Nat.le_of_ble_eq_true rfl) dX5_build_100 ⟨Nat.zero_le _, Nat.zero_le _⟩ ⟨rfl, rfl⟩ (fun H locs hW hS => ?_)
            refine lv_if_ne (tgt := 116) hx hb dX5_build_103 (by decide) (fun c_103 => ?_) (fun c_103 => ?_)
            · skip
              exact absurd k6 c_103
            · skip
              exact q_throw hx hb hst9 hml hl.1 hts hown hE hnt hlocks (by decide) t_321 t_56 (is := 79) (text := "value is not 1 to 1000") (by decide) xa_47 xg_47 hW hS dX5_build_106 dX5_build_109 dX5_build_110 dX5_build_112 dX5_build_115 (Nat.le_of_ble_eq_true rfl) (Nat.le_of_ble_eq_true rfl) (by first | decide | omega | (dsimp only; omega)) (by first | decide | omega | (dsimp only; omega)) (by first | decide | omega | (dsimp only; omega)) (by first | decide | omega | (dsimp only; omega)) (fun _ h => h)
          · skip
            exact absurd (k5.symm.trans c_81) (by decide)
        · skip
          exact absurd (k4.symm.trans c_60) (by decide)
    · skip
      exact absurd (k2.symm.trans c_24) (by decide)

set_option maxHeartbeats 4000000 in
set_option maxRecDepth 100000 in
theorem x_X5_build_3a (l : Launch) (hst9 : l.stackTraces = false) {G : GG} {L : List Nat} {ad : Nat → Nat} {v : Nat → Nat → Int32} {o : Nat → Nat → Option Nat} {w : Nat → Int64} {ng nh nl ns : Nat} {ow gx gy gw gd : Nat → Nat} (hI : PI G.2.2.2 L ad v o ng nh nl ns ow gx gy gw gd) {g : Nat} (hg : g < ng) {a b c0 d e0 f : Int32} (k1 : fIn c0 1 6 = 1) (k2 : fIn d 1 6 = 1) (k3 : fIn a 0 (20 - c0) = 1) (k4 : fIn b 0 (20 - d) = 1) (k5 : fIn e0 1 9 = 1) (k6 : fIn f 1 1000 = 1) (k7 : fBuilt v a b c0 d nh = 1) : CtXi l G L ad v o w yX5_build cX5_build 9 .int ({ frames := 6, cells := 1, slots := 6, locals := 125 }) [.ref (ad 0), .int (nI g), .int a, .int b, .int c0, .int d, .int e0, .int f] "java/lang/IllegalStateException" := by
  have hb6 := hI.g6; have hb12 := hI.h12; have hbl := hI.l6; have hbs := hI.s30
  refine vx_ofW (cc := cX5_build) (maxL := 9) (ret := (some .int)) (by decide) rfl ?_
  intro p e s m args below meth c s₁ B hml hnt hv
  obtain ⟨rfl, hE, h0, hW⟩ := hv
  have hx := B.exec; have hb := B.bytes; have hts := hE.hts (args := ([.ref (ad 0), .int (nI g), .int a, .int b, .int c0, .int d, .int e0, .int f] : List Value).toArray); have hown : s.vm.findClass RX5 = some m.cls := findClass_of_methodNamed B.named; have hlocks := B.notSynchronized
  have hl := lv_entry ([.ref (ad 0), .int (nI g), .int a, .int b, .int c0, .int d, .int e0, .int f] : List Value) (n := 9) (Nat.le_of_ble_eq_true rfl)
  rw [lg_entry_eq]
  generalize (lg_sl ([.ref (ad 0), .int (nI g), .int a, .int b, .int c0, .int d, .int e0, .int f] : List Value) ++ List.replicate (9 - (lg_sl ([.ref (ad 0), .int (nI g), .int a, .int b, .int c0, .int d, .int e0, .int f] : List Value)).length) Slot.unset).toArray = ls at hl ⊢
  generalize hH : s.heap = H at hW ⊢
  have hS : va_S (Ab G.2.2.1) s.heap H [] := hH ▸ va_S.rf
  obtain ⟨locs, hlc⟩ : ∃ z : List Loc, z = [] := ⟨_, rfl⟩
  rw [← hlc] at hS ⊢
  have hl : lv_has ls 9 [(0, .ref (ad 0)), (1, .int (nI g)), (2, .int a), (3, .int b), (4, .int c0), (5, .int d), (6, .int e0), (7, .int f)] := hl
  refine lv_aload_n hx hb dX5_build_0 rfl (lv_at hl 0 rfl) ?_
  refine lv_iload_n hx hb dX5_build_1 rfl (lv_at hl 1 rfl) ?_
  refine q_cVvE (As := [.int (nI g)]) (rest := []) (r := 0) hx hb hml hts hown hE h0 hW hS (c_X5_checkGrower l hI hg) mw_X5_checkGrower (hI.c 0 (by decide)) rfl k_6 t_510 ⟨Nat.le_of_ble_eq_true rfl, Nat.le_of_ble_eq_true rfl⟩ rfl hl.1 (Nat.le_of_ble_eq_true rfl) dX5_build_2 ⟨Nat.zero_le _, Nat.zero_le _⟩ ⟨rfl, rfl⟩ (fun H locs hW hS => ?_)
  refine lv_iload hx hb dX5_build_5 (lv_at hl 4 rfl) ?_
  refine lv_iconst (v := 1) hx hb dX5_build_7 (by decide) ?_
  refine lv_bipush (v := 6) hx hb dX5_build_8 (by decide) ?_
  refine q_cSiE (As := [.int c0, .int 1, .int 6]) (rest := []) hx hb hml hts hown hE h0 hW hS (c_X5_isIn l c0 1 6) mw_X5_isIn t_318 ⟨Nat.le_of_ble_eq_true rfl, Nat.le_of_ble_eq_true rfl⟩ rfl hl.1 (Nat.le_of_ble_eq_true rfl) dX5_build_10 ⟨Nat.zero_le _, Nat.zero_le _⟩ ⟨rfl, rfl⟩ (fun H locs hW hS => ?_)
  refine lv_if_eq (tgt := 27) hx hb dX5_build_13 (by decide) (fun c_13 => ?_) (fun c_13 => ?_)
  · skip
    exact absurd (k1.symm.trans c_13) (by decide)
  · skip
    refine lv_iload hx hb dX5_build_16 (lv_at hl 5 rfl) ?_
    refine lv_iconst (v := 1) hx hb dX5_build_18 (by decide) ?_
    refine lv_bipush (v := 6) hx hb dX5_build_19 (by decide) ?_
    refine q_cSiE (As := [.int d, .int 1, .int 6]) (rest := []) hx hb hml hts hown hE h0 hW hS (c_X5_isIn l d 1 6) mw_X5_isIn t_318 ⟨Nat.le_of_ble_eq_true rfl, Nat.le_of_ble_eq_true rfl⟩ rfl hl.1 (Nat.le_of_ble_eq_true rfl) dX5_build_21 ⟨Nat.zero_le _, Nat.zero_le _⟩ ⟨rfl, rfl⟩ (fun H locs hW hS => ?_)
    refine lv_if_ne (tgt := 37) hx hb dX5_build_24 (by decide) (fun c_24 => ?_) (fun c_24 => ?_)
    · skip
      refine lv_iload_n hx hb dX5_build_37 rfl (lv_at hl 2 rfl) ?_
      refine lv_iconst (v := 0) hx hb dX5_build_38 (by decide) ?_
      refine lv_bipush (v := 20) hx hb dX5_build_39 (by decide) ?_
      refine lv_iload hx hb dX5_build_41 (lv_at hl 4 rfl) ?_
      refine lv_isub hx hb dX5_build_43 ?_
      refine q_cSiE (As := [.int a, .int 0, .int (20 - c0)]) (rest := []) hx hb hml hts hown hE h0 hW hS (c_X5_isIn l a 0 (20 - c0)) mw_X5_isIn t_318 ⟨Nat.le_of_ble_eq_true rfl, Nat.le_of_ble_eq_true rfl⟩ rfl hl.1 (Nat.le_of_ble_eq_true rfl) dX5_build_44 ⟨Nat.zero_le _, Nat.zero_le _⟩ ⟨rfl, rfl⟩ (fun H locs hW hS => ?_)
      refine lv_if_eq (tgt := 63) hx hb dX5_build_47 (by decide) (fun c_47 => ?_) (fun c_47 => ?_)
      · skip
        exact absurd (k3.symm.trans c_47) (by decide)
      · skip
        refine lv_iload_n hx hb dX5_build_50 rfl (lv_at hl 3 rfl) ?_
        refine lv_iconst (v := 0) hx hb dX5_build_51 (by decide) ?_
        refine lv_bipush (v := 20) hx hb dX5_build_52 (by decide) ?_
        refine lv_iload hx hb dX5_build_54 (lv_at hl 5 rfl) ?_
        refine lv_isub hx hb dX5_build_56 ?_
        refine q_cSiE (As := [.int b, .int 0, .int (20 - d)]) (rest := []) hx hb hml hts hown hE h0 hW hS (c_X5_isIn l b 0 (20 - d)) mw_X5_isIn t_318 ⟨Nat.le_of_ble_eq_true rfl, Nat.le_of_ble_eq_true rfl⟩ rfl hl.1 (Nat.le_of_ble_eq_true rfl) dX5_build_57 ⟨Nat.zero_le _, Nat.zero_le _⟩ ⟨rfl, rfl⟩ (fun H locs hW hS => ?_)
        refine lv_if_ne (tgt := 73) hx hb dX5_build_60 (by decide) (fun c_60 => ?_) (fun c_60 => ?_)
        · skip
          refine lv_iload hx hb dX5_build_73 (lv_at hl 6 rfl) ?_
          refine lv_iconst (v := 1) hx hb dX5_build_75 (by decide) ?_
          refine lv_bipush (v := 9) hx hb dX5_build_76 (by decide) ?_
          refine q_cSiE (As := [.int e0, .int 1, .int 9]) (rest := []) hx hb hml hts hown hE h0 hW hS (c_X5_isIn l e0 1 9) mw_X5_isIn t_318 ⟨Nat.le_of_ble_eq_true rfl, Nat.le_of_ble_eq_true rfl⟩ rfl hl.1 (Nat.le_of_ble_eq_true rfl) dX5_build_78 ⟨Nat.zero_le _, Nat.zero_le _⟩ ⟨rfl, rfl⟩ (fun H locs hW hS => ?_)
          refine lv_if_ne (tgt := 94) hx hb dX5_build_81 (by decide) (fun c_81 => ?_) (fun c_81 => ?_)
          · skip
            refine lv_iload hx hb dX5_build_94 (lv_at hl 7 rfl) ?_
            refine lv_iconst (v := 1) hx hb dX5_build_96 (by decide) ?_
            refine lv_sipush (v := 1000) hx hb dX5_build_97 (by decide) ?_
            refine q_cSiE (As := [.int f, .int 1, .int 1000]) (rest := []) hx hb hml hts hown hE h0 hW hS (c_X5_isIn l f 1 1000) mw_X5_isIn t_318 ⟨Nat.le_of_ble_eq_true rfl, Nat.le_of_ble_eq_true rfl⟩ rfl hl.1 (Nat.le_of_ble_eq_true rfl) dX5_build_100 ⟨Nat.zero_le _, Nat.zero_le _⟩ ⟨rfl, rfl⟩ (fun H locs hW hS => ?_)
            refine lv_if_ne (tgt := 116) hx hb dX5_build_103 (by decide) (fun c_103 => ?_) (fun c_103 => ?_)
            · skip
              refine lv_aload_n hx hb dX5_build_116 rfl (lv_at hl 0 rfl) ?_
              refine lv_iload_n hx hb dX5_build_117 rfl (lv_at hl 2 rfl) ?_
              refine lv_iload_n hx hb dX5_build_118 rfl (lv_at hl 3 rfl) ?_
              refine lv_iload hx hb dX5_build_119 (lv_at hl 4 rfl) ?_
              refine lv_iload hx hb dX5_build_121 (lv_at hl 5 rfl) ?_
              refine q_cViE (As := [.int a, .int b, .int c0, .int d]) (rest := []) (r := 0) hx hb hml hts hown hE h0 hW hS (c_X5_isBuiltOn l hI a b c0 d) mw_X5_isBuiltOn (hI.c 0 (by decide)) rfl k_6 t_534 ⟨Nat.le_of_ble_eq_true rfl, Nat.le_of_ble_eq_true rfl⟩ rfl hl.1 (Nat.le_of_ble_eq_true rfl) dX5_build_123 ⟨Nat.zero_le _, Nat.zero_le _⟩ ⟨rfl, rfl⟩ (fun H locs hW hS => ?_)
              refine lv_if_eq (tgt := 139) hx hb dX5_build_126 (by decide) (fun c_126 => ?_) (fun c_126 => ?_)
              · skip
                exact absurd (k7.symm.trans c_126) (by decide)
              · skip
                exact q_throw hx hb hst9 hml hl.1 hts hown hE hnt hlocks (by decide) t_389 t_57 (is := 85) (text := "the house overlaps another one") (by decide) xa_60 xg_60 hW hS dX5_build_129 dX5_build_132 dX5_build_133 dX5_build_135 dX5_build_138 (Nat.le_of_ble_eq_true rfl) (Nat.le_of_ble_eq_true rfl) (by first | decide | omega | (dsimp only; omega)) (by first | decide | omega | (dsimp only; omega)) (by first | decide | omega | (dsimp only; omega)) (by first | decide | omega | (dsimp only; omega)) (fun _ h => h)
            · skip
              exact absurd (k6.symm.trans c_103) (by decide)
          · skip
            exact absurd (k5.symm.trans c_81) (by decide)
        · skip
          exact absurd (k4.symm.trans c_60) (by decide)
    · skip
      exact absurd (k2.symm.trans c_24) (by decide)

set_option maxHeartbeats 4000000 in
set_option maxRecDepth 100000 in
theorem x_X5_build_3b (l : Launch) (hst9 : l.stackTraces = false) {G : GG} {L : List Nat} {ad : Nat → Nat} {v : Nat → Nat → Int32} {o : Nat → Nat → Option Nat} {w : Nat → Int64} {ng nh nl ns : Nat} {ow gx gy gw gd : Nat → Nat} (hI : PI G.2.2.2 L ad v o ng nh nl ns ow gx gy gw gd) {g : Nat} (hg : g < ng) {a b c0 d e0 f : Int32} (k1 : fIn c0 1 6 = 1) (k2 : fIn d 1 6 = 1) (k3 : fIn a 0 (20 - c0) = 1) (k4 : fIn b 0 (20 - d) = 1) (k5 : fIn e0 1 9 = 1) (k6 : fIn f 1 1000 = 1) (k7 : fBuilt v a b c0 d nh = 0) (k8 : nh = 12) : CtXi l G L ad v o w yX5_build cX5_build 9 .int ({ frames := 6, cells := 1, slots := 6, locals := 125 }) [.ref (ad 0), .int (nI g), .int a, .int b, .int c0, .int d, .int e0, .int f] "java/lang/IllegalStateException" := by
  have hb6 := hI.g6; have hb12 := hI.h12; have hbl := hI.l6; have hbs := hI.s30
  refine vx_ofW (cc := cX5_build) (maxL := 9) (ret := (some .int)) (by decide) rfl ?_
  intro p e s m args below meth c s₁ B hml hnt hv
  obtain ⟨rfl, hE, h0, hW⟩ := hv
  have hx := B.exec; have hb := B.bytes; have hts := hE.hts (args := ([.ref (ad 0), .int (nI g), .int a, .int b, .int c0, .int d, .int e0, .int f] : List Value).toArray); have hown : s.vm.findClass RX5 = some m.cls := findClass_of_methodNamed B.named; have hlocks := B.notSynchronized
  have hl := lv_entry ([.ref (ad 0), .int (nI g), .int a, .int b, .int c0, .int d, .int e0, .int f] : List Value) (n := 9) (Nat.le_of_ble_eq_true rfl)
  rw [lg_entry_eq]
  generalize (lg_sl ([.ref (ad 0), .int (nI g), .int a, .int b, .int c0, .int d, .int e0, .int f] : List Value) ++ List.replicate (9 - (lg_sl ([.ref (ad 0), .int (nI g), .int a, .int b, .int c0, .int d, .int e0, .int f] : List Value)).length) Slot.unset).toArray = ls at hl ⊢
  generalize hH : s.heap = H at hW ⊢
  have hS : va_S (Ab G.2.2.1) s.heap H [] := hH ▸ va_S.rf
  obtain ⟨locs, hlc⟩ : ∃ z : List Loc, z = [] := ⟨_, rfl⟩
  rw [← hlc] at hS ⊢
  have hl : lv_has ls 9 [(0, .ref (ad 0)), (1, .int (nI g)), (2, .int a), (3, .int b), (4, .int c0), (5, .int d), (6, .int e0), (7, .int f)] := hl
  refine lv_aload_n hx hb dX5_build_0 rfl (lv_at hl 0 rfl) ?_
  refine lv_iload_n hx hb dX5_build_1 rfl (lv_at hl 1 rfl) ?_
  refine q_cVvE (As := [.int (nI g)]) (rest := []) (r := 0) hx hb hml hts hown hE h0 hW hS (c_X5_checkGrower l hI hg) mw_X5_checkGrower (hI.c 0 (by decide)) rfl k_6 t_510 ⟨Nat.le_of_ble_eq_true rfl, Nat.le_of_ble_eq_true rfl⟩ rfl hl.1 (Nat.le_of_ble_eq_true rfl) dX5_build_2 ⟨Nat.zero_le _, Nat.zero_le _⟩ ⟨rfl, rfl⟩ (fun H locs hW hS => ?_)
  refine lv_iload hx hb dX5_build_5 (lv_at hl 4 rfl) ?_
  refine lv_iconst (v := 1) hx hb dX5_build_7 (by decide) ?_
  refine lv_bipush (v := 6) hx hb dX5_build_8 (by decide) ?_
  refine q_cSiE (As := [.int c0, .int 1, .int 6]) (rest := []) hx hb hml hts hown hE h0 hW hS (c_X5_isIn l c0 1 6) mw_X5_isIn t_318 ⟨Nat.le_of_ble_eq_true rfl, Nat.le_of_ble_eq_true rfl⟩ rfl hl.1 (Nat.le_of_ble_eq_true rfl) dX5_build_10 ⟨Nat.zero_le _, Nat.zero_le _⟩ ⟨rfl, rfl⟩ (fun H locs hW hS => ?_)
  refine lv_if_eq (tgt := 27) hx hb dX5_build_13 (by decide) (fun c_13 => ?_) (fun c_13 => ?_)
  · skip
    exact absurd (k1.symm.trans c_13) (by decide)
  · skip
    refine lv_iload hx hb dX5_build_16 (lv_at hl 5 rfl) ?_
    refine lv_iconst (v := 1) hx hb dX5_build_18 (by decide) ?_
    refine lv_bipush (v := 6) hx hb dX5_build_19 (by decide) ?_
    refine q_cSiE (As := [.int d, .int 1, .int 6]) (rest := []) hx hb hml hts hown hE h0 hW hS (c_X5_isIn l d 1 6) mw_X5_isIn t_318 ⟨Nat.le_of_ble_eq_true rfl, Nat.le_of_ble_eq_true rfl⟩ rfl hl.1 (Nat.le_of_ble_eq_true rfl) dX5_build_21 ⟨Nat.zero_le _, Nat.zero_le _⟩ ⟨rfl, rfl⟩ (fun H locs hW hS => ?_)
    refine lv_if_ne (tgt := 37) hx hb dX5_build_24 (by decide) (fun c_24 => ?_) (fun c_24 => ?_)
    · skip
      refine lv_iload_n hx hb dX5_build_37 rfl (lv_at hl 2 rfl) ?_
      refine lv_iconst (v := 0) hx hb dX5_build_38 (by decide) ?_
      refine lv_bipush (v := 20) hx hb dX5_build_39 (by decide) ?_
      refine lv_iload hx hb dX5_build_41 (lv_at hl 4 rfl) ?_
      refine lv_isub hx hb dX5_build_43 ?_
      refine q_cSiE (As := [.int a, .int 0, .int (20 - c0)]) (rest := []) hx hb hml hts hown hE h0 hW hS (c_X5_isIn l a 0 (20 - c0)) mw_X5_isIn t_318 ⟨Nat.le_of_ble_eq_true rfl, Nat.le_of_ble_eq_true rfl⟩ rfl hl.1 (Nat.le_of_ble_eq_true rfl) dX5_build_44 ⟨Nat.zero_le _, Nat.zero_le _⟩ ⟨rfl, rfl⟩ (fun H locs hW hS => ?_)
      refine lv_if_eq (tgt := 63) hx hb dX5_build_47 (by decide) (fun c_47 => ?_) (fun c_47 => ?_)
      · skip
        exact absurd (k3.symm.trans c_47) (by decide)
      · skip
        refine lv_iload_n hx hb dX5_build_50 rfl (lv_at hl 3 rfl) ?_
        refine lv_iconst (v := 0) hx hb dX5_build_51 (by decide) ?_
        refine lv_bipush (v := 20) hx hb dX5_build_52 (by decide) ?_
        refine lv_iload hx hb dX5_build_54 (lv_at hl 5 rfl) ?_
        refine lv_isub hx hb dX5_build_56 ?_
        refine q_cSiE (As := [.int b, .int 0, .int (20 - d)]) (rest := []) hx hb hml hts hown hE h0 hW hS (c_X5_isIn l b 0 (20 - d)) mw_X5_isIn t_318 ⟨Nat.le_of_ble_eq_true rfl, Nat.le_of_ble_eq_true rfl⟩ rfl hl.1 (Nat.le_of_ble_eq_true rfl) dX5_build_57 ⟨Nat.zero_le _, Nat.zero_le _⟩ ⟨rfl, rfl⟩ (fun H locs hW hS => ?_)
        refine lv_if_ne (tgt := 73) hx hb dX5_build_60 (by decide) (fun c_60 => ?_) (fun c_60 => ?_)
        · skip
          refine lv_iload hx hb dX5_build_73 (lv_at hl 6 rfl) ?_
          refine lv_iconst (v := 1) hx hb dX5_build_75 (by decide) ?_
          refine lv_bipush (v := 9) hx hb dX5_build_76 (by decide) ?_
          refine q_cSiE (As := [.int e0, .int 1, .int 9]) (rest := []) hx hb hml hts hown hE h0 hW hS (c_X5_isIn l e0 1 9) mw_X5_isIn t_318 ⟨Nat.le_of_ble_eq_true rfl, Nat.le_of_ble_eq_true rfl⟩ rfl hl.1 (Nat.le_of_ble_eq_true rfl) dX5_build_78 ⟨Nat.zero_le _, Nat.zero_le _⟩ ⟨rfl, rfl⟩ (fun H locs hW hS => ?_)
          refine lv_if_ne (tgt := 94) hx hb dX5_build_81 (by decide) (fun c_81 => ?_) (fun c_81 => ?_)
          · skip
            refine lv_iload hx hb dX5_build_94 (lv_at hl 7 rfl) ?_
            refine lv_iconst (v := 1) hx hb dX5_build_96 (by decide) ?_
            refine lv_sipush (v := 1000) hx hb dX5_build_97 (by decide) ?_
            refine q_cSiE (As := [.int f, .int 1, .int 1000]) (rest := []) hx hb hml hts hown hE h0 hW hS (c_X5_isIn l f 1 1000) mw_X5_isIn t_318 ⟨Nat.le_of_ble_eq_true rfl, Nat.le_of_ble_eq_true rfl⟩ rfl hl.1 (Nat.le_of_ble_eq_true rfl) dX5_build_100 ⟨Nat.zero_le _, Nat.zero_le _⟩ ⟨rfl, rfl⟩ (fun H locs hW hS => ?_)
            refine lv_if_ne (tgt := 116) hx hb dX5_build_103 (by decide) (fun c_103 => ?_) (fun c_103 => ?_)
            · skip
              refine lv_aload_n hx hb dX5_build_116 rfl (lv_at hl 0 rfl) ?_
              refine lv_iload_n hx hb dX5_build_117 rfl (lv_at hl 2 rfl) ?_
              refine lv_iload_n hx hb dX5_build_118 rfl (lv_at hl 3 rfl) ?_
              refine lv_iload hx hb dX5_build_119 (lv_at hl 4 rfl) ?_
              refine lv_iload hx hb dX5_build_121 (lv_at hl 5 rfl) ?_
              refine q_cViE (As := [.int a, .int b, .int c0, .int d]) (rest := []) (r := 0) hx hb hml hts hown hE h0 hW hS (c_X5_isBuiltOn l hI a b c0 d) mw_X5_isBuiltOn (hI.c 0 (by decide)) rfl k_6 t_534 ⟨Nat.le_of_ble_eq_true rfl, Nat.le_of_ble_eq_true rfl⟩ rfl hl.1 (Nat.le_of_ble_eq_true rfl) dX5_build_123 ⟨Nat.zero_le _, Nat.zero_le _⟩ ⟨rfl, rfl⟩ (fun H locs hW hS => ?_)
              refine lv_if_eq (tgt := 139) hx hb dX5_build_126 (by decide) (fun c_126 => ?_) (fun c_126 => ?_)
              · skip
                refine lv_aload_n hx hb dX5_build_139 rfl (lv_at hl 0 rfl) ?_
                refine q_getr hx hb hts hown hW (r := 0) (hI.c 0 (by decide)) rfl k_6 1 (by decide) rfl t_138 (a := ad 2) (hI.o0 1 (by decide)) dX5_build_140 ?_
                refine q_cFiE (As := []) (rest := []) (r := 2) hx hb hml hts hown hE h0 hW hS hE.2.1 (c_size l hI.lh) t_178 t_176 t_174 t_49 (by decide) (by decide +kernel) (hI.c 2 (by decide)) rfl k_0 t_170 ⟨Nat.le_of_ble_eq_true rfl, Nat.le_of_ble_eq_true rfl⟩ rfl hl.1 (Nat.le_of_ble_eq_true rfl) dX5_build_143 ⟨Nat.zero_le _, Nat.zero_le _⟩ ⟨rfl, rfl⟩ (fun H locs hW hS => ?_)
                refine lv_bipush (v := 12) hx hb dX5_build_148 (by decide) ?_
                refine lv_icmp_lt (tgt := 163) hx hb dX5_build_150 (by decide) (fun c_150 => ?_) (fun c_150 => ?_)
                · skip
                  exact absurd c_150 (by rw [k8]; decide)
                · skip
                  exact q_throw hx hb hst9 hml hl.1 hts hown hE hnt hlocks (by decide) t_389 t_57 (is := 87) (text := "there are 12 houses") (by decide) xa_60 xg_60 hW hS dX5_build_153 dX5_build_156 dX5_build_157 dX5_build_159 dX5_build_162 (Nat.le_of_ble_eq_true rfl) (Nat.le_of_ble_eq_true rfl) (by first | decide | omega | (dsimp only; omega)) (by first | decide | omega | (dsimp only; omega)) (by first | decide | omega | (dsimp only; omega)) (by first | decide | omega | (dsimp only; omega)) (fun _ h => h)
              · skip
                exact absurd k7 c_126
            · skip
              exact absurd (k6.symm.trans c_103) (by decide)
          · skip
            exact absurd (k5.symm.trans c_81) (by decide)
        · skip
          exact absurd (k4.symm.trans c_60) (by decide)
    · skip
      exact absurd (k2.symm.trans c_24) (by decide)

set_option maxHeartbeats 4000000 in
set_option maxRecDepth 100000 in
theorem x_X5_storm_1 (l : Launch) (hst9 : l.stackTraces = false) {G : GG} {L : List Nat} {ad : Nat → Nat} {v : Nat → Nat → Int32} {o : Nat → Nat → Option Nat} {w : Nat → Int64} {ng nh nl ns : Nat} {ow gx gy gw gd : Nat → Nat} (hI : PI G.2.2.2 L ad v o ng nh nl ns ow gx gy gw gd) (hr180 : 180 ∉ L) {a b c0 d e0 f g0 : Int32} (k1 : fSto a b c0 d e0 f g0 = 0) : CtXi l G L ad v o w yX5_storm cX5_storm 9 .int ({ frames := 7, cells := 2, slots := 13, locals := 102 }) [.ref (ad 0), .int a, .int b, .int c0, .int d, .int e0, .int f, .int g0] "java/lang/IllegalArgumentException" := by
  have hb6 := hI.g6; have hb12 := hI.h12; have hbl := hI.l6; have hbs := hI.s30
  refine vx_ofW (cc := cX5_storm) (maxL := 9) (ret := (some .int)) (by decide) rfl ?_
  intro p e s m args below meth c s₁ B hml hnt hv
  obtain ⟨rfl, hE, h0, hW⟩ := hv
  have hx := B.exec; have hb := B.bytes; have hts := hE.hts (args := ([.ref (ad 0), .int a, .int b, .int c0, .int d, .int e0, .int f, .int g0] : List Value).toArray); have hown : s.vm.findClass RX5 = some m.cls := findClass_of_methodNamed B.named; have hlocks := B.notSynchronized
  have hl := lv_entry ([.ref (ad 0), .int a, .int b, .int c0, .int d, .int e0, .int f, .int g0] : List Value) (n := 9) (Nat.le_of_ble_eq_true rfl)
  rw [lg_entry_eq]
  generalize (lg_sl ([.ref (ad 0), .int a, .int b, .int c0, .int d, .int e0, .int f, .int g0] : List Value) ++ List.replicate (9 - (lg_sl ([.ref (ad 0), .int a, .int b, .int c0, .int d, .int e0, .int f, .int g0] : List Value)).length) Slot.unset).toArray = ls at hl ⊢
  generalize hH : s.heap = H at hW ⊢
  have hS : va_S (Ab G.2.2.1) s.heap H [] := hH ▸ va_S.rf
  obtain ⟨locs, hlc⟩ : ∃ z : List Loc, z = [] := ⟨_, rfl⟩
  rw [← hlc] at hS ⊢
  have hl : lv_has ls 9 [(0, .ref (ad 0)), (1, .int a), (2, .int b), (3, .int c0), (4, .int d), (5, .int e0), (6, .int f), (7, .int g0)] := hl
  refine q_new hx hb hts hown h0 hW hS 180 hr180 rfl k_4 t_712 t_713 t_68 (by intro j hj; match j, hj with | 0, _ => rfl | 1, _ => rfl | 2, _ => rfl | 3, _ => rfl | 4, _ => rfl | 5, _ => rfl | 6, _ => rfl) (by first | decide | omega | (dsimp only; omega)) (by first | decide | omega | (dsimp only; omega)) dX5_storm_0 (fun ad1 H q9 had hW hS => ?_)
  have hI := hI.new (r := 180) (a := z32) (b := nOp) (by decide) had
  have hF : offR 180 (up1 v 180 z32) v := off_new
  generalize ho9 : up1 o 180 nOp = o1 at hW hI
  have hl : lv_has ls 9 [(0, .ref (ad1 0)), (1, .int a), (2, .int b), (3, .int c0), (4, .int d), (5, .int e0), (6, .int f), (7, .int g0)] := by subst had; exact hl
  refine lv_dup hx hb dX5_storm_3 rfl ?_
  refine lv_iload_n hx hb dX5_storm_4 rfl (lv_at hl 1 rfl) ?_
  refine lv_iload_n hx hb dX5_storm_5 rfl (lv_at hl 2 rfl) ?_
  refine lv_iload_n hx hb dX5_storm_6 rfl (lv_at hl 3 rfl) ?_
  refine lv_iload hx hb dX5_storm_7 (lv_at hl 4 rfl) ?_
  refine lv_iload hx hb dX5_storm_9 (lv_at hl 5 rfl) ?_
  refine lv_iload hx hb dX5_storm_11 (lv_at hl 6 rfl) ?_
  refine lv_iload hx hb dX5_storm_13 (lv_at hl 7 rfl) ?_
  refine q_cIE (As := [.int a, .int b, .int c0, .int d, .int e0, .int f, .int g0]) (rest := [.ref (ad1 180)]) (r := 180) hx hb hml hts hown hE h0 hW hS (c_X3_init l (r := 180) (List.mem_append_right _ (List.mem_singleton.mpr rfl)) rfl a b c0 d e0 f g0) mw_X3_init t_714 ⟨Nat.le_of_ble_eq_true rfl, Nat.le_of_ble_eq_true rfl⟩ rfl hl.1 (Nat.le_of_ble_eq_true rfl) dX5_storm_15 ⟨(by first | decide | omega | (dsimp only; omega)), (by first | decide | omega | (dsimp only; omega))⟩ ⟨rfl, rfl⟩ (fun H locs hW hS => ?_)
  refine lv_astore (lv' := [(8, .ref (ad1 180)), (0, .ref (ad1 0)), (1, .int a), (2, .int b), (3, .int c0), (4, .int d), (5, .int e0), (6, .int f), (7, .int g0)]) hx hb dX5_storm_18 hl (by decide) rfl (fun ls hl => ?_)
  refine lv_aload hx hb dX5_storm_20 (lv_at hl 0 rfl) ?_
  exact q_xS (As := [.ref (ad1 180)]) (rest := []) hx hb hml hts hown hE h0 hW hS hnt hlocks (x_X5_checkStorm l hst9 (List.mem_append_right _ (List.mem_singleton.mpr rfl)) k1) mw_X5_checkStorm t_747 ⟨Nat.le_of_ble_eq_true rfl, Nat.le_of_ble_eq_true rfl⟩ rfl hl.1 (Nat.le_of_ble_eq_true rfl) dX5_storm_22 ⟨(by first | decide | omega | (dsimp only; omega)), (by first | decide | omega | (dsimp only; omega))⟩ (by first | decide | omega | (dsimp only; omega)) (by first | decide | omega | (dsimp only; omega)) (fun _ h => h.forget hr180 had ho9 (off_iS hF))

set_option maxHeartbeats 4000000 in
set_option maxRecDepth 100000 in
theorem x_X5_storm_2 (l : Launch) (hst9 : l.stackTraces = false) {G : GG} {L : List Nat} {ad : Nat → Nat} {v : Nat → Nat → Int32} {o : Nat → Nat → Option Nat} {w : Nat → Int64} {ng nh nl ns : Nat} {ow gx gy gw gd : Nat → Nat} (hI : PI G.2.2.2 L ad v o ng nh nl ns ow gx gy gw gd) (hr180 : 180 ∉ L) {a b c0 d e0 f g0 : Int32} (k1 : fSto a b c0 d e0 f g0 = 1) (k2 : ns = 30) : CtXi l G L ad v o w yX5_storm cX5_storm 9 .int ({ frames := 6, cells := 2, slots := 13, locals := 82 }) [.ref (ad 0), .int a, .int b, .int c0, .int d, .int e0, .int f, .int g0] "java/lang/IllegalStateException" := by
  have hb6 := hI.g6; have hb12 := hI.h12; have hbl := hI.l6; have hbs := hI.s30
  refine vx_ofW (cc := cX5_storm) (maxL := 9) (ret := (some .int)) (by decide) rfl ?_
  intro p e s m args below meth c s₁ B hml hnt hv
  obtain ⟨rfl, hE, h0, hW⟩ := hv
  have hx := B.exec; have hb := B.bytes; have hts := hE.hts (args := ([.ref (ad 0), .int a, .int b, .int c0, .int d, .int e0, .int f, .int g0] : List Value).toArray); have hown : s.vm.findClass RX5 = some m.cls := findClass_of_methodNamed B.named; have hlocks := B.notSynchronized
  have hl := lv_entry ([.ref (ad 0), .int a, .int b, .int c0, .int d, .int e0, .int f, .int g0] : List Value) (n := 9) (Nat.le_of_ble_eq_true rfl)
  rw [lg_entry_eq]
  generalize (lg_sl ([.ref (ad 0), .int a, .int b, .int c0, .int d, .int e0, .int f, .int g0] : List Value) ++ List.replicate (9 - (lg_sl ([.ref (ad 0), .int a, .int b, .int c0, .int d, .int e0, .int f, .int g0] : List Value)).length) Slot.unset).toArray = ls at hl ⊢
  generalize hH : s.heap = H at hW ⊢
  have hS : va_S (Ab G.2.2.1) s.heap H [] := hH ▸ va_S.rf
  obtain ⟨locs, hlc⟩ : ∃ z : List Loc, z = [] := ⟨_, rfl⟩
  rw [← hlc] at hS ⊢
  have hl : lv_has ls 9 [(0, .ref (ad 0)), (1, .int a), (2, .int b), (3, .int c0), (4, .int d), (5, .int e0), (6, .int f), (7, .int g0)] := hl
  refine q_new hx hb hts hown h0 hW hS 180 hr180 rfl k_4 t_712 t_713 t_68 (by intro j hj; match j, hj with | 0, _ => rfl | 1, _ => rfl | 2, _ => rfl | 3, _ => rfl | 4, _ => rfl | 5, _ => rfl | 6, _ => rfl) (by first | decide | omega | (dsimp only; omega)) (by first | decide | omega | (dsimp only; omega)) dX5_storm_0 (fun ad1 H q9 had hW hS => ?_)
  have hI := hI.new (r := 180) (a := z32) (b := nOp) (by decide) had
  have hF : offR 180 (up1 v 180 z32) v := off_new
  generalize ho9 : up1 o 180 nOp = o1 at hW hI
  have hl : lv_has ls 9 [(0, .ref (ad1 0)), (1, .int a), (2, .int b), (3, .int c0), (4, .int d), (5, .int e0), (6, .int f), (7, .int g0)] := by subst had; exact hl
  refine lv_dup hx hb dX5_storm_3 rfl ?_
  refine lv_iload_n hx hb dX5_storm_4 rfl (lv_at hl 1 rfl) ?_
  refine lv_iload_n hx hb dX5_storm_5 rfl (lv_at hl 2 rfl) ?_
  refine lv_iload_n hx hb dX5_storm_6 rfl (lv_at hl 3 rfl) ?_
  refine lv_iload hx hb dX5_storm_7 (lv_at hl 4 rfl) ?_
  refine lv_iload hx hb dX5_storm_9 (lv_at hl 5 rfl) ?_
  refine lv_iload hx hb dX5_storm_11 (lv_at hl 6 rfl) ?_
  refine lv_iload hx hb dX5_storm_13 (lv_at hl 7 rfl) ?_
  refine q_cIE (As := [.int a, .int b, .int c0, .int d, .int e0, .int f, .int g0]) (rest := [.ref (ad1 180)]) (r := 180) hx hb hml hts hown hE h0 hW hS (c_X3_init l (r := 180) (List.mem_append_right _ (List.mem_singleton.mpr rfl)) rfl a b c0 d e0 f g0) mw_X3_init t_714 ⟨Nat.le_of_ble_eq_true rfl, Nat.le_of_ble_eq_true rfl⟩ rfl hl.1 (Nat.le_of_ble_eq_true rfl) dX5_storm_15 ⟨(by first | decide | omega | (dsimp only; omega)), (by first | decide | omega | (dsimp only; omega))⟩ ⟨rfl, rfl⟩ (fun H locs hW hS => ?_)
  refine lv_astore (lv' := [(8, .ref (ad1 180)), (0, .ref (ad1 0)), (1, .int a), (2, .int b), (3, .int c0), (4, .int d), (5, .int e0), (6, .int f), (7, .int g0)]) hx hb dX5_storm_18 hl (by decide) rfl (fun ls hl => ?_)
  refine lv_aload hx hb dX5_storm_20 (lv_at hl 0 rfl) ?_
  refine q_cSvE (As := [.ref (ad1 180)]) (rest := []) hx hb hml hts hown hE h0 hW hS (c_X5_checkStorm l (List.mem_append_right _ (List.mem_singleton.mpr rfl)) k1) mw_X5_checkStorm t_747 ⟨Nat.le_of_ble_eq_true rfl, Nat.le_of_ble_eq_true rfl⟩ rfl hl.1 (Nat.le_of_ble_eq_true rfl) dX5_storm_22 ⟨(by first | decide | omega | (dsimp only; omega)), (by first | decide | omega | (dsimp only; omega))⟩ ⟨rfl, rfl⟩ (fun H locs hW hS => ?_)
  refine lv_aload_n hx hb dX5_storm_25 rfl (lv_at hl 1 rfl) ?_
  refine q_get hx hb hts hown hW (r := 0) (hI.c 0 (by decide)) rfl k_6 7 (by decide) rfl t_144 (x := (nI ns)) hI.eS dX5_storm_26 ?_
  refine lv_bipush (v := 30) hx hb dX5_storm_29 (by decide) ?_
  refine lv_icmp_lt (tgt := 44) hx hb dX5_storm_31 (by decide) (fun c_31 => ?_) (fun c_31 => ?_)
  · skip
    exact absurd c_31 (by rw [k2]; decide)
  · skip
    exact q_throw hx hb hst9 hml hl.1 hts hown hE hnt hlocks (by decide) t_389 t_57 (is := 212) (text := "there were 30 storms in this year") (by decide) xa_60 xg_60 hW hS dX5_storm_34 dX5_storm_37 dX5_storm_38 dX5_storm_40 dX5_storm_43 (Nat.le_of_ble_eq_true rfl) (Nat.le_of_ble_eq_true rfl) (by first | decide | omega | (dsimp only; omega)) (by first | decide | omega | (dsimp only; omega)) (by first | decide | omega | (dsimp only; omega)) (by first | decide | omega | (dsimp only; omega)) (fun _ h => h.forget hr180 had ho9 (off_iS hF))

set_option maxHeartbeats 4000000 in
set_option maxRecDepth 100000 in
theorem x_X5_wouldBe_1 (l : Launch) (hst9 : l.stackTraces = false) {G : GG} {L : List Nat} {ad : Nat → Nat} {v : Nat → Nat → Int32} {o : Nat → Nat → Option Nat} {w : Nat → Int64} {ng nh nl ns : Nat} {ow gx gy gw gd : Nat → Nat} (hI : PI G.2.2.2 L ad v o ng nh nl ns ow gx gy gw gd) (hr180 : 180 ∉ L) {a b c0 d e0 f g0 h9 : Int32} (k1 : fSto a b c0 d e0 f g0 = 0) : CtXi l G L ad v o w yX5_wouldBe cX5_wouldBe 10 .int ({ frames := 7, cells := 2, slots := 13, locals := 102 }) [.ref (ad 0), .int a, .int b, .int c0, .int d, .int e0, .int f, .int g0, .int h9] "java/lang/IllegalArgumentException" := by
  have hb6 := hI.g6; have hb12 := hI.h12; have hbl := hI.l6; have hbs := hI.s30
  refine vx_ofW (cc := cX5_wouldBe) (maxL := 10) (ret := (some .int)) (by decide) rfl ?_
  intro p e s m args below meth c s₁ B hml hnt hv
  obtain ⟨rfl, hE, h0, hW⟩ := hv
  have hx := B.exec; have hb := B.bytes; have hts := hE.hts (args := ([.ref (ad 0), .int a, .int b, .int c0, .int d, .int e0, .int f, .int g0, .int h9] : List Value).toArray); have hown : s.vm.findClass RX5 = some m.cls := findClass_of_methodNamed B.named; have hlocks := B.notSynchronized
  have hl := lv_entry ([.ref (ad 0), .int a, .int b, .int c0, .int d, .int e0, .int f, .int g0, .int h9] : List Value) (n := 10) (Nat.le_of_ble_eq_true rfl)
  rw [lg_entry_eq]
  generalize (lg_sl ([.ref (ad 0), .int a, .int b, .int c0, .int d, .int e0, .int f, .int g0, .int h9] : List Value) ++ List.replicate (10 - (lg_sl ([.ref (ad 0), .int a, .int b, .int c0, .int d, .int e0, .int f, .int g0, .int h9] : List Value)).length) Slot.unset).toArray = ls at hl ⊢
  generalize hH : s.heap = H at hW ⊢
  have hS : va_S (Ab G.2.2.1) s.heap H [] := hH ▸ va_S.rf
  obtain ⟨locs, hlc⟩ : ∃ z : List Loc, z = [] := ⟨_, rfl⟩
  rw [← hlc] at hS ⊢
  have hl : lv_has ls 10 [(0, .ref (ad 0)), (1, .int a), (2, .int b), (3, .int c0), (4, .int d), (5, .int e0), (6, .int f), (7, .int g0), (8, .int h9)] := hl
  refine q_new hx hb hts hown h0 hW hS 180 hr180 rfl k_4 t_712 t_713 t_68 (by intro j hj; match j, hj with | 0, _ => rfl | 1, _ => rfl | 2, _ => rfl | 3, _ => rfl | 4, _ => rfl | 5, _ => rfl | 6, _ => rfl) (by first | decide | omega | (dsimp only; omega)) (by first | decide | omega | (dsimp only; omega)) dX5_wouldBe_0 (fun ad1 H q9 had hW hS => ?_)
  have hI := hI.new (r := 180) (a := z32) (b := nOp) (by decide) had
  have hF : offR 180 (up1 v 180 z32) v := off_new
  generalize ho9 : up1 o 180 nOp = o1 at hW hI
  have hl : lv_has ls 10 [(0, .ref (ad1 0)), (1, .int a), (2, .int b), (3, .int c0), (4, .int d), (5, .int e0), (6, .int f), (7, .int g0), (8, .int h9)] := by subst had; exact hl
  refine lv_dup hx hb dX5_wouldBe_3 rfl ?_
  refine lv_iload_n hx hb dX5_wouldBe_4 rfl (lv_at hl 1 rfl) ?_
  refine lv_iload_n hx hb dX5_wouldBe_5 rfl (lv_at hl 2 rfl) ?_
  refine lv_iload_n hx hb dX5_wouldBe_6 rfl (lv_at hl 3 rfl) ?_
  refine lv_iload hx hb dX5_wouldBe_7 (lv_at hl 4 rfl) ?_
  refine lv_iload hx hb dX5_wouldBe_9 (lv_at hl 5 rfl) ?_
  refine lv_iload hx hb dX5_wouldBe_11 (lv_at hl 6 rfl) ?_
  refine lv_iload hx hb dX5_wouldBe_13 (lv_at hl 7 rfl) ?_
  refine q_cIE (As := [.int a, .int b, .int c0, .int d, .int e0, .int f, .int g0]) (rest := [.ref (ad1 180)]) (r := 180) hx hb hml hts hown hE h0 hW hS (c_X3_init l (r := 180) (List.mem_append_right _ (List.mem_singleton.mpr rfl)) rfl a b c0 d e0 f g0) mw_X3_init t_714 ⟨Nat.le_of_ble_eq_true rfl, Nat.le_of_ble_eq_true rfl⟩ rfl hl.1 (Nat.le_of_ble_eq_true rfl) dX5_wouldBe_15 ⟨(by first | decide | omega | (dsimp only; omega)), (by first | decide | omega | (dsimp only; omega))⟩ ⟨rfl, rfl⟩ (fun H locs hW hS => ?_)
  refine lv_astore (lv' := [(9, .ref (ad1 180)), (0, .ref (ad1 0)), (1, .int a), (2, .int b), (3, .int c0), (4, .int d), (5, .int e0), (6, .int f), (7, .int g0), (8, .int h9)]) hx hb dX5_wouldBe_18 hl (by decide) rfl (fun ls hl => ?_)
  refine lv_aload hx hb dX5_wouldBe_20 (lv_at hl 0 rfl) ?_
  exact q_xS (As := [.ref (ad1 180)]) (rest := []) hx hb hml hts hown hE h0 hW hS hnt hlocks (x_X5_checkStorm l hst9 (List.mem_append_right _ (List.mem_singleton.mpr rfl)) k1) mw_X5_checkStorm t_747 ⟨Nat.le_of_ble_eq_true rfl, Nat.le_of_ble_eq_true rfl⟩ rfl hl.1 (Nat.le_of_ble_eq_true rfl) dX5_wouldBe_22 ⟨(by first | decide | omega | (dsimp only; omega)), (by first | decide | omega | (dsimp only; omega))⟩ (by first | decide | omega | (dsimp only; omega)) (by first | decide | omega | (dsimp only; omega)) (fun _ h => h.forget hr180 had ho9 (off_iS hF))

set_option maxHeartbeats 4000000 in
set_option maxRecDepth 100000 in
theorem x_X5_wouldBe_2 (l : Launch) (hst9 : l.stackTraces = false) {G : GG} {L : List Nat} {ad : Nat → Nat} {v : Nat → Nat → Int32} {o : Nat → Nat → Option Nat} {w : Nat → Int64} {ng nh nl ns : Nat} {ow gx gy gw gd : Nat → Nat} (hI : PI G.2.2.2 L ad v o ng nh nl ns ow gx gy gw gd) (hr180 : 180 ∉ L) {a b c0 d e0 f g0 h9 : Int32} (k1 : fSto a b c0 d e0 f g0 = 1) (k2 : fIn h9 0 5 = 0) : CtXi l G L ad v o w yX5_wouldBe cX5_wouldBe 10 .int ({ frames := 7, cells := 2, slots := 13, locals := 103 }) [.ref (ad 0), .int a, .int b, .int c0, .int d, .int e0, .int f, .int g0, .int h9] "java/lang/IndexOutOfBoundsException" := by
  have hb6 := hI.g6; have hb12 := hI.h12; have hbl := hI.l6; have hbs := hI.s30
  refine vx_ofW (cc := cX5_wouldBe) (maxL := 10) (ret := (some .int)) (by decide) rfl ?_
  intro p e s m args below meth c s₁ B hml hnt hv
  obtain ⟨rfl, hE, h0, hW⟩ := hv
  have hx := B.exec; have hb := B.bytes; have hts := hE.hts (args := ([.ref (ad 0), .int a, .int b, .int c0, .int d, .int e0, .int f, .int g0, .int h9] : List Value).toArray); have hown : s.vm.findClass RX5 = some m.cls := findClass_of_methodNamed B.named; have hlocks := B.notSynchronized
  have hl := lv_entry ([.ref (ad 0), .int a, .int b, .int c0, .int d, .int e0, .int f, .int g0, .int h9] : List Value) (n := 10) (Nat.le_of_ble_eq_true rfl)
  rw [lg_entry_eq]
  generalize (lg_sl ([.ref (ad 0), .int a, .int b, .int c0, .int d, .int e0, .int f, .int g0, .int h9] : List Value) ++ List.replicate (10 - (lg_sl ([.ref (ad 0), .int a, .int b, .int c0, .int d, .int e0, .int f, .int g0, .int h9] : List Value)).length) Slot.unset).toArray = ls at hl ⊢
  generalize hH : s.heap = H at hW ⊢
  have hS : va_S (Ab G.2.2.1) s.heap H [] := hH ▸ va_S.rf
  obtain ⟨locs, hlc⟩ : ∃ z : List Loc, z = [] := ⟨_, rfl⟩
  rw [← hlc] at hS ⊢
  have hl : lv_has ls 10 [(0, .ref (ad 0)), (1, .int a), (2, .int b), (3, .int c0), (4, .int d), (5, .int e0), (6, .int f), (7, .int g0), (8, .int h9)] := hl
  refine q_new hx hb hts hown h0 hW hS 180 hr180 rfl k_4 t_712 t_713 t_68 (by intro j hj; match j, hj with | 0, _ => rfl | 1, _ => rfl | 2, _ => rfl | 3, _ => rfl | 4, _ => rfl | 5, _ => rfl | 6, _ => rfl) (by first | decide | omega | (dsimp only; omega)) (by first | decide | omega | (dsimp only; omega)) dX5_wouldBe_0 (fun ad1 H q9 had hW hS => ?_)
  have hI := hI.new (r := 180) (a := z32) (b := nOp) (by decide) had
  have hF : offR 180 (up1 v 180 z32) v := off_new
  generalize ho9 : up1 o 180 nOp = o1 at hW hI
  have hl : lv_has ls 10 [(0, .ref (ad1 0)), (1, .int a), (2, .int b), (3, .int c0), (4, .int d), (5, .int e0), (6, .int f), (7, .int g0), (8, .int h9)] := by subst had; exact hl
  refine lv_dup hx hb dX5_wouldBe_3 rfl ?_
  refine lv_iload_n hx hb dX5_wouldBe_4 rfl (lv_at hl 1 rfl) ?_
  refine lv_iload_n hx hb dX5_wouldBe_5 rfl (lv_at hl 2 rfl) ?_
  refine lv_iload_n hx hb dX5_wouldBe_6 rfl (lv_at hl 3 rfl) ?_
  refine lv_iload hx hb dX5_wouldBe_7 (lv_at hl 4 rfl) ?_
  refine lv_iload hx hb dX5_wouldBe_9 (lv_at hl 5 rfl) ?_
  refine lv_iload hx hb dX5_wouldBe_11 (lv_at hl 6 rfl) ?_
  refine lv_iload hx hb dX5_wouldBe_13 (lv_at hl 7 rfl) ?_
  refine q_cIE (As := [.int a, .int b, .int c0, .int d, .int e0, .int f, .int g0]) (rest := [.ref (ad1 180)]) (r := 180) hx hb hml hts hown hE h0 hW hS (c_X3_init l (r := 180) (List.mem_append_right _ (List.mem_singleton.mpr rfl)) rfl a b c0 d e0 f g0) mw_X3_init t_714 ⟨Nat.le_of_ble_eq_true rfl, Nat.le_of_ble_eq_true rfl⟩ rfl hl.1 (Nat.le_of_ble_eq_true rfl) dX5_wouldBe_15 ⟨(by first | decide | omega | (dsimp only; omega)), (by first | decide | omega | (dsimp only; omega))⟩ ⟨rfl, rfl⟩ (fun H locs hW hS => ?_)
  refine lv_astore (lv' := [(9, .ref (ad1 180)), (0, .ref (ad1 0)), (1, .int a), (2, .int b), (3, .int c0), (4, .int d), (5, .int e0), (6, .int f), (7, .int g0), (8, .int h9)]) hx hb dX5_wouldBe_18 hl (by decide) rfl (fun ls hl => ?_)
  refine lv_aload hx hb dX5_wouldBe_20 (lv_at hl 0 rfl) ?_
  refine q_cSvE (As := [.ref (ad1 180)]) (rest := []) hx hb hml hts hown hE h0 hW hS (c_X5_checkStorm l (List.mem_append_right _ (List.mem_singleton.mpr rfl)) k1) mw_X5_checkStorm t_747 ⟨Nat.le_of_ble_eq_true rfl, Nat.le_of_ble_eq_true rfl⟩ rfl hl.1 (Nat.le_of_ble_eq_true rfl) dX5_wouldBe_22 ⟨(by first | decide | omega | (dsimp only; omega)), (by first | decide | omega | (dsimp only; omega))⟩ ⟨rfl, rfl⟩ (fun H locs hW hS => ?_)
  refine lv_iload hx hb dX5_wouldBe_25 (lv_at hl 9 rfl) ?_
  refine lv_bipush (v := 6) hx hb dX5_wouldBe_27 (by decide) ?_
  exact q_xS (As := [.int h9, .int 6]) (rest := []) hx hb hml hts hown hE h0 hW hS hnt hlocks (x_X5_checkWhat l hst9 (n := 6) k2) mw_X5_checkWhat t_626 ⟨Nat.le_of_ble_eq_true rfl, Nat.le_of_ble_eq_true rfl⟩ rfl hl.1 (Nat.le_of_ble_eq_true rfl) dX5_wouldBe_29 ⟨(by first | decide | omega | (dsimp only; omega)), (by first | decide | omega | (dsimp only; omega))⟩ (by first | decide | omega | (dsimp only; omega)) (by first | decide | omega | (dsimp only; omega)) (fun _ h => h.forget hr180 had ho9 (off_iS hF))
