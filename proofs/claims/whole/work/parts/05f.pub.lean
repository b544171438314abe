/-! the class: storms, and the public methods where nothing is refused -/
set_option maxHeartbeats 4000000 in
set_option maxRecDepth 100000 in
theorem c_X5_blow (l : Launch) {G : GG} {L : List Nat} {ad : Nat → Nat} {v : Nat → Nat → Int32} {o : Nat → Nat → Option Nat} {w : Nat → Int64} {ng nh nl ns : Nat} {ow gx gy gw gd : Nat → Nat} (hI : PI G.2.2.2 L ad v o ng nh nl ns ow gx gy gw gd) {sx sy dx dy rad : Int} {F : Int32} {st : Nat} (h180 : 180 ∈ L) (hT : SI v sx sy dx dy rad F st) : CtV l G L ad v o w yX5_blow cX5_blow 6 ({ frames := 4, cells := 0, slots := 0, locals := 100 }) [.ref (ad 0), .ref (ad 180)] (fun u => u = uBlow v ow gx gy gw gd nh sx sy dx dy rad F st) := by
  have hb6 := hI.g6; have hb12 := hI.h12; have hbl := hI.l6; have hbs := hI.s30; have hst := hT.2
  refine q_ofV (by decide) (Nat.le_of_ble_eq_true rfl) ?_
  intro p e s m below meth c hx hb hr hml hts hown hlocks hE h0 hW hS hin ls hl
  generalize hH : s.heap = H at hW
  have hS : va_S (Ab G.2.2.1) s.heap H [] := hH ▸ hS
  obtain ⟨locs, hlc⟩ : ∃ z : List Loc, z = [] := ⟨_, rfl⟩
  rw [← hlc] at hS ⊢
  have hl : lv_has ls 6 [(0, .ref (ad 0)), (1, .ref (ad 180))] := hl
  refine lv_aload_n hx hb dX5_blow_0 rfl (lv_at hl 0 rfl) ?_
  refine q_getr hx hb hts hown hW (r := 0) (hI.c 0 (by decide)) rfl k_6 5 (by decide) rfl t_142 (a := ad 6) (hI.o0 5 (by decide)) dX5_blow_1 ?_
  refine lv_aload_n hx hb dX5_blow_4 rfl (lv_at hl 0 rfl) ?_
  refine q_getr hx hb hts hown hW (r := 0) (hI.c 0 (by decide)) rfl k_6 3 (by decide) rfl t_140 (a := ad 4) (hI.o0 3 (by decide)) dX5_blow_5 ?_
  refine q_cVvE (As := [.ref (ad 4)]) (rest := []) (r := 6) hx hb hml hts hown hE h0 hW hS (c_X4_begin l hI) mw_X4_begin (hI.c 6 (by decide)) rfl k_5 t_765 ⟨Nat.le_of_ble_eq_true rfl, Nat.le_of_ble_eq_true rfl⟩ rfl hl.1 (Nat.le_of_ble_eq_true rfl) dX5_blow_8 ⟨Nat.zero_le _, Nat.zero_le _⟩ ⟨rfl, rfl⟩ (fun H locs hW hS => ?_)
  have hI : PI G.2.2.2 L ad (uBegin v) o ng nh nl ns ow gx gy gw gd := hI.kp kp_uBegin
  have hT := hT.kp (kp_uBegin)
  refine lv_iconst (v := 0) hx hb dX5_blow_11 (by decide) ?_
  refine lv_istore_n (lv' := [(2, .int 0), (0, .ref (ad 0)), (1, .ref (ad 180))]) hx hb dX5_blow_12 rfl hl (by decide) rfl (fun ls hl => ?_)
  suffices LP_13 : ∀ (n_13 i : Nat) (x2_13 : Int32)  (u_13 : Nat → Nat → Int32) (H : Heap) (locs : List Loc) (ls : Array Slot), st + 1 ≤ i + n_13 → i ≤ st → nI i = x2_13 → itr (fun k u => uStep u ow gx gy gw gd nh rad F (sx + k * dx) (sy + k * dy)) i (uBegin v) = u_13 → WD G L ad u_13 o w s H → va_S (Ab G.2.2.1) s.heap H locs → lv_has ls 6 [(2, .int x2_13), (0, .ref (ad 0)), (1, .ref (ad 180))] → W p l e ({ frames := 4, cells := 0, slots := 0, locals := 100 } : Room) s m ([.ref (ad 0), .ref (ad 180)] : List Value).toArray below meth c H locs 0 0 (MQ below (va_Qv (fun u => u = uBlow v ow gx gy gw gd nh sx sy dx dy rad F st) (fun u t => WD G L ad u o w t t.heap) (Ab G.2.2.1)) ([.ref (ad 0), .ref (ad 180)] : List Value).toArray s ({ frames := 4, cells := 0, slots := 0, locals := 100 } : Room).cells ({ frames := 4, cells := 0, slots := 0, locals := 100 } : Room).slots (Ab G.2.2.1)) (F0 m 13 ls []) from LP_13 (st + 1) 0 _   _ H locs ls (by omega) (by omega) (by rfl) (by rfl)  hW hS (lv_sub hl [0, 1, 2] rfl)
  intro n_13
  induction n_13 with
  | zero => intro i x2_13  u_13 H locs ls h1 h2; exact absurd h1 (by omega)
  | succ n_13 ih_13 =>
    intro i x2_13  u_13 H locs ls hn_13 hi_13 ex2_13 eu_13  hW hS hl
    subst ex2_13
    subst eu_13
    have hI : PI G.2.2.2 L ad (itr (fun k u => uStep u ow gx gy gw gd nh rad F (sx + k * dx) (sy + k * dy)) i (uBegin v)) o ng nh nl ns ow gx gy gw gd := hI.kp (kp_itr (fun _ _ _ => kp_uStep))
    have hT : SI (itr (fun k u => uStep u ow gx gy gw gd nh rad F (sx + k * dx) (sy + k * dy)) i (uBegin v)) sx sy dx dy rad F st := hT.kp (kp_itr (fun _ _ _ => kp_uStep))
    refine lv_iload_n hx hb dX5_blow_13 rfl (lv_at hl 0 rfl) ?_
    refine lv_aload_n hx hb dX5_blow_14 rfl (lv_at hl 2 rfl) ?_
    refine q_get hx hb hts hown hW (r := 180) h180 rfl k_4 6 (by decide) rfl t_731 (x := (nI st)) hT.1.2.2.2.2.2.2 dX5_blow_15 ?_
    refine lv_icmp_ge (tgt := 97) hx hb dX5_blow_18 (by decide) (fun c_18 => ?_) (fun c_18 => ?_)
    · skip
      have hq_13 := (ge_i (n := st) (by omega) hi_13 c_18).symm
      subst hq_13
      exact q_vret hx hb hr hlocks hW hS (Nat.le_refl _) (Nat.le_refl _) dX5_blow_97 (rfl)
    · skip
      have hx1 := mul_b (k := i) (a := dx) (by omega) (by omega) (by omega)
      have hy1 := mul_b (k := i) (a := dy) (by omega) (by omega) (by omega)
      have hlt_13 := lt_i (n := st) (by omega) hi_13 c_18
      refine lv_aload_n hx hb dX5_blow_21 rfl (lv_at hl 2 rfl) ?_
      refine q_get hx hb hts hown hW (r := 180) h180 rfl k_4 0 (by decide) rfl t_719 (x := (iI sx)) hT.1.1 dX5_blow_22 ?_
      refine lv_iload_n hx hb dX5_blow_25 rfl (lv_at hl 0 rfl) ?_
      refine lv_aload_n hx hb dX5_blow_26 rfl (lv_at hl 2 rfl) ?_
      refine q_get hx hb hts hown hW (r := 180) h180 rfl k_4 2 (by decide) rfl t_723 (x := (iI dx)) hT.1.2.2.1 dX5_blow_27 ?_
      refine lv_imul hx hb dX5_blow_30 ?_
      refine lv_iadd hx hb dX5_blow_31 ?_
      refine lv_topi (fun xt et => ?_)
      obtain rfl : xt = iI (sx + (i : Int) * dx) := et.trans (by rw [← iI_n, iI_mul, iI_add])
      clear et
      refine lv_istore_n (lv' := [(3, .int (iI (sx + (i : Int) * dx))), (2, .int (nI i)), (0, .ref (ad 0)), (1, .ref (ad 180))]) hx hb dX5_blow_32 rfl hl (by decide) rfl (fun ls hl => ?_)
      refine lv_aload_n hx hb dX5_blow_33 rfl (lv_at hl 3 rfl) ?_
      refine q_get hx hb hts hown hW (r := 180) h180 rfl k_4 1 (by decide) rfl t_721 (x := (iI sy)) hT.1.2.1 dX5_blow_34 ?_
      refine lv_iload_n hx hb dX5_blow_37 rfl (lv_at hl 1 rfl) ?_
      refine lv_aload_n hx hb dX5_blow_38 rfl (lv_at hl 3 rfl) ?_
      refine q_get hx hb hts hown hW (r := 180) h180 rfl k_4 3 (by decide) rfl t_725 (x := (iI dy)) hT.1.2.2.2.1 dX5_blow_39 ?_
      refine lv_imul hx hb dX5_blow_42 ?_
      refine lv_iadd hx hb dX5_blow_43 ?_
      refine lv_topi (fun xt et => ?_)
      obtain rfl : xt = iI (sy + (i : Int) * dy) := et.trans (by rw [← iI_n, iI_mul, iI_add])
      clear et
      refine lv_istore (lv' := [(4, .int (iI (sy + (i : Int) * dy))), (3, .int (iI (sx + (i : Int) * dx))), (2, .int (nI i)), (0, .ref (ad 0)), (1, .ref (ad 180))]) hx hb dX5_blow_44 hl (by decide) rfl (fun ls hl => ?_)
      refine lv_iconst (v := 0) hx hb dX5_blow_46 (by decide) ?_
      refine lv_istore (lv' := [(5, .int 0), (4, .int (iI (sy + (i : Int) * dy))), (3, .int (iI (sx + (i : Int) * dx))), (2, .int (nI i)), (0, .ref (ad 0)), (1, .ref (ad 180))]) hx hb dX5_blow_47 hl (by decide) rfl (fun ls hl => ?_)
      suffices LP_49 : ∀ (n_49 j : Nat) (x5_49 : Int32)  (u_49 : Nat → Nat → Int32) (H : Heap) (locs : List Loc) (ls : Array Slot), nh + 1 ≤ j + n_49 → j ≤ nh → nI j = x5_49 → itr (fun h u => uHouse u ow gx gy gw gd rad F h (sx + i * dx) (sy + i * dy)) j (itr (fun k u => uStep u ow gx gy gw gd nh rad F (sx + k * dx) (sy + k * dy)) i (uBegin v)) = u_49 → WD G L ad u_49 o w s H → va_S (Ab G.2.2.1) s.heap H locs → lv_has ls 6 [(5, .int x5_49), (4, .int (iI (sy + (i : Int) * dy))), (3, .int (iI (sx + (i : Int) * dx))), (2, .int (nI i)), (0, .ref (ad 0)), (1, .ref (ad 180))] → W p l e ({ frames := 4, cells := 0, slots := 0, locals := 100 } : Room) s m ([.ref (ad 0), .ref (ad 180)] : List Value).toArray below meth c H locs 0 0 (MQ below (va_Qv (fun u => u = uBlow v ow gx gy gw gd nh sx sy dx dy rad F st) (fun u t => WD G L ad u o w t t.heap) (Ab G.2.2.1)) ([.ref (ad 0), .ref (ad 180)] : List Value).toArray s ({ frames := 4, cells := 0, slots := 0, locals := 100 } : Room).cells ({ frames := 4, cells := 0, slots := 0, locals := 100 } : Room).slots (Ab G.2.2.1)) (F0 m 49 ls []) from LP_49 (nh + 1) 0 _   _ H locs ls (by omega) (by omega) (by rfl) (by rfl)  hW hS (lv_sub hl [0, 1, 2, 3, 4, 5] rfl)
      intro n_49
      induction n_49 with
      | zero => intro j x5_49  u_49 H locs ls h1 h2; exact absurd h1 (by omega)
      | succ n_49 ih_49 =>
        intro j x5_49  u_49 H locs ls hn_49 hi_49 ex5_49 eu_49  hW hS hl
        subst ex5_49
        subst eu_49
        have hI : PI G.2.2.2 L ad (itr (fun h u => uHouse u ow gx gy gw gd rad F h (sx + i * dx) (sy + i * dy)) j (itr (fun k u => uStep u ow gx gy gw gd nh rad F (sx + k * dx) (sy + k * dy)) i (uBegin v))) o ng nh nl ns ow gx gy gw gd := hI.kp (kp_itr (fun _ _ _ => kp_uHouse))
        have hT : SI (itr (fun h u => uHouse u ow gx gy gw gd rad F h (sx + i * dx) (sy + i * dy)) j (itr (fun k u => uStep u ow gx gy gw gd nh rad F (sx + k * dx) (sy + k * dy)) i (uBegin v))) sx sy dx dy rad F st := hT.kp (kp_itr (fun _ _ _ => kp_uHouse))
        refine lv_iload hx hb dX5_blow_49 (lv_at hl 0 rfl) ?_
        refine lv_aload_n hx hb dX5_blow_51 rfl (lv_at hl 4 rfl) ?_
        refine q_getr hx hb hts hown hW (r := 0) (hI.c 0 (by decide)) rfl k_6 1 (by decide) rfl t_138 (a := ad 2) (hI.o0 1 (by decide)) dX5_blow_52 ?_
        refine q_cFiE (As := []) (rest := [.int (nI j)]) (r := 2) hx hb hml hts hown hE h0 hW hS hE.2.1 (c_size l hI.lh) t_178 t_176 t_174 t_49 (by decide) (by decide +kernel) (hI.c 2 (by decide)) rfl k_0 t_170 ⟨Nat.le_of_ble_eq_true rfl, Nat.le_of_ble_eq_true rfl⟩ rfl hl.1 (Nat.le_of_ble_eq_true rfl) dX5_blow_55 ⟨Nat.zero_le _, Nat.zero_le _⟩ ⟨rfl, rfl⟩ (fun H locs hW hS => ?_)
        refine lv_icmp_ge (tgt := 91) hx hb dX5_blow_60 (by decide) (fun c_60 => ?_) (fun c_60 => ?_)
        · skip
          have hq_49 := (ge_i (n := nh) (by omega) hi_49 c_60).symm
          subst hq_49
          refine lv_iinc (v := (nI (i + 1))) (lv' := [(2, .int (nI (i + 1))), (5, .int (nI nh)), (4, .int (iI (sy + (i : Int) * dy))), (3, .int (iI (sx + (i : Int) * dx))), (0, .ref (ad 0)), (1, .ref (ad 180))]) hx hb dX5_blow_91 hl (k := 3) rfl (inc_nI _) (by decide) rfl (fun ls hl => ?_)
          refine lv_goto (tgt := 13) hx hb dX5_blow_94 (by decide) ?_
          exact ih_13 (i + 1) _   _ H locs ls (by omega) (by omega) (by rfl) (by rfl)  hW hS (lv_sub hl [0, 4, 5] rfl)
        · skip
          have hlt_49 := lt_i (n := nh) (by omega) hi_49 c_60
          refine lv_aload_n hx hb dX5_blow_63 rfl (lv_at hl 4 rfl) ?_
          refine lv_aload_n hx hb dX5_blow_64 rfl (lv_at hl 4 rfl) ?_
          refine q_getr hx hb hts hown hW (r := 0) (hI.c 0 (by decide)) rfl k_6 1 (by decide) rfl t_138 (a := ad 2) (hI.o0 1 (by decide)) dX5_blow_65 ?_
          refine lv_iload hx hb dX5_blow_68 (lv_at hl 0 rfl) ?_
          refine q_cFrE (n := 1) (As := [.int (nI j)]) (rest := [.ref (ad 0)]) (r := 2) hx hb hml hts hown hE h0 hW hS hE.2.2.1 (c_get l hI.lh (i := j) hlt_49) t_191 t_189 t_187 t_49 (by decide) (by decide +kernel) (hI.c 2 (by decide)) rfl k_0 t_184 ⟨Nat.le_of_ble_eq_true rfl, Nat.le_of_ble_eq_true rfl⟩ rfl hl.1 (Nat.le_of_ble_eq_true rfl) dX5_blow_70 ⟨Nat.zero_le _, Nat.zero_le _⟩ ⟨rfl, rfl⟩ (fun H locs hW hS => ?_)
          refine q_castS hx hb hts hown hW (r := (60 + j)) (hI.mh hlt_49) (hI.kh hlt_49) k_2 t_207 dX5_blow_75 ?_
          refine lv_aload_n hx hb dX5_blow_78 rfl (lv_at hl 5 rfl) ?_
          refine lv_iload_n hx hb dX5_blow_79 rfl (lv_at hl 2 rfl) ?_
          refine lv_iload hx hb dX5_blow_80 (lv_at hl 1 rfl) ?_
          refine q_cVvE (As := [.ref (ad (60 + j)), .ref (ad 180), .int (iI (sx + (i : Int) * dx)), .int (iI (sy + (i : Int) * dy))]) (rest := []) (r := 0) hx hb hml hts hown hE h0 hW hS (c_X5_hitHouse l hI hlt_49 (by omega) (by omega) (by omega) (by omega) h180 hT) mw_X5_hitHouse (hI.c 0 (by decide)) rfl k_6 t_770 ⟨Nat.le_of_ble_eq_true rfl, Nat.le_of_ble_eq_true rfl⟩ rfl hl.1 (Nat.le_of_ble_eq_true rfl) dX5_blow_82 ⟨Nat.zero_le _, Nat.zero_le _⟩ ⟨rfl, rfl⟩ (fun H locs hW hS => ?_)
          have hI : PI G.2.2.2 L ad (uHouse (itr (fun h u => uHouse u ow gx gy gw gd rad F h (sx + i * dx) (sy + i * dy)) j (itr (fun k u => uStep u ow gx gy gw gd nh rad F (sx + k * dx) (sy + k * dy)) i (uBegin v))) ow gx gy gw gd rad F j (sx + (i : Int) * dx) (sy + (i : Int) * dy)) o ng nh nl ns ow gx gy gw gd := hI.kp kp_uHouse
          generalize hv1 : (uHouse (itr (fun h u => uHouse u ow gx gy gw gd rad F h (sx + i * dx) (sy + i * dy)) j (itr (fun k u => uStep u ow gx gy gw gd nh rad F (sx + k * dx) (sy + k * dy)) i (uBegin v))) ow gx gy gw gd rad F j (sx + (i : Int) * dx) (sy + (i : Int) * dy)) = v1 at hW hI
          refine lv_iinc (v := (nI (j + 1))) (lv' := [(5, .int (nI (j + 1))), (4, .int (iI (sy + (i : Int) * dy))), (3, .int (iI (sx + (i : Int) * dx))), (2, .int (nI i)), (0, .ref (ad 0)), (1, .ref (ad 180))]) hx hb dX5_blow_85 hl (k := 0) rfl (inc_nI _) (by decide) rfl (fun ls hl => ?_)
          refine lv_goto (tgt := 49) hx hb dX5_blow_88 (by decide) ?_
          subst hv1
          exact ih_49 (j + 1) _   _ H locs ls (by omega) (by omega) (by rfl) (by rfl)  hW hS (lv_sub hl [0, 1, 2, 3, 4, 5] rfl)

set_option maxHeartbeats 4000000 in
set_option maxRecDepth 100000 in
theorem c_X5_claimDamages (l : Launch) {G : GG} {L : List Nat} {ad : Nat → Nat} {v : Nat → Nat → Int32} {o : Nat → Nat → Option Nat} {w : Nat → Int64} {ng nh nl ns : Nat} {ow gx gy gw gd : Nat → Nat} (hI : PI G.2.2.2 L ad v o ng nh nl ns ow gx gy gw gd) : CtV l G L ad v o w yX5_claimDamages cX5_claimDamages 4 ({ frames := 4, cells := 0, slots := 0, locals := 100 }) [.ref (ad 0)] (fun u => u = uClaims v ng) := by
  have hb6 := hI.g6; have hb12 := hI.h12; have hbl := hI.l6; have hbs := hI.s30
  refine q_ofV (by decide) (Nat.le_of_ble_eq_true rfl) ?_
  intro p e s m below meth c hx hb hr hml hts hown hlocks hE h0 hW hS hin ls hl
  generalize hH : s.heap = H at hW
  have hS : va_S (Ab G.2.2.1) s.heap H [] := hH ▸ hS
  obtain ⟨locs, hlc⟩ : ∃ z : List Loc, z = [] := ⟨_, rfl⟩
  rw [← hlc] at hS ⊢
  have hl : lv_has ls 4 [(0, .ref (ad 0))] := hl
  refine lv_iconst (v := 0) hx hb dX5_claimDamages_0 (by decide) ?_
  refine lv_istore_n (lv' := [(1, .int 0), (0, .ref (ad 0))]) hx hb dX5_claimDamages_1 rfl hl (by decide) rfl (fun ls hl => ?_)
  refine lv_iconst (v := 0) hx hb dX5_claimDamages_2 (by decide) ?_
  refine lv_istore_n (lv' := [(2, .int 0), (1, .int 0), (0, .ref (ad 0))]) hx hb dX5_claimDamages_3 rfl hl (by decide) rfl (fun ls hl => ?_)
  suffices LP_4 : ∀ (n_4 i : Nat) (x1_4 : Int32) (x2_4 : Int32)  (u_4 : Nat → Nat → Int32) (H : Heap) (locs : List Loc) (ls : Array Slot), ng + 1 ≤ i + n_4 → i ≤ ng → sumI (fun g => fClaim (itr cF g v) (50 + g) (itr cF g v 8 g)) i = x1_4 → nI i = x2_4 → itr cF i v = u_4 → WD G L ad u_4 o w s H → va_S (Ab G.2.2.1) s.heap H locs → lv_has ls 4 [(2, .int x2_4), (1, .int x1_4), (0, .ref (ad 0))] → W p l e ({ frames := 4, cells := 0, slots := 0, locals := 100 } : Room) s m ([.ref (ad 0)] : List Value).toArray below meth c H locs 0 0 (MQ below (va_Qv (fun u => u = uClaims v ng) (fun u t => WD G L ad u o w t t.heap) (Ab G.2.2.1)) ([.ref (ad 0)] : List Value).toArray s ({ frames := 4, cells := 0, slots := 0, locals := 100 } : Room).cells ({ frames := 4, cells := 0, slots := 0, locals := 100 } : Room).slots (Ab G.2.2.1)) (F0 m 4 ls []) from LP_4 (ng + 1) 0 _ _   _ H locs ls (by omega) (by omega) (by rfl) (by rfl) (by rfl)  hW hS (lv_sub hl [0, 1, 2] rfl)
  intro n_4
  induction n_4 with
  | zero => intro i x1_4 x2_4  u_4 H locs ls h1 h2; exact absurd h1 (by omega)
  | succ n_4 ih_4 =>
    intro i x1_4 x2_4  u_4 H locs ls hn_4 hi_4 ex1_4 ex2_4 eu_4  hW hS hl
    subst ex1_4
    subst ex2_4
    subst eu_4
    have hI : PI G.2.2.2 L ad (itr cF i v) o ng nh nl ns ow gx gy gw gd := hI.kp (kp_itr (fun _ _ _ => kp_cF))
    refine lv_iload_n hx hb dX5_claimDamages_4 rfl (lv_at hl 0 rfl) ?_
    refine lv_aload_n hx hb dX5_claimDamages_5 rfl (lv_at hl 2 rfl) ?_
    refine q_getr hx hb hts hown hW (r := 0) (hI.c 0 (by decide)) rfl k_6 0 (by decide) rfl t_137 (a := ad 1) (hI.o0 0 (by decide)) dX5_claimDamages_6 ?_
    refine q_cFiE (As := []) (rest := [.int (nI i)]) (r := 1) hx hb hml hts hown hE h0 hW hS hE.2.1 (c_size l hI.lg) t_178 t_176 t_174 t_49 (by decide) (by decide +kernel) (hI.c 1 (by decide)) rfl k_0 t_170 ⟨Nat.le_of_ble_eq_true rfl, Nat.le_of_ble_eq_true rfl⟩ rfl hl.1 (Nat.le_of_ble_eq_true rfl) dX5_claimDamages_9 ⟨Nat.zero_le _, Nat.zero_le _⟩ ⟨rfl, rfl⟩ (fun H locs hW hS => ?_)
    refine lv_icmp_ge (tgt := 63) hx hb dX5_claimDamages_14 (by decide) (fun c_14 => ?_) (fun c_14 => ?_)
    · skip
      have hq_4 := (ge_i (n := ng) (by omega) hi_4 c_14).symm
      subst hq_4
      refine lv_aload_n hx hb dX5_claimDamages_63 rfl (lv_at hl 2 rfl) ?_
      refine q_getr hx hb hts hown hW (r := 0) (hI.c 0 (by decide)) rfl k_6 5 (by decide) rfl t_142 (a := ad 6) (hI.o0 5 (by decide)) dX5_claimDamages_64 ?_
      refine q_getr hx hb hts hown hW (r := 6) (hI.c 6 (by decide)) rfl k_5 5 (by decide) rfl t_122 (a := ad 12) (hI.o6 5 (by decide)) dX5_claimDamages_67 ?_
      refine lv_iconst (v := 3) hx hb dX5_claimDamages_70 (by decide) ?_
      refine lv_iload_n hx hb dX5_claimDamages_71 rfl (lv_at hl 1 rfl) ?_
      refine q_iast hx hb hW hS (r := 12) (hI.c 12 (by decide)) rfl 3 rfl (by decide) (by decide) dX5_claimDamages_72 (fun H locs hW hS => ?_)
      have hI : PI G.2.2.2 L ad (up2 (itr cF ng v) 12 3 (sumI (fun g => fClaim (itr cF g v) (50 + g) (itr cF g v 8 g)) ng)) o ng nh nl ns ow gx gy gw gd := hI.kp (kp_up (by unfold depC dep; omega))
      generalize hv1 : (up2 (itr cF ng v) 12 3 (sumI (fun g => fClaim (itr cF g v) (50 + g) (itr cF g v 8 g)) ng)) = v1 at hW hI
      subst hv1
      exact q_vret hx hb hr hlocks hW hS (Nat.le_refl _) (Nat.le_refl _) dX5_claimDamages_73 (rfl)
    · skip
      have hlt_4 := lt_i (n := ng) (by omega) hi_4 c_14
      refine lv_aload_n hx hb dX5_claimDamages_17 rfl (lv_at hl 2 rfl) ?_
      refine q_getr hx hb hts hown hW (r := 0) (hI.c 0 (by decide)) rfl k_6 0 (by decide) rfl t_137 (a := ad 1) (hI.o0 0 (by decide)) dX5_claimDamages_18 ?_
      refine lv_iload_n hx hb dX5_claimDamages_21 rfl (lv_at hl 0 rfl) ?_
      refine q_cFrE (n := 1) (As := [.int (nI i)]) (rest := []) (r := 1) hx hb hml hts hown hE h0 hW hS hE.2.2.1 (c_get l hI.lg (i := i) hlt_4) t_191 t_189 t_187 t_49 (by decide) (by decide +kernel) (hI.c 1 (by decide)) rfl k_0 t_184 ⟨Nat.le_of_ble_eq_true rfl, Nat.le_of_ble_eq_true rfl⟩ rfl hl.1 (Nat.le_of_ble_eq_true rfl) dX5_claimDamages_22 ⟨Nat.zero_le _, Nat.zero_le _⟩ ⟨rfl, rfl⟩ (fun H locs hW hS => ?_)
      refine q_castS hx hb hts hown hW (r := (50 + i)) (hI.mg hlt_4) (hI.kg hlt_4) k_1 t_202 dX5_claimDamages_27 ?_
      refine lv_aload_n hx hb dX5_claimDamages_30 rfl (lv_at hl 2 rfl) ?_
      refine q_getr hx hb hts hown hW (r := 0) (hI.c 0 (by decide)) rfl k_6 5 (by decide) rfl t_142 (a := ad 6) (hI.o0 5 (by decide)) dX5_claimDamages_31 ?_
      refine q_getr hx hb hts hown hW (r := 6) (hI.c 6 (by decide)) rfl k_5 1 (by decide) rfl t_114 (a := ad 8) (hI.o6 1 (by decide)) dX5_claimDamages_34 ?_
      refine lv_iload_n hx hb dX5_claimDamages_37 rfl (lv_at hl 0 rfl) ?_
      refine q_iald hx hb hW (r := 8) (hI.c 8 (by decide)) rfl i rfl (show _ < 6 by omega) (by decide) (x := ((itr cF i v) 8 i)) rfl dX5_claimDamages_38 ?_
      refine q_cViE (As := [.int ((itr cF i v) 8 i)]) (rest := []) (r := (50 + i)) hx hb hml hts hown hE h0 hW hS (c_X0_claimFor l hI hlt_4 ((itr cF i v) 8 i)) mw_X0_claimFor (hI.mg hlt_4) (hI.kg hlt_4) k_1 t_791 ⟨Nat.le_of_ble_eq_true rfl, Nat.le_of_ble_eq_true rfl⟩ rfl hl.1 (Nat.le_of_ble_eq_true rfl) dX5_claimDamages_39 ⟨Nat.zero_le _, Nat.zero_le _⟩ ⟨rfl, rfl⟩ (fun H locs hW hS => ?_)
      refine lv_istore_n (lv' := [(3, .int (fClaim (itr cF i v) (50 + i) ((itr cF i v) 8 i))), (2, .int (nI i)), (1, .int (sumI (fun g => fClaim (itr cF g v) (50 + g) (itr cF g v 8 g)) i)), (0, .ref (ad 0))]) hx hb dX5_claimDamages_42 rfl hl (by decide) rfl (fun ls hl => ?_)
      refine lv_aload_n hx hb dX5_claimDamages_43 rfl (lv_at hl 3 rfl) ?_
      refine q_getr hx hb hts hown hW (r := 0) (hI.c 0 (by decide)) rfl k_6 5 (by decide) rfl t_142 (a := ad 6) (hI.o0 5 (by decide)) dX5_claimDamages_44 ?_
      refine q_getr hx hb hts hown hW (r := 6) (hI.c 6 (by decide)) rfl k_5 2 (by decide) rfl t_116 (a := ad 9) (hI.o6 2 (by decide)) dX5_claimDamages_47 ?_
      refine lv_iload_n hx hb dX5_claimDamages_50 rfl (lv_at hl 1 rfl) ?_
      refine lv_iload_n hx hb dX5_claimDamages_51 rfl (lv_at hl 0 rfl) ?_
      refine q_iast hx hb hW hS (r := 9) (hI.c 9 (by decide)) rfl i rfl (show _ < 6 by omega) (by decide) dX5_claimDamages_52 (fun H locs hW hS => ?_)
      have hI : PI G.2.2.2 L ad (up2 (itr cF i v) 9 i (fClaim (itr cF i v) (50 + i) ((itr cF i v) 8 i))) o ng nh nl ns ow gx gy gw gd := hI.kp (kp_up (by unfold depC dep; omega))
      generalize hv2 : (up2 (itr cF i v) 9 i (fClaim (itr cF i v) (50 + i) ((itr cF i v) 8 i))) = v2 at hW hI
      refine lv_iload_n hx hb dX5_claimDamages_53 rfl (lv_at hl 2 rfl) ?_
      refine lv_iload_n hx hb dX5_claimDamages_54 rfl (lv_at hl 0 rfl) ?_
      refine lv_iadd hx hb dX5_claimDamages_55 ?_
      refine lv_istore_n (lv' := [(1, .int ((sumI (fun g => fClaim (itr cF g v) (50 + g) (itr cF g v 8 g)) i) + (fClaim (itr cF i v) (50 + i) ((itr cF i v) 8 i)))), (3, .int (fClaim (itr cF i v) (50 + i) ((itr cF i v) 8 i))), (2, .int (nI i)), (0, .ref (ad 0))]) hx hb dX5_claimDamages_56 rfl hl (by decide) rfl (fun ls hl => ?_)
      refine lv_iinc (v := (nI (i + 1))) (lv' := [(2, .int (nI (i + 1))), (1, .int ((sumI (fun g => fClaim (itr cF g v) (50 + g) (itr cF g v 8 g)) i) + (fClaim (itr cF i v) (50 + i) ((itr cF i v) 8 i)))), (3, .int (fClaim (itr cF i v) (50 + i) ((itr cF i v) 8 i))), (0, .ref (ad 0))]) hx hb dX5_claimDamages_57 hl (k := 2) rfl (inc_nI _) (by decide) rfl (fun ls hl => ?_)
      refine lv_goto (tgt := 4) hx hb dX5_claimDamages_60 (by decide) ?_
      subst hv2
      exact ih_4 (i + 1) _ _   _ H locs ls (by omega) (by omega) (by rfl) (by rfl) (by rfl)  hW hS (lv_sub hl [0, 1, 3] rfl)

set_option maxHeartbeats 4000000 in
set_option maxRecDepth 100000 in
theorem c_X5_callLayers (l : Launch) {G : GG} {L : List Nat} {ad : Nat → Nat} {v : Nat → Nat → Int32} {o : Nat → Nat → Option Nat} {w : Nat → Int64} {ng nh nl ns : Nat} {ow gx gy gw gd : Nat → Nat} (hI : PI G.2.2.2 L ad v o ng nh nl ns ow gx gy gw gd) : CtV l G L ad v o w yX5_callLayers cX5_callLayers 4 ({ frames := 4, cells := 0, slots := 0, locals := 100 }) [.ref (ad 0)] (fun u => u = uLayers v nl) := by
  have hb6 := hI.g6; have hb12 := hI.h12; have hbl := hI.l6; have hbs := hI.s30
  refine q_ofV (by decide) (Nat.le_of_ble_eq_true rfl) ?_
  intro p e s m below meth c hx hb hr hml hts hown hlocks hE h0 hW hS hin ls hl
  generalize hH : s.heap = H at hW
  have hS : va_S (Ab G.2.2.1) s.heap H [] := hH ▸ hS
  obtain ⟨locs, hlc⟩ : ∃ z : List Loc, z = [] := ⟨_, rfl⟩
  rw [← hlc] at hS ⊢
  have hl : lv_has ls 4 [(0, .ref (ad 0))] := hl
  refine lv_iconst (v := 0) hx hb dX5_callLayers_0 (by decide) ?_
  refine lv_istore_n (lv' := [(1, .int 0), (0, .ref (ad 0))]) hx hb dX5_callLayers_1 rfl hl (by decide) rfl (fun ls hl => ?_)
  refine lv_iconst (v := 0) hx hb dX5_callLayers_2 (by decide) ?_
  refine lv_istore_n (lv' := [(2, .int 0), (1, .int 0), (0, .ref (ad 0))]) hx hb dX5_callLayers_3 rfl hl (by decide) rfl (fun ls hl => ?_)
  suffices LP_4 : ∀ (n_4 i : Nat) (x1_4 : Int32) (x2_4 : Int32)  (u_4 : Nat → Nat → Int32) (H : Heap) (locs : List Loc) (ls : Array Slot), nl + 1 ≤ i + n_4 → i ≤ nl → sumI (fun k => fPay (itr lF k v) (80 + k) (itr lF k v 12 3)) i = x1_4 → nI i = x2_4 → itr lF i v = u_4 → WD G L ad u_4 o w s H → va_S (Ab G.2.2.1) s.heap H locs → lv_has ls 4 [(2, .int x2_4), (1, .int x1_4), (0, .ref (ad 0))] → W p l e ({ frames := 4, cells := 0, slots := 0, locals := 100 } : Room) s m ([.ref (ad 0)] : List Value).toArray below meth c H locs 0 0 (MQ below (va_Qv (fun u => u = uLayers v nl) (fun u t => WD G L ad u o w t t.heap) (Ab G.2.2.1)) ([.ref (ad 0)] : List Value).toArray s ({ frames := 4, cells := 0, slots := 0, locals := 100 } : Room).cells ({ frames := 4, cells := 0, slots := 0, locals := 100 } : Room).slots (Ab G.2.2.1)) (F0 m 4 ls []) from LP_4 (nl + 1) 0 _ _   _ H locs ls (by omega) (by omega) (by rfl) (by rfl) (by rfl)  hW hS (lv_sub hl [0, 1, 2] rfl)
  intro n_4
  induction n_4 with
  | zero => intro i x1_4 x2_4  u_4 H locs ls h1 h2; exact absurd h1 (by omega)
  | succ n_4 ih_4 =>
    intro i x1_4 x2_4  u_4 H locs ls hn_4 hi_4 ex1_4 ex2_4 eu_4  hW hS hl
    subst ex1_4
    subst ex2_4
    subst eu_4
    have hI : PI G.2.2.2 L ad (itr lF i v) o ng nh nl ns ow gx gy gw gd := hI.kp (kp_itr (fun _ _ _ => kp_lF))
    refine lv_iload_n hx hb dX5_callLayers_4 rfl (lv_at hl 0 rfl) ?_
    refine lv_aload_n hx hb dX5_callLayers_5 rfl (lv_at hl 2 rfl) ?_
    refine q_getr hx hb hts hown hW (r := 0) (hI.c 0 (by decide)) rfl k_6 2 (by decide) rfl t_139 (a := ad 3) (hI.o0 2 (by decide)) dX5_callLayers_6 ?_
    refine q_cFiE (As := []) (rest := [.int (nI i)]) (r := 3) hx hb hml hts hown hE h0 hW hS hE.2.1 (c_size l hI.ll) t_178 t_176 t_174 t_49 (by decide) (by decide +kernel) (hI.c 3 (by decide)) rfl k_0 t_170 ⟨Nat.le_of_ble_eq_true rfl, Nat.le_of_ble_eq_true rfl⟩ rfl hl.1 (Nat.le_of_ble_eq_true rfl) dX5_callLayers_9 ⟨Nat.zero_le _, Nat.zero_le _⟩ ⟨rfl, rfl⟩ (fun H locs hW hS => ?_)
    refine lv_icmp_ge (tgt := 63) hx hb dX5_callLayers_14 (by decide) (fun c_14 => ?_) (fun c_14 => ?_)
    · skip
      have hq_4 := (ge_i (n := nl) (by omega) hi_4 c_14).symm
      subst hq_4
      refine lv_aload_n hx hb dX5_callLayers_63 rfl (lv_at hl 2 rfl) ?_
      refine q_getr hx hb hts hown hW (r := 0) (hI.c 0 (by decide)) rfl k_6 5 (by decide) rfl t_142 (a := ad 6) (hI.o0 5 (by decide)) dX5_callLayers_64 ?_
      refine q_getr hx hb hts hown hW (r := 6) (hI.c 6 (by decide)) rfl k_5 5 (by decide) rfl t_122 (a := ad 12) (hI.o6 5 (by decide)) dX5_callLayers_67 ?_
      refine lv_iconst (v := 4) hx hb dX5_callLayers_70 (by decide) ?_
      refine lv_iload_n hx hb dX5_callLayers_71 rfl (lv_at hl 1 rfl) ?_
      refine q_iast hx hb hW hS (r := 12) (hI.c 12 (by decide)) rfl 4 rfl (by decide) (by decide) dX5_callLayers_72 (fun H locs hW hS => ?_)
      have hI : PI G.2.2.2 L ad (up2 (itr lF nl v) 12 4 (sumI (fun k => fPay (itr lF k v) (80 + k) (itr lF k v 12 3)) nl)) o ng nh nl ns ow gx gy gw gd := hI.kp (kp_up (by unfold depC dep; omega))
      generalize hv1 : (up2 (itr lF nl v) 12 4 (sumI (fun k => fPay (itr lF k v) (80 + k) (itr lF k v 12 3)) nl)) = v1 at hW hI
      subst hv1
      exact q_vret hx hb hr hlocks hW hS (Nat.le_refl _) (Nat.le_refl _) dX5_callLayers_73 (rfl)
    · skip
      have hlt_4 := lt_i (n := nl) (by omega) hi_4 c_14
      refine lv_aload_n hx hb dX5_callLayers_17 rfl (lv_at hl 2 rfl) ?_
      refine q_getr hx hb hts hown hW (r := 0) (hI.c 0 (by decide)) rfl k_6 2 (by decide) rfl t_139 (a := ad 3) (hI.o0 2 (by decide)) dX5_callLayers_18 ?_
      refine lv_iload_n hx hb dX5_callLayers_21 rfl (lv_at hl 0 rfl) ?_
      refine q_cFrE (n := 1) (As := [.int (nI i)]) (rest := []) (r := 3) hx hb hml hts hown hE h0 hW hS hE.2.2.1 (c_get l hI.ll (i := i) hlt_4) t_191 t_189 t_187 t_49 (by decide) (by decide +kernel) (hI.c 3 (by decide)) rfl k_0 t_184 ⟨Nat.le_of_ble_eq_true rfl, Nat.le_of_ble_eq_true rfl⟩ rfl hl.1 (Nat.le_of_ble_eq_true rfl) dX5_callLayers_22 ⟨Nat.zero_le _, Nat.zero_le _⟩ ⟨rfl, rfl⟩ (fun H locs hW hS => ?_)
      refine q_castS hx hb hts hown hW (r := (80 + i)) (hI.ml hlt_4) (hI.kl hlt_4) k_3 t_235 dX5_callLayers_27 ?_
      refine lv_aload_n hx hb dX5_callLayers_30 rfl (lv_at hl 2 rfl) ?_
      refine q_getr hx hb hts hown hW (r := 0) (hI.c 0 (by decide)) rfl k_6 5 (by decide) rfl t_142 (a := ad 6) (hI.o0 5 (by decide)) dX5_callLayers_31 ?_
      refine q_getr hx hb hts hown hW (r := 6) (hI.c 6 (by decide)) rfl k_5 5 (by decide) rfl t_122 (a := ad 12) (hI.o6 5 (by decide)) dX5_callLayers_34 ?_
      refine lv_iconst (v := 3) hx hb dX5_callLayers_37 (by decide) ?_
      refine q_iald hx hb hW (r := 12) (hI.c 12 (by decide)) rfl 3 rfl (by decide) (by decide) (x := ((itr lF i v) 12 3)) rfl dX5_callLayers_38 ?_
      refine q_cViE (As := [.int ((itr lF i v) 12 3)]) (rest := []) (r := (80 + i)) hx hb hml hts hown hE h0 hW hS (c_X2_payFor l hI hlt_4 ((itr lF i v) 12 3)) mw_X2_payFor (hI.ml hlt_4) (hI.kl hlt_4) k_3 t_799 ⟨Nat.le_of_ble_eq_true rfl, Nat.le_of_ble_eq_true rfl⟩ rfl hl.1 (Nat.le_of_ble_eq_true rfl) dX5_callLayers_39 ⟨Nat.zero_le _, Nat.zero_le _⟩ ⟨rfl, rfl⟩ (fun H locs hW hS => ?_)
      refine lv_istore_n (lv' := [(3, .int (fPay (itr lF i v) (80 + i) ((itr lF i v) 12 3))), (2, .int (nI i)), (1, .int (sumI (fun k => fPay (itr lF k v) (80 + k) (itr lF k v 12 3)) i)), (0, .ref (ad 0))]) hx hb dX5_callLayers_42 rfl hl (by decide) rfl (fun ls hl => ?_)
      refine lv_aload_n hx hb dX5_callLayers_43 rfl (lv_at hl 3 rfl) ?_
      refine q_getr hx hb hts hown hW (r := 0) (hI.c 0 (by decide)) rfl k_6 5 (by decide) rfl t_142 (a := ad 6) (hI.o0 5 (by decide)) dX5_callLayers_44 ?_
      refine q_getr hx hb hts hown hW (r := 6) (hI.c 6 (by decide)) rfl k_5 4 (by decide) rfl t_120 (a := ad 11) (hI.o6 4 (by decide)) dX5_callLayers_47 ?_
      refine lv_iload_n hx hb dX5_callLayers_50 rfl (lv_at hl 1 rfl) ?_
      refine lv_iload_n hx hb dX5_callLayers_51 rfl (lv_at hl 0 rfl) ?_
      refine q_iast hx hb hW hS (r := 11) (hI.c 11 (by decide)) rfl i rfl (show _ < 6 by omega) (by decide) dX5_callLayers_52 (fun H locs hW hS => ?_)
      have hI : PI G.2.2.2 L ad (up2 (itr lF i v) 11 i (fPay (itr lF i v) (80 + i) ((itr lF i v) 12 3))) o ng nh nl ns ow gx gy gw gd := hI.kp (kp_up (by unfold depC dep; omega))
      generalize hv2 : (up2 (itr lF i v) 11 i (fPay (itr lF i v) (80 + i) ((itr lF i v) 12 3))) = v2 at hW hI
      refine lv_iload_n hx hb dX5_callLayers_53 rfl (lv_at hl 2 rfl) ?_
      refine lv_iload_n hx hb dX5_callLayers_54 rfl (lv_at hl 0 rfl) ?_
      refine lv_iadd hx hb dX5_callLayers_55 ?_
      refine lv_istore_n (lv' := [(1, .int ((sumI (fun k => fPay (itr lF k v) (80 + k) (itr lF k v 12 3)) i) + (fPay (itr lF i v) (80 + i) ((itr lF i v) 12 3)))), (3, .int (fPay (itr lF i v) (80 + i) ((itr lF i v) 12 3))), (2, .int (nI i)), (0, .ref (ad 0))]) hx hb dX5_callLayers_56 rfl hl (by decide) rfl (fun ls hl => ?_)
      refine lv_iinc (v := (nI (i + 1))) (lv' := [(2, .int (nI (i + 1))), (1, .int ((sumI (fun k => fPay (itr lF k v) (80 + k) (itr lF k v 12 3)) i) + (fPay (itr lF i v) (80 + i) ((itr lF i v) 12 3)))), (3, .int (fPay (itr lF i v) (80 + i) ((itr lF i v) 12 3))), (0, .ref (ad 0))]) hx hb dX5_callLayers_57 hl (k := 2) rfl (inc_nI _) (by decide) rfl (fun ls hl => ?_)
      refine lv_goto (tgt := 4) hx hb dX5_callLayers_60 (by decide) ?_
      subst hv2
      exact ih_4 (i + 1) _ _   _ H locs ls (by omega) (by omega) (by rfl) (by rfl) (by rfl)  hW hS (lv_sub hl [0, 1, 3] rfl)

set_option maxHeartbeats 4000000 in
set_option maxRecDepth 100000 in
theorem c_X5_payClaims (l : Launch) {G : GG} {L : List Nat} {ad : Nat → Nat} {v : Nat → Nat → Int32} {o : Nat → Nat → Option Nat} {w : Nat → Int64} {ng nh nl ns : Nat} {ow gx gy gw gd : Nat → Nat} (hI : PI G.2.2.2 L ad v o ng nh nl ns ow gx gy gw gd) : CtV l G L ad v o w yX5_payClaims cX5_payClaims 5 ({ frames := 1, cells := 0, slots := 0, locals := 20 }) [.ref (ad 0)] (fun u => u = uPays v ng) := by
  have hb6 := hI.g6; have hb12 := hI.h12; have hbl := hI.l6; have hbs := hI.s30
  refine q_ofV (by decide) (Nat.le_of_ble_eq_true rfl) ?_
  intro p e s m below meth c hx hb hr hml hts hown hlocks hE h0 hW hS hin ls hl
  generalize hH : s.heap = H at hW
  have hS : va_S (Ab G.2.2.1) s.heap H [] := hH ▸ hS
  obtain ⟨locs, hlc⟩ : ∃ z : List Loc, z = [] := ⟨_, rfl⟩
  rw [← hlc] at hS ⊢
  have hl : lv_has ls 5 [(0, .ref (ad 0))] := hl
  refine lv_aload_n hx hb dX5_payClaims_0 rfl (lv_at hl 0 rfl) ?_
  refine q_get hx hb hts hown hW (r := 0) (hI.c 0 (by decide)) rfl k_6 6 (by decide) rfl t_143 (x := (v 0 6)) rfl dX5_payClaims_1 ?_
  refine lv_aload_n hx hb dX5_payClaims_4 rfl (lv_at hl 0 rfl) ?_
  refine q_getr hx hb hts hown hW (r := 0) (hI.c 0 (by decide)) rfl k_6 5 (by decide) rfl t_142 (a := ad 6) (hI.o0 5 (by decide)) dX5_payClaims_5 ?_
  refine q_getr hx hb hts hown hW (r := 6) (hI.c 6 (by decide)) rfl k_5 5 (by decide) rfl t_122 (a := ad 12) (hI.o6 5 (by decide)) dX5_payClaims_8 ?_
  refine lv_iconst (v := 4) hx hb dX5_payClaims_11 (by decide) ?_
  refine q_iald hx hb hW (r := 12) (hI.c 12 (by decide)) rfl 4 rfl (by decide) (by decide) (x := (v 12 4)) rfl dX5_payClaims_12 ?_
  refine lv_iadd hx hb dX5_payClaims_13 ?_
  refine lv_istore_n (lv' := [(1, .int ((v 0 6) + (v 12 4))), (0, .ref (ad 0))]) hx hb dX5_payClaims_14 rfl hl (by decide) rfl (fun ls hl => ?_)
  refine lv_iconst (v := 0) hx hb dX5_payClaims_15 (by decide) ?_
  refine lv_istore_n (lv' := [(2, .int 0), (1, .int ((v 0 6) + (v 12 4))), (0, .ref (ad 0))]) hx hb dX5_payClaims_16 rfl hl (by decide) rfl (fun ls hl => ?_)
  refine lv_iconst (v := 0) hx hb dX5_payClaims_17 (by decide) ?_
  refine lv_istore_n (lv' := [(3, .int 0), (2, .int 0), (1, .int ((v 0 6) + (v 12 4))), (0, .ref (ad 0))]) hx hb dX5_payClaims_18 rfl hl (by decide) rfl (fun ls hl => ?_)
  suffices LP_19 : ∀ (n_19 i : Nat) (x1_19 : Int32) (x2_19 : Int32) (x3_19 : Int32)  (u_19 : Nat → Nat → Int32) (H : Heap) (locs : List Loc) (ls : Array Slot), ng + 1 ≤ i + n_19 → i ≤ ng → (itr pF i (v, v 0 6 + v 12 4, 0)).2.1 = x1_19 → (itr pF i (v, v 0 6 + v 12 4, 0)).2.2 = x2_19 → nI i = x3_19 → (itr pF i (v, v 0 6 + v 12 4, 0)).1 = u_19 → WD G L ad u_19 o w s H → va_S (Ab G.2.2.1) s.heap H locs → lv_has ls 5 [(3, .int x3_19), (2, .int x2_19), (1, .int x1_19), (0, .ref (ad 0))] → W p l e ({ frames := 1, cells := 0, slots := 0, locals := 20 } : Room) s m ([.ref (ad 0)] : List Value).toArray below meth c H locs 0 0 (MQ below (va_Qv (fun u => u = uPays v ng) (fun u t => WD G L ad u o w t t.heap) (Ab G.2.2.1)) ([.ref (ad 0)] : List Value).toArray s ({ frames := 1, cells := 0, slots := 0, locals := 20 } : Room).cells ({ frames := 1, cells := 0, slots := 0, locals := 20 } : Room).slots (Ab G.2.2.1)) (F0 m 19 ls []) from LP_19 (ng + 1) 0 _ _ _   _ H locs ls (by omega) (by omega) (by rfl) (by rfl) (by rfl) (by rfl)  hW hS (lv_sub hl [0, 1, 2, 3] rfl)
  intro n_19
  induction n_19 with
  | zero => intro i x1_19 x2_19 x3_19  u_19 H locs ls h1 h2; exact absurd h1 (by omega)
  | succ n_19 ih_19 =>
    intro i x1_19 x2_19 x3_19  u_19 H locs ls hn_19 hi_19 ex1_19 ex2_19 ex3_19 eu_19  hW hS hl
    subst ex1_19
    subst ex2_19
    subst ex3_19
    subst eu_19
    have hI : PI G.2.2.2 L ad ((itr pF i (v, v 0 6 + v 12 4, 0)).1) o ng nh nl ns ow gx gy gw gd := hI.kp (kp_pF (t := (v, v 0 6 + v 12 4, 0)))
    refine lv_iload_n hx hb dX5_payClaims_19 rfl (lv_at hl 0 rfl) ?_
    refine lv_aload_n hx hb dX5_payClaims_20 rfl (lv_at hl 3 rfl) ?_
    refine q_getr hx hb hts hown hW (r := 0) (hI.c 0 (by decide)) rfl k_6 0 (by decide) rfl t_137 (a := ad 1) (hI.o0 0 (by decide)) dX5_payClaims_21 ?_
    refine q_cFiE (As := []) (rest := [.int (nI i)]) (r := 1) hx hb hml hts hown hE h0 hW hS hE.2.1 (c_size l hI.lg) t_178 t_176 t_174 t_49 (by decide) (by decide +kernel) (hI.c 1 (by decide)) rfl k_0 t_170 ⟨Nat.le_of_ble_eq_true rfl, Nat.le_of_ble_eq_true rfl⟩ rfl hl.1 (Nat.le_of_ble_eq_true rfl) dX5_payClaims_24 ⟨Nat.zero_le _, Nat.zero_le _⟩ ⟨rfl, rfl⟩ (fun H locs hW hS => ?_)
    refine lv_icmp_ge (tgt := 84) hx hb dX5_payClaims_29 (by decide) (fun c_29 => ?_) (fun c_29 => ?_)
    · skip
      have hq_19 := (ge_i (n := ng) (by omega) hi_19 c_29).symm
      subst hq_19
      refine lv_aload_n hx hb dX5_payClaims_84 rfl (lv_at hl 3 rfl) ?_
      refine q_getr hx hb hts hown hW (r := 0) (hI.c 0 (by decide)) rfl k_6 5 (by decide) rfl t_142 (a := ad 6) (hI.o0 5 (by decide)) dX5_payClaims_85 ?_
      refine q_getr hx hb hts hown hW (r := 6) (hI.c 6 (by decide)) rfl k_5 5 (by decide) rfl t_122 (a := ad 12) (hI.o6 5 (by decide)) dX5_payClaims_88 ?_
      refine lv_iconst (v := 5) hx hb dX5_payClaims_91 (by decide) ?_
      refine lv_iload_n hx hb dX5_payClaims_92 rfl (lv_at hl 1 rfl) ?_
      refine q_iast hx hb hW hS (r := 12) (hI.c 12 (by decide)) rfl 5 rfl (by decide) (by decide) dX5_payClaims_93 (fun H locs hW hS => ?_)
      have hI : PI G.2.2.2 L ad (up2 ((itr pF ng (v, v 0 6 + v 12 4, 0)).1) 12 5 ((itr pF ng (v, v 0 6 + v 12 4, 0)).2.2)) o ng nh nl ns ow gx gy gw gd := hI.kp (kp_up (by unfold depC dep; omega))
      generalize hv1 : (up2 ((itr pF ng (v, v 0 6 + v 12 4, 0)).1) 12 5 ((itr pF ng (v, v 0 6 + v 12 4, 0)).2.2)) = v1 at hW hI
      subst hv1
      exact q_vret hx hb hr hlocks hW hS (Nat.le_refl _) (Nat.le_refl _) dX5_payClaims_94 (rfl)
    · skip
      have hlt_19 := lt_i (n := ng) (by omega) hi_19 c_29
      refine lv_aload_n hx hb dX5_payClaims_32 rfl (lv_at hl 3 rfl) ?_
      refine q_getr hx hb hts hown hW (r := 0) (hI.c 0 (by decide)) rfl k_6 5 (by decide) rfl t_142 (a := ad 6) (hI.o0 5 (by decide)) dX5_payClaims_33 ?_
      refine q_getr hx hb hts hown hW (r := 6) (hI.c 6 (by decide)) rfl k_5 2 (by decide) rfl t_116 (a := ad 9) (hI.o6 2 (by decide)) dX5_payClaims_36 ?_
      refine lv_iload_n hx hb dX5_payClaims_39 rfl (lv_at hl 0 rfl) ?_
      refine q_iald hx hb hW (r := 9) (hI.c 9 (by decide)) rfl i rfl (show _ < 6 by omega) (by decide) (x := (((itr pF i (v, v 0 6 + v 12 4, 0)).1) 9 i)) rfl dX5_payClaims_40 ?_
      refine lv_iload_n hx hb dX5_payClaims_41 rfl (lv_at hl 2 rfl) ?_
      refine q_min hx hb hml hl.1 hts hown m_min t_230 (Nat.le_of_ble_eq_true rfl) (Nat.le_of_ble_eq_true rfl) (Nat.zero_le _) (Nat.zero_le _) dX5_payClaims_42 ?_
      refine lv_istore (lv' := [(4, .int (imin (((itr pF i (v, v 0 6 + v 12 4, 0)).1) 9 i) ((itr pF i (v, v 0 6 + v 12 4, 0)).2.1))), (3, .int (nI i)), (2, .int ((itr pF i (v, v 0 6 + v 12 4, 0)).2.2)), (1, .int ((itr pF i (v, v 0 6 + v 12 4, 0)).2.1)), (0, .ref (ad 0))]) hx hb dX5_payClaims_45 hl (by decide) rfl (fun ls hl => ?_)
      refine lv_aload_n hx hb dX5_payClaims_47 rfl (lv_at hl 4 rfl) ?_
      refine q_getr hx hb hts hown hW (r := 0) (hI.c 0 (by decide)) rfl k_6 5 (by decide) rfl t_142 (a := ad 6) (hI.o0 5 (by decide)) dX5_payClaims_48 ?_
      refine q_getr hx hb hts hown hW (r := 6) (hI.c 6 (by decide)) rfl k_5 3 (by decide) rfl t_118 (a := ad 10) (hI.o6 3 (by decide)) dX5_payClaims_51 ?_
      refine lv_iload_n hx hb dX5_payClaims_54 rfl (lv_at hl 1 rfl) ?_
      refine lv_iload hx hb dX5_payClaims_55 (lv_at hl 0 rfl) ?_
      refine q_iast hx hb hW hS (r := 10) (hI.c 10 (by decide)) rfl i rfl (show _ < 6 by omega) (by decide) dX5_payClaims_57 (fun H locs hW hS => ?_)
      have hI : PI G.2.2.2 L ad (up2 ((itr pF i (v, v 0 6 + v 12 4, 0)).1) 10 i (imin (((itr pF i (v, v 0 6 + v 12 4, 0)).1) 9 i) ((itr pF i (v, v 0 6 + v 12 4, 0)).2.1))) o ng nh nl ns ow gx gy gw gd := hI.kp (kp_up (by unfold depC dep; omega))
      generalize hv2 : (up2 ((itr pF i (v, v 0 6 + v 12 4, 0)).1) 10 i (imin (((itr pF i (v, v 0 6 + v 12 4, 0)).1) 9 i) ((itr pF i (v, v 0 6 + v 12 4, 0)).2.1))) = v2 at hW hI
      refine lv_iload_n hx hb dX5_payClaims_58 rfl (lv_at hl 3 rfl) ?_
      refine lv_iload hx hb dX5_payClaims_59 (lv_at hl 0 rfl) ?_
      refine lv_isub hx hb dX5_payClaims_61 ?_
      refine lv_istore_n (lv' := [(1, .int (((itr pF i (v, v 0 6 + v 12 4, 0)).2.1) - (imin (((itr pF i (v, v 0 6 + v 12 4, 0)).1) 9 i) ((itr pF i (v, v 0 6 + v 12 4, 0)).2.1)))), (4, .int (imin (((itr pF i (v, v 0 6 + v 12 4, 0)).1) 9 i) ((itr pF i (v, v 0 6 + v 12 4, 0)).2.1))), (3, .int (nI i)), (2, .int ((itr pF i (v, v 0 6 + v 12 4, 0)).2.2)), (0, .ref (ad 0))]) hx hb dX5_payClaims_62 rfl hl (by decide) rfl (fun ls hl => ?_)
      refine lv_iload_n hx hb dX5_payClaims_63 rfl (lv_at hl 3 rfl) ?_
      refine lv_aload_n hx hb dX5_payClaims_64 rfl (lv_at hl 4 rfl) ?_
      refine q_getr hx hb hts hown hW (r := 0) (hI.c 0 (by decide)) rfl k_6 5 (by decide) rfl t_142 (a := ad 6) (hI.o0 5 (by decide)) dX5_payClaims_65 ?_
      refine q_getr hx hb hts hown hW (r := 6) (hI.c 6 (by decide)) rfl k_5 2 (by decide) rfl t_116 (a := ad 9) (hI.o6 2 (by decide)) dX5_payClaims_68 ?_
      refine lv_iload_n hx hb dX5_payClaims_71 rfl (lv_at hl 2 rfl) ?_
      refine q_iald hx hb hW (r := 9) (hI.c 9 (by decide)) rfl i rfl (show _ < 6 by omega) (by decide) (x := (v2 9 i)) rfl dX5_payClaims_72 ?_
      refine lv_iload hx hb dX5_payClaims_73 (lv_at hl 1 rfl) ?_
      refine lv_isub hx hb dX5_payClaims_75 ?_
      refine lv_iadd hx hb dX5_payClaims_76 ?_
      refine lv_istore_n (lv' := [(2, .int (((itr pF i (v, v 0 6 + v 12 4, 0)).2.2) + ((v2 9 i) - (imin (((itr pF i (v, v 0 6 + v 12 4, 0)).1) 9 i) ((itr pF i (v, v 0 6 + v 12 4, 0)).2.1))))), (1, .int (((itr pF i (v, v 0 6 + v 12 4, 0)).2.1) - (imin (((itr pF i (v, v 0 6 + v 12 4, 0)).1) 9 i) ((itr pF i (v, v 0 6 + v 12 4, 0)).2.1)))), (4, .int (imin (((itr pF i (v, v 0 6 + v 12 4, 0)).1) 9 i) ((itr pF i (v, v 0 6 + v 12 4, 0)).2.1))), (3, .int (nI i)), (0, .ref (ad 0))]) hx hb dX5_payClaims_77 rfl hl (by decide) rfl (fun ls hl => ?_)
      refine lv_iinc (v := (nI (i + 1))) (lv' := [(3, .int (nI (i + 1))), (2, .int (((itr pF i (v, v 0 6 + v 12 4, 0)).2.2) + ((v2 9 i) - (imin (((itr pF i (v, v 0 6 + v 12 4, 0)).1) 9 i) ((itr pF i (v, v 0 6 + v 12 4, 0)).2.1))))), (1, .int (((itr pF i (v, v 0 6 + v 12 4, 0)).2.1) - (imin (((itr pF i (v, v 0 6 + v 12 4, 0)).1) 9 i) ((itr pF i (v, v 0 6 + v 12 4, 0)).2.1)))), (4, .int (imin (((itr pF i (v, v 0 6 + v 12 4, 0)).1) 9 i) ((itr pF i (v, v 0 6 + v 12 4, 0)).2.1))), (0, .ref (ad 0))]) hx hb dX5_payClaims_78 hl (k := 3) rfl (inc_nI _) (by decide) rfl (fun ls hl => ?_)
      refine lv_goto (tgt := 19) hx hb dX5_payClaims_81 (by decide) ?_
      subst hv2
      exact ih_19 (i + 1) _ _ _   _ H locs ls (by omega) (by omega) (by rfl) (by rfl) (by rfl) (by rfl)  hW hS (lv_sub hl [0, 1, 2, 4] rfl)

set_option maxHeartbeats 4000000 in
set_option maxRecDepth 100000 in
theorem c_X5_takeTrialOver (l : Launch) {G : GG} {L : List Nat} {ad : Nat → Nat} {v : Nat → Nat → Int32} {o : Nat → Nat → Option Nat} {w : Nat → Int64} {ng nh nl ns : Nat} {ow gx gy gw gd : Nat → Nat} (hI : PI G.2.2.2 L ad v o ng nh nl ns ow gx gy gw gd) (h30 : ns < 30) : CtV l G L ad v o w yX5_takeTrialOver cX5_takeTrialOver 3 ({ frames := 4, cells := 0, slots := 0, locals := 100 }) [.ref (ad 0)] (fun u => u = uTake v ng nl ns) := by
  have hb6 := hI.g6; have hb12 := hI.h12; have hbl := hI.l6; have hbs := hI.s30
  refine q_ofV (by decide) (Nat.le_of_ble_eq_true rfl) ?_
  intro p e s m below meth c hx hb hr hml hts hown hlocks hE h0 hW hS hin ls hl
  generalize hH : s.heap = H at hW
  have hS : va_S (Ab G.2.2.1) s.heap H [] := hH ▸ hS
  obtain ⟨locs, hlc⟩ : ∃ z : List Loc, z = [] := ⟨_, rfl⟩
  rw [← hlc] at hS ⊢
  have hl : lv_has ls 3 [(0, .ref (ad 0))] := hl
  refine lv_aload_n hx hb dX5_takeTrialOver_0 rfl (lv_at hl 0 rfl) ?_
  refine q_getr hx hb hts hown hW (r := 0) (hI.c 0 (by decide)) rfl k_6 5 (by decide) rfl t_142 (a := ad 6) (hI.o0 5 (by decide)) dX5_takeTrialOver_1 ?_
  refine q_getr hx hb hts hown hW (r := 6) (hI.c 6 (by decide)) rfl k_5 0 (by decide) rfl t_112 (a := ad 7) (hI.o6 0 (by decide)) dX5_takeTrialOver_4 ?_
  refine lv_iconst (v := 0) hx hb dX5_takeTrialOver_7 (by decide) ?_
  refine lv_aload_n hx hb dX5_takeTrialOver_8 rfl (lv_at hl 0 rfl) ?_
  refine q_getr hx hb hts hown hW (r := 0) (hI.c 0 (by decide)) rfl k_6 3 (by decide) rfl t_140 (a := ad 4) (hI.o0 3 (by decide)) dX5_takeTrialOver_9 ?_
  refine lv_iconst (v := 0) hx hb dX5_takeTrialOver_12 (by decide) ?_
  refine lv_sipush (v := 400) hx hb dX5_takeTrialOver_13 (by decide) ?_
  refine q_copy hx hb hml hl.1 hts hown m_copy t_813 hW hS (r0 := 7) (r1 := 4) (hI.c 7 (by decide)) (hI.c 4 (by decide)) rfl rfl 0 0 400 rfl rfl rfl (by decide) (by decide) (by decide) (by decide) (Nat.le_of_ble_eq_true rfl) (Nat.le_of_ble_eq_true rfl) dX5_takeTrialOver_16 (fun H locs hW hS => ?_)
  have hI : PI G.2.2.2 L ad (cpy2 v 7 4 0 0 400) o ng nh nl ns ow gx gy gw gd := hI.kp (kp_cpy (by intro k; unfold depC dep; omega))
  refine lv_iconst (v := 0) hx hb dX5_takeTrialOver_19 (by decide) ?_
  refine lv_istore_n (lv' := [(1, .int 0), (0, .ref (ad 0))]) hx hb dX5_takeTrialOver_20 rfl hl (by decide) rfl (fun ls hl => ?_)
  suffices LP_21 : ∀ (n_21 i : Nat) (x1_21 : Int32)  (u_21 : Nat → Nat → Int32) (H : Heap) (locs : List Loc) (ls : Array Slot), nl + 1 ≤ i + n_21 → i ≤ nl → nI i = x1_21 → itr tL i (cpy2 v 7 4 0 0 400) = u_21 → WD G L ad u_21 o w s H → va_S (Ab G.2.2.1) s.heap H locs → lv_has ls 3 [(1, .int x1_21), (0, .ref (ad 0))] → W p l e ({ frames := 4, cells := 0, slots := 0, locals := 100 } : Room) s m ([.ref (ad 0)] : List Value).toArray below meth c H locs 0 0 (MQ below (va_Qv (fun u => u = uTake v ng nl ns) (fun u t => WD G L ad u o w t t.heap) (Ab G.2.2.1)) ([.ref (ad 0)] : List Value).toArray s ({ frames := 4, cells := 0, slots := 0, locals := 100 } : Room).cells ({ frames := 4, cells := 0, slots := 0, locals := 100 } : Room).slots (Ab G.2.2.1)) (F0 m 21 ls []) from LP_21 (nl + 1) 0 _   _ H locs ls (by omega) (by omega) (by rfl) (by rfl)  hW hS (lv_sub hl [0, 1] rfl)
  intro n_21
  induction n_21 with
  | zero => intro i x1_21  u_21 H locs ls h1 h2; exact absurd h1 (by omega)
  | succ n_21 ih_21 =>
    intro i x1_21  u_21 H locs ls hn_21 hi_21 ex1_21 eu_21  hW hS hl
    subst ex1_21
    subst eu_21
    have hI : PI G.2.2.2 L ad (itr tL i (cpy2 v 7 4 0 0 400)) o ng nh nl ns ow gx gy gw gd := hI.kp (kp_itr (fun _ _ _ => kp_tL (by omega)))
    refine lv_iload_n hx hb dX5_takeTrialOver_21 rfl (lv_at hl 0 rfl) ?_
    refine lv_aload_n hx hb dX5_takeTrialOver_22 rfl (lv_at hl 1 rfl) ?_
    refine q_getr hx hb hts hown hW (r := 0) (hI.c 0 (by decide)) rfl k_6 2 (by decide) rfl t_139 (a := ad 3) (hI.o0 2 (by decide)) dX5_takeTrialOver_23 ?_
    refine q_cFiE (As := []) (rest := [.int (nI i)]) (r := 3) hx hb hml hts hown hE h0 hW hS hE.2.1 (c_size l hI.ll) t_178 t_176 t_174 t_49 (by decide) (by decide +kernel) (hI.c 3 (by decide)) rfl k_0 t_170 ⟨Nat.le_of_ble_eq_true rfl, Nat.le_of_ble_eq_true rfl⟩ rfl hl.1 (Nat.le_of_ble_eq_true rfl) dX5_takeTrialOver_26 ⟨Nat.zero_le _, Nat.zero_le _⟩ ⟨rfl, rfl⟩ (fun H locs hW hS => ?_)
    refine lv_icmp_ge (tgt := 90) hx hb dX5_takeTrialOver_31 (by decide) (fun c_31 => ?_) (fun c_31 => ?_)
    · skip
      have hq_21 := (ge_i (n := nl) (by omega) hi_21 c_31).symm
      subst hq_21
      refine lv_aload_n hx hb dX5_takeTrialOver_90 rfl (lv_at hl 1 rfl) ?_
      refine lv_dup hx hb dX5_takeTrialOver_91 rfl ?_
      refine q_get hx hb hts hown hW (r := 0) (hI.c 0 (by decide)) rfl k_6 6 (by decide) rfl t_143 (x := ((itr tL nl (cpy2 v 7 4 0 0 400)) 0 6)) rfl dX5_takeTrialOver_92 ?_
      refine lv_aload_n hx hb dX5_takeTrialOver_95 rfl (lv_at hl 1 rfl) ?_
      refine q_getr hx hb hts hown hW (r := 0) (hI.c 0 (by decide)) rfl k_6 5 (by decide) rfl t_142 (a := ad 6) (hI.o0 5 (by decide)) dX5_takeTrialOver_96 ?_
      refine q_getr hx hb hts hown hW (r := 6) (hI.c 6 (by decide)) rfl k_5 5 (by decide) rfl t_122 (a := ad 12) (hI.o6 5 (by decide)) dX5_takeTrialOver_99 ?_
      refine lv_iconst (v := 4) hx hb dX5_takeTrialOver_102 (by decide) ?_
      refine q_iald hx hb hW (r := 12) (hI.c 12 (by decide)) rfl 4 rfl (by decide) (by decide) (x := ((itr tL nl (cpy2 v 7 4 0 0 400)) 12 4)) rfl dX5_takeTrialOver_103 ?_
      refine lv_iadd hx hb dX5_takeTrialOver_104 ?_
      refine q_put hx hb hts hown hW hS (r := 0) (hI.c 0 (by decide)) rfl k_6 6 (by decide) rfl t_143 rfl (t := .int) (by decide +kernel) rfl rfl dX5_takeTrialOver_105 (fun H locs hW hS => ?_)
      have hI : PI G.2.2.2 L ad (up2 (itr tL nl (cpy2 v 7 4 0 0 400)) 0 6 (((itr tL nl (cpy2 v 7 4 0 0 400)) 0 6) + ((itr tL nl (cpy2 v 7 4 0 0 400)) 12 4))) o ng nh nl ns ow gx gy gw gd := hI.kp (kp_up (by unfold depC dep; omega))
      refine lv_iconst (v := 0) hx hb dX5_takeTrialOver_108 (by decide) ?_
      refine lv_istore_n (lv' := [(1, .int 0), (0, .ref (ad 0))]) hx hb dX5_takeTrialOver_109 rfl hl (by decide) rfl (fun ls hl => ?_)
      suffices LP_110 : ∀ (n_110 i : Nat) (x1_110 : Int32)  (u_110 : Nat → Nat → Int32) (H : Heap) (locs : List Loc) (ls : Array Slot), ng + 1 ≤ i + n_110 → i ≤ ng → nI i = x1_110 → itr tG i (uPool (itr tL nl (cpy2 v 7 4 0 0 400))) = u_110 → WD G L ad u_110 o w s H → va_S (Ab G.2.2.1) s.heap H locs → lv_has ls 3 [(1, .int x1_110), (0, .ref (ad 0))] → W p l e ({ frames := 4, cells := 0, slots := 0, locals := 100 } : Room) s m ([.ref (ad 0)] : List Value).toArray below meth c H locs 0 0 (MQ below (va_Qv (fun u => u = uTake v ng nl ns) (fun u t => WD G L ad u o w t t.heap) (Ab G.2.2.1)) ([.ref (ad 0)] : List Value).toArray s ({ frames := 4, cells := 0, slots := 0, locals := 100 } : Room).cells ({ frames := 4, cells := 0, slots := 0, locals := 100 } : Room).slots (Ab G.2.2.1)) (F0 m 110 ls []) from LP_110 (ng + 1) 0 _   _ H locs ls (by omega) (by omega) (by rfl) (by rfl)  hW hS (lv_sub hl [0, 1] rfl)
      intro n_110
      induction n_110 with
      | zero => intro i x1_110  u_110 H locs ls h1 h2; exact absurd h1 (by omega)
      | succ n_110 ih_110 =>
        intro i x1_110  u_110 H locs ls hn_110 hi_110 ex1_110 eu_110  hW hS hl
        subst ex1_110
        subst eu_110
        have hI : PI G.2.2.2 L ad (itr tG i (uPool (itr tL nl (cpy2 v 7 4 0 0 400)))) o ng nh nl ns ow gx gy gw gd := hI.kp (kp_itr (fun _ _ _ => kp_tG (by omega)))
        refine lv_iload_n hx hb dX5_takeTrialOver_110 rfl (lv_at hl 0 rfl) ?_
        refine lv_aload_n hx hb dX5_takeTrialOver_111 rfl (lv_at hl 1 rfl) ?_
        refine q_getr hx hb hts hown hW (r := 0) (hI.c 0 (by decide)) rfl k_6 0 (by decide) rfl t_137 (a := ad 1) (hI.o0 0 (by decide)) dX5_takeTrialOver_112 ?_
        refine q_cFiE (As := []) (rest := [.int (nI i)]) (r := 1) hx hb hml hts hown hE h0 hW hS hE.2.1 (c_size l hI.lg) t_178 t_176 t_174 t_49 (by decide) (by decide +kernel) (hI.c 1 (by decide)) rfl k_0 t_170 ⟨Nat.le_of_ble_eq_true rfl, Nat.le_of_ble_eq_true rfl⟩ rfl hl.1 (Nat.le_of_ble_eq_true rfl) dX5_takeTrialOver_115 ⟨Nat.zero_le _, Nat.zero_le _⟩ ⟨rfl, rfl⟩ (fun H locs hW hS => ?_)
        refine lv_icmp_ge (tgt := 225) hx hb dX5_takeTrialOver_120 (by decide) (fun c_120 => ?_) (fun c_120 => ?_)
        · skip
          have hq_110 := (ge_i (n := ng) (by omega) hi_110 c_120).symm
          subst hq_110
          refine lv_aload_n hx hb dX5_takeTrialOver_225 rfl (lv_at hl 1 rfl) ?_
          refine q_getr hx hb hts hown hW (r := 0) (hI.c 0 (by decide)) rfl k_6 5 (by decide) rfl t_142 (a := ad 6) (hI.o0 5 (by decide)) dX5_takeTrialOver_226 ?_
          refine q_getr hx hb hts hown hW (r := 6) (hI.c 6 (by decide)) rfl k_5 5 (by decide) rfl t_122 (a := ad 12) (hI.o6 5 (by decide)) dX5_takeTrialOver_229 ?_
          refine lv_iconst (v := 0) hx hb dX5_takeTrialOver_232 (by decide) ?_
          refine lv_aload_n hx hb dX5_takeTrialOver_233 rfl (lv_at hl 1 rfl) ?_
          refine q_getr hx hb hts hown hW (r := 0) (hI.c 0 (by decide)) rfl k_6 4 (by decide) rfl t_141 (a := ad 5) (hI.o0 4 (by decide)) dX5_takeTrialOver_234 ?_
          refine lv_aload_n hx hb dX5_takeTrialOver_237 rfl (lv_at hl 1 rfl) ?_
          refine q_get hx hb hts hown hW (r := 0) (hI.c 0 (by decide)) rfl k_6 7 (by decide) rfl t_144 (x := (nI ns)) hI.eS dX5_takeTrialOver_238 ?_
          refine q_gald hx hb hW (r := 5) (hI.c 5 (by decide)) rfl (a := ad (20 + ns)) ns rfl (show _ < 30 by omega) (by decide) (hI.o5 ns h30) dX5_takeTrialOver_241 ?_
          refine lv_iconst (v := 0) hx hb dX5_takeTrialOver_242 (by decide) ?_
          refine lv_bipush (v := 6) hx hb dX5_takeTrialOver_243 (by decide) ?_
          refine q_copy hx hb hml hl.1 hts hown m_copy t_813 hW hS (r0 := 12) (r1 := (20 + ns)) (hI.c 12 (by decide)) (hI.rw ns h30) rfl (kd_row h30) 0 0 6 rfl rfl rfl (by decide) (by rw [ln_row h30]; decide) (by decide) (by rw [ln_row h30]; decide) (Nat.le_of_ble_eq_true rfl) (Nat.le_of_ble_eq_true rfl) dX5_takeTrialOver_245 (fun H locs hW hS => ?_)
          have hI : PI G.2.2.2 L ad (cpy2 (itr tG ng (uPool (itr tL nl (cpy2 v 7 4 0 0 400)))) 12 (20 + ns) 0 0 6) o ng nh nl ns ow gx gy gw gd := hI.kp (kp_cpy (by intro k; unfold depC dep; omega))
          generalize hv1 : (cpy2 (itr tG ng (uPool (itr tL nl (cpy2 v 7 4 0 0 400)))) 12 (20 + ns) 0 0 6) = v1 at hW hI
          refine lv_aload_n hx hb dX5_takeTrialOver_248 rfl (lv_at hl 1 rfl) ?_
          refine lv_dup hx hb dX5_takeTrialOver_249 rfl ?_
          refine q_get hx hb hts hown hW (r := 0) (hI.c 0 (by decide)) rfl k_6 7 (by decide) rfl t_144 (x := (nI ns)) hI.eS dX5_takeTrialOver_250 ?_
          refine lv_iconst (v := 1) hx hb dX5_takeTrialOver_253 (by decide) ?_
          refine lv_iadd hx hb dX5_takeTrialOver_254 ?_
          refine q_put hx hb hts hown hW hS (r := 0) (hI.c 0 (by decide)) rfl k_6 7 (by decide) rfl t_144 rfl (t := .int) (by decide +kernel) rfl rfl dX5_takeTrialOver_255 (fun H locs hW hS => ?_)
          generalize hv2 : (up2 v1 0 7 ((nI ns) + 1)) = v2 at hW
          subst hv2
          subst hv1
          exact q_vret hx hb hr hlocks hW hS (Nat.le_refl _) (Nat.le_refl _) dX5_takeTrialOver_258 (by rw [nI_1]; rfl)
        · skip
          have hlt_110 := lt_i (n := ng) (by omega) hi_110 c_120
          refine lv_aload_n hx hb dX5_takeTrialOver_123 rfl (lv_at hl 1 rfl) ?_
          refine q_getr hx hb hts hown hW (r := 0) (hI.c 0 (by decide)) rfl k_6 0 (by decide) rfl t_137 (a := ad 1) (hI.o0 0 (by decide)) dX5_takeTrialOver_124 ?_
          refine lv_iload_n hx hb dX5_takeTrialOver_127 rfl (lv_at hl 0 rfl) ?_
          refine q_cFrE (n := 1) (As := [.int (nI i)]) (rest := []) (r := 1) hx hb hml hts hown hE h0 hW hS hE.2.2.1 (c_get l hI.lg (i := i) hlt_110) t_191 t_189 t_187 t_49 (by decide) (by decide +kernel) (hI.c 1 (by decide)) rfl k_0 t_184 ⟨Nat.le_of_ble_eq_true rfl, Nat.le_of_ble_eq_true rfl⟩ rfl hl.1 (Nat.le_of_ble_eq_true rfl) dX5_takeTrialOver_128 ⟨Nat.zero_le _, Nat.zero_le _⟩ ⟨rfl, rfl⟩ (fun H locs hW hS => ?_)
          refine q_castS hx hb hts hown hW (r := (50 + i)) (hI.mg hlt_110) (hI.kg hlt_110) k_1 t_202 dX5_takeTrialOver_133 ?_
          refine lv_astore_n (lv' := [(2, .ref (ad (50 + i))), (1, .int (nI i)), (0, .ref (ad 0))]) hx hb dX5_takeTrialOver_136 rfl hl (by decide) rfl (fun ls hl => ?_)
          refine lv_aload_n hx hb dX5_takeTrialOver_137 rfl (lv_at hl 0 rfl) ?_
          refine lv_dup hx hb dX5_takeTrialOver_138 rfl ?_
          refine q_get hx hb hts hown hW (r := (50 + i)) (hI.mg hlt_110) (hI.kg hlt_110) k_1 6 (by decide) rfl t_423 (x := ((itr tG i (uPool (itr tL nl (cpy2 v 7 4 0 0 400)))) (50 + i) 6)) rfl dX5_takeTrialOver_139 ?_
          refine lv_aload_n hx hb dX5_takeTrialOver_142 rfl (lv_at hl 2 rfl) ?_
          refine q_getr hx hb hts hown hW (r := 0) (hI.c 0 (by decide)) rfl k_6 5 (by decide) rfl t_142 (a := ad 6) (hI.o0 5 (by decide)) dX5_takeTrialOver_143 ?_
          refine q_getr hx hb hts hown hW (r := 6) (hI.c 6 (by decide)) rfl k_5 2 (by decide) rfl t_116 (a := ad 9) (hI.o6 2 (by decide)) dX5_takeTrialOver_146 ?_
          refine lv_iload_n hx hb dX5_takeTrialOver_149 rfl (lv_at hl 1 rfl) ?_
          refine q_iald hx hb hW (r := 9) (hI.c 9 (by decide)) rfl i rfl (show _ < 6 by omega) (by decide) (x := ((itr tG i (uPool (itr tL nl (cpy2 v 7 4 0 0 400)))) 9 i)) rfl dX5_takeTrialOver_150 ?_
          refine lv_iadd hx hb dX5_takeTrialOver_151 ?_
          refine q_put hx hb hts hown hW hS (r := (50 + i)) (hI.mg hlt_110) (hI.kg hlt_110) k_1 6 (by decide) rfl t_423 rfl (t := .int) (by decide +kernel) rfl rfl dX5_takeTrialOver_152 (fun H locs hW hS => ?_)
          have hI : PI G.2.2.2 L ad (up2 (itr tG i (uPool (itr tL nl (cpy2 v 7 4 0 0 400)))) (50 + i) 6 (((itr tG i (uPool (itr tL nl (cpy2 v 7 4 0 0 400)))) (50 + i) 6) + ((itr tG i (uPool (itr tL nl (cpy2 v 7 4 0 0 400)))) 9 i))) o ng nh nl ns ow gx gy gw gd := hI.kp (kp_up (by unfold depC dep; omega))
          generalize hv3 : (up2 (itr tG i (uPool (itr tL nl (cpy2 v 7 4 0 0 400)))) (50 + i) 6 (((itr tG i (uPool (itr tL nl (cpy2 v 7 4 0 0 400)))) (50 + i) 6) + ((itr tG i (uPool (itr tL nl (cpy2 v 7 4 0 0 400)))) 9 i))) = v3 at hW hI
          refine lv_aload_n hx hb dX5_takeTrialOver_155 rfl (lv_at hl 0 rfl) ?_
          refine lv_dup hx hb dX5_takeTrialOver_156 rfl ?_
          refine q_get hx hb hts hown hW (r := (50 + i)) (hI.mg hlt_110) (hI.kg hlt_110) k_1 0 (by decide) rfl t_411 (x := (v3 (50 + i) 0)) rfl dX5_takeTrialOver_157 ?_
          refine lv_aload_n hx hb dX5_takeTrialOver_160 rfl (lv_at hl 2 rfl) ?_
          refine q_getr hx hb hts hown hW (r := 0) (hI.c 0 (by decide)) rfl k_6 5 (by decide) rfl t_142 (a := ad 6) (hI.o0 5 (by decide)) dX5_takeTrialOver_161 ?_
          refine q_getr hx hb hts hown hW (r := 6) (hI.c 6 (by decide)) rfl k_5 3 (by decide) rfl t_118 (a := ad 10) (hI.o6 3 (by decide)) dX5_takeTrialOver_164 ?_
          refine lv_iload_n hx hb dX5_takeTrialOver_167 rfl (lv_at hl 1 rfl) ?_
          refine q_iald hx hb hW (r := 10) (hI.c 10 (by decide)) rfl i rfl (show _ < 6 by omega) (by decide) (x := (v3 10 i)) rfl dX5_takeTrialOver_168 ?_
          refine lv_iadd hx hb dX5_takeTrialOver_169 ?_
          refine q_put hx hb hts hown hW hS (r := (50 + i)) (hI.mg hlt_110) (hI.kg hlt_110) k_1 0 (by decide) rfl t_411 rfl (t := .int) (by decide +kernel) rfl rfl dX5_takeTrialOver_170 (fun H locs hW hS => ?_)
          have hI : PI G.2.2.2 L ad (up2 v3 (50 + i) 0 ((v3 (50 + i) 0) + (v3 10 i))) o ng nh nl ns ow gx gy gw gd := hI.kp (kp_up (by unfold depC dep; omega))
          generalize hv4 : (up2 v3 (50 + i) 0 ((v3 (50 + i) 0) + (v3 10 i))) = v4 at hW hI
          refine lv_aload_n hx hb dX5_takeTrialOver_173 rfl (lv_at hl 0 rfl) ?_
          refine lv_dup hx hb dX5_takeTrialOver_174 rfl ?_
          refine q_get hx hb hts hown hW (r := (50 + i)) (hI.mg hlt_110) (hI.kg hlt_110) k_1 7 (by decide) rfl t_424 (x := (v4 (50 + i) 7)) rfl dX5_takeTrialOver_175 ?_
          refine lv_aload_n hx hb dX5_takeTrialOver_178 rfl (lv_at hl 2 rfl) ?_
          refine q_getr hx hb hts hown hW (r := 0) (hI.c 0 (by decide)) rfl k_6 5 (by decide) rfl t_142 (a := ad 6) (hI.o0 5 (by decide)) dX5_takeTrialOver_179 ?_
          refine q_getr hx hb hts hown hW (r := 6) (hI.c 6 (by decide)) rfl k_5 2 (by decide) rfl t_116 (a := ad 9) (hI.o6 2 (by decide)) dX5_takeTrialOver_182 ?_
          refine lv_iload_n hx hb dX5_takeTrialOver_185 rfl (lv_at hl 1 rfl) ?_
          refine q_iald hx hb hW (r := 9) (hI.c 9 (by decide)) rfl i rfl (show _ < 6 by omega) (by decide) (x := (v4 9 i)) rfl dX5_takeTrialOver_186 ?_
          refine lv_aload_n hx hb dX5_takeTrialOver_187 rfl (lv_at hl 2 rfl) ?_
          refine q_getr hx hb hts hown hW (r := 0) (hI.c 0 (by decide)) rfl k_6 5 (by decide) rfl t_142 (a := ad 6) (hI.o0 5 (by decide)) dX5_takeTrialOver_188 ?_
          refine q_getr hx hb hts hown hW (r := 6) (hI.c 6 (by decide)) rfl k_5 3 (by decide) rfl t_118 (a := ad 10) (hI.o6 3 (by decide)) dX5_takeTrialOver_191 ?_
          refine lv_iload_n hx hb dX5_takeTrialOver_194 rfl (lv_at hl 1 rfl) ?_
          refine q_iald hx hb hW (r := 10) (hI.c 10 (by decide)) rfl i rfl (show _ < 6 by omega) (by decide) (x := (v4 10 i)) rfl dX5_takeTrialOver_195 ?_
          refine lv_isub hx hb dX5_takeTrialOver_196 ?_
          refine lv_iadd hx hb dX5_takeTrialOver_197 ?_
          refine q_put hx hb hts hown hW hS (r := (50 + i)) (hI.mg hlt_110) (hI.kg hlt_110) k_1 7 (by decide) rfl t_424 rfl (t := .int) (by decide +kernel) rfl rfl dX5_takeTrialOver_198 (fun H locs hW hS => ?_)
          have hI : PI G.2.2.2 L ad (up2 v4 (50 + i) 7 ((v4 (50 + i) 7) + ((v4 9 i) - (v4 10 i)))) o ng nh nl ns ow gx gy gw gd := hI.kp (kp_up (by unfold depC dep; omega))
          generalize hv5 : (up2 v4 (50 + i) 7 ((v4 (50 + i) 7) + ((v4 9 i) - (v4 10 i)))) = v5 at hW hI
          refine lv_aload_n hx hb dX5_takeTrialOver_201 rfl (lv_at hl 2 rfl) ?_
          refine lv_dup hx hb dX5_takeTrialOver_202 rfl ?_
          refine q_get hx hb hts hown hW (r := 0) (hI.c 0 (by decide)) rfl k_6 6 (by decide) rfl t_143 (x := (v5 0 6)) rfl dX5_takeTrialOver_203 ?_
          refine lv_aload_n hx hb dX5_takeTrialOver_206 rfl (lv_at hl 2 rfl) ?_
          refine q_getr hx hb hts hown hW (r := 0) (hI.c 0 (by decide)) rfl k_6 5 (by decide) rfl t_142 (a := ad 6) (hI.o0 5 (by decide)) dX5_takeTrialOver_207 ?_
          refine q_getr hx hb hts hown hW (r := 6) (hI.c 6 (by decide)) rfl k_5 3 (by decide) rfl t_118 (a := ad 10) (hI.o6 3 (by decide)) dX5_takeTrialOver_210 ?_
          refine lv_iload_n hx hb dX5_takeTrialOver_213 rfl (lv_at hl 1 rfl) ?_
          refine q_iald hx hb hW (r := 10) (hI.c 10 (by decide)) rfl i rfl (show _ < 6 by omega) (by decide) (x := (v5 10 i)) rfl dX5_takeTrialOver_214 ?_
          refine lv_isub hx hb dX5_takeTrialOver_215 ?_
          refine q_put hx hb hts hown hW hS (r := 0) (hI.c 0 (by decide)) rfl k_6 6 (by decide) rfl t_143 rfl (t := .int) (by decide +kernel) rfl rfl dX5_takeTrialOver_216 (fun H locs hW hS => ?_)
          have hI : PI G.2.2.2 L ad (up2 v5 0 6 ((v5 0 6) - (v5 10 i))) o ng nh nl ns ow gx gy gw gd := hI.kp (kp_up (by unfold depC dep; omega))
          generalize hv6 : (up2 v5 0 6 ((v5 0 6) - (v5 10 i))) = v6 at hW hI
          refine lv_iinc (v := (nI (i + 1))) (lv' := [(1, .int (nI (i + 1))), (2, .ref (ad (50 + i))), (0, .ref (ad 0))]) hx hb dX5_takeTrialOver_219 hl (k := 1) rfl (inc_nI _) (by decide) rfl (fun ls hl => ?_)
          refine lv_goto (tgt := 110) hx hb dX5_takeTrialOver_222 (by decide) ?_
          subst hv6
          subst hv5
          subst hv4
          subst hv3
          exact ih_110 (i + 1) _   _ H locs ls (by omega) (by omega) (by rfl) (by rfl)  hW hS (lv_sub hl [0, 2] rfl)
    · skip
      have hlt_21 := lt_i (n := nl) (by omega) hi_21 c_31
      refine lv_aload_n hx hb dX5_takeTrialOver_34 rfl (lv_at hl 1 rfl) ?_
      refine q_getr hx hb hts hown hW (r := 0) (hI.c 0 (by decide)) rfl k_6 2 (by decide) rfl t_139 (a := ad 3) (hI.o0 2 (by decide)) dX5_takeTrialOver_35 ?_
      refine lv_iload_n hx hb dX5_takeTrialOver_38 rfl (lv_at hl 0 rfl) ?_
      refine q_cFrE (n := 1) (As := [.int (nI i)]) (rest := []) (r := 3) hx hb hml hts hown hE h0 hW hS hE.2.2.1 (c_get l hI.ll (i := i) hlt_21) t_191 t_189 t_187 t_49 (by decide) (by decide +kernel) (hI.c 3 (by decide)) rfl k_0 t_184 ⟨Nat.le_of_ble_eq_true rfl, Nat.le_of_ble_eq_true rfl⟩ rfl hl.1 (Nat.le_of_ble_eq_true rfl) dX5_takeTrialOver_39 ⟨Nat.zero_le _, Nat.zero_le _⟩ ⟨rfl, rfl⟩ (fun H locs hW hS => ?_)
      refine q_castS hx hb hts hown hW (r := (80 + i)) (hI.ml hlt_21) (hI.kl hlt_21) k_3 t_235 dX5_takeTrialOver_44 ?_
      refine lv_astore_n (lv' := [(2, .ref (ad (80 + i))), (1, .int (nI i)), (0, .ref (ad 0))]) hx hb dX5_takeTrialOver_47 rfl hl (by decide) rfl (fun ls hl => ?_)
      refine lv_aload_n hx hb dX5_takeTrialOver_48 rfl (lv_at hl 0 rfl) ?_
      refine lv_dup hx hb dX5_takeTrialOver_49 rfl ?_
      refine q_get hx hb hts hown hW (r := (80 + i)) (hI.ml hlt_21) (hI.kl hlt_21) k_3 3 (by decide) rfl t_677 (x := ((itr tL i (cpy2 v 7 4 0 0 400)) (80 + i) 3)) rfl dX5_takeTrialOver_50 ?_
      refine lv_aload_n hx hb dX5_takeTrialOver_53 rfl (lv_at hl 2 rfl) ?_
      refine q_getr hx hb hts hown hW (r := 0) (hI.c 0 (by decide)) rfl k_6 5 (by decide) rfl t_142 (a := ad 6) (hI.o0 5 (by decide)) dX5_takeTrialOver_54 ?_
      refine q_getr hx hb hts hown hW (r := 6) (hI.c 6 (by decide)) rfl k_5 4 (by decide) rfl t_120 (a := ad 11) (hI.o6 4 (by decide)) dX5_takeTrialOver_57 ?_
      refine lv_iload_n hx hb dX5_takeTrialOver_60 rfl (lv_at hl 1 rfl) ?_
      refine q_iald hx hb hW (r := 11) (hI.c 11 (by decide)) rfl i rfl (show _ < 6 by omega) (by decide) (x := ((itr tL i (cpy2 v 7 4 0 0 400)) 11 i)) rfl dX5_takeTrialOver_61 ?_
      refine lv_isub hx hb dX5_takeTrialOver_62 ?_
      refine q_put hx hb hts hown hW hS (r := (80 + i)) (hI.ml hlt_21) (hI.kl hlt_21) k_3 3 (by decide) rfl t_677 rfl (t := .int) (by decide +kernel) rfl rfl dX5_takeTrialOver_63 (fun H locs hW hS => ?_)
      have hI : PI G.2.2.2 L ad (up2 (itr tL i (cpy2 v 7 4 0 0 400)) (80 + i) 3 (((itr tL i (cpy2 v 7 4 0 0 400)) (80 + i) 3) - ((itr tL i (cpy2 v 7 4 0 0 400)) 11 i))) o ng nh nl ns ow gx gy gw gd := hI.kp (kp_up (by unfold depC dep; omega))
      generalize hv7 : (up2 (itr tL i (cpy2 v 7 4 0 0 400)) (80 + i) 3 (((itr tL i (cpy2 v 7 4 0 0 400)) (80 + i) 3) - ((itr tL i (cpy2 v 7 4 0 0 400)) 11 i))) = v7 at hW hI
      refine lv_aload_n hx hb dX5_takeTrialOver_66 rfl (lv_at hl 0 rfl) ?_
      refine lv_dup hx hb dX5_takeTrialOver_67 rfl ?_
      refine q_get hx hb hts hown hW (r := (80 + i)) (hI.ml hlt_21) (hI.kl hlt_21) k_3 4 (by decide) rfl t_678 (x := (v7 (80 + i) 4)) rfl dX5_takeTrialOver_68 ?_
      refine lv_aload_n hx hb dX5_takeTrialOver_71 rfl (lv_at hl 2 rfl) ?_
      refine q_getr hx hb hts hown hW (r := 0) (hI.c 0 (by decide)) rfl k_6 5 (by decide) rfl t_142 (a := ad 6) (hI.o0 5 (by decide)) dX5_takeTrialOver_72 ?_
      refine q_getr hx hb hts hown hW (r := 6) (hI.c 6 (by decide)) rfl k_5 4 (by decide) rfl t_120 (a := ad 11) (hI.o6 4 (by decide)) dX5_takeTrialOver_75 ?_
      refine lv_iload_n hx hb dX5_takeTrialOver_78 rfl (lv_at hl 1 rfl) ?_
      refine q_iald hx hb hW (r := 11) (hI.c 11 (by decide)) rfl i rfl (show _ < 6 by omega) (by decide) (x := (v7 11 i)) rfl dX5_takeTrialOver_79 ?_
      refine lv_iadd hx hb dX5_takeTrialOver_80 ?_
      refine q_put hx hb hts hown hW hS (r := (80 + i)) (hI.ml hlt_21) (hI.kl hlt_21) k_3 4 (by decide) rfl t_678 rfl (t := .int) (by decide +kernel) rfl rfl dX5_takeTrialOver_81 (fun H locs hW hS => ?_)
      have hI : PI G.2.2.2 L ad (up2 v7 (80 + i) 4 ((v7 (80 + i) 4) + (v7 11 i))) o ng nh nl ns ow gx gy gw gd := hI.kp (kp_up (by unfold depC dep; omega))
      generalize hv8 : (up2 v7 (80 + i) 4 ((v7 (80 + i) 4) + (v7 11 i))) = v8 at hW hI
      refine lv_iinc (v := (nI (i + 1))) (lv' := [(1, .int (nI (i + 1))), (2, .ref (ad (80 + i))), (0, .ref (ad 0))]) hx hb dX5_takeTrialOver_84 hl (k := 1) rfl (inc_nI _) (by decide) rfl (fun ls hl => ?_)
      refine lv_goto (tgt := 21) hx hb dX5_takeTrialOver_87 (by decide) ?_
      subst hv8
      subst hv7
      exact ih_21 (i + 1) _   _ H locs ls (by omega) (by omega) (by rfl) (by rfl)  hW hS (lv_sub hl [0, 2] rfl)

set_option maxHeartbeats 4000000 in
set_option maxRecDepth 100000 in
theorem c_X5_tryStorm (l : Launch) {G : GG} {L : List Nat} {ad : Nat → Nat} {v : Nat → Nat → Int32} {o : Nat → Nat → Option Nat} {w : Nat → Int64} {ng nh nl ns : Nat} {ow gx gy gw gd : Nat → Nat} (hI : PI G.2.2.2 L ad v o ng nh nl ns ow gx gy gw gd) {sx sy dx dy rad : Int} {F : Int32} {st : Nat} (h180 : 180 ∈ L) (hT : SI v sx sy dx dy rad F st) : CtV l G L ad v o w yX5_tryStorm cX5_tryStorm 2 ({ frames := 5, cells := 0, slots := 0, locals := 125 }) [.ref (ad 0), .ref (ad 180)] (fun u => u = uTry v ow gx gy gw gd ng nh nl sx sy dx dy rad F st) := by
  have hb6 := hI.g6; have hb12 := hI.h12; have hbl := hI.l6; have hbs := hI.s30
  refine q_ofV (by decide) (Nat.le_of_ble_eq_true rfl) ?_
  intro p e s m below meth c hx hb hr hml hts hown hlocks hE h0 hW hS hin ls hl
  generalize hH : s.heap = H at hW
  have hS : va_S (Ab G.2.2.1) s.heap H [] := hH ▸ hS
  obtain ⟨locs, hlc⟩ : ∃ z : List Loc, z = [] := ⟨_, rfl⟩
  rw [← hlc] at hS ⊢
  have hl : lv_has ls 2 [(0, .ref (ad 0)), (1, .ref (ad 180))] := hl
  refine lv_aload_n hx hb dX5_tryStorm_0 rfl (lv_at hl 0 rfl) ?_
  refine lv_aload_n hx hb dX5_tryStorm_1 rfl (lv_at hl 1 rfl) ?_
  refine q_cVvE (As := [.ref (ad 180)]) (rest := []) (r := 0) hx hb hml hts hown hE h0 hW hS (c_X5_blow l hI h180 hT) mw_X5_blow (hI.c 0 (by decide)) rfl k_6 t_761 ⟨Nat.le_of_ble_eq_true rfl, Nat.le_of_ble_eq_true rfl⟩ rfl hl.1 (Nat.le_of_ble_eq_true rfl) dX5_tryStorm_2 ⟨Nat.zero_le _, Nat.zero_le _⟩ ⟨rfl, rfl⟩ (fun H locs hW hS => ?_)
  have hI : PI G.2.2.2 L ad (uBlow v ow gx gy gw gd nh sx sy dx dy rad F st) o ng nh nl ns ow gx gy gw gd := hI.kp kp_uBlow
  generalize hv1 : (uBlow v ow gx gy gw gd nh sx sy dx dy rad F st) = v1 at hW hI
  refine lv_aload_n hx hb dX5_tryStorm_5 rfl (lv_at hl 0 rfl) ?_
  refine q_cVvE (As := []) (rest := []) (r := 0) hx hb hml hts hown hE h0 hW hS (c_X5_claimDamages l hI) mw_X5_claimDamages (hI.c 0 (by decide)) rfl k_6 t_787 ⟨Nat.le_of_ble_eq_true rfl, Nat.le_of_ble_eq_true rfl⟩ rfl hl.1 (Nat.le_of_ble_eq_true rfl) dX5_tryStorm_6 ⟨Nat.zero_le _, Nat.zero_le _⟩ ⟨rfl, rfl⟩ (fun H locs hW hS => ?_)
  have hI : PI G.2.2.2 L ad (uClaims v1 ng) o ng nh nl ns ow gx gy gw gd := hI.kp kp_uClaims
  generalize hv2 : (uClaims v1 ng) = v2 at hW hI
  refine lv_aload_n hx hb dX5_tryStorm_9 rfl (lv_at hl 0 rfl) ?_
  refine q_cVvE (As := []) (rest := []) (r := 0) hx hb hml hts hown hE h0 hW hS (c_X5_callLayers l hI) mw_X5_callLayers (hI.c 0 (by decide)) rfl k_6 t_795 ⟨Nat.le_of_ble_eq_true rfl, Nat.le_of_ble_eq_true rfl⟩ rfl hl.1 (Nat.le_of_ble_eq_true rfl) dX5_tryStorm_10 ⟨Nat.zero_le _, Nat.zero_le _⟩ ⟨rfl, rfl⟩ (fun H locs hW hS => ?_)
  have hI : PI G.2.2.2 L ad (uLayers v2 nl) o ng nh nl ns ow gx gy gw gd := hI.kp kp_uLayers
  generalize hv3 : (uLayers v2 nl) = v3 at hW hI
  refine lv_aload_n hx hb dX5_tryStorm_13 rfl (lv_at hl 0 rfl) ?_
  refine q_cVvE (As := []) (rest := []) (r := 0) hx hb hml hts hown hE h0 hW hS (c_X5_payClaims l hI) mw_X5_payClaims (hI.c 0 (by decide)) rfl k_6 t_805 ⟨Nat.le_of_ble_eq_true rfl, Nat.le_of_ble_eq_true rfl⟩ rfl hl.1 (Nat.le_of_ble_eq_true rfl) dX5_tryStorm_14 ⟨Nat.zero_le _, Nat.zero_le _⟩ ⟨rfl, rfl⟩ (fun H locs hW hS => ?_)
  have hI : PI G.2.2.2 L ad (uPays v3 ng) o ng nh nl ns ow gx gy gw gd := hI.kp kp_uPays
  generalize hv4 : (uPays v3 ng) = v4 at hW hI
  subst hv4
  subst hv3
  subst hv2
  subst hv1
  exact q_vret hx hb hr hlocks hW hS (Nat.le_refl _) (Nat.le_refl _) dX5_tryStorm_17 (rfl)

set_option maxHeartbeats 4000000 in
set_option maxRecDepth 100000 in
theorem c_X5_damageOf (l : Launch) {G : GG} {L : List Nat} {ad : Nat → Nat} {v : Nat → Nat → Int32} {o : Nat → Nat → Option Nat} {w : Nat → Int64} {ng nh nl ns : Nat} {ow gx gy gw gd : Nat → Nat} (hI : PI G.2.2.2 L ad v o ng nh nl ns ow gx gy gw gd) {sx sy dx dy rad : Int} {F : Int32} {st : Nat} (h180 : 180 ∈ L) (hT : SI v sx sy dx dy rad F st) : CtI l G L ad v o w yX5_damageOf cX5_damageOf 2 .int ({ frames := 5, cells := 0, slots := 0, locals := 125 }) [.ref (ad 0), .ref (ad 180)] (fun r u => r = uBlow v ow gx gy gw gd nh sx sy dx dy rad F st 12 2 ∧ u = uBlow v ow gx gy gw gd nh sx sy dx dy rad F st) := by
  have hb6 := hI.g6; have hb12 := hI.h12; have hbl := hI.l6; have hbs := hI.s30
  refine q_ofI (by decide) (Nat.le_of_ble_eq_true rfl) ?_
  intro p e s m below meth c hx hb hr hml hts hown hlocks hE h0 hW hS ls hl
  generalize hH : s.heap = H at hW
  have hS : va_S (Ab G.2.2.1) s.heap H [] := hH ▸ hS
  obtain ⟨locs, hlc⟩ : ∃ z : List Loc, z = [] := ⟨_, rfl⟩
  rw [← hlc] at hS ⊢
  have hl : lv_has ls 2 [(0, .ref (ad 0)), (1, .ref (ad 180))] := hl
  refine lv_aload_n hx hb dX5_damageOf_0 rfl (lv_at hl 0 rfl) ?_
  refine lv_aload_n hx hb dX5_damageOf_1 rfl (lv_at hl 1 rfl) ?_
  refine q_cVvE (As := [.ref (ad 180)]) (rest := []) (r := 0) hx hb hml hts hown hE h0 hW hS (c_X5_blow l hI h180 hT) mw_X5_blow (hI.c 0 (by decide)) rfl k_6 t_761 ⟨Nat.le_of_ble_eq_true rfl, Nat.le_of_ble_eq_true rfl⟩ rfl hl.1 (Nat.le_of_ble_eq_true rfl) dX5_damageOf_2 ⟨Nat.zero_le _, Nat.zero_le _⟩ ⟨rfl, rfl⟩ (fun H locs hW hS => ?_)
  have hI : PI G.2.2.2 L ad (uBlow v ow gx gy gw gd nh sx sy dx dy rad F st) o ng nh nl ns ow gx gy gw gd := hI.kp kp_uBlow
  generalize hv1 : (uBlow v ow gx gy gw gd nh sx sy dx dy rad F st) = v1 at hW hI
  refine lv_aload_n hx hb dX5_damageOf_5 rfl (lv_at hl 0 rfl) ?_
  refine q_getr hx hb hts hown hW (r := 0) (hI.c 0 (by decide)) rfl k_6 5 (by decide) rfl t_142 (a := ad 6) (hI.o0 5 (by decide)) dX5_damageOf_6 ?_
  refine q_getr hx hb hts hown hW (r := 6) (hI.c 6 (by decide)) rfl k_5 5 (by decide) rfl t_122 (a := ad 12) (hI.o6 5 (by decide)) dX5_damageOf_9 ?_
  refine lv_iconst (v := 2) hx hb dX5_damageOf_12 (by decide) ?_
  refine q_iald hx hb hW (r := 12) (hI.c 12 (by decide)) rfl 2 rfl (by decide) (by decide) (x := (v1 12 2)) rfl dX5_damageOf_13 ?_
  subst hv1
  exact q_iret hx hb hr hlocks hW hS (Nat.le_refl _) (Nat.le_refl _) dX5_damageOf_14 (⟨rfl, rfl⟩)

set_option maxHeartbeats 4000000 in
set_option maxRecDepth 100000 in
theorem c_X5_damageWithNet (l : Launch) {G : GG} {L : List Nat} {ad : Nat → Nat} {v : Nat → Nat → Int32} {o : Nat → Nat → Option Nat} {w : Nat → Int64} {ng nh nl ns : Nat} {ow gx gy gw gd : Nat → Nat} (hI : PI G.2.2.2 L ad v o ng nh nl ns ow gx gy gw gd) {h : Nat} (hh : h < nh) {sx sy dx dy rad : Int} {F : Int32} {st : Nat} (h180 : 180 ∈ L) (hT : SI v sx sy dx dy rad F st) : CtI l G L ad v o w yX5_damageWithNet cX5_damageWithNet 4 .int ({ frames := 6, cells := 0, slots := 0, locals := 146 }) [.ref (ad 0), .ref (ad (60 + h)), .ref (ad 180)] (fun r u => r = dNet v ow gx gy gw gd nh h sx sy dx dy rad F st ∧ u = uNet v ow gx gy gw gd nh h sx sy dx dy rad F st) := by
  have hb6 := hI.g6; have hb12 := hI.h12; have hbl := hI.l6; have hbs := hI.s30
  refine q_ofI (by decide) (Nat.le_of_ble_eq_true rfl) ?_
  intro p e s m below meth c hx hb hr hml hts hown hlocks hE h0 hW hS ls hl
  generalize hH : s.heap = H at hW
  have hS : va_S (Ab G.2.2.1) s.heap H [] := hH ▸ hS
  obtain ⟨locs, hlc⟩ : ∃ z : List Loc, z = [] := ⟨_, rfl⟩
  rw [← hlc] at hS ⊢
  have hl : lv_has ls 4 [(0, .ref (ad 0)), (1, .ref (ad (60 + h))), (2, .ref (ad 180))] := hl
  refine lv_aload_n hx hb dX5_damageWithNet_0 rfl (lv_at hl 1 rfl) ?_
  refine lv_iconst (v := 1) hx hb dX5_damageWithNet_1 (by decide) ?_
  refine q_put hx hb hts hown hW hS (r := (60 + h)) (hI.mh hh) (hI.kh hh) k_2 7 (by decide) rfl t_566 rfl (t := .boolean) (by decide +kernel) (by decide) (by decide) dX5_damageWithNet_2 (fun H locs hW hS => ?_)
  have hI : PI G.2.2.2 L ad (up2 v (60 + h) 7 1) o ng nh nl ns ow gx gy gw gd := hI.kp (kp_up (by unfold depC dep; omega))
  have hT := hT.kp (kp_up (r := 60 + h) (k := 7) (x := 1) (by unfold depC dep; omega))
  refine lv_aload_n hx hb dX5_damageWithNet_5 rfl (lv_at hl 0 rfl) ?_
  refine lv_aload_n hx hb dX5_damageWithNet_6 rfl (lv_at hl 2 rfl) ?_
  refine q_cViE (As := [.ref (ad 180)]) (rest := []) (r := 0) hx hb hml hts hown hE h0 hW hS (c_X5_damageOf l hI h180 hT) mw_X5_damageOf (hI.c 0 (by decide)) rfl k_6 t_847 ⟨Nat.le_of_ble_eq_true rfl, Nat.le_of_ble_eq_true rfl⟩ rfl hl.1 (Nat.le_of_ble_eq_true rfl) dX5_damageWithNet_7 ⟨Nat.zero_le _, Nat.zero_le _⟩ ⟨rfl, rfl⟩ (fun H locs hW hS => ?_)
  have hI : PI G.2.2.2 L ad (uBlow (up2 v (60 + h) 7 1) ow gx gy gw gd nh sx sy dx dy rad F st) o ng nh nl ns ow gx gy gw gd := hI.kp kp_uBlow
  refine lv_istore_n (lv' := [(3, .int (uBlow (up2 v (60 + h) 7 1) ow gx gy gw gd nh sx sy dx dy rad F st 12 2)), (0, .ref (ad 0)), (1, .ref (ad (60 + h))), (2, .ref (ad 180))]) hx hb dX5_damageWithNet_10 rfl hl (by decide) rfl (fun ls hl => ?_)
  refine lv_aload_n hx hb dX5_damageWithNet_11 rfl (lv_at hl 2 rfl) ?_
  refine lv_iconst (v := 0) hx hb dX5_damageWithNet_12 (by decide) ?_
  refine q_put hx hb hts hown hW hS (r := (60 + h)) (hI.mh hh) (hI.kh hh) k_2 7 (by decide) rfl t_566 rfl (t := .boolean) (by decide +kernel) (by decide) (by decide) dX5_damageWithNet_13 (fun H locs hW hS => ?_)
  have hI : PI G.2.2.2 L ad (up2 (uBlow (up2 v (60 + h) 7 1) ow gx gy gw gd nh sx sy dx dy rad F st) (60 + h) 7 0) o ng nh nl ns ow gx gy gw gd := hI.kp (kp_up (by unfold depC dep; omega))
  generalize hv1 : (up2 (uBlow (up2 v (60 + h) 7 1) ow gx gy gw gd nh sx sy dx dy rad F st) (60 + h) 7 0) = v1 at hW hI
  refine lv_iload_n hx hb dX5_damageWithNet_16 rfl (lv_at hl 0 rfl) ?_
  subst hv1
  exact q_iret hx hb hr hlocks hW hS (Nat.le_refl _) (Nat.le_refl _) dX5_damageWithNet_17 (⟨rfl, rfl⟩)

set_option maxHeartbeats 4000000 in
set_option maxRecDepth 100000 in
theorem c_X5_setNet (l : Launch) {G : GG} {L : List Nat} {ad : Nat → Nat} {v : Nat → Nat → Int32} {o : Nat → Nat → Option Nat} {w : Nat → Int64} {ng nh nl ns : Nat} {ow gx gy gw gd : Nat → Nat} (hI : PI G.2.2.2 L ad v o ng nh nl ns ow gx gy gw gd) {h : Nat} (hh : h < nh) {b : Int32} (hb01 : b = 0 ∨ b = 1) (hz : v (60 + h) 7 = 0 ∨ v (60 + h) 7 = 1) : CtI l G L ad v o w yX5_setNet cX5_setNet 5 .boolean ({ frames := 4, cells := 0, slots := 0, locals := 100 }) [.ref (ad 0), .int (nI h), .int b] (fun r u => r = v (60 + h) 7 ∧ u = up2 v (60 + h) 7 b) := by
  have hb6 := hI.g6; have hb12 := hI.h12; have hbl := hI.l6; have hbs := hI.s30
  refine q_ofI (by decide) (Nat.le_of_ble_eq_true rfl) ?_
  intro p e s m below meth c hx hb hr hml hts hown hlocks hE h0 hW hS ls hl
  generalize hH : s.heap = H at hW
  have hS : va_S (Ab G.2.2.1) s.heap H [] := hH ▸ hS
  obtain ⟨locs, hlc⟩ : ∃ z : List Loc, z = [] := ⟨_, rfl⟩
  rw [← hlc] at hS ⊢
  have hl : lv_has ls 5 [(0, .ref (ad 0)), (1, .int (nI h)), (2, .int b)] := hl
  refine lv_aload_n hx hb dX5_setNet_0 rfl (lv_at hl 0 rfl) ?_
  refine lv_iload_n hx hb dX5_setNet_1 rfl (lv_at hl 1 rfl) ?_
  refine q_cVvE (As := [.int (nI h)]) (rest := []) (r := 0) hx hb hml hts hown hE h0 hW hS (c_X5_checkHouse l hI hh) mw_X5_checkHouse (hI.c 0 (by decide)) rfl k_6 t_595 ⟨Nat.le_of_ble_eq_true rfl, Nat.le_of_ble_eq_true rfl⟩ rfl hl.1 (Nat.le_of_ble_eq_true rfl) dX5_setNet_2 ⟨Nat.zero_le _, Nat.zero_le _⟩ ⟨rfl, rfl⟩ (fun H locs hW hS => ?_)
  refine lv_aload_n hx hb dX5_setNet_5 rfl (lv_at hl 0 rfl) ?_
  refine q_getr hx hb hts hown hW (r := 0) (hI.c 0 (by decide)) rfl k_6 1 (by decide) rfl t_138 (a := ad 2) (hI.o0 1 (by decide)) dX5_setNet_6 ?_
  refine lv_iload_n hx hb dX5_setNet_9 rfl (lv_at hl 1 rfl) ?_
  refine q_cFrE (n := 1) (As := [.int (nI h)]) (rest := []) (r := 2) hx hb hml hts hown hE h0 hW hS hE.2.2.1 (c_get l hI.lh (i := h) hh) t_191 t_189 t_187 t_49 (by decide) (by decide +kernel) (hI.c 2 (by decide)) rfl k_0 t_184 ⟨Nat.le_of_ble_eq_true rfl, Nat.le_of_ble_eq_true rfl⟩ rfl hl.1 (Nat.le_of_ble_eq_true rfl) dX5_setNet_10 ⟨Nat.zero_le _, Nat.zero_le _⟩ ⟨rfl, rfl⟩ (fun H locs hW hS => ?_)
  refine q_castS hx hb hts hown hW (r := (60 + h)) (hI.mh hh) (hI.kh hh) k_2 t_207 dX5_setNet_15 ?_
  refine lv_astore_n (lv' := [(3, .ref (ad (60 + h))), (0, .ref (ad 0)), (1, .int (nI h)), (2, .int b)]) hx hb dX5_setNet_18 rfl hl (by decide) rfl (fun ls hl => ?_)
  refine lv_aload_n hx hb dX5_setNet_19 rfl (lv_at hl 0 rfl) ?_
  refine q_get hx hb hts hown hW (r := (60 + h)) (hI.mh hh) (hI.kh hh) k_2 7 (by decide) rfl t_566 (x := (v (60 + h) 7)) rfl dX5_setNet_20 ?_
  refine lv_istore (lv' := [(4, .int (v (60 + h) 7)), (3, .ref (ad (60 + h))), (0, .ref (ad 0)), (1, .int (nI h)), (2, .int b)]) hx hb dX5_setNet_23 hl (by decide) rfl (fun ls hl => ?_)
  refine lv_aload_n hx hb dX5_setNet_25 rfl (lv_at hl 1 rfl) ?_
  refine lv_iload_n hx hb dX5_setNet_26 rfl (lv_at hl 4 rfl) ?_
  refine q_put hx hb hts hown hW hS (r := (60 + h)) (hI.mh hh) (hI.kh hh) k_2 7 (by decide) rfl t_566 rfl (t := .boolean) (by decide +kernel) (narZ hb01) (fitZ hb01) dX5_setNet_27 (fun H locs hW hS => ?_)
  have hI : PI G.2.2.2 L ad (up2 v (60 + h) 7 b) o ng nh nl ns ow gx gy gw gd := hI.kp (kp_up (by unfold depC dep; omega))
  generalize hv1 : (up2 v (60 + h) 7 b) = v1 at hW hI
  refine lv_iload hx hb dX5_setNet_30 (lv_at hl 0 rfl) ?_
  subst hv1
  exact q_zret hx hb hr hlocks hW hS (Nat.le_refl _) (Nat.le_refl _) hz dX5_setNet_32 (⟨rfl, rfl⟩)

set_option maxHeartbeats 4000000 in
set_option maxRecDepth 100000 in
theorem c_X5_insure (l : Launch) {G : GG} {L : List Nat} {ad : Nat → Nat} {v : Nat → Nat → Int32} {o : Nat → Nat → Option Nat} {w : Nat → Int64} {ng nh nl ns : Nat} {ow gx gy gw gd : Nat → Nat} (hI : PI G.2.2.2 L ad v o ng nh nl ns ow gx gy gw gd) {g : Nat} (hg : g < ng) {d li ra : Int32} (k1 : fIn d 0 10000 = 1) (k2 : fIn li 1 100000 = 1) (k3 : fIn ra 1 100 = 1) : CtI l G L ad v o w yX5_insure cX5_insure 7 .int ({ frames := 4, cells := 0, slots := 0, locals := 100 }) [.ref (ad 0), .int (nI g), .int d, .int li, .int ra] (fun r u => r = v (50 + g) 3 ∧ u = uInsure v g d li ra) := by
  have hb6 := hI.g6; have hb12 := hI.h12; have hbl := hI.l6; have hbs := hI.s30
  refine q_ofI (by decide) (Nat.le_of_ble_eq_true rfl) ?_
  intro p e s m below meth c hx hb hr hml hts hown hlocks hE h0 hW hS ls hl
  generalize hH : s.heap = H at hW
  have hS : va_S (Ab G.2.2.1) s.heap H [] := hH ▸ hS
  obtain ⟨locs, hlc⟩ : ∃ z : List Loc, z = [] := ⟨_, rfl⟩
  rw [← hlc] at hS ⊢
  have hl : lv_has ls 7 [(0, .ref (ad 0)), (1, .int (nI g)), (2, .int d), (3, .int li), (4, .int ra)] := hl
  refine lv_aload_n hx hb dX5_insure_0 rfl (lv_at hl 0 rfl) ?_
  refine lv_iload_n hx hb dX5_insure_1 rfl (lv_at hl 1 rfl) ?_
  refine q_cVvE (As := [.int (nI g)]) (rest := []) (r := 0) hx hb hml hts hown hE h0 hW hS (c_X5_checkGrower l hI hg) mw_X5_checkGrower (hI.c 0 (by decide)) rfl k_6 t_510 ⟨Nat.le_of_ble_eq_true rfl, Nat.le_of_ble_eq_true rfl⟩ rfl hl.1 (Nat.le_of_ble_eq_true rfl) dX5_insure_2 ⟨Nat.zero_le _, Nat.zero_le _⟩ ⟨rfl, rfl⟩ (fun H locs hW hS => ?_)
  refine lv_iload_n hx hb dX5_insure_5 rfl (lv_at hl 2 rfl) ?_
  refine lv_iconst (v := 0) hx hb dX5_insure_6 (by decide) ?_
  refine lv_sipush (v := 10000) hx hb dX5_insure_7 (by decide) ?_
  refine q_cSiE (As := [.int d, .int 0, .int 10000]) (rest := []) hx hb hml hts hown hE h0 hW hS (c_X5_isIn l d 0 10000) mw_X5_isIn t_318 ⟨Nat.le_of_ble_eq_true rfl, Nat.le_of_ble_eq_true rfl⟩ rfl hl.1 (Nat.le_of_ble_eq_true rfl) dX5_insure_10 ⟨Nat.zero_le _, Nat.zero_le _⟩ ⟨rfl, rfl⟩ (fun H locs hW hS => ?_)
  refine lv_if_ne (tgt := 26) hx hb dX5_insure_13 (by decide) (fun c_13 => ?_) (fun c_13 => ?_)
  · skip
    refine lv_iload_n hx hb dX5_insure_26 rfl (lv_at hl 3 rfl) ?_
    refine lv_iconst (v := 1) hx hb dX5_insure_27 (by decide) ?_
    refine lv_ldc (v := 100000) hx hb hown (hts _ t_608) dX5_insure_28 ?_
    refine q_cSiE (As := [.int li, .int 1, .int 100000]) (rest := []) hx hb hml hts hown hE h0 hW hS (c_X5_isIn l li 1 100000) mw_X5_isIn t_318 ⟨Nat.le_of_ble_eq_true rfl, Nat.le_of_ble_eq_true rfl⟩ rfl hl.1 (Nat.le_of_ble_eq_true rfl) dX5_insure_30 ⟨Nat.zero_le _, Nat.zero_le _⟩ ⟨rfl, rfl⟩ (fun H locs hW hS => ?_)
    refine lv_if_ne (tgt := 46) hx hb dX5_insure_33 (by decide) (fun c_33 => ?_) (fun c_33 => ?_)
    · skip
      refine lv_iload hx hb dX5_insure_46 (lv_at hl 4 rfl) ?_
      refine lv_iconst (v := 1) hx hb dX5_insure_48 (by decide) ?_
      refine lv_bipush (v := 100) hx hb dX5_insure_49 (by decide) ?_
      refine q_cSiE (As := [.int ra, .int 1, .int 100]) (rest := []) hx hb hml hts hown hE h0 hW hS (c_X5_isIn l ra 1 100) mw_X5_isIn t_318 ⟨Nat.le_of_ble_eq_true rfl, Nat.le_of_ble_eq_true rfl⟩ rfl hl.1 (Nat.le_of_ble_eq_true rfl) dX5_insure_51 ⟨Nat.zero_le _, Nat.zero_le _⟩ ⟨rfl, rfl⟩ (fun H locs hW hS => ?_)
      refine lv_if_ne (tgt := 67) hx hb dX5_insure_54 (by decide) (fun c_54 => ?_) (fun c_54 => ?_)
      · skip
        refine lv_aload_n hx hb dX5_insure_67 rfl (lv_at hl 0 rfl) ?_
        refine q_getr hx hb hts hown hW (r := 0) (hI.c 0 (by decide)) rfl k_6 0 (by decide) rfl t_137 (a := ad 1) (hI.o0 0 (by decide)) dX5_insure_68 ?_
        refine lv_iload_n hx hb dX5_insure_71 rfl (lv_at hl 1 rfl) ?_
        refine q_cFrE (n := 1) (As := [.int (nI g)]) (rest := []) (r := 1) hx hb hml hts hown hE h0 hW hS hE.2.2.1 (c_get l hI.lg (i := g) hg) t_191 t_189 t_187 t_49 (by decide) (by decide +kernel) (hI.c 1 (by decide)) rfl k_0 t_184 ⟨Nat.le_of_ble_eq_true rfl, Nat.le_of_ble_eq_true rfl⟩ rfl hl.1 (Nat.le_of_ble_eq_true rfl) dX5_insure_72 ⟨Nat.zero_le _, Nat.zero_le _⟩ ⟨rfl, rfl⟩ (fun H locs hW hS => ?_)
        refine q_castS hx hb hts hown hW (r := (50 + g)) (hI.mg hg) (hI.kg hg) k_1 t_202 dX5_insure_77 ?_
        refine lv_astore (lv' := [(5, .ref (ad (50 + g))), (0, .ref (ad 0)), (1, .int (nI g)), (2, .int d), (3, .int li), (4, .int ra)]) hx hb dX5_insure_80 hl (by decide) rfl (fun ls hl => ?_)
        refine lv_aload hx hb dX5_insure_82 (lv_at hl 0 rfl) ?_
        refine q_get hx hb hts hown hW (r := (50 + g)) (hI.mg hg) (hI.kg hg) k_1 3 (by decide) rfl t_417 (x := (v (50 + g) 3)) rfl dX5_insure_84 ?_
        refine lv_istore (lv' := [(6, .int (v (50 + g) 3)), (5, .ref (ad (50 + g))), (0, .ref (ad 0)), (1, .int (nI g)), (2, .int d), (3, .int li), (4, .int ra)]) hx hb dX5_insure_87 hl (by decide) rfl (fun ls hl => ?_)
        refine lv_aload hx hb dX5_insure_89 (lv_at hl 1 rfl) ?_
        refine lv_iconst (v := 1) hx hb dX5_insure_91 (by decide) ?_
        refine q_put hx hb hts hown hW hS (r := (50 + g)) (hI.mg hg) (hI.kg hg) k_1 1 (by decide) rfl t_413 rfl (t := .boolean) (by decide +kernel) (narZ (Or.inr rfl)) (fitZ (Or.inr rfl)) dX5_insure_92 (fun H locs hW hS => ?_)
        have hI : PI G.2.2.2 L ad (up2 v (50 + g) 1 1) o ng nh nl ns ow gx gy gw gd := hI.kp (kp_up (by unfold depC dep; omega))
        generalize hv1 : (up2 v (50 + g) 1 1) = v1 at hW hI
        refine lv_aload hx hb dX5_insure_95 (lv_at hl 1 rfl) ?_
        refine lv_iload_n hx hb dX5_insure_97 rfl (lv_at hl 4 rfl) ?_
        refine q_put hx hb hts hown hW hS (r := (50 + g)) (hI.mg hg) (hI.kg hg) k_1 2 (by decide) rfl t_415 rfl (t := .int) (by decide +kernel) rfl rfl dX5_insure_98 (fun H locs hW hS => ?_)
        have hI : PI G.2.2.2 L ad (up2 v1 (50 + g) 2 d) o ng nh nl ns ow gx gy gw gd := hI.kp (kp_up (by unfold depC dep; omega))
        generalize hv2 : (up2 v1 (50 + g) 2 d) = v2 at hW hI
        refine lv_aload hx hb dX5_insure_101 (lv_at hl 1 rfl) ?_
        refine lv_iload_n hx hb dX5_insure_103 rfl (lv_at hl 5 rfl) ?_
        refine q_put hx hb hts hown hW hS (r := (50 + g)) (hI.mg hg) (hI.kg hg) k_1 3 (by decide) rfl t_417 rfl (t := .int) (by decide +kernel) rfl rfl dX5_insure_104 (fun H locs hW hS => ?_)
        have hI : PI G.2.2.2 L ad (up2 v2 (50 + g) 3 li) o ng nh nl ns ow gx gy gw gd := hI.kp (kp_up (by unfold depC dep; omega))
        generalize hv3 : (up2 v2 (50 + g) 3 li) = v3 at hW hI
        refine lv_aload hx hb dX5_insure_107 (lv_at hl 1 rfl) ?_
        refine lv_iload hx hb dX5_insure_109 (lv_at hl 6 rfl) ?_
        refine q_put hx hb hts hown hW hS (r := (50 + g)) (hI.mg hg) (hI.kg hg) k_1 4 (by decide) rfl t_419 rfl (t := .int) (by decide +kernel) rfl rfl dX5_insure_111 (fun H locs hW hS => ?_)
        have hI : PI G.2.2.2 L ad (up2 v3 (50 + g) 4 ra) o ng nh nl ns ow gx gy gw gd := hI.kp (kp_up (by unfold depC dep; omega))
        generalize hv4 : (up2 v3 (50 + g) 4 ra) = v4 at hW hI
        refine lv_iload hx hb dX5_insure_114 (lv_at hl 0 rfl) ?_
        subst hv4
        subst hv3
        subst hv2
        subst hv1
        exact q_iret hx hb hr hlocks hW hS (Nat.le_refl _) (Nat.le_refl _) dX5_insure_116 (⟨rfl, rfl⟩)
      · skip
        exact absurd (k3.symm.trans c_54) (by decide)
    · skip
      exact absurd (k2.symm.trans c_33) (by decide)
  · skip
    exact absurd (k1.symm.trans c_13) (by decide)

set_option maxHeartbeats 4000000 in
set_option maxRecDepth 100000 in
theorem c_X5_mend (l : Launch) {G : GG} {L : List Nat} {ad : Nat → Nat} {v : Nat → Nat → Int32} {o : Nat → Nat → Option Nat} {w : Nat → Int64} {ng nh nl ns : Nat} {ow gx gy gw gd : Nat → Nat} (hI : PI G.2.2.2 L ad v o ng nh nl ns ow gx gy gw gd) {h : Nat} (hh : h < nh) (k1 : hLost v gx gy gw gd h ≤ v (50 + ow h) 0) : CtI l G L ad v o w yX5_mend cX5_mend 5 .int ({ frames := 4, cells := 0, slots := 0, locals := 100 }) [.ref (ad 0), .int (nI h)] (fun r u => r = hLost v gx gy gw gd h ∧ u = uMend v ow gx gy gw gd h) := by
  have hb6 := hI.g6; have hb12 := hI.h12; have hbl := hI.l6; have hbs := hI.s30; have hgeo := (hI.hs h hh).1
  refine q_ofI (by decide) (Nat.le_of_ble_eq_true rfl) ?_
  intro p e s m below meth c hx hb hr hml hts hown hlocks hE h0 hW hS ls hl
  generalize hH : s.heap = H at hW
  have hS : va_S (Ab G.2.2.1) s.heap H [] := hH ▸ hS
  obtain ⟨locs, hlc⟩ : ∃ z : List Loc, z = [] := ⟨_, rfl⟩
  rw [← hlc] at hS ⊢
  have hl : lv_has ls 5 [(0, .ref (ad 0)), (1, .int (nI h))] := hl
  refine lv_aload_n hx hb dX5_mend_0 rfl (lv_at hl 0 rfl) ?_
  refine lv_iload_n hx hb dX5_mend_1 rfl (lv_at hl 1 rfl) ?_
  refine q_cVvE (As := [.int (nI h)]) (rest := []) (r := 0) hx hb hml hts hown hE h0 hW hS (c_X5_checkHouse l hI hh) mw_X5_checkHouse (hI.c 0 (by decide)) rfl k_6 t_595 ⟨Nat.le_of_ble_eq_true rfl, Nat.le_of_ble_eq_true rfl⟩ rfl hl.1 (Nat.le_of_ble_eq_true rfl) dX5_mend_2 ⟨Nat.zero_le _, Nat.zero_le _⟩ ⟨rfl, rfl⟩ (fun H locs hW hS => ?_)
  refine lv_aload_n hx hb dX5_mend_5 rfl (lv_at hl 0 rfl) ?_
  refine q_getr hx hb hts hown hW (r := 0) (hI.c 0 (by decide)) rfl k_6 1 (by decide) rfl t_138 (a := ad 2) (hI.o0 1 (by decide)) dX5_mend_6 ?_
  refine lv_iload_n hx hb dX5_mend_9 rfl (lv_at hl 1 rfl) ?_
  refine q_cFrE (n := 1) (As := [.int (nI h)]) (rest := []) (r := 2) hx hb hml hts hown hE h0 hW hS hE.2.2.1 (c_get l hI.lh (i := h) hh) t_191 t_189 t_187 t_49 (by decide) (by decide +kernel) (hI.c 2 (by decide)) rfl k_0 t_184 ⟨Nat.le_of_ble_eq_true rfl, Nat.le_of_ble_eq_true rfl⟩ rfl hl.1 (Nat.le_of_ble_eq_true rfl) dX5_mend_10 ⟨Nat.zero_le _, Nat.zero_le _⟩ ⟨rfl, rfl⟩ (fun H locs hW hS => ?_)
  refine q_castS hx hb hts hown hW (r := (60 + h)) (hI.mh hh) (hI.kh hh) k_2 t_207 dX5_mend_15 ?_
  refine lv_astore_n (lv' := [(2, .ref (ad (60 + h))), (0, .ref (ad 0)), (1, .int (nI h))]) hx hb dX5_mend_18 rfl hl (by decide) rfl (fun ls hl => ?_)
  refine lv_aload_n hx hb dX5_mend_19 rfl (lv_at hl 1 rfl) ?_
  refine q_getr hx hb hts hown hW (r := 0) (hI.c 0 (by decide)) rfl k_6 0 (by decide) rfl t_137 (a := ad 1) (hI.o0 0 (by decide)) dX5_mend_20 ?_
  refine lv_aload_n hx hb dX5_mend_23 rfl (lv_at hl 0 rfl) ?_
  refine q_get hx hb hts hown hW (r := (60 + h)) (hI.mh hh) (hI.kh hh) k_2 0 (by decide) rfl t_551 (x := (nI (ow h))) (hI.eO hh) dX5_mend_24 ?_
  refine q_cFrE (n := 1) (As := [.int (nI (ow h))]) (rest := []) (r := 1) hx hb hml hts hown hE h0 hW hS hE.2.2.1 (c_get l hI.lg (i := (ow h)) hgeo.1) t_191 t_189 t_187 t_49 (by decide) (by decide +kernel) (hI.c 1 (by decide)) rfl k_0 t_184 ⟨Nat.le_of_ble_eq_true rfl, Nat.le_of_ble_eq_true rfl⟩ rfl hl.1 (Nat.le_of_ble_eq_true rfl) dX5_mend_27 ⟨Nat.zero_le _, Nat.zero_le _⟩ ⟨rfl, rfl⟩ (fun H locs hW hS => ?_)
  refine q_castS hx hb hts hown hW (r := (50 + (ow h))) (hI.mg hgeo.1) (hI.kg hgeo.1) k_1 t_202 dX5_mend_32 ?_
  refine lv_astore_n (lv' := [(3, .ref (ad (50 + (ow h)))), (2, .ref (ad (60 + h))), (0, .ref (ad 0)), (1, .int (nI h))]) hx hb dX5_mend_35 rfl hl (by decide) rfl (fun ls hl => ?_)
  refine lv_aload_n hx hb dX5_mend_36 rfl (lv_at hl 2 rfl) ?_
  refine lv_aload_n hx hb dX5_mend_37 rfl (lv_at hl 1 rfl) ?_
  refine q_cViE (As := [.ref (ad (60 + h))]) (rest := []) (r := 0) hx hb hml hts hown hE h0 hW hS (c_X5_lostOfHouse l hI hh) mw_X5_lostOfHouse (hI.c 0 (by decide)) rfl k_6 t_244 ⟨Nat.le_of_ble_eq_true rfl, Nat.le_of_ble_eq_true rfl⟩ rfl hl.1 (Nat.le_of_ble_eq_true rfl) dX5_mend_38 ⟨Nat.zero_le _, Nat.zero_le _⟩ ⟨rfl, rfl⟩ (fun H locs hW hS => ?_)
  refine lv_istore (lv' := [(4, .int (hLost v gx gy gw gd h)), (3, .ref (ad (50 + (ow h)))), (2, .ref (ad (60 + h))), (0, .ref (ad 0)), (1, .int (nI h))]) hx hb dX5_mend_41 hl (by decide) rfl (fun ls hl => ?_)
  refine lv_aload_n hx hb dX5_mend_43 rfl (lv_at hl 1 rfl) ?_
  refine q_get hx hb hts hown hW (r := (50 + (ow h))) (hI.mg hgeo.1) (hI.kg hgeo.1) k_1 0 (by decide) rfl t_411 (x := (v (50 + (ow h)) 0)) rfl dX5_mend_44 ?_
  refine lv_iload hx hb dX5_mend_47 (lv_at hl 0 rfl) ?_
  refine lv_icmp_ge (tgt := 62) hx hb dX5_mend_49 (by decide) (fun c_49 => ?_) (fun c_49 => ?_)
  · skip
    refine lv_aload_n hx hb dX5_mend_62 rfl (lv_at hl 1 rfl) ?_
    refine lv_dup hx hb dX5_mend_63 rfl ?_
    refine q_get hx hb hts hown hW (r := (50 + (ow h))) (hI.mg hgeo.1) (hI.kg hgeo.1) k_1 0 (by decide) rfl t_411 (x := (v (50 + (ow h)) 0)) rfl dX5_mend_64 ?_
    refine lv_iload hx hb dX5_mend_67 (lv_at hl 0 rfl) ?_
    refine lv_isub hx hb dX5_mend_69 ?_
    refine q_put hx hb hts hown hW hS (r := (50 + (ow h))) (hI.mg hgeo.1) (hI.kg hgeo.1) k_1 0 (by decide) rfl t_411 rfl (t := .int) (by decide +kernel) rfl rfl dX5_mend_70 (fun H locs hW hS => ?_)
    have hI : PI G.2.2.2 L ad (up2 v (50 + (ow h)) 0 ((v (50 + (ow h)) 0) - (hLost v gx gy gw gd h))) o ng nh nl ns ow gx gy gw gd := hI.kp (kp_up (by unfold depC dep; omega))
    generalize hv1 : (up2 v (50 + (ow h)) 0 ((v (50 + (ow h)) 0) - (hLost v gx gy gw gd h))) = v1 at hW hI
    refine lv_aload_n hx hb dX5_mend_73 rfl (lv_at hl 3 rfl) ?_
    refine lv_aload_n hx hb dX5_mend_74 rfl (lv_at hl 2 rfl) ?_
    refine q_cVvE (As := [.ref (ad (60 + h))]) (rest := []) (r := 0) hx hb hml hts hown hE h0 hW hS (c_X5_makeWhole l hI hh) mw_X5_makeWhole (hI.c 0 (by decide)) rfl k_6 t_584 ⟨Nat.le_of_ble_eq_true rfl, Nat.le_of_ble_eq_true rfl⟩ rfl hl.1 (Nat.le_of_ble_eq_true rfl) dX5_mend_75 ⟨Nat.zero_le _, Nat.zero_le _⟩ ⟨rfl, rfl⟩ (fun H locs hW hS => ?_)
    have hI : PI G.2.2.2 L ad (mkW v1 gx gy gw gd h) o ng nh nl ns ow gx gy gw gd := hI.kp kp_mkW
    generalize hv2 : (mkW v1 gx gy gw gd h) = v2 at hW hI
    refine lv_iload hx hb dX5_mend_78 (lv_at hl 0 rfl) ?_
    subst hv2
    subst hv1
    exact q_iret hx hb hr hlocks hW hS (Nat.le_refl _) (Nat.le_refl _) dX5_mend_80 (⟨rfl, rfl⟩)
  · skip
    exact absurd k1 c_49

set_option maxHeartbeats 4000000 in
set_option maxRecDepth 100000 in
theorem c_X5_fund (l : Launch) {G : GG} {L : List Nat} {ad : Nat → Nat} {v : Nat → Nat → Int32} {o : Nat → Nat → Option Nat} {w : Nat → Int64} {ng nh nl ns : Nat} {ow gx gy gw gd : Nat → Nat} (hI : PI G.2.2.2 L ad v o ng nh nl ns ow gx gy gw gd) {cn : Int32} (k1 : fIn cn 1 1000000 = 1) (k2 : v 0 6 ≤ 100000000 - cn) : CtI l G L ad v o w yX5_fund cX5_fund 2 .int ({ frames := 1, cells := 0, slots := 0, locals := 22 }) [.ref (ad 0), .int cn] (fun r u => r = v 0 6 + cn ∧ u = up2 v 0 6 (v 0 6 + cn)) := by
  have hb6 := hI.g6; have hb12 := hI.h12; have hbl := hI.l6; have hbs := hI.s30
  refine q_ofI (by decide) (Nat.le_of_ble_eq_true rfl) ?_
  intro p e s m below meth c hx hb hr hml hts hown hlocks hE h0 hW hS ls hl
  generalize hH : s.heap = H at hW
  have hS : va_S (Ab G.2.2.1) s.heap H [] := hH ▸ hS
  obtain ⟨locs, hlc⟩ : ∃ z : List Loc, z = [] := ⟨_, rfl⟩
  rw [← hlc] at hS ⊢
  have hl : lv_has ls 2 [(0, .ref (ad 0)), (1, .int cn)] := hl
  refine lv_iload_n hx hb dX5_fund_0 rfl (lv_at hl 1 rfl) ?_
  refine lv_iconst (v := 1) hx hb dX5_fund_1 (by decide) ?_
  refine lv_ldc (v := 1000000) hx hb hown (hts _ t_317) dX5_fund_2 ?_
  refine q_cSiE (As := [.int cn, .int 1, .int 1000000]) (rest := []) hx hb hml hts hown hE h0 hW hS (c_X5_isIn l cn 1 1000000) mw_X5_isIn t_318 ⟨Nat.le_of_ble_eq_true rfl, Nat.le_of_ble_eq_true rfl⟩ rfl hl.1 (Nat.le_of_ble_eq_true rfl) dX5_fund_4 ⟨Nat.zero_le _, Nat.zero_le _⟩ ⟨rfl, rfl⟩ (fun H locs hW hS => ?_)
  refine lv_if_ne (tgt := 20) hx hb dX5_fund_7 (by decide) (fun c_7 => ?_) (fun c_7 => ?_)
  · skip
    refine lv_aload_n hx hb dX5_fund_20 rfl (lv_at hl 0 rfl) ?_
    refine q_get hx hb hts hown hW (r := 0) (hI.c 0 (by decide)) rfl k_6 6 (by decide) rfl t_143 (x := (v 0 6)) rfl dX5_fund_21 ?_
    refine lv_ldc (v := 100000000) hx hb hown (hts _ t_653) dX5_fund_24 ?_
    refine lv_iload_n hx hb dX5_fund_26 rfl (lv_at hl 1 rfl) ?_
    refine lv_isub hx hb dX5_fund_27 ?_
    refine lv_icmp_le (tgt := 41) hx hb dX5_fund_28 (by decide) (fun c_28 => ?_) (fun c_28 => ?_)
    · skip
      refine lv_aload_n hx hb dX5_fund_41 rfl (lv_at hl 0 rfl) ?_
      refine lv_dup hx hb dX5_fund_42 rfl ?_
      refine q_get hx hb hts hown hW (r := 0) (hI.c 0 (by decide)) rfl k_6 6 (by decide) rfl t_143 (x := (v 0 6)) rfl dX5_fund_43 ?_
      refine lv_iload_n hx hb dX5_fund_46 rfl (lv_at hl 1 rfl) ?_
      refine lv_iadd hx hb dX5_fund_47 ?_
      refine q_put hx hb hts hown hW hS (r := 0) (hI.c 0 (by decide)) rfl k_6 6 (by decide) rfl t_143 rfl (t := .int) (by decide +kernel) rfl rfl dX5_fund_48 (fun H locs hW hS => ?_)
      have hI : PI G.2.2.2 L ad (up2 v 0 6 ((v 0 6) + cn)) o ng nh nl ns ow gx gy gw gd := hI.kp (kp_up (by unfold depC dep; omega))
      generalize hv1 : (up2 v 0 6 ((v 0 6) + cn)) = v1 at hW hI
      refine lv_aload_n hx hb dX5_fund_51 rfl (lv_at hl 0 rfl) ?_
      refine q_get hx hb hts hown hW (r := 0) (hI.c 0 (by decide)) rfl k_6 6 (by decide) rfl t_143 (x := (v1 0 6)) rfl dX5_fund_52 ?_
      subst hv1
      exact q_iret hx hb hr hlocks hW hS (Nat.le_refl _) (Nat.le_refl _) dX5_fund_55 (⟨up2_s, rfl⟩)
    · skip
      exact absurd k2 c_28
  · skip
    exact absurd (k1.symm.trans c_7) (by decide)

set_option maxHeartbeats 4000000 in
set_option maxRecDepth 100000 in
theorem c_X5_grower (l : Launch) {G : GG} {L : List Nat} {ad : Nat → Nat} {v : Nat → Nat → Int32} {o : Nat → Nat → Option Nat} {w : Nat → Int64} {ng nh nl ns : Nat} {ow gx gy gw gd : Nat → Nat} (hI : PI G.2.2.2 L ad v o ng nh nl ns ow gx gy gw gd) {g : Nat} (hg : g < ng) {what : Nat} (hw9 : what < 10) : CtI l G L ad v o w yX5_grower cX5_grower 3 .int ({ frames := 6, cells := 0, slots := 0, locals := 146 }) [.ref (ad 0), .int (nI g), .int (nI what)] (fun r u => r = tGr v gx gy gw gd nh g what ∧ u = v) := by
  have hb6 := hI.g6; have hb12 := hI.h12; have hbl := hI.l6; have hbs := hI.s30
  refine q_ofI (by decide) (Nat.le_of_ble_eq_true rfl) ?_
  intro p e s m below meth c hx hb hr hml hts hown hlocks hE h0 hW hS ls hl
  generalize hH : s.heap = H at hW
  have hS : va_S (Ab G.2.2.1) s.heap H [] := hH ▸ hS
  obtain ⟨locs, hlc⟩ : ∃ z : List Loc, z = [] := ⟨_, rfl⟩
  rw [← hlc] at hS ⊢
  have hl : lv_has ls 3 [(0, .ref (ad 0)), (1, .int (nI g)), (2, .int (nI what))] := hl
  refine lv_aload_n hx hb dX5_grower_0 rfl (lv_at hl 0 rfl) ?_
  refine lv_iload_n hx hb dX5_grower_1 rfl (lv_at hl 1 rfl) ?_
  refine q_cVvE (As := [.int (nI g)]) (rest := []) (r := 0) hx hb hml hts hown hE h0 hW hS (c_X5_checkGrower l hI hg) mw_X5_checkGrower (hI.c 0 (by decide)) rfl k_6 t_510 ⟨Nat.le_of_ble_eq_true rfl, Nat.le_of_ble_eq_true rfl⟩ rfl hl.1 (Nat.le_of_ble_eq_true rfl) dX5_grower_2 ⟨Nat.zero_le _, Nat.zero_le _⟩ ⟨rfl, rfl⟩ (fun H locs hW hS => ?_)
  refine lv_iload_n hx hb dX5_grower_5 rfl (lv_at hl 2 rfl) ?_
  refine lv_bipush (v := 10) hx hb dX5_grower_6 (by decide) ?_
  refine q_cSvE (As := [.int (nI what), .int 10]) (rest := []) hx hb hml hts hown hE h0 hW hS (c_X5_checkWhat l (n := 10) hw9 (by decide)) mw_X5_checkWhat t_626 ⟨Nat.le_of_ble_eq_true rfl, Nat.le_of_ble_eq_true rfl⟩ rfl hl.1 (Nat.le_of_ble_eq_true rfl) dX5_grower_8 ⟨Nat.zero_le _, Nat.zero_le _⟩ ⟨rfl, rfl⟩ (fun H locs hW hS => ?_)
  refine lv_aload_n hx hb dX5_grower_11 rfl (lv_at hl 0 rfl) ?_
  refine lv_iload_n hx hb dX5_grower_12 rfl (lv_at hl 1 rfl) ?_
  refine lv_iload_n hx hb dX5_grower_13 rfl (lv_at hl 2 rfl) ?_
  refine q_cViE (As := [.int (nI g), .int (nI what)]) (rest := []) (r := 0) hx hb hml hts hown hE h0 hW hS (c_X5_tellGrower l hI hg hw9) mw_X5_tellGrower (hI.c 0 (by decide)) rfl k_6 t_285 ⟨Nat.le_of_ble_eq_true rfl, Nat.le_of_ble_eq_true rfl⟩ rfl hl.1 (Nat.le_of_ble_eq_true rfl) dX5_grower_14 ⟨Nat.zero_le _, Nat.zero_le _⟩ ⟨rfl, rfl⟩ (fun H locs hW hS => ?_)
  exact q_iret hx hb hr hlocks hW hS (Nat.le_refl _) (Nat.le_refl _) dX5_grower_17 (⟨rfl, rfl⟩)

set_option maxHeartbeats 4000000 in
set_option maxRecDepth 100000 in
theorem c_X5_house (l : Launch) {G : GG} {L : List Nat} {ad : Nat → Nat} {v : Nat → Nat → Int32} {o : Nat → Nat → Option Nat} {w : Nat → Int64} {ng nh nl ns : Nat} {ow gx gy gw gd : Nat → Nat} (hI : PI G.2.2.2 L ad v o ng nh nl ns ow gx gy gw gd) {h : Nat} (hh : h < nh) {what : Nat} (hw9 : what < 11) : CtI l G L ad v o w yX5_house cX5_house 3 .int ({ frames := 4, cells := 0, slots := 0, locals := 100 }) [.ref (ad 0), .int (nI h), .int (nI what)] (fun r u => r = tHo v gx gy gw gd h what ∧ u = v) := by
  have hb6 := hI.g6; have hb12 := hI.h12; have hbl := hI.l6; have hbs := hI.s30
  refine q_ofI (by decide) (Nat.le_of_ble_eq_true rfl) ?_
  intro p e s m below meth c hx hb hr hml hts hown hlocks hE h0 hW hS ls hl
  generalize hH : s.heap = H at hW
  have hS : va_S (Ab G.2.2.1) s.heap H [] := hH ▸ hS
  obtain ⟨locs, hlc⟩ : ∃ z : List Loc, z = [] := ⟨_, rfl⟩
  rw [← hlc] at hS ⊢
  have hl : lv_has ls 3 [(0, .ref (ad 0)), (1, .int (nI h)), (2, .int (nI what))] := hl
  refine lv_aload_n hx hb dX5_house_0 rfl (lv_at hl 0 rfl) ?_
  refine lv_iload_n hx hb dX5_house_1 rfl (lv_at hl 1 rfl) ?_
  refine q_cVvE (As := [.int (nI h)]) (rest := []) (r := 0) hx hb hml hts hown hE h0 hW hS (c_X5_checkHouse l hI hh) mw_X5_checkHouse (hI.c 0 (by decide)) rfl k_6 t_595 ⟨Nat.le_of_ble_eq_true rfl, Nat.le_of_ble_eq_true rfl⟩ rfl hl.1 (Nat.le_of_ble_eq_true rfl) dX5_house_2 ⟨Nat.zero_le _, Nat.zero_le _⟩ ⟨rfl, rfl⟩ (fun H locs hW hS => ?_)
  refine lv_iload_n hx hb dX5_house_5 rfl (lv_at hl 2 rfl) ?_
  refine lv_bipush (v := 11) hx hb dX5_house_6 (by decide) ?_
  refine q_cSvE (As := [.int (nI what), .int 11]) (rest := []) hx hb hml hts hown hE h0 hW hS (c_X5_checkWhat l (n := 11) hw9 (by decide)) mw_X5_checkWhat t_626 ⟨Nat.le_of_ble_eq_true rfl, Nat.le_of_ble_eq_true rfl⟩ rfl hl.1 (Nat.le_of_ble_eq_true rfl) dX5_house_8 ⟨Nat.zero_le _, Nat.zero_le _⟩ ⟨rfl, rfl⟩ (fun H locs hW hS => ?_)
  refine lv_aload_n hx hb dX5_house_11 rfl (lv_at hl 0 rfl) ?_
  refine lv_aload_n hx hb dX5_house_12 rfl (lv_at hl 0 rfl) ?_
  refine q_getr hx hb hts hown hW (r := 0) (hI.c 0 (by decide)) rfl k_6 1 (by decide) rfl t_138 (a := ad 2) (hI.o0 1 (by decide)) dX5_house_13 ?_
  refine lv_iload_n hx hb dX5_house_16 rfl (lv_at hl 1 rfl) ?_
  refine q_cFrE (n := 1) (As := [.int (nI h)]) (rest := [.ref (ad 0)]) (r := 2) hx hb hml hts hown hE h0 hW hS hE.2.2.1 (c_get l hI.lh (i := h) hh) t_191 t_189 t_187 t_49 (by decide) (by decide +kernel) (hI.c 2 (by decide)) rfl k_0 t_184 ⟨Nat.le_of_ble_eq_true rfl, Nat.le_of_ble_eq_true rfl⟩ rfl hl.1 (Nat.le_of_ble_eq_true rfl) dX5_house_17 ⟨Nat.zero_le _, Nat.zero_le _⟩ ⟨rfl, rfl⟩ (fun H locs hW hS => ?_)
  refine q_castS hx hb hts hown hW (r := (60 + h)) (hI.mh hh) (hI.kh hh) k_2 t_207 dX5_house_22 ?_
  refine lv_iload_n hx hb dX5_house_25 rfl (lv_at hl 2 rfl) ?_
  refine q_cViE (As := [.ref (ad (60 + h)), .int (nI what)]) (rest := []) (r := 0) hx hb hml hts hown hE h0 hW hS (c_X5_tellHouse l hI hh hw9) mw_X5_tellHouse (hI.c 0 (by decide)) rfl k_6 t_301 ⟨Nat.le_of_ble_eq_true rfl, Nat.le_of_ble_eq_true rfl⟩ rfl hl.1 (Nat.le_of_ble_eq_true rfl) dX5_house_26 ⟨Nat.zero_le _, Nat.zero_le _⟩ ⟨rfl, rfl⟩ (fun H locs hW hS => ?_)
  exact q_iret hx hb hr hlocks hW hS (Nat.le_refl _) (Nat.le_refl _) dX5_house_29 (⟨rfl, rfl⟩)

set_option maxHeartbeats 4000000 in
set_option maxRecDepth 100000 in
theorem c_X5_layer (l : Launch) {G : GG} {L : List Nat} {ad : Nat → Nat} {v : Nat → Nat → Int32} {o : Nat → Nat → Option Nat} {w : Nat → Int64} {ng nh nl ns : Nat} {ow gx gy gw gd : Nat → Nat} (hI : PI G.2.2.2 L ad v o ng nh nl ns ow gx gy gw gd) {k : Nat} (hk : k < nl) {what : Nat} (hw9 : what < 5) : CtI l G L ad v o w yX5_layer cX5_layer 3 .int ({ frames := 4, cells := 0, slots := 0, locals := 100 }) [.ref (ad 0), .int (nI k), .int (nI what)] (fun r u => r = tLa v k what ∧ u = v) := by
  have hb6 := hI.g6; have hb12 := hI.h12; have hbl := hI.l6; have hbs := hI.s30; have hck := fIn_nat hk (by omega)
  refine q_ofI (by decide) (Nat.le_of_ble_eq_true rfl) ?_
  intro p e s m below meth c hx hb hr hml hts hown hlocks hE h0 hW hS ls hl
  generalize hH : s.heap = H at hW
  have hS : va_S (Ab G.2.2.1) s.heap H [] := hH ▸ hS
  obtain ⟨locs, hlc⟩ : ∃ z : List Loc, z = [] := ⟨_, rfl⟩
  rw [← hlc] at hS ⊢
  have hl : lv_has ls 3 [(0, .ref (ad 0)), (1, .int (nI k)), (2, .int (nI what))] := hl
  refine lv_iload_n hx hb dX5_layer_0 rfl (lv_at hl 1 rfl) ?_
  refine lv_iconst (v := 0) hx hb dX5_layer_1 (by decide) ?_
  refine lv_aload_n hx hb dX5_layer_2 rfl (lv_at hl 0 rfl) ?_
  refine q_getr hx hb hts hown hW (r := 0) (hI.c 0 (by decide)) rfl k_6 2 (by decide) rfl t_139 (a := ad 3) (hI.o0 2 (by decide)) dX5_layer_3 ?_
  refine q_cFiE (As := []) (rest := [.int 0, .int (nI k)]) (r := 3) hx hb hml hts hown hE h0 hW hS hE.2.1 (c_size l hI.ll) t_178 t_176 t_174 t_49 (by decide) (by decide +kernel) (hI.c 3 (by decide)) rfl k_0 t_170 ⟨Nat.le_of_ble_eq_true rfl, Nat.le_of_ble_eq_true rfl⟩ rfl hl.1 (Nat.le_of_ble_eq_true rfl) dX5_layer_6 ⟨Nat.zero_le _, Nat.zero_le _⟩ ⟨rfl, rfl⟩ (fun H locs hW hS => ?_)
  refine lv_iconst (v := 1) hx hb dX5_layer_11 (by decide) ?_
  refine lv_isub hx hb dX5_layer_12 ?_
  refine q_cSiE (As := [.int (nI k), .int 0, .int ((nI nl) - 1)]) (rest := []) hx hb hml hts hown hE h0 hW hS (c_X5_isIn l (nI k) 0 ((nI nl) - 1)) mw_X5_isIn t_318 ⟨Nat.le_of_ble_eq_true rfl, Nat.le_of_ble_eq_true rfl⟩ rfl hl.1 (Nat.le_of_ble_eq_true rfl) dX5_layer_13 ⟨Nat.zero_le _, Nat.zero_le _⟩ ⟨rfl, rfl⟩ (fun H locs hW hS => ?_)
  refine lv_if_ne (tgt := 29) hx hb dX5_layer_16 (by decide) (fun c_16 => ?_) (fun c_16 => ?_)
  · skip
    refine lv_iload_n hx hb dX5_layer_29 rfl (lv_at hl 2 rfl) ?_
    refine lv_iconst (v := 5) hx hb dX5_layer_30 (by decide) ?_
    refine q_cSvE (As := [.int (nI what), .int 5]) (rest := []) hx hb hml hts hown hE h0 hW hS (c_X5_checkWhat l (n := 5) hw9 (by decide)) mw_X5_checkWhat t_626 ⟨Nat.le_of_ble_eq_true rfl, Nat.le_of_ble_eq_true rfl⟩ rfl hl.1 (Nat.le_of_ble_eq_true rfl) dX5_layer_31 ⟨Nat.zero_le _, Nat.zero_le _⟩ ⟨rfl, rfl⟩ (fun H locs hW hS => ?_)
    refine lv_aload_n hx hb dX5_layer_34 rfl (lv_at hl 0 rfl) ?_
    refine q_getr hx hb hts hown hW (r := 0) (hI.c 0 (by decide)) rfl k_6 2 (by decide) rfl t_139 (a := ad 3) (hI.o0 2 (by decide)) dX5_layer_35 ?_
    refine lv_iload_n hx hb dX5_layer_38 rfl (lv_at hl 1 rfl) ?_
    refine q_cFrE (n := 1) (As := [.int (nI k)]) (rest := []) (r := 3) hx hb hml hts hown hE h0 hW hS hE.2.2.1 (c_get l hI.ll (i := k) hk) t_191 t_189 t_187 t_49 (by decide) (by decide +kernel) (hI.c 3 (by decide)) rfl k_0 t_184 ⟨Nat.le_of_ble_eq_true rfl, Nat.le_of_ble_eq_true rfl⟩ rfl hl.1 (Nat.le_of_ble_eq_true rfl) dX5_layer_39 ⟨Nat.zero_le _, Nat.zero_le _⟩ ⟨rfl, rfl⟩ (fun H locs hW hS => ?_)
    refine q_castS hx hb hts hown hW (r := (80 + k)) (hI.ml hk) (hI.kl hk) k_3 t_235 dX5_layer_44 ?_
    refine lv_iload_n hx hb dX5_layer_47 rfl (lv_at hl 2 rfl) ?_
    refine q_cSiE (As := [.ref (ad (80 + k)), .int (nI what)]) (rest := []) hx hb hml hts hown hE h0 hW hS (c_X5_tellLayer l hI hk hw9) mw_X5_tellLayer t_305 ⟨Nat.le_of_ble_eq_true rfl, Nat.le_of_ble_eq_true rfl⟩ rfl hl.1 (Nat.le_of_ble_eq_true rfl) dX5_layer_48 ⟨Nat.zero_le _, Nat.zero_le _⟩ ⟨rfl, rfl⟩ (fun H locs hW hS => ?_)
    exact q_iret hx hb hr hlocks hW hS (Nat.le_refl _) (Nat.le_refl _) dX5_layer_51 (⟨rfl, rfl⟩)
  · skip
    exact absurd (hck.symm.trans c_16) (by decide)

set_option maxHeartbeats 4000000 in
set_option maxRecDepth 100000 in
theorem c_X5_count (l : Launch) {G : GG} {L : List Nat} {ad : Nat → Nat} {v : Nat → Nat → Int32} {o : Nat → Nat → Option Nat} {w : Nat → Int64} {ng nh nl ns : Nat} {ow gx gy gw gd : Nat → Nat} (hI : PI G.2.2.2 L ad v o ng nh nl ns ow gx gy gw gd) {what : Nat} (hw9 : what < 11) : CtI l G L ad v o w yX5_count cX5_count 2 .int ({ frames := 6, cells := 0, slots := 0, locals := 144 }) [.ref (ad 0), .int (nI what)] (fun r u => r = tCo v gx gy gw gd ng nh nl what ∧ u = v) := by
  have hb6 := hI.g6; have hb12 := hI.h12; have hbl := hI.l6; have hbs := hI.s30
  refine q_ofI (by decide) (Nat.le_of_ble_eq_true rfl) ?_
  intro p e s m below meth c hx hb hr hml hts hown hlocks hE h0 hW hS ls hl
  generalize hH : s.heap = H at hW
  have hS : va_S (Ab G.2.2.1) s.heap H [] := hH ▸ hS
  obtain ⟨locs, hlc⟩ : ∃ z : List Loc, z = [] := ⟨_, rfl⟩
  rw [← hlc] at hS ⊢
  have hl : lv_has ls 2 [(0, .ref (ad 0)), (1, .int (nI what))] := hl
  refine lv_iload_n hx hb dX5_count_0 rfl (lv_at hl 1 rfl) ?_
  refine lv_bipush (v := 11) hx hb dX5_count_1 (by decide) ?_
  refine q_cSvE (As := [.int (nI what), .int 11]) (rest := []) hx hb hml hts hown hE h0 hW hS (c_X5_checkWhat l (n := 11) hw9 (by decide)) mw_X5_checkWhat t_626 ⟨Nat.le_of_ble_eq_true rfl, Nat.le_of_ble_eq_true rfl⟩ rfl hl.1 (Nat.le_of_ble_eq_true rfl) dX5_count_3 ⟨Nat.zero_le _, Nat.zero_le _⟩ ⟨rfl, rfl⟩ (fun H locs hW hS => ?_)
  refine lv_aload_n hx hb dX5_count_6 rfl (lv_at hl 0 rfl) ?_
  refine lv_iload_n hx hb dX5_count_7 rfl (lv_at hl 1 rfl) ?_
  refine q_cViE (As := [.int (nI what)]) (rest := []) (r := 0) hx hb hml hts hown hE h0 hW hS (c_X5_tellCount l hI hw9) mw_X5_tellCount (hI.c 0 (by decide)) rfl k_6 t_265 ⟨Nat.le_of_ble_eq_true rfl, Nat.le_of_ble_eq_true rfl⟩ rfl hl.1 (Nat.le_of_ble_eq_true rfl) dX5_count_8 ⟨Nat.zero_le _, Nat.zero_le _⟩ ⟨rfl, rfl⟩ (fun H locs hW hS => ?_)
  exact q_iret hx hb hr hlocks hW hS (Nat.le_refl _) (Nat.le_refl _) dX5_count_11 (⟨rfl, rfl⟩)

set_option maxHeartbeats 4000000 in
set_option maxRecDepth 100000 in
theorem c_X5_told (l : Launch) {G : GG} {L : List Nat} {ad : Nat → Nat} {v : Nat → Nat → Int32} {o : Nat → Nat → Option Nat} {w : Nat → Int64} {ng nh nl ns : Nat} {ow gx gy gw gd : Nat → Nat} (hI : PI G.2.2.2 L ad v o ng nh nl ns ow gx gy gw gd) {k : Nat} (hk : k < ns) {what : Nat} (hw9 : what < 6) : CtI l G L ad v o w yX5_told cX5_told 3 .int ({ frames := 2, cells := 0, slots := 0, locals := 43 }) [.ref (ad 0), .int (nI k), .int (nI what)] (fun r u => r = v (20 + k) what ∧ u = v) := by
  have hb6 := hI.g6; have hb12 := hI.h12; have hbl := hI.l6; have hbs := hI.s30; have hck := fIn_nat hk (by omega)
  refine q_ofI (by decide) (Nat.le_of_ble_eq_true rfl) ?_
  intro p e s m below meth c hx hb hr hml hts hown hlocks hE h0 hW hS ls hl
  generalize hH : s.heap = H at hW
  have hS : va_S (Ab G.2.2.1) s.heap H [] := hH ▸ hS
  obtain ⟨locs, hlc⟩ : ∃ z : List Loc, z = [] := ⟨_, rfl⟩
  rw [← hlc] at hS ⊢
  have hl : lv_has ls 3 [(0, .ref (ad 0)), (1, .int (nI k)), (2, .int (nI what))] := hl
  refine lv_iload_n hx hb dX5_told_0 rfl (lv_at hl 1 rfl) ?_
  refine lv_iconst (v := 0) hx hb dX5_told_1 (by decide) ?_
  refine lv_aload_n hx hb dX5_told_2 rfl (lv_at hl 0 rfl) ?_
  refine q_get hx hb hts hown hW (r := 0) (hI.c 0 (by decide)) rfl k_6 7 (by decide) rfl t_144 (x := (nI ns)) hI.eS dX5_told_3 ?_
  refine lv_iconst (v := 1) hx hb dX5_told_6 (by decide) ?_
  refine lv_isub hx hb dX5_told_7 ?_
  refine q_cSiE (As := [.int (nI k), .int 0, .int ((nI ns) - 1)]) (rest := []) hx hb hml hts hown hE h0 hW hS (c_X5_isIn l (nI k) 0 ((nI ns) - 1)) mw_X5_isIn t_318 ⟨Nat.le_of_ble_eq_true rfl, Nat.le_of_ble_eq_true rfl⟩ rfl hl.1 (Nat.le_of_ble_eq_true rfl) dX5_told_8 ⟨Nat.zero_le _, Nat.zero_le _⟩ ⟨rfl, rfl⟩ (fun H locs hW hS => ?_)
  refine lv_if_ne (tgt := 24) hx hb dX5_told_11 (by decide) (fun c_11 => ?_) (fun c_11 => ?_)
  · skip
    refine lv_iload_n hx hb dX5_told_24 rfl (lv_at hl 2 rfl) ?_
    refine lv_bipush (v := 6) hx hb dX5_told_25 (by decide) ?_
    refine q_cSvE (As := [.int (nI what), .int 6]) (rest := []) hx hb hml hts hown hE h0 hW hS (c_X5_checkWhat l (n := 6) hw9 (by decide)) mw_X5_checkWhat t_626 ⟨Nat.le_of_ble_eq_true rfl, Nat.le_of_ble_eq_true rfl⟩ rfl hl.1 (Nat.le_of_ble_eq_true rfl) dX5_told_27 ⟨Nat.zero_le _, Nat.zero_le _⟩ ⟨rfl, rfl⟩ (fun H locs hW hS => ?_)
    refine lv_aload_n hx hb dX5_told_30 rfl (lv_at hl 0 rfl) ?_
    refine q_getr hx hb hts hown hW (r := 0) (hI.c 0 (by decide)) rfl k_6 4 (by decide) rfl t_141 (a := ad 5) (hI.o0 4 (by decide)) dX5_told_31 ?_
    refine lv_iload_n hx hb dX5_told_34 rfl (lv_at hl 1 rfl) ?_
    refine q_gald hx hb hW (r := 5) (hI.c 5 (by decide)) rfl (a := ad (20 + k)) k rfl (show _ < 30 by omega) (by decide) (hI.o5 k (by omega)) dX5_told_35 ?_
    refine lv_iload_n hx hb dX5_told_36 rfl (lv_at hl 2 rfl) ?_
    refine q_iald hx hb hW (r := (20 + k)) (hI.rw k (by omega)) (kd_row (by omega)) what rfl (by rw [ln_row (by omega)]; omega) (by rw [ln_row (by omega)]; decide) (x := (v (20 + k) what)) rfl dX5_told_37 ?_
    exact q_iret hx hb hr hlocks hW hS (Nat.le_refl _) (Nat.le_refl _) dX5_told_38 (⟨rfl, rfl⟩)
  · skip
    exact absurd (hck.symm.trans c_11) (by decide)

set_option maxHeartbeats 4000000 in
set_option maxRecDepth 100000 in
theorem c_X5_pane (l : Launch) {G : GG} {L : List Nat} {ad : Nat → Nat} {v : Nat → Nat → Int32} {o : Nat → Nat → Option Nat} {w : Nat → Int64} {ng nh nl ns : Nat} {ow gx gy gw gd : Nat → Nat} (hI : PI G.2.2.2 L ad v o ng nh nl ns ow gx gy gw gd) {x y : Nat} (hx9 : x < 20) (hy9 : y < 20) : CtI l G L ad v o w yX5_pane cX5_pane 3 .int ({ frames := 1, cells := 0, slots := 0, locals := 22 }) [.ref (ad 0), .int (nI x), .int (nI y)] (fun r u => r = v 4 (y * 20 + x) ∧ u = v) := by
  have hb6 := hI.g6; have hb12 := hI.h12; have hbl := hI.l6; have hbs := hI.s30; have kx : fIn (nI x) 0 19 = 1 := fIn_nat (n := 20) hx9 (by decide); have ky : fIn (nI y) 0 19 = 1 := fIn_nat (n := 20) hy9 (by decide)
  refine q_ofI (by decide) (Nat.le_of_ble_eq_true rfl) ?_
  intro p e s m below meth c hx hb hr hml hts hown hlocks hE h0 hW hS ls hl
  generalize hH : s.heap = H at hW
  have hS : va_S (Ab G.2.2.1) s.heap H [] := hH ▸ hS
  obtain ⟨locs, hlc⟩ : ∃ z : List Loc, z = [] := ⟨_, rfl⟩
  rw [← hlc] at hS ⊢
  have hl : lv_has ls 3 [(0, .ref (ad 0)), (1, .int (nI x)), (2, .int (nI y))] := hl
  refine lv_iload_n hx hb dX5_pane_0 rfl (lv_at hl 1 rfl) ?_
  refine lv_iconst (v := 0) hx hb dX5_pane_1 (by decide) ?_
  refine lv_bipush (v := 19) hx hb dX5_pane_2 (by decide) ?_
  refine q_cSiE (As := [.int (nI x), .int 0, .int 19]) (rest := []) hx hb hml hts hown hE h0 hW hS (c_X5_isIn l (nI x) 0 19) mw_X5_isIn t_318 ⟨Nat.le_of_ble_eq_true rfl, Nat.le_of_ble_eq_true rfl⟩ rfl hl.1 (Nat.le_of_ble_eq_true rfl) dX5_pane_4 ⟨Nat.zero_le _, Nat.zero_le _⟩ ⟨rfl, rfl⟩ (fun H locs hW hS => ?_)
  refine lv_if_eq (tgt := 20) hx hb dX5_pane_7 (by decide) (fun c_7 => ?_) (fun c_7 => ?_)
  · skip
    exact absurd (kx.symm.trans c_7) (by decide)
  · skip
    refine lv_iload_n hx hb dX5_pane_10 rfl (lv_at hl 2 rfl) ?_
    refine lv_iconst (v := 0) hx hb dX5_pane_11 (by decide) ?_
    refine lv_bipush (v := 19) hx hb dX5_pane_12 (by decide) ?_
    refine q_cSiE (As := [.int (nI y), .int 0, .int 19]) (rest := []) hx hb hml hts hown hE h0 hW hS (c_X5_isIn l (nI y) 0 19) mw_X5_isIn t_318 ⟨Nat.le_of_ble_eq_true rfl, Nat.le_of_ble_eq_true rfl⟩ rfl hl.1 (Nat.le_of_ble_eq_true rfl) dX5_pane_14 ⟨Nat.zero_le _, Nat.zero_le _⟩ ⟨rfl, rfl⟩ (fun H locs hW hS => ?_)
    refine lv_if_ne (tgt := 30) hx hb dX5_pane_17 (by decide) (fun c_17 => ?_) (fun c_17 => ?_)
    · skip
      refine lv_aload_n hx hb dX5_pane_30 rfl (lv_at hl 0 rfl) ?_
      refine q_getr hx hb hts hown hW (r := 0) (hI.c 0 (by decide)) rfl k_6 3 (by decide) rfl t_140 (a := ad 4) (hI.o0 3 (by decide)) dX5_pane_31 ?_
      refine lv_iload_n hx hb dX5_pane_34 rfl (lv_at hl 1 rfl) ?_
      refine lv_iload_n hx hb dX5_pane_35 rfl (lv_at hl 2 rfl) ?_
      refine q_cSiE (As := [.int (nI x), .int (nI y)]) (rest := [.ref (ad 4)]) hx hb hml hts hown hE h0 hW hS (c_X5_cellAt l x y) mw_X5_cellAt t_252 ⟨Nat.le_of_ble_eq_true rfl, Nat.le_of_ble_eq_true rfl⟩ rfl hl.1 (Nat.le_of_ble_eq_true rfl) dX5_pane_36 ⟨Nat.zero_le _, Nat.zero_le _⟩ ⟨rfl, rfl⟩ (fun H locs hW hS => ?_)
      refine q_iald hx hb hW (r := 4) (hI.c 4 (by decide)) rfl (y * 20 + x) rfl (show _ < 400 by omega) (by decide) (x := (v 4 (y * 20 + x))) rfl dX5_pane_39 ?_
      exact q_iret hx hb hr hlocks hW hS (Nat.le_refl _) (Nat.le_refl _) dX5_pane_40 (⟨rfl, rfl⟩)
    · skip
      exact absurd (ky.symm.trans c_17) (by decide)

set_option maxHeartbeats 4000000 in
set_option maxRecDepth 100000 in
theorem c_X5_isBuiltOn (l : Launch) {G : GG} {L : List Nat} {ad : Nat → Nat} {v : Nat → Nat → Int32} {o : Nat → Nat → Option Nat} {w : Nat → Int64} {ng nh nl ns : Nat} {ow gx gy gw gd : Nat → Nat} (hI : PI G.2.2.2 L ad v o ng nh nl ns ow gx gy gw gd) (a b c0 d : Int32) : CtI l G L ad v o w yX5_isBuiltOn cX5_isBuiltOn 6 .boolean ({ frames := 4, cells := 0, slots := 0, locals := 100 }) [.ref (ad 0), .int a, .int b, .int c0, .int d] (fun r u => r = fBuilt v a b c0 d nh ∧ u = v) := by
  have hb6 := hI.g6; have hb12 := hI.h12; have hbl := hI.l6; have hbs := hI.s30
  refine q_ofI (by decide) (Nat.le_of_ble_eq_true rfl) ?_
  intro p e s m below meth c hx hb hr hml hts hown hlocks hE h0 hW hS ls hl
  generalize hH : s.heap = H at hW
  have hS : va_S (Ab G.2.2.1) s.heap H [] := hH ▸ hS
  obtain ⟨locs, hlc⟩ : ∃ z : List Loc, z = [] := ⟨_, rfl⟩
  rw [← hlc] at hS ⊢
  have hl : lv_has ls 6 [(0, .ref (ad 0)), (1, .int a), (2, .int b), (3, .int c0), (4, .int d)] := hl
  refine lv_iconst (v := 0) hx hb dX5_isBuiltOn_0 (by decide) ?_
  refine lv_istore (lv' := [(5, .int 0), (0, .ref (ad 0)), (1, .int a), (2, .int b), (3, .int c0), (4, .int d)]) hx hb dX5_isBuiltOn_1 hl (by decide) rfl (fun ls hl => ?_)
  suffices LP_3 : ∀ (n_3 i : Nat) (x5_3 : Int32)  (u_3 : Nat → Nat → Int32) (H : Heap) (locs : List Loc) (ls : Array Slot), nh + 1 ≤ i + n_3 → i ≤ nh → nI i = x5_3 → v = u_3 → (∀ j, j < i → fOver v (60 + j) a b c0 d = 0) → WD G L ad u_3 o w s H → va_S (Ab G.2.2.1) s.heap H locs → lv_has ls 6 [(5, .int x5_3), (0, .ref (ad 0)), (1, .int a), (2, .int b), (3, .int c0), (4, .int d)] → W p l e ({ frames := 4, cells := 0, slots := 0, locals := 100 } : Room) s m ([.ref (ad 0), .int a, .int b, .int c0, .int d] : List Value).toArray below meth c H locs 0 0 (MQ below (va_Qi (fun r u => r = fBuilt v a b c0 d nh ∧ u = v) (fun u t => WD G L ad u o w t t.heap) (Ab G.2.2.1)) ([.ref (ad 0), .int a, .int b, .int c0, .int d] : List Value).toArray s ({ frames := 4, cells := 0, slots := 0, locals := 100 } : Room).cells ({ frames := 4, cells := 0, slots := 0, locals := 100 } : Room).slots (Ab G.2.2.1)) (F0 m 3 ls []) from LP_3 (nh + 1) 0 _   _ H locs ls (by omega) (by omega) (by rfl) (by rfl) (fun j hj => absurd hj (Nat.not_lt_zero j)) hW hS (lv_sub hl [0, 1, 2, 3, 4, 5] rfl)
  intro n_3
  induction n_3 with
  | zero => intro i x5_3  u_3 H locs ls h1 h2; exact absurd h1 (by omega)
  | succ n_3 ih_3 =>
    intro i x5_3  u_3 H locs ls hn_3 hi_3 ex5_3 eu_3 hy0_3 hW hS hl
    subst ex5_3
    subst eu_3
    refine lv_iload hx hb dX5_isBuiltOn_3 (lv_at hl 0 rfl) ?_
    refine lv_aload_n hx hb dX5_isBuiltOn_5 rfl (lv_at hl 1 rfl) ?_
    refine q_getr hx hb hts hown hW (r := 0) (hI.c 0 (by decide)) rfl k_6 1 (by decide) rfl t_138 (a := ad 2) (hI.o0 1 (by decide)) dX5_isBuiltOn_6 ?_
    refine q_cFiE (As := []) (rest := [.int (nI i)]) (r := 2) hx hb hml hts hown hE h0 hW hS hE.2.1 (c_size l hI.lh) t_178 t_176 t_174 t_49 (by decide) (by decide +kernel) (hI.c 2 (by decide)) rfl k_0 t_170 ⟨Nat.le_of_ble_eq_true rfl, Nat.le_of_ble_eq_true rfl⟩ rfl hl.1 (Nat.le_of_ble_eq_true rfl) dX5_isBuiltOn_9 ⟨Nat.zero_le _, Nat.zero_le _⟩ ⟨rfl, rfl⟩ (fun H locs hW hS => ?_)
    refine lv_icmp_ge (tgt := 50) hx hb dX5_isBuiltOn_14 (by decide) (fun c_14 => ?_) (fun c_14 => ?_)
    · skip
      have hq_3 := (ge_i (n := nh) (by omega) hi_3 c_14).symm
      subst hq_3
      refine lv_iconst (v := 0) hx hb dX5_isBuiltOn_50 (by decide) ?_
      exact q_zret hx hb hr hlocks hW hS (Nat.le_refl _) (Nat.le_refl _) (by decide) dX5_isBuiltOn_51 (⟨(fBuilt_0 hy0_3).symm, rfl⟩)
    · skip
      have hlt_3 := lt_i (n := nh) (by omega) hi_3 c_14
      refine lv_aload_n hx hb dX5_isBuiltOn_17 rfl (lv_at hl 1 rfl) ?_
      refine q_getr hx hb hts hown hW (r := 0) (hI.c 0 (by decide)) rfl k_6 1 (by decide) rfl t_138 (a := ad 2) (hI.o0 1 (by decide)) dX5_isBuiltOn_18 ?_
      refine lv_iload hx hb dX5_isBuiltOn_21 (lv_at hl 0 rfl) ?_
      refine q_cFrE (n := 1) (As := [.int (nI i)]) (rest := []) (r := 2) hx hb hml hts hown hE h0 hW hS hE.2.2.1 (c_get l hI.lh (i := i) hlt_3) t_191 t_189 t_187 t_49 (by decide) (by decide +kernel) (hI.c 2 (by decide)) rfl k_0 t_184 ⟨Nat.le_of_ble_eq_true rfl, Nat.le_of_ble_eq_true rfl⟩ rfl hl.1 (Nat.le_of_ble_eq_true rfl) dX5_isBuiltOn_23 ⟨Nat.zero_le _, Nat.zero_le _⟩ ⟨rfl, rfl⟩ (fun H locs hW hS => ?_)
      refine q_castS hx hb hts hown hW (r := (60 + i)) (hI.mh hlt_3) (hI.kh hlt_3) k_2 t_207 dX5_isBuiltOn_28 ?_
      refine lv_iload_n hx hb dX5_isBuiltOn_31 rfl (lv_at hl 2 rfl) ?_
      refine lv_iload_n hx hb dX5_isBuiltOn_32 rfl (lv_at hl 3 rfl) ?_
      refine lv_iload_n hx hb dX5_isBuiltOn_33 rfl (lv_at hl 4 rfl) ?_
      refine lv_iload hx hb dX5_isBuiltOn_34 (lv_at hl 5 rfl) ?_
      refine q_cViE (As := [.int a, .int b, .int c0, .int d]) (rest := []) (r := (60 + i)) hx hb hml hts hown hE h0 hW hS (c_X1_overlaps l hI hlt_3 a b c0 d) mw_X1_overlaps (hI.mh hlt_3) (hI.kh hlt_3) k_2 t_538 ⟨Nat.le_of_ble_eq_true rfl, Nat.le_of_ble_eq_true rfl⟩ rfl hl.1 (Nat.le_of_ble_eq_true rfl) dX5_isBuiltOn_36 ⟨Nat.zero_le _, Nat.zero_le _⟩ ⟨rfl, rfl⟩ (fun H locs hW hS => ?_)
      refine lv_if_eq (tgt := 44) hx hb dX5_isBuiltOn_39 (by decide) (fun c_39 => ?_) (fun c_39 => ?_)
      · skip
        refine lv_iinc (v := (nI (i + 1))) (lv' := [(5, .int (nI (i + 1))), (0, .ref (ad 0)), (1, .int a), (2, .int b), (3, .int c0), (4, .int d)]) hx hb dX5_isBuiltOn_44 hl (k := 0) rfl (inc_nI _) (by decide) rfl (fun ls hl => ?_)
        refine lv_goto (tgt := 3) hx hb dX5_isBuiltOn_47 (by decide) ?_
        exact ih_3 (i + 1) _   _ H locs ls (by omega) (by omega) (by rfl) (by rfl) (fun j hj => (Nat.lt_or_ge j i).elim (hy0_3 j) (fun q => by rw [show j = i by omega]; exact c_39)) hW hS (lv_sub hl [0, 1, 2, 3, 4, 5] rfl)
      · skip
        refine lv_iconst (v := 1) hx hb dX5_isBuiltOn_42 (by decide) ?_
        exact q_zret hx hb hr hlocks hW hS (Nat.le_refl _) (Nat.le_refl _) (by decide) dX5_isBuiltOn_43 (⟨(fBuilt_1 hlt_3 c_39).symm, rfl⟩)
