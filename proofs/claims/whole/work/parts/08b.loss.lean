/-! loss, of the class and of the model -/
theorem nI_zero {n : Nat} (h : n < 2 ^ 31) (c : nI n = 0) : n = 0 := by
  have := (nI_leI h (show 0 < 2 ^ 31 by decide)).mp (by rw [c]; decide)
  omega
def dQ (a b : Int32) : UInt64 := FP.ddiv (FP.i2d a) (FP.i2d b)
set_option maxHeartbeats 4000000 in
set_option maxRecDepth 100000 in
theorem c_X5_loss (l : Launch) {G : GG} {L : List Nat} {ad : Nat → Nat} {v : Nat → Nat → Int32} {o : Nat → Nat → Option Nat} {w : Nat → Int64} {ng nh nl ns : Nat} {ow gx gy gw gd : Nat → Nat} (hI : PI G.2.2.2 L ad v o ng nh nl ns ow gx gy gw gd) : CtD l G L ad v o w yX5_loss cX5_loss 3 ({ frames := 5, cells := 0, slots := 0, locals := 122 }) [.ref (ad 0)] (fun r u => r = (if aVals v nh = 0 then FP.dconst0 else dQ (aLost v gx gy gw gd nh) (aVals v nh)) ∧ u = v) := by
  have hb6 := hI.g6; have hb12 := hI.h12; have hbl := hI.l6; have hbs := hI.s30
  refine q_ofD (by decide) (Nat.le_of_ble_eq_true rfl) ?_
  intro p e s m below meth c hx hb hr hml hts hown hlocks hE h0 hW hS ls hl
  generalize hH : s.heap = H at hW
  have hS : va_S (Ab G.2.2.1) s.heap H [] := hH ▸ hS
  obtain ⟨locs, hlc⟩ : ∃ z : List Loc, z = [] := ⟨_, rfl⟩
  rw [← hlc] at hS ⊢
  have hl : lv_has ls 3 [(0, .ref (ad 0))] := hl
  refine lv_iconst (v := 0) hx hb dX5_loss_0 (by decide) ?_
  refine lv_istore_n (lv' := [(1, .int 0), (0, .ref (ad 0))]) hx hb dX5_loss_1 rfl hl (by decide) rfl (fun ls hl => ?_)
  refine lv_iconst (v := 0) hx hb dX5_loss_2 (by decide) ?_
  refine lv_istore_n (lv' := [(2, .int 0), (1, .int 0), (0, .ref (ad 0))]) hx hb dX5_loss_3 rfl hl (by decide) rfl (fun ls hl => ?_)
  suffices LP_4 : ∀ (n_4 i : Nat) (x1_4 : Int32) (x2_4 : Int32)  (u_4 : Nat → Nat → Int32) (H : Heap) (locs : List Loc) (ls : Array Slot), nh + 1 ≤ i + n_4 → i ≤ nh → sumI (fun h => hVal v h) i = x1_4 → nI i = x2_4 → v = u_4 → WD G L ad u_4 o w s H → va_S (Ab G.2.2.1) s.heap H locs → lv_has ls 3 [(2, .int x2_4), (1, .int x1_4), (0, .ref (ad 0))] → W p l e ({ frames := 5, cells := 0, slots := 0, locals := 122 } : Room) s m ([.ref (ad 0)] : List Value).toArray below meth c H locs 0 0 (MQ below (va_Qd (fun r u => r = (if aVals v nh = 0 then FP.dconst0 else dQ (aLost v gx gy gw gd nh) (aVals v nh)) ∧ u = v) (fun u t => WD G L ad u o w t t.heap) (Ab G.2.2.1)) ([.ref (ad 0)] : List Value).toArray s ({ frames := 5, cells := 0, slots := 0, locals := 122 } : Room).cells ({ frames := 5, cells := 0, slots := 0, locals := 122 } : Room).slots (Ab G.2.2.1)) (F0 m 4 ls []) from LP_4 (nh + 1) 0 _ _   _ H locs ls (by omega) (by omega) (by rfl) (by rfl) (by rfl)  hW hS (lv_sub hl [0, 1, 2] rfl)
  intro n_4
  induction n_4 with
  | zero => intro i x1_4 x2_4  u_4 H locs ls h1 h2; exact absurd h1 (by omega)
  | succ n_4 ih_4 =>
    intro i x1_4 x2_4  u_4 H locs ls hn_4 hi_4 ex1_4 ex2_4 eu_4  hW hS hl
    subst ex1_4
    subst ex2_4
    subst eu_4
    refine lv_iload_n hx hb dX5_loss_4 rfl (lv_at hl 0 rfl) ?_
    refine lv_aload_n hx hb dX5_loss_5 rfl (lv_at hl 2 rfl) ?_
    refine q_getr hx hb hts hown hW (r := 0) (hI.c 0 (by decide)) rfl k_6 1 (by decide) rfl t_138 (a := ad 2) (hI.o0 1 (by decide)) dX5_loss_6 ?_
    refine q_cFiE (As := []) (rest := [.int (nI i)]) (r := 2) hx hb hml hts hown hE h0 hW hS hE.2.1 (c_size l hI.lh) t_178 t_176 t_174 t_49 (by decide) (by decide +kernel) (hI.c 2 (by decide)) rfl k_0 t_170 ⟨Nat.le_of_ble_eq_true rfl, Nat.le_of_ble_eq_true rfl⟩ rfl hl.1 (Nat.le_of_ble_eq_true rfl) dX5_loss_9 ⟨Nat.zero_le _, Nat.zero_le _⟩ ⟨rfl, rfl⟩ (fun H locs hW hS => ?_)
    refine lv_icmp_ge (tgt := 42) hx hb dX5_loss_14 (by decide) (fun c_14 => ?_) (fun c_14 => ?_)
    · skip
      have hq_4 := (ge_i (n := nh) (by omega) hi_4 c_14).symm
      subst hq_4
      refine lv_iload_n hx hb dX5_loss_42 rfl (lv_at hl 1 rfl) ?_
      refine lv_if_ne (tgt := 48) hx hb dX5_loss_43 (by decide) (fun c_43 => ?_) (fun c_43 => ?_)
      · skip
        refine lv_aload_n hx hb dX5_loss_48 rfl (lv_at hl 2 rfl) ?_
        refine q_cViE (As := []) (rest := []) (r := 0) hx hb hml hts hown hE h0 hW hS (c_X5_lostOfAll l hI) mw_X5_lostOfAll (hI.c 0 (by decide)) rfl k_6 t_240 ⟨Nat.le_of_ble_eq_true rfl, Nat.le_of_ble_eq_true rfl⟩ rfl hl.1 (Nat.le_of_ble_eq_true rfl) dX5_loss_49 ⟨Nat.zero_le _, Nat.zero_le _⟩ ⟨rfl, rfl⟩ (fun H locs hW hS => ?_)
        refine lv_i2d hx hb dX5_loss_52 ?_
        refine lv_iload_n hx hb dX5_loss_53 rfl (lv_at hl 1 rfl) ?_
        refine lv_i2d hx hb dX5_loss_54 ?_
        refine lv_ddiv hx hb dX5_loss_55 (fp_div _ _ (c_43)) ?_
        exact q_dret hx hb hr hlocks hW hS (Nat.le_refl _) (Nat.le_refl _) dX5_loss_56 (⟨(if_neg c_43).symm, rfl⟩)
      · skip
        refine lv_dconst0 hx hb dX5_loss_46 ?_
        exact q_dret hx hb hr hlocks hW hS (Nat.le_refl _) (Nat.le_refl _) dX5_loss_47 (⟨(if_pos (by first | exact c_43 | exact not_not.mp c_43)).symm, rfl⟩)
    · skip
      have hlt_4 := lt_i (n := nh) (by omega) hi_4 c_14
      refine lv_iload_n hx hb dX5_loss_17 rfl (lv_at hl 1 rfl) ?_
      refine lv_aload_n hx hb dX5_loss_18 rfl (lv_at hl 2 rfl) ?_
      refine q_getr hx hb hts hown hW (r := 0) (hI.c 0 (by decide)) rfl k_6 1 (by decide) rfl t_138 (a := ad 2) (hI.o0 1 (by decide)) dX5_loss_19 ?_
      refine lv_iload_n hx hb dX5_loss_22 rfl (lv_at hl 0 rfl) ?_
      refine q_cFrE (n := 1) (As := [.int (nI i)]) (rest := [.int (sumI (fun h => hVal v h) i)]) (r := 2) hx hb hml hts hown hE h0 hW hS hE.2.2.1 (c_get l hI.lh (i := i) hlt_4) t_191 t_189 t_187 t_49 (by decide) (by decide +kernel) (hI.c 2 (by decide)) rfl k_0 t_184 ⟨Nat.le_of_ble_eq_true rfl, Nat.le_of_ble_eq_true rfl⟩ rfl hl.1 (Nat.le_of_ble_eq_true rfl) dX5_loss_23 ⟨Nat.zero_le _, Nat.zero_le _⟩ ⟨rfl, rfl⟩ (fun H locs hW hS => ?_)
      refine q_castS hx hb hts hown hW (r := (60 + i)) (hI.mh hlt_4) (hI.kh hlt_4) k_2 t_207 dX5_loss_28 ?_
      refine q_cViE (As := []) (rest := [.int (sumI (fun h => hVal v h) i)]) (r := (60 + i)) hx hb hml hts hown hE h0 hW hS (c_X1_values l hI hlt_4) mw_X1_values (hI.mh hlt_4) (hI.kh hlt_4) k_2 t_208 ⟨Nat.le_of_ble_eq_true rfl, Nat.le_of_ble_eq_true rfl⟩ rfl hl.1 (Nat.le_of_ble_eq_true rfl) dX5_loss_31 ⟨Nat.zero_le _, Nat.zero_le _⟩ ⟨rfl, rfl⟩ (fun H locs hW hS => ?_)
      refine lv_iadd hx hb dX5_loss_34 ?_
      refine lv_istore_n (lv' := [(1, .int ((sumI (fun h => hVal v h) i) + (hVal v i))), (2, .int (nI i)), (0, .ref (ad 0))]) hx hb dX5_loss_35 rfl hl (by decide) rfl (fun ls hl => ?_)
      refine lv_iinc (v := (nI (i + 1))) (lv' := [(2, .int (nI (i + 1))), (1, .int ((sumI (fun h => hVal v h) i) + (hVal v i))), (0, .ref (ad 0))]) hx hb dX5_loss_36 hl (k := 1) rfl (inc_nI _) (by decide) rfl (fun ls hl => ?_)
      refine lv_goto (tgt := 4) hx hb dX5_loss_39 (by decide) ?_
      exact ih_4 (i + 1) _ _   _ H locs ls (by omega) (by omega) (by rfl) (by rfl) (by rfl)  hW hS (lv_sub hl [0, 1, 2] rfl)

set_option maxHeartbeats 4000000 in
set_option maxRecDepth 100000 in
theorem c_X7_loss (l : Launch) {G : GG} {L : List Nat} {ad : Nat → Nat} {v : Nat → Nat → Int32} {o : Nat → Nat → Option Nat} {w : Nat → Int64} {ng nh nl ns : Nat} {ow gx gy gw gd : Nat → Nat} (hJ : PJ L ad v o 101 110 ng nh nl ns ow gx gy gw gd) (hO1 : o 100 1 = some (ad 101)) (hv : nh ≠ 0 → rVals (tz v) 110 gw gd nh (-1) ≠ 0) : CtD l G L ad v o w yX7_loss cX7_loss 1 ({ frames := 3, cells := 0, slots := 0, locals := 68 }) [.ref (ad 100)] (fun r u => r = (if nh = 0 then FP.dconst0 else dQ (rBy (tz v) 110 gw gd nh (-1)) (rVals (tz v) 110 gw gd nh (-1))) ∧ u = tz v) := by
  have hsb := hJ.q.sb; have hbd := hJ.bd
  refine q_ofD (by decide) (Nat.le_of_ble_eq_true rfl) ?_
  intro p e s m below meth c hx hb hr hml hts hown hlocks hE h0 hW hS ls hl
  generalize hH : s.heap = H at hW
  have hS : va_S (Ab G.2.2.1) s.heap H [] := hH ▸ hS
  obtain ⟨locs, hlc⟩ : ∃ z : List Loc, z = [] := ⟨_, rfl⟩
  rw [← hlc] at hS ⊢
  have hl : lv_has ls 1 [(0, .ref (ad 100))] := hl
  refine lv_aload_n hx hb dX7_loss_0 rfl (lv_at hl 0 rfl) ?_
  refine lv_iconst (v := 0) hx hb dX7_loss_1 (by decide) ?_
  refine q_put hx hb hts hown hW hS (r := 100) hJ.q.m0 rfl k_8 0 (by decide) rfl t_943 rfl (t := .int) (by decide +kernel) rfl rfl dX7_loss_2 (fun H locs hW hS => ?_)
  have hJ : PJ L ad (up2 v 100 0 0) o 101 110 ng nh nl ns ow gx gy gw gd := hJ.kp kr_t
  generalize hv1 : (up2 v 100 0 0) = v1 at hW hJ
  refine lv_aload_n hx hb dX7_loss_5 rfl (lv_at hl 0 rfl) ?_
  refine q_getr hx hb hts hown hW (r := 100) hJ.q.m0 rfl k_8 1 (by decide) rfl t_944 (a := ad 101) hO1 dX7_loss_6 ?_
  refine q_getN hx hb hts hown hW (r := 101) hJ.q.mS hJ.q.kS k_7 6 (by decide) rfl t_880 (x := (nI nh)) hJ.eH dX7_loss_9 ?_
  refine lv_if_ne (tgt := 19) hx hb dX7_loss_12 (by decide) (fun c_12 => ?_) (fun c_12 => ?_)
  · skip
    refine lv_aload_n hx hb dX7_loss_19 rfl (lv_at hl 0 rfl) ?_
    refine q_getr hx hb hts hown hW (r := 100) hJ.q.m0 rfl k_8 1 (by decide) rfl t_944 (a := ad 101) hO1 dX7_loss_20 ?_
    refine lv_iconst (v := (-1)) hx hb dX7_loss_23 (by decide) ?_
    refine q_cViE (As := [.int (-1)]) (rest := []) (r := 101) hx hb hml hts hown hE h0 hW hS (c_X6_lostBy l hJ (-1)) mw_X6_lostBy hJ.q.mS hJ.q.kS k_7 t_1024 ⟨Nat.le_of_ble_eq_true rfl, Nat.le_of_ble_eq_true rfl⟩ rfl hl.1 (Nat.le_of_ble_eq_true rfl) dX7_loss_24 ⟨Nat.zero_le _, Nat.zero_le _⟩ ⟨rfl, rfl⟩ (fun H locs hW hS => ?_)
    refine lv_i2d hx hb dX7_loss_27 ?_
    refine lv_aload_n hx hb dX7_loss_28 rfl (lv_at hl 0 rfl) ?_
    refine q_getr hx hb hts hown hW (r := 100) hJ.q.m0 rfl k_8 1 (by decide) rfl t_944 (a := ad 101) hO1 dX7_loss_29 ?_
    refine lv_iconst (v := (-1)) hx hb dX7_loss_32 (by decide) ?_
    refine q_cViE (As := [.int (-1)]) (rest := [.double (FP.i2d (rBy v1 110 gw gd nh (-1)))]) (r := 101) hx hb hml hts hown hE h0 hW hS (c_X6_valuesOf l hJ (-1)) mw_X6_valuesOf hJ.q.mS hJ.q.kS k_7 t_1020 ⟨Nat.le_of_ble_eq_true rfl, Nat.le_of_ble_eq_true rfl⟩ rfl hl.1 (Nat.le_of_ble_eq_true rfl) dX7_loss_33 ⟨Nat.zero_le _, Nat.zero_le _⟩ ⟨rfl, rfl⟩ (fun H locs hW hS => ?_)
    refine lv_i2d hx hb dX7_loss_36 ?_
    refine lv_ddiv hx hb dX7_loss_37 (fp_div _ _ (by rw [← hv1]; exact hv (fun q => c_12 (by rw [q]; rfl)))) ?_
    subst hv1
    exact q_dret hx hb hr hlocks hW hS (Nat.le_refl _) (Nat.le_refl _) dX7_loss_38 (by first | exact ⟨(if_pos (nI_zero (by omega) c_12)).symm, rfl⟩ | exact ⟨(if_neg (fun q => c_12 (by rw [q]; rfl))).symm, rfl⟩)
  · skip
    refine lv_dconst0 hx hb dX7_loss_15 ?_
    refine lv_goto (tgt := 38) hx hb dX7_loss_16 (by decide) ?_
    subst hv1
    exact q_dret hx hb hr hlocks hW hS (Nat.le_refl _) (Nat.le_refl _) dX7_loss_38 (by first | exact ⟨(if_pos (nI_zero (by omega) c_12)).symm, rfl⟩ | exact ⟨(if_neg (fun q => c_12 (by rw [q]; rfl))).symm, rfl⟩)
