/-! the model: its other methods -/
set_option maxHeartbeats 4000000 in
set_option maxRecDepth 100000 in
theorem c_X6_copy (l : Launch) {G : GG} {L : List Nat} {ad : Nat → Nat} {v : Nat → Nat → Int32} {o : Nat → Nat → Option Nat} {w : Nat → Int64} {r0 r1 : Nat} (m0 : r0 ∈ L) (m1 : r1 ∈ L) (k0 : kd r0 = 9) (k1 : kd r1 = 9) (hl0 : ln r0 ≤ ln r1) (hl1 : ln r1 < 1000) : CtV l G L ad v o w yX6_copy cX6_copy 2 ({ frames := 1, cells := 0, slots := 0, locals := 30 }) [.ref (ad r0), .ref (ad r1)] (fun u => u = cpy2 v r0 r1 0 0 (ln r0)) := by
  skip
  refine q_ofV (by decide) (Nat.le_of_ble_eq_true rfl) ?_
  intro p e s m below meth c hx hb hr hml hts hown hlocks hE h0 hW hS hin ls hl
  generalize hH : s.heap = H at hW
  have hS : va_S (Ab G.2.2.1) s.heap H [] := hH ▸ hS
  obtain ⟨locs, hlc⟩ : ∃ z : List Loc, z = [] := ⟨_, rfl⟩
  rw [← hlc] at hS ⊢
  have hl : lv_has ls 2 [(0, .ref (ad r0)), (1, .ref (ad r1))] := hl
  refine lv_aload_n hx hb dX6_copy_0 rfl (lv_at hl 0 rfl) ?_
  refine lv_iconst (v := 0) hx hb dX6_copy_1 (by decide) ?_
  refine lv_aload_n hx hb dX6_copy_2 rfl (lv_at hl 1 rfl) ?_
  refine lv_iconst (v := 0) hx hb dX6_copy_3 (by decide) ?_
  refine lv_aload_n hx hb dX6_copy_4 rfl (lv_at hl 0 rfl) ?_
  refine q_alen hx hb hW (r := r0) m0 k0 (x := (nI (ln r0))) rfl dX6_copy_5 ?_
  refine q_copy hx hb hml hl.1 hts hown m_copy t_1113 hW hS (r0 := r0) (r1 := r1) m0 m1 k0 k1 0 0 (ln r0) rfl rfl rfl (by omega) (by omega) (by omega) (by omega) (Nat.le_of_ble_eq_true rfl) (Nat.le_of_ble_eq_true rfl) dX6_copy_6 (fun H locs hW hS => ?_)
  generalize hv1 : (cpy2 v r0 r1 0 0 (ln r0)) = v1 at hW
  subst hv1
  exact q_vret hx hb hr hlocks hW hS (Nat.le_refl _) (Nat.le_refl _) dX6_copy_9 (rfl)

set_option maxHeartbeats 4000000 in
set_option maxRecDepth 100000 in
theorem c_X6_become (l : Launch) {G : GG} {L : List Nat} {ad : Nat → Nat} {v : Nat → Nat → Int32} {o : Nat → Nat → Option Nat} {w : Nat → Int64} {ng nh nl ns : Nat} {ow gx gy gw gd : Nat → Nat} (hJ : PJ L ad v o 101 110 ng nh nl ns ow gx gy gw gd) (hO1 : o 100 1 = some (ad 101)) (hO2 : o 100 2 = some (ad 102)) (hQ2 : PQ L ad o 102 140) (hn01 : ∀ i, i < 12 → v 118 i = 0 ∨ v 118 i = 1) : CtV l G L ad v o w yX6_become cX6_become 2 ({ frames := 2, cells := 0, slots := 0, locals := 51 }) [.ref (ad 102), .ref (ad 101)] (fun u => u = uBec v) := by
  have hsb := hJ.q.sb; have hbd := hJ.bd
  refine q_ofV (by decide) (Nat.le_of_ble_eq_true rfl) ?_
  intro p e s m below meth c hx hb hr hml hts hown hlocks hE h0 hW hS hin ls hl
  generalize hH : s.heap = H at hW
  have hS : va_S (Ab G.2.2.1) s.heap H [] := hH ▸ hS
  obtain ⟨locs, hlc⟩ : ∃ z : List Loc, z = [] := ⟨_, rfl⟩
  rw [← hlc] at hS ⊢
  have hl : lv_has ls 2 [(0, .ref (ad 102)), (1, .ref (ad 101))] := hl
  refine lv_aload_n hx hb dX6_become_0 rfl (lv_at hl 0 rfl) ?_
  refine lv_aload_n hx hb dX6_become_1 rfl (lv_at hl 1 rfl) ?_
  refine q_get hx hb hts hown hW (r := 101) hJ.q.mS hJ.q.kS k_7 0 (by decide) rfl t_867 (x := (v 101 0)) rfl dX6_become_2 ?_
  refine q_put hx hb hts hown hW hS (r := 102) hQ2.mS rfl k_7 0 (by decide) rfl t_867 rfl (t := .int) (by decide +kernel) rfl rfl dX6_become_5 (fun H locs hW hS => ?_)
  refine lv_aload_n hx hb dX6_become_8 rfl (lv_at hl 0 rfl) ?_
  refine lv_aload_n hx hb dX6_become_9 rfl (lv_at hl 1 rfl) ?_
  refine q_get hx hb hts hown hW (r := 101) hJ.q.mS hJ.q.kS k_7 6 (by decide) rfl t_879 (x := (v 101 6)) rfl dX6_become_10 ?_
  refine q_put hx hb hts hown hW hS (r := 102) hQ2.mS rfl k_7 6 (by decide) rfl t_879 rfl (t := .int) (by decide +kernel) rfl rfl dX6_become_13 (fun H locs hW hS => ?_)
  refine lv_aload_n hx hb dX6_become_16 rfl (lv_at hl 0 rfl) ?_
  refine lv_aload_n hx hb dX6_become_17 rfl (lv_at hl 1 rfl) ?_
  refine q_get hx hb hts hown hW (r := 101) hJ.q.mS hJ.q.kS k_7 10 (by decide) rfl t_887 (x := (v 101 10)) rfl dX6_become_18 ?_
  refine q_put hx hb hts hown hW hS (r := 102) hQ2.mS rfl k_7 10 (by decide) rfl t_887 rfl (t := .int) (by decide +kernel) rfl rfl dX6_become_21 (fun H locs hW hS => ?_)
  refine lv_aload_n hx hb dX6_become_24 rfl (lv_at hl 0 rfl) ?_
  refine lv_aload_n hx hb dX6_become_25 rfl (lv_at hl 1 rfl) ?_
  refine q_get hx hb hts hown hW (r := 101) hJ.q.mS hJ.q.kS k_7 11 (by decide) rfl t_889 (x := (v 101 11)) rfl dX6_become_26 ?_
  refine q_put hx hb hts hown hW hS (r := 102) hQ2.mS rfl k_7 11 (by decide) rfl t_889 rfl (t := .int) (by decide +kernel) rfl rfl dX6_become_29 (fun H locs hW hS => ?_)
  refine lv_aload_n hx hb dX6_become_32 rfl (lv_at hl 0 rfl) ?_
  refine lv_aload_n hx hb dX6_become_33 rfl (lv_at hl 1 rfl) ?_
  refine q_get hx hb hts hown hW (r := 101) hJ.q.mS hJ.q.kS k_7 13 (by decide) rfl t_893 (x := (v 101 13)) rfl dX6_become_34 ?_
  refine q_put hx hb hts hown hW hS (r := 102) hQ2.mS rfl k_7 13 (by decide) rfl t_893 rfl (t := .int) (by decide +kernel) rfl rfl dX6_become_37 (fun H locs hW hS => ?_)
  refine lv_aload_n hx hb dX6_become_40 rfl (lv_at hl 0 rfl) ?_
  refine lv_aload_n hx hb dX6_become_41 rfl (lv_at hl 1 rfl) ?_
  refine q_get hx hb hts hown hW (r := 101) hJ.q.mS hJ.q.kS k_7 15 (by decide) rfl t_897 (x := (v 101 15)) rfl dX6_become_42 ?_
  refine q_put hx hb hts hown hW hS (r := 102) hQ2.mS rfl k_7 15 (by decide) rfl t_897 rfl (t := .int) (by decide +kernel) rfl rfl dX6_become_45 (fun H locs hW hS => ?_)
  refine lv_aload_n hx hb dX6_become_48 rfl (lv_at hl 1 rfl) ?_
  refine q_getr hx hb hts hown hW (r := 101) hJ.q.mS hJ.q.kS k_7 1 (by decide) rfl t_869 (a := ad (110 + 1)) (hJ.q.oB 1 rfl) dX6_become_49 ?_
  refine lv_aload_n hx hb dX6_become_52 rfl (lv_at hl 0 rfl) ?_
  refine q_getr hx hb hts hown hW (r := 102) hQ2.mS rfl k_7 1 (by decide) rfl t_869 (a := ad (140 + 1)) (hQ2.oB 1 rfl) dX6_become_53 ?_
  refine q_cSvE (As := [.ref (ad (110 + 1)), .ref (ad (140 + 1))]) (rest := []) hx hb hml hts hown hE h0 hW hS (c_X6_copy l (r0 := 110 + 1) (r1 := 140 + 1) (hJ.q.mB 1 rfl) (hQ2.mB 1 rfl) rfl rfl (by decide) (by decide)) mw_X6_copy t_1110 ⟨Nat.le_of_ble_eq_true rfl, Nat.le_of_ble_eq_true rfl⟩ rfl hl.1 (Nat.le_of_ble_eq_true rfl) dX6_become_56 ⟨Nat.zero_le _, Nat.zero_le _⟩ ⟨rfl, rfl⟩ (fun H locs hW hS => ?_)
  refine lv_aload_n hx hb dX6_become_59 rfl (lv_at hl 1 rfl) ?_
  refine q_getr hx hb hts hown hW (r := 101) hJ.q.mS hJ.q.kS k_7 2 (by decide) rfl t_871 (a := ad (110 + 2)) (hJ.q.oB 2 rfl) dX6_become_60 ?_
  refine lv_aload_n hx hb dX6_become_63 rfl (lv_at hl 0 rfl) ?_
  refine q_getr hx hb hts hown hW (r := 102) hQ2.mS rfl k_7 2 (by decide) rfl t_871 (a := ad (140 + 2)) (hQ2.oB 2 rfl) dX6_become_64 ?_
  refine q_cSvE (As := [.ref (ad (110 + 2)), .ref (ad (140 + 2))]) (rest := []) hx hb hml hts hown hE h0 hW hS (c_X6_copy l (r0 := 110 + 2) (r1 := 140 + 2) (hJ.q.mB 2 rfl) (hQ2.mB 2 rfl) rfl rfl (by decide) (by decide)) mw_X6_copy t_1110 ⟨Nat.le_of_ble_eq_true rfl, Nat.le_of_ble_eq_true rfl⟩ rfl hl.1 (Nat.le_of_ble_eq_true rfl) dX6_become_67 ⟨Nat.zero_le _, Nat.zero_le _⟩ ⟨rfl, rfl⟩ (fun H locs hW hS => ?_)
  refine lv_aload_n hx hb dX6_become_70 rfl (lv_at hl 1 rfl) ?_
  refine q_getr hx hb hts hown hW (r := 101) hJ.q.mS hJ.q.kS k_7 3 (by decide) rfl t_873 (a := ad (110 + 3)) (hJ.q.oB 3 rfl) dX6_become_71 ?_
  refine lv_aload_n hx hb dX6_become_74 rfl (lv_at hl 0 rfl) ?_
  refine q_getr hx hb hts hown hW (r := 102) hQ2.mS rfl k_7 3 (by decide) rfl t_873 (a := ad (140 + 3)) (hQ2.oB 3 rfl) dX6_become_75 ?_
  refine q_cSvE (As := [.ref (ad (110 + 3)), .ref (ad (140 + 3))]) (rest := []) hx hb hml hts hown hE h0 hW hS (c_X6_copy l (r0 := 110 + 3) (r1 := 140 + 3) (hJ.q.mB 3 rfl) (hQ2.mB 3 rfl) rfl rfl (by decide) (by decide)) mw_X6_copy t_1110 ⟨Nat.le_of_ble_eq_true rfl, Nat.le_of_ble_eq_true rfl⟩ rfl hl.1 (Nat.le_of_ble_eq_true rfl) dX6_become_78 ⟨Nat.zero_le _, Nat.zero_le _⟩ ⟨rfl, rfl⟩ (fun H locs hW hS => ?_)
  refine lv_aload_n hx hb dX6_become_81 rfl (lv_at hl 1 rfl) ?_
  refine q_getr hx hb hts hown hW (r := 101) hJ.q.mS hJ.q.kS k_7 4 (by decide) rfl t_875 (a := ad (110 + 4)) (hJ.q.oB 4 rfl) dX6_become_82 ?_
  refine lv_aload_n hx hb dX6_become_85 rfl (lv_at hl 0 rfl) ?_
  refine q_getr hx hb hts hown hW (r := 102) hQ2.mS rfl k_7 4 (by decide) rfl t_875 (a := ad (140 + 4)) (hQ2.oB 4 rfl) dX6_become_86 ?_
  refine q_cSvE (As := [.ref (ad (110 + 4)), .ref (ad (140 + 4))]) (rest := []) hx hb hml hts hown hE h0 hW hS (c_X6_copy l (r0 := 110 + 4) (r1 := 140 + 4) (hJ.q.mB 4 rfl) (hQ2.mB 4 rfl) rfl rfl (by decide) (by decide)) mw_X6_copy t_1110 ⟨Nat.le_of_ble_eq_true rfl, Nat.le_of_ble_eq_true rfl⟩ rfl hl.1 (Nat.le_of_ble_eq_true rfl) dX6_become_89 ⟨Nat.zero_le _, Nat.zero_le _⟩ ⟨rfl, rfl⟩ (fun H locs hW hS => ?_)
  refine lv_aload_n hx hb dX6_become_92 rfl (lv_at hl 1 rfl) ?_
  refine q_getr hx hb hts hown hW (r := 101) hJ.q.mS hJ.q.kS k_7 5 (by decide) rfl t_877 (a := ad (110 + 5)) (hJ.q.oB 5 rfl) dX6_become_93 ?_
  refine lv_aload_n hx hb dX6_become_96 rfl (lv_at hl 0 rfl) ?_
  refine q_getr hx hb hts hown hW (r := 102) hQ2.mS rfl k_7 5 (by decide) rfl t_877 (a := ad (140 + 5)) (hQ2.oB 5 rfl) dX6_become_97 ?_
  refine q_cSvE (As := [.ref (ad (110 + 5)), .ref (ad (140 + 5))]) (rest := []) hx hb hml hts hown hE h0 hW hS (c_X6_copy l (r0 := 110 + 5) (r1 := 140 + 5) (hJ.q.mB 5 rfl) (hQ2.mB 5 rfl) rfl rfl (by decide) (by decide)) mw_X6_copy t_1110 ⟨Nat.le_of_ble_eq_true rfl, Nat.le_of_ble_eq_true rfl⟩ rfl hl.1 (Nat.le_of_ble_eq_true rfl) dX6_become_100 ⟨Nat.zero_le _, Nat.zero_le _⟩ ⟨rfl, rfl⟩ (fun H locs hW hS => ?_)
  refine lv_aload_n hx hb dX6_become_103 rfl (lv_at hl 1 rfl) ?_
  refine q_getr hx hb hts hown hW (r := 101) hJ.q.mS hJ.q.kS k_7 7 (by decide) rfl t_881 (a := ad (110 + 7)) (hJ.q.oB 7 rfl) dX6_become_104 ?_
  refine lv_aload_n hx hb dX6_become_107 rfl (lv_at hl 0 rfl) ?_
  refine q_getr hx hb hts hown hW (r := 102) hQ2.mS rfl k_7 7 (by decide) rfl t_881 (a := ad (140 + 7)) (hQ2.oB 7 rfl) dX6_become_108 ?_
  refine q_cSvE (As := [.ref (ad (110 + 7)), .ref (ad (140 + 7))]) (rest := []) hx hb hml hts hown hE h0 hW hS (c_X6_copy l (r0 := 110 + 7) (r1 := 140 + 7) (hJ.q.mB 7 rfl) (hQ2.mB 7 rfl) rfl rfl (by decide) (by decide)) mw_X6_copy t_1110 ⟨Nat.le_of_ble_eq_true rfl, Nat.le_of_ble_eq_true rfl⟩ rfl hl.1 (Nat.le_of_ble_eq_true rfl) dX6_become_111 ⟨Nat.zero_le _, Nat.zero_le _⟩ ⟨rfl, rfl⟩ (fun H locs hW hS => ?_)
  refine lv_aload_n hx hb dX6_become_114 rfl (lv_at hl 1 rfl) ?_
  refine q_getr hx hb hts hown hW (r := 101) hJ.q.mS hJ.q.kS k_7 8 (by decide) rfl t_883 (a := ad (110 + 8)) (hJ.q.oB 8 rfl) dX6_become_115 ?_
  refine lv_iconst (v := 0) hx hb dX6_become_118 (by decide) ?_
  refine lv_aload_n hx hb dX6_become_119 rfl (lv_at hl 0 rfl) ?_
  refine q_getr hx hb hts hown hW (r := 102) hQ2.mS rfl k_7 8 (by decide) rfl t_883 (a := ad (140 + 8)) (hQ2.oB 8 rfl) dX6_become_120 ?_
  refine lv_iconst (v := 0) hx hb dX6_become_123 (by decide) ?_
  refine lv_bipush (v := 12) hx hb dX6_become_124 (by decide) ?_
  refine q_copyz hx hb hml hl.1 hts hown m_copy t_1113 hW hS (r0 := 110 + 8) (r1 := 140 + 8) (hJ.q.mB 8 rfl) (hQ2.mB 8 rfl) rfl rfl 12 rfl rfl rfl (by decide) (by decide) (by decide) (by decide) (fun i hi => hn01 i hi) (Nat.le_of_ble_eq_true rfl) (Nat.le_of_ble_eq_true rfl) dX6_become_126 (fun H locs hW hS => ?_)
  refine lv_aload_n hx hb dX6_become_129 rfl (lv_at hl 1 rfl) ?_
  refine q_getr hx hb hts hown hW (r := 101) hJ.q.mS hJ.q.kS k_7 9 (by decide) rfl t_885 (a := ad (110 + 9)) (hJ.q.oB 9 rfl) dX6_become_130 ?_
  refine lv_aload_n hx hb dX6_become_133 rfl (lv_at hl 0 rfl) ?_
  refine q_getr hx hb hts hown hW (r := 102) hQ2.mS rfl k_7 9 (by decide) rfl t_885 (a := ad (140 + 9)) (hQ2.oB 9 rfl) dX6_become_134 ?_
  refine q_cSvE (As := [.ref (ad (110 + 9)), .ref (ad (140 + 9))]) (rest := []) hx hb hml hts hown hE h0 hW hS (c_X6_copy l (r0 := 110 + 9) (r1 := 140 + 9) (hJ.q.mB 9 rfl) (hQ2.mB 9 rfl) rfl rfl (by decide) (by decide)) mw_X6_copy t_1110 ⟨Nat.le_of_ble_eq_true rfl, Nat.le_of_ble_eq_true rfl⟩ rfl hl.1 (Nat.le_of_ble_eq_true rfl) dX6_become_137 ⟨Nat.zero_le _, Nat.zero_le _⟩ ⟨rfl, rfl⟩ (fun H locs hW hS => ?_)
  refine lv_aload_n hx hb dX6_become_140 rfl (lv_at hl 1 rfl) ?_
  refine q_getr hx hb hts hown hW (r := 101) hJ.q.mS hJ.q.kS k_7 12 (by decide) rfl t_891 (a := ad (110 + 12)) (hJ.q.oB 12 rfl) dX6_become_141 ?_
  refine lv_aload_n hx hb dX6_become_144 rfl (lv_at hl 0 rfl) ?_
  refine q_getr hx hb hts hown hW (r := 102) hQ2.mS rfl k_7 12 (by decide) rfl t_891 (a := ad (140 + 12)) (hQ2.oB 12 rfl) dX6_become_145 ?_
  refine q_cSvE (As := [.ref (ad (110 + 12)), .ref (ad (140 + 12))]) (rest := []) hx hb hml hts hown hE h0 hW hS (c_X6_copy l (r0 := 110 + 12) (r1 := 140 + 12) (hJ.q.mB 12 rfl) (hQ2.mB 12 rfl) rfl rfl (by decide) (by decide)) mw_X6_copy t_1110 ⟨Nat.le_of_ble_eq_true rfl, Nat.le_of_ble_eq_true rfl⟩ rfl hl.1 (Nat.le_of_ble_eq_true rfl) dX6_become_148 ⟨Nat.zero_le _, Nat.zero_le _⟩ ⟨rfl, rfl⟩ (fun H locs hW hS => ?_)
  refine lv_aload_n hx hb dX6_become_151 rfl (lv_at hl 1 rfl) ?_
  refine q_getr hx hb hts hown hW (r := 101) hJ.q.mS hJ.q.kS k_7 14 (by decide) rfl t_895 (a := ad (110 + 14)) (hJ.q.oB 14 rfl) dX6_become_152 ?_
  refine lv_aload_n hx hb dX6_become_155 rfl (lv_at hl 0 rfl) ?_
  refine q_getr hx hb hts hown hW (r := 102) hQ2.mS rfl k_7 14 (by decide) rfl t_895 (a := ad (140 + 14)) (hQ2.oB 14 rfl) dX6_become_156 ?_
  refine q_cSvE (As := [.ref (ad (110 + 14)), .ref (ad (140 + 14))]) (rest := []) hx hb hml hts hown hE h0 hW hS (c_X6_copy l (r0 := 110 + 14) (r1 := 140 + 14) (hJ.q.mB 14 rfl) (hQ2.mB 14 rfl) rfl rfl (by decide) (by decide)) mw_X6_copy t_1110 ⟨Nat.le_of_ble_eq_true rfl, Nat.le_of_ble_eq_true rfl⟩ rfl hl.1 (Nat.le_of_ble_eq_true rfl) dX6_become_159 ⟨Nat.zero_le _, Nat.zero_le _⟩ ⟨rfl, rfl⟩ (fun H locs hW hS => ?_)
  exact q_vret hx hb hr hlocks hW hS (Nat.le_refl _) (Nat.le_refl _) dX6_become_162 (rfl)

set_option maxHeartbeats 4000000 in
set_option maxRecDepth 100000 in
theorem c_X7_at (l : Launch) {G : GG} {L : List Nat} {ad : Nat → Nat} {v : Nat → Nat → Int32} {o : Nat → Nat → Option Nat} {w : Nat → Int64} {ng nh nl ns : Nat} {ow gx gy gw gd : Nat → Nat} (hJ : PJ L ad v o 101 110 ng nh nl ns ow gx gy gw gd) (hO1 : o 100 1 = some (ad 101)) (x y : Int32) : CtI l G L ad v o w yX7_at cX7_at 6 .int ({ frames := 1, cells := 0, slots := 0, locals := 22 }) [.ref (ad 100), .int x, .int y] (fun r u => r = rAt gx gy gw gd nh x y ∧ u = v) := by
  have hsb := hJ.q.sb; have hbd := hJ.bd
  refine q_ofI (by decide) (Nat.le_of_ble_eq_true rfl) ?_
  intro p e s m below meth c hx hb hr hml hts hown hlocks hE h0 hW hS ls hl
  generalize hH : s.heap = H at hW
  have hS : va_S (Ab G.2.2.1) s.heap H [] := hH ▸ hS
  obtain ⟨locs, hlc⟩ : ∃ z : List Loc, z = [] := ⟨_, rfl⟩
  rw [← hlc] at hS ⊢
  have hl : lv_has ls 6 [(0, .ref (ad 100)), (1, .int x), (2, .int y)] := hl
  refine lv_iconst (v := (-1)) hx hb dX7_at_0 (by decide) ?_
  refine lv_istore_n (lv' := [(3, .int (-1)), (0, .ref (ad 100)), (1, .int x), (2, .int y)]) hx hb dX7_at_1 rfl hl (by decide) rfl (fun ls hl => ?_)
  refine lv_iconst (v := 0) hx hb dX7_at_2 (by decide) ?_
  refine lv_istore (lv' := [(4, .int 0), (3, .int (-1)), (0, .ref (ad 100)), (1, .int x), (2, .int y)]) hx hb dX7_at_3 hl (by decide) rfl (fun ls hl => ?_)
  suffices LP_5 : ∀ (n_5 i : Nat) (x3_5 : Int32) (x4_5 : Int32)  (u_5 : Nat → Nat → Int32) (H : Heap) (locs : List Loc) (ls : Array Slot), nh + 1 ≤ i + n_5 → i ≤ nh → itr (rAtF gx gy gw gd x y) i (-1) = x3_5 → nI i = x4_5 → v = u_5 → WD G L ad u_5 o w s H → va_S (Ab G.2.2.1) s.heap H locs → lv_has ls 6 [(4, .int x4_5), (3, .int x3_5), (0, .ref (ad 100)), (1, .int x), (2, .int y)] → W p l e ({ frames := 1, cells := 0, slots := 0, locals := 22 } : Room) s m ([.ref (ad 100), .int x, .int y] : List Value).toArray below meth c H locs 0 0 (MQ below (va_Qi (fun r u => r = rAt gx gy gw gd nh x y ∧ u = v) (fun u t => WD G L ad u o w t t.heap) (Ab G.2.2.1)) ([.ref (ad 100), .int x, .int y] : List Value).toArray s ({ frames := 1, cells := 0, slots := 0, locals := 22 } : Room).cells ({ frames := 1, cells := 0, slots := 0, locals := 22 } : Room).slots (Ab G.2.2.1)) (F0 m 5 ls []) from LP_5 (nh + 1) 0 _ _   _ H locs ls (by omega) (by omega) (by rfl) (by rfl) (by rfl)  hW hS (lv_sub hl [0, 1, 2, 3, 4] rfl)
  intro n_5
  induction n_5 with
  | zero => intro i x3_5 x4_5  u_5 H locs ls h1 h2; exact absurd h1 (by omega)
  | succ n_5 ih_5 =>
    intro i x3_5 x4_5  u_5 H locs ls hn_5 hi_5 ex3_5 ex4_5 eu_5  hW hS hl
    subst ex3_5
    subst ex4_5
    subst eu_5
    refine lv_iload hx hb dX7_at_5 (lv_at hl 0 rfl) ?_
    refine lv_aload_n hx hb dX7_at_7 rfl (lv_at hl 2 rfl) ?_
    refine q_getr hx hb hts hown hW (r := 100) hJ.q.m0 rfl k_8 1 (by decide) rfl t_944 (a := ad 101) hO1 dX7_at_8 ?_
    refine q_getN hx hb hts hown hW (r := 101) hJ.q.mS hJ.q.kS k_7 6 (by decide) rfl t_880 (x := (nI nh)) hJ.eH dX7_at_11 ?_
    refine lv_icmp_ge (tgt := 103) hx hb dX7_at_14 (by decide) (fun c_14 => ?_) (fun c_14 => ?_)
    · skip
      have hq_5 := (ge_i (n := nh) (by omega) hi_5 c_14).symm
      subst hq_5
      refine lv_iload_n hx hb dX7_at_103 rfl (lv_at hl 1 rfl) ?_
      exact q_iret hx hb hr hlocks hW hS (Nat.le_refl _) (Nat.le_refl _) dX7_at_104 (⟨rfl, rfl⟩)
    · skip
      have hlt_5 := lt_i (n := nh) (by omega) hi_5 c_14
      refine lv_bipush (v := 7) hx hb dX7_at_17 (by decide) ?_
      refine lv_iload hx hb dX7_at_19 (lv_at hl 0 rfl) ?_
      refine lv_imul hx hb dX7_at_21 ?_
      refine lv_istore (lv' := [(5, .int (7 * (nI i))), (4, .int (nI i)), (3, .int (itr (rAtF gx gy gw gd x y) i (-1))), (0, .ref (ad 100)), (1, .int x), (2, .int y)]) hx hb dX7_at_22 hl (by decide) rfl (fun ls hl => ?_)
      refine lv_iload_n hx hb dX7_at_24 rfl (lv_at hl 4 rfl) ?_
      refine lv_aload_n hx hb dX7_at_25 rfl (lv_at hl 3 rfl) ?_
      refine q_getr hx hb hts hown hW (r := 100) hJ.q.m0 rfl k_8 1 (by decide) rfl t_944 (a := ad 101) hO1 dX7_at_26 ?_
      refine q_getrN hx hb hts hown hW (r := 101) hJ.q.mS hJ.q.kS k_7 7 (by decide) rfl t_882 (a := ad (110 + 7)) (hJ.q.oB 7 rfl) dX7_at_29 ?_
      refine lv_iload hx hb dX7_at_32 (lv_at hl 0 rfl) ?_
      refine lv_iconst (v := 1) hx hb dX7_at_34 (by decide) ?_
      refine lv_iadd hx hb dX7_at_35 ?_
      refine q_iald hx hb hW (r := (110 + 7)) (hJ.q.mB 7 rfl) (hJ.q.k9 7 rfl (by decide)) (7 * i + 1) (ix_add (ix_mul rfl rfl) rfl) (by rw [hJ.q.ln 7 rfl]; show _ < 84; omega) (by rw [hJ.q.ln 7 rfl]; decide) (x := (nI (gx i))) (hJ.eX hlt_5) dX7_at_36 ?_
      refine lv_isub hx hb dX7_at_37 ?_
      refine lv_iconst (v := 0) hx hb dX7_at_38 (by decide) ?_
      refine lv_aload_n hx hb dX7_at_39 rfl (lv_at hl 3 rfl) ?_
      refine q_getr hx hb hts hown hW (r := 100) hJ.q.m0 rfl k_8 1 (by decide) rfl t_944 (a := ad 101) hO1 dX7_at_40 ?_
      refine q_getrN hx hb hts hown hW (r := 101) hJ.q.mS hJ.q.kS k_7 7 (by decide) rfl t_882 (a := ad (110 + 7)) (hJ.q.oB 7 rfl) dX7_at_43 ?_
      refine lv_iload hx hb dX7_at_46 (lv_at hl 0 rfl) ?_
      refine lv_iconst (v := 3) hx hb dX7_at_48 (by decide) ?_
      refine lv_iadd hx hb dX7_at_49 ?_
      refine q_iald hx hb hW (r := (110 + 7)) (hJ.q.mB 7 rfl) (hJ.q.k9 7 rfl (by decide)) (7 * i + 3) (ix_add (ix_mul rfl rfl) rfl) (by rw [hJ.q.ln 7 rfl]; show _ < 84; omega) (by rw [hJ.q.ln 7 rfl]; decide) (x := (nI (gw i))) (hJ.eW hlt_5) dX7_at_50 ?_
      refine lv_iconst (v := 1) hx hb dX7_at_51 (by decide) ?_
      refine lv_isub hx hb dX7_at_52 ?_
      refine q_cSiE (As := [.int (x - (nI (gx i))), .int 0, .int ((nI (gw i)) - 1)]) (rest := []) hx hb hml hts hown hE h0 hW hS (c_X7_isIn l (x - (nI (gx i))) 0 ((nI (gw i)) - 1)) mw_X7_isIn t_962 ⟨Nat.le_of_ble_eq_true rfl, Nat.le_of_ble_eq_true rfl⟩ rfl hl.1 (Nat.le_of_ble_eq_true rfl) dX7_at_53 ⟨Nat.zero_le _, Nat.zero_le _⟩ ⟨rfl, rfl⟩ (fun H locs hW hS => ?_)
      refine lv_if_eq (tgt := 97) hx hb dX7_at_56 (by decide) (fun c_56 => ?_) (fun c_56 => ?_)
      · skip
        refine lv_iinc (v := (nI (i + 1))) (lv' := [(4, .int (nI (i + 1))), (5, .int (7 * (nI i))), (3, .int (itr (rAtF gx gy gw gd x y) i (-1))), (0, .ref (ad 100)), (1, .int x), (2, .int y)]) hx hb dX7_at_97 hl (k := 1) rfl (inc_nI _) (by decide) rfl (fun ls hl => ?_)
        refine lv_goto (tgt := 5) hx hb dX7_at_100 (by decide) ?_
        exact ih_5 (i + 1) _ _   _ H locs ls (by omega) (by omega) (by rw [itr_s]; first | exact rAtF_2 c_56 c_91 | exact rAtF_1 c_56 c_91 | exact rAtF_0 c_56) (by rfl) (by rfl)  hW hS (lv_sub hl [0, 2, 3, 4, 5] rfl)
      · skip
        refine lv_iload_n hx hb dX7_at_59 rfl (lv_at hl 5 rfl) ?_
        refine lv_aload_n hx hb dX7_at_60 rfl (lv_at hl 3 rfl) ?_
        refine q_getr hx hb hts hown hW (r := 100) hJ.q.m0 rfl k_8 1 (by decide) rfl t_944 (a := ad 101) hO1 dX7_at_61 ?_
        refine q_getrN hx hb hts hown hW (r := 101) hJ.q.mS hJ.q.kS k_7 7 (by decide) rfl t_882 (a := ad (110 + 7)) (hJ.q.oB 7 rfl) dX7_at_64 ?_
        refine lv_iload hx hb dX7_at_67 (lv_at hl 0 rfl) ?_
        refine lv_iconst (v := 2) hx hb dX7_at_69 (by decide) ?_
        refine lv_iadd hx hb dX7_at_70 ?_
        refine q_iald hx hb hW (r := (110 + 7)) (hJ.q.mB 7 rfl) (hJ.q.k9 7 rfl (by decide)) (7 * i + 2) (ix_add (ix_mul rfl rfl) rfl) (by rw [hJ.q.ln 7 rfl]; show _ < 84; omega) (by rw [hJ.q.ln 7 rfl]; decide) (x := (nI (gy i))) (hJ.eY hlt_5) dX7_at_71 ?_
        refine lv_isub hx hb dX7_at_72 ?_
        refine lv_iconst (v := 0) hx hb dX7_at_73 (by decide) ?_
        refine lv_aload_n hx hb dX7_at_74 rfl (lv_at hl 3 rfl) ?_
        refine q_getr hx hb hts hown hW (r := 100) hJ.q.m0 rfl k_8 1 (by decide) rfl t_944 (a := ad 101) hO1 dX7_at_75 ?_
        refine q_getrN hx hb hts hown hW (r := 101) hJ.q.mS hJ.q.kS k_7 7 (by decide) rfl t_882 (a := ad (110 + 7)) (hJ.q.oB 7 rfl) dX7_at_78 ?_
        refine lv_iload hx hb dX7_at_81 (lv_at hl 0 rfl) ?_
        refine lv_iconst (v := 4) hx hb dX7_at_83 (by decide) ?_
        refine lv_iadd hx hb dX7_at_84 ?_
        refine q_iald hx hb hW (r := (110 + 7)) (hJ.q.mB 7 rfl) (hJ.q.k9 7 rfl (by decide)) (7 * i + 4) (ix_add (ix_mul rfl rfl) rfl) (by rw [hJ.q.ln 7 rfl]; show _ < 84; omega) (by rw [hJ.q.ln 7 rfl]; decide) (x := (nI (gd i))) (hJ.eD hlt_5) dX7_at_85 ?_
        refine lv_iconst (v := 1) hx hb dX7_at_86 (by decide) ?_
        refine lv_isub hx hb dX7_at_87 ?_
        refine q_cSiE (As := [.int (y - (nI (gy i))), .int 0, .int ((nI (gd i)) - 1)]) (rest := []) hx hb hml hts hown hE h0 hW hS (c_X7_isIn l (y - (nI (gy i))) 0 ((nI (gd i)) - 1)) mw_X7_isIn t_962 ⟨Nat.le_of_ble_eq_true rfl, Nat.le_of_ble_eq_true rfl⟩ rfl hl.1 (Nat.le_of_ble_eq_true rfl) dX7_at_88 ⟨Nat.zero_le _, Nat.zero_le _⟩ ⟨rfl, rfl⟩ (fun H locs hW hS => ?_)
        refine lv_if_eq (tgt := 97) hx hb dX7_at_91 (by decide) (fun c_91 => ?_) (fun c_91 => ?_)
        · skip
          refine lv_iinc (v := (nI (i + 1))) (lv' := [(4, .int (nI (i + 1))), (5, .int (7 * (nI i))), (3, .int (itr (rAtF gx gy gw gd x y) i (-1))), (0, .ref (ad 100)), (1, .int x), (2, .int y)]) hx hb dX7_at_97 hl (k := 1) rfl (inc_nI _) (by decide) rfl (fun ls hl => ?_)
          refine lv_goto (tgt := 5) hx hb dX7_at_100 (by decide) ?_
          exact ih_5 (i + 1) _ _   _ H locs ls (by omega) (by omega) (by rw [itr_s]; first | exact rAtF_2 c_56 c_91 | exact rAtF_1 c_56 c_91 | exact rAtF_0 c_56) (by rfl) (by rfl)  hW hS (lv_sub hl [0, 2, 3, 4, 5] rfl)
        · skip
          refine lv_iload hx hb dX7_at_94 (lv_at hl 1 rfl) ?_
          refine lv_istore_n (lv' := [(3, .int (nI i)), (5, .int (7 * (nI i))), (4, .int (nI i)), (0, .ref (ad 100)), (1, .int x), (2, .int y)]) hx hb dX7_at_96 rfl hl (by decide) rfl (fun ls hl => ?_)
          refine lv_iinc (v := (nI (i + 1))) (lv' := [(4, .int (nI (i + 1))), (3, .int (nI i)), (5, .int (7 * (nI i))), (0, .ref (ad 100)), (1, .int x), (2, .int y)]) hx hb dX7_at_97 hl (k := 2) rfl (inc_nI _) (by decide) rfl (fun ls hl => ?_)
          refine lv_goto (tgt := 5) hx hb dX7_at_100 (by decide) ?_
          exact ih_5 (i + 1) _ _   _ H locs ls (by omega) (by omega) (by rw [itr_s]; first | exact rAtF_2 c_56 c_91 | exact rAtF_1 c_56 c_91 | exact rAtF_0 c_56) (by rfl) (by rfl)  hW hS (lv_sub hl [0, 1, 3, 4, 5] rfl)

set_option maxHeartbeats 4000000 in
set_option maxRecDepth 100000 in
theorem c_X7_pane (l : Launch) {G : GG} {L : List Nat} {ad : Nat → Nat} {v : Nat → Nat → Int32} {o : Nat → Nat → Option Nat} {w : Nat → Int64} {ng nh nl ns : Nat} {ow gx gy gw gd : Nat → Nat} (hJ : PJ L ad v o 101 110 ng nh nl ns ow gx gy gw gd) (hO1 : o 100 1 = some (ad 101)) {x y : Nat} (hx9 : x < 20) (hy9 : y < 20) {h : Nat} (hh : h < nh) (hat : rAt gx gy gw gd nh (nI x) (nI y) = nI h) (g1 : gx h ≤ x) (g2 : x < gx h + gw h) (g3 : gy h ≤ y) (g4 : y < gy h + gd h) : CtI l G L ad v o w yX7_pane cX7_pane 4 .int ({ frames := 2, cells := 0, slots := 0, locals := 47 }) [.ref (ad 100), .int (nI x), .int (nI y)] (fun r u => r = v 119 (36 * h + (x - gx h) + (y - gy h) * gw h) ∧ u = tz v) := by
  have hsb := hJ.q.sb; have hbd := hJ.bd; have hgeo := (hJ.hs h hh).1; have hz36 := hJ.z36 hh; have kx : fIn (nI x) 0 19 = 1 := fIn_nat (n := 20) hx9 (by decide); have ky : fIn (nI y) 0 19 = 1 := fIn_nat (n := 20) hy9 (by decide)
  refine q_ofI (by decide) (Nat.le_of_ble_eq_true rfl) ?_
  intro p e s m below meth c hx hb hr hml hts hown hlocks hE h0 hW hS ls hl
  generalize hH : s.heap = H at hW
  have hS : va_S (Ab G.2.2.1) s.heap H [] := hH ▸ hS
  obtain ⟨locs, hlc⟩ : ∃ z : List Loc, z = [] := ⟨_, rfl⟩
  rw [← hlc] at hS ⊢
  have hl : lv_has ls 4 [(0, .ref (ad 100)), (1, .int (nI x)), (2, .int (nI y))] := hl
  refine lv_aload_n hx hb dX7_pane_0 rfl (lv_at hl 0 rfl) ?_
  refine lv_iconst (v := 0) hx hb dX7_pane_1 (by decide) ?_
  refine q_put hx hb hts hown hW hS (r := 100) hJ.q.m0 rfl k_8 0 (by decide) rfl t_943 rfl (t := .int) (by decide +kernel) rfl rfl dX7_pane_2 (fun H locs hW hS => ?_)
  have hJ : PJ L ad (up2 v 100 0 0) o 101 110 ng nh nl ns ow gx gy gw gd := hJ.kp kr_t
  generalize hv1 : (up2 v 100 0 0) = v1 at hW hJ
  refine lv_iload_n hx hb dX7_pane_5 rfl (lv_at hl 1 rfl) ?_
  refine lv_iconst (v := 0) hx hb dX7_pane_6 (by decide) ?_
  refine lv_bipush (v := 19) hx hb dX7_pane_7 (by decide) ?_
  refine q_cSiE (As := [.int (nI x), .int 0, .int 19]) (rest := []) hx hb hml hts hown hE h0 hW hS (c_X7_isIn l (nI x) 0 19) mw_X7_isIn t_962 ⟨Nat.le_of_ble_eq_true rfl, Nat.le_of_ble_eq_true rfl⟩ rfl hl.1 (Nat.le_of_ble_eq_true rfl) dX7_pane_9 ⟨Nat.zero_le _, Nat.zero_le _⟩ ⟨rfl, rfl⟩ (fun H locs hW hS => ?_)
  refine lv_if_eq (tgt := 25) hx hb dX7_pane_12 (by decide) (fun c_12 => ?_) (fun c_12 => ?_)
  · skip
    exact absurd (kx.symm.trans c_12) (by decide)
  · skip
    refine lv_iload_n hx hb dX7_pane_15 rfl (lv_at hl 2 rfl) ?_
    refine lv_iconst (v := 0) hx hb dX7_pane_16 (by decide) ?_
    refine lv_bipush (v := 19) hx hb dX7_pane_17 (by decide) ?_
    refine q_cSiE (As := [.int (nI y), .int 0, .int 19]) (rest := []) hx hb hml hts hown hE h0 hW hS (c_X7_isIn l (nI y) 0 19) mw_X7_isIn t_962 ⟨Nat.le_of_ble_eq_true rfl, Nat.le_of_ble_eq_true rfl⟩ rfl hl.1 (Nat.le_of_ble_eq_true rfl) dX7_pane_19 ⟨Nat.zero_le _, Nat.zero_le _⟩ ⟨rfl, rfl⟩ (fun H locs hW hS => ?_)
    refine lv_if_ne (tgt := 31) hx hb dX7_pane_22 (by decide) (fun c_22 => ?_) (fun c_22 => ?_)
    · skip
      refine lv_aload_n hx hb dX7_pane_31 rfl (lv_at hl 0 rfl) ?_
      refine lv_iload_n hx hb dX7_pane_32 rfl (lv_at hl 1 rfl) ?_
      refine lv_iload_n hx hb dX7_pane_33 rfl (lv_at hl 2 rfl) ?_
      refine q_cViE (As := [.int (nI x), .int (nI y)]) (rest := []) (r := 100) hx hb hml hts hown hE h0 hW hS (c_X7_at l hJ hO1 (nI x) (nI y)) mw_X7_at hJ.q.m0 rfl k_8 t_977 ⟨Nat.le_of_ble_eq_true rfl, Nat.le_of_ble_eq_true rfl⟩ rfl hl.1 (Nat.le_of_ble_eq_true rfl) dX7_pane_34 ⟨Nat.zero_le _, Nat.zero_le _⟩ ⟨rfl, rfl⟩ (fun H locs hW hS => ?_)
      refine lv_topi (fun xt et => ?_)
      obtain rfl : xt = nI h := et.trans (by exact hat)
      clear et
      refine lv_istore_n (lv' := [(3, .int (nI h)), (0, .ref (ad 100)), (1, .int (nI x)), (2, .int (nI y))]) hx hb dX7_pane_37 rfl hl (by decide) rfl (fun ls hl => ?_)
      refine lv_iload_n hx hb dX7_pane_38 rfl (lv_at hl 0 rfl) ?_
      refine lv_iconst (v := (-1)) hx hb dX7_pane_39 (by decide) ?_
      refine lv_icmp_ne (tgt := 47) hx hb dX7_pane_40 (by decide) (fun c_40 => ?_) (fun c_40 => ?_)
      · skip
        refine lv_aload_n hx hb dX7_pane_47 rfl (lv_at hl 1 rfl) ?_
        refine q_getr hx hb hts hown hW (r := 100) hJ.q.m0 rfl k_8 1 (by decide) rfl t_944 (a := ad 101) hO1 dX7_pane_48 ?_
        refine q_getrN hx hb hts hown hW (r := 101) hJ.q.mS hJ.q.kS k_7 9 (by decide) rfl t_886 (a := ad (110 + 9)) (hJ.q.oB 9 rfl) dX7_pane_51 ?_
        refine lv_bipush (v := 36) hx hb dX7_pane_54 (by decide) ?_
        refine lv_iload_n hx hb dX7_pane_56 rfl (lv_at hl 0 rfl) ?_
        refine lv_imul hx hb dX7_pane_57 ?_
        refine lv_iload_n hx hb dX7_pane_58 rfl (lv_at hl 2 rfl) ?_
        refine lv_iadd hx hb dX7_pane_59 ?_
        refine lv_aload_n hx hb dX7_pane_60 rfl (lv_at hl 1 rfl) ?_
        refine q_getr hx hb hts hown hW (r := 100) hJ.q.m0 rfl k_8 1 (by decide) rfl t_944 (a := ad 101) hO1 dX7_pane_61 ?_
        refine q_getrN hx hb hts hown hW (r := 101) hJ.q.mS hJ.q.kS k_7 7 (by decide) rfl t_882 (a := ad (110 + 7)) (hJ.q.oB 7 rfl) dX7_pane_64 ?_
        refine lv_bipush (v := 7) hx hb dX7_pane_67 (by decide) ?_
        refine lv_iload_n hx hb dX7_pane_69 rfl (lv_at hl 0 rfl) ?_
        refine lv_imul hx hb dX7_pane_70 ?_
        refine lv_iconst (v := 1) hx hb dX7_pane_71 (by decide) ?_
        refine lv_iadd hx hb dX7_pane_72 ?_
        refine q_iald hx hb hW (r := (110 + 7)) (hJ.q.mB 7 rfl) (hJ.q.k9 7 rfl (by decide)) (7 * h + 1) (ix_add (ix_mul rfl rfl) rfl) (by rw [hJ.q.ln 7 rfl]; show _ < 84; omega) (by rw [hJ.q.ln 7 rfl]; decide) (x := (nI (gx h))) (hJ.eX hh) dX7_pane_73 ?_
        refine lv_isub hx hb dX7_pane_74 ?_
        refine lv_iload_n hx hb dX7_pane_75 rfl (lv_at hl 3 rfl) ?_
        refine lv_aload_n hx hb dX7_pane_76 rfl (lv_at hl 1 rfl) ?_
        refine q_getr hx hb hts hown hW (r := 100) hJ.q.m0 rfl k_8 1 (by decide) rfl t_944 (a := ad 101) hO1 dX7_pane_77 ?_
        refine q_getrN hx hb hts hown hW (r := 101) hJ.q.mS hJ.q.kS k_7 7 (by decide) rfl t_882 (a := ad (110 + 7)) (hJ.q.oB 7 rfl) dX7_pane_80 ?_
        refine lv_bipush (v := 7) hx hb dX7_pane_83 (by decide) ?_
        refine lv_iload_n hx hb dX7_pane_85 rfl (lv_at hl 0 rfl) ?_
        refine lv_imul hx hb dX7_pane_86 ?_
        refine lv_iconst (v := 2) hx hb dX7_pane_87 (by decide) ?_
        refine lv_iadd hx hb dX7_pane_88 ?_
        refine q_iald hx hb hW (r := (110 + 7)) (hJ.q.mB 7 rfl) (hJ.q.k9 7 rfl (by decide)) (7 * h + 2) (ix_add (ix_mul rfl rfl) rfl) (by rw [hJ.q.ln 7 rfl]; show _ < 84; omega) (by rw [hJ.q.ln 7 rfl]; decide) (x := (nI (gy h))) (hJ.eY hh) dX7_pane_89 ?_
        refine lv_isub hx hb dX7_pane_90 ?_
        refine lv_aload_n hx hb dX7_pane_91 rfl (lv_at hl 1 rfl) ?_
        refine q_getr hx hb hts hown hW (r := 100) hJ.q.m0 rfl k_8 1 (by decide) rfl t_944 (a := ad 101) hO1 dX7_pane_92 ?_
        refine q_getrN hx hb hts hown hW (r := 101) hJ.q.mS hJ.q.kS k_7 7 (by decide) rfl t_882 (a := ad (110 + 7)) (hJ.q.oB 7 rfl) dX7_pane_95 ?_
        refine lv_bipush (v := 7) hx hb dX7_pane_98 (by decide) ?_
        refine lv_iload_n hx hb dX7_pane_100 rfl (lv_at hl 0 rfl) ?_
        refine lv_imul hx hb dX7_pane_101 ?_
        refine lv_iconst (v := 3) hx hb dX7_pane_102 (by decide) ?_
        refine lv_iadd hx hb dX7_pane_103 ?_
        refine q_iald hx hb hW (r := (110 + 7)) (hJ.q.mB 7 rfl) (hJ.q.k9 7 rfl (by decide)) (7 * h + 3) (ix_add (ix_mul rfl rfl) rfl) (by rw [hJ.q.ln 7 rfl]; show _ < 84; omega) (by rw [hJ.q.ln 7 rfl]; decide) (x := (nI (gw h))) (hJ.eW hh) dX7_pane_104 ?_
        refine lv_imul hx hb dX7_pane_105 ?_
        refine lv_iadd hx hb dX7_pane_106 ?_
        refine q_iald hx hb hW (r := (110 + 9)) (hJ.q.mB 9 rfl) (hJ.q.k9 9 rfl (by decide)) (36 * h + (x - gx h) + (y - gy h) * gw h) (pane_ix g1 g3) (by rw [hJ.q.ln 9 rfl]; show _ < 432; have := pane_lt g1 g2 g3 g4 hgeo.2.2.2.2.1 hgeo.2.2.2.2.2.2; omega) (by rw [hJ.q.ln 9 rfl]; decide) (x := (v1 (110 + 9) (36 * h + (x - gx h) + (y - gy h) * gw h))) rfl dX7_pane_107 ?_
        subst hv1
        exact q_iret hx hb hr hlocks hW hS (Nat.le_refl _) (Nat.le_refl _) dX7_pane_108 (⟨rfl, rfl⟩)
      · skip
        exact absurd c_40 (nI_m1 (by omega))
    · skip
      exact absurd (ky.symm.trans c_22) (by decide)

set_option maxHeartbeats 4000000 in
set_option maxRecDepth 100000 in
theorem c_X7_pane_n (l : Launch) {G : GG} {L : List Nat} {ad : Nat → Nat} {v : Nat → Nat → Int32} {o : Nat → Nat → Option Nat} {w : Nat → Int64} {ng nh nl ns : Nat} {ow gx gy gw gd : Nat → Nat} (hJ : PJ L ad v o 101 110 ng nh nl ns ow gx gy gw gd) (hO1 : o 100 1 = some (ad 101)) {x y : Nat} (hx9 : x < 20) (hy9 : y < 20) (hat : rAt gx gy gw gd nh (nI x) (nI y) = -1) : CtI l G L ad v o w yX7_pane cX7_pane 4 .int ({ frames := 2, cells := 0, slots := 0, locals := 47 }) [.ref (ad 100), .int (nI x), .int (nI y)] (fun r u => r = -1 ∧ u = tz v) := by
  have hsb := hJ.q.sb; have hbd := hJ.bd; have kx : fIn (nI x) 0 19 = 1 := fIn_nat (n := 20) hx9 (by decide); have ky : fIn (nI y) 0 19 = 1 := fIn_nat (n := 20) hy9 (by decide)
  refine q_ofI (by decide) (Nat.le_of_ble_eq_true rfl) ?_
  intro p e s m below meth c hx hb hr hml hts hown hlocks hE h0 hW hS ls hl
  generalize hH : s.heap = H at hW
  have hS : va_S (Ab G.2.2.1) s.heap H [] := hH ▸ hS
  obtain ⟨locs, hlc⟩ : ∃ z : List Loc, z = [] := ⟨_, rfl⟩
  rw [← hlc] at hS ⊢
  have hl : lv_has ls 4 [(0, .ref (ad 100)), (1, .int (nI x)), (2, .int (nI y))] := hl
  refine lv_aload_n hx hb dX7_pane_0 rfl (lv_at hl 0 rfl) ?_
  refine lv_iconst (v := 0) hx hb dX7_pane_1 (by decide) ?_
  refine q_put hx hb hts hown hW hS (r := 100) hJ.q.m0 rfl k_8 0 (by decide) rfl t_943 rfl (t := .int) (by decide +kernel) rfl rfl dX7_pane_2 (fun H locs hW hS => ?_)
  have hJ : PJ L ad (up2 v 100 0 0) o 101 110 ng nh nl ns ow gx gy gw gd := hJ.kp kr_t
  generalize hv1 : (up2 v 100 0 0) = v1 at hW hJ
  refine lv_iload_n hx hb dX7_pane_5 rfl (lv_at hl 1 rfl) ?_
  refine lv_iconst (v := 0) hx hb dX7_pane_6 (by decide) ?_
  refine lv_bipush (v := 19) hx hb dX7_pane_7 (by decide) ?_
  refine q_cSiE (As := [.int (nI x), .int 0, .int 19]) (rest := []) hx hb hml hts hown hE h0 hW hS (c_X7_isIn l (nI x) 0 19) mw_X7_isIn t_962 ⟨Nat.le_of_ble_eq_true rfl, Nat.le_of_ble_eq_true rfl⟩ rfl hl.1 (Nat.le_of_ble_eq_true rfl) dX7_pane_9 ⟨Nat.zero_le _, Nat.zero_le _⟩ ⟨rfl, rfl⟩ (fun H locs hW hS => ?_)
  refine lv_if_eq (tgt := 25) hx hb dX7_pane_12 (by decide) (fun c_12 => ?_) (fun c_12 => ?_)
  · skip
    exact absurd (kx.symm.trans c_12) (by decide)
  · skip
    refine lv_iload_n hx hb dX7_pane_15 rfl (lv_at hl 2 rfl) ?_
    refine lv_iconst (v := 0) hx hb dX7_pane_16 (by decide) ?_
    refine lv_bipush (v := 19) hx hb dX7_pane_17 (by decide) ?_
    refine q_cSiE (As := [.int (nI y), .int 0, .int 19]) (rest := []) hx hb hml hts hown hE h0 hW hS (c_X7_isIn l (nI y) 0 19) mw_X7_isIn t_962 ⟨Nat.le_of_ble_eq_true rfl, Nat.le_of_ble_eq_true rfl⟩ rfl hl.1 (Nat.le_of_ble_eq_true rfl) dX7_pane_19 ⟨Nat.zero_le _, Nat.zero_le _⟩ ⟨rfl, rfl⟩ (fun H locs hW hS => ?_)
    refine lv_if_ne (tgt := 31) hx hb dX7_pane_22 (by decide) (fun c_22 => ?_) (fun c_22 => ?_)
    · skip
      refine lv_aload_n hx hb dX7_pane_31 rfl (lv_at hl 0 rfl) ?_
      refine lv_iload_n hx hb dX7_pane_32 rfl (lv_at hl 1 rfl) ?_
      refine lv_iload_n hx hb dX7_pane_33 rfl (lv_at hl 2 rfl) ?_
      refine q_cViE (As := [.int (nI x), .int (nI y)]) (rest := []) (r := 100) hx hb hml hts hown hE h0 hW hS (c_X7_at l hJ hO1 (nI x) (nI y)) mw_X7_at hJ.q.m0 rfl k_8 t_977 ⟨Nat.le_of_ble_eq_true rfl, Nat.le_of_ble_eq_true rfl⟩ rfl hl.1 (Nat.le_of_ble_eq_true rfl) dX7_pane_34 ⟨Nat.zero_le _, Nat.zero_le _⟩ ⟨rfl, rfl⟩ (fun H locs hW hS => ?_)
      refine lv_topi (fun xt et => ?_)
      obtain rfl : xt = (-1) := et.trans (by exact hat)
      clear et
      refine lv_istore_n (lv' := [(3, .int (-1)), (0, .ref (ad 100)), (1, .int (nI x)), (2, .int (nI y))]) hx hb dX7_pane_37 rfl hl (by decide) rfl (fun ls hl => ?_)
      refine lv_iload_n hx hb dX7_pane_38 rfl (lv_at hl 0 rfl) ?_
      refine lv_iconst (v := (-1)) hx hb dX7_pane_39 (by decide) ?_
      refine lv_icmp_ne (tgt := 47) hx hb dX7_pane_40 (by decide) (fun c_40 => ?_) (fun c_40 => ?_)
      · skip
        exact absurd rfl c_40
      · skip
        refine lv_iconst (v := (-1)) hx hb dX7_pane_43 (by decide) ?_
        refine lv_goto (tgt := 108) hx hb dX7_pane_44 (by decide) ?_
        subst hv1
        exact q_iret hx hb hr hlocks hW hS (Nat.le_refl _) (Nat.le_refl _) dX7_pane_108 (⟨rfl, rfl⟩)
    · skip
      exact absurd (ky.symm.trans c_22) (by decide)

set_option maxHeartbeats 4000000 in
set_option maxRecDepth 100000 in
theorem c_X7_pane_1a (l : Launch) {G : GG} {L : List Nat} {ad : Nat → Nat} {v : Nat → Nat → Int32} {o : Nat → Nat → Option Nat} {w : Nat → Int64} {ng nh nl ns : Nat} {ow gx gy gw gd : Nat → Nat} (hJ : PJ L ad v o 101 110 ng nh nl ns ow gx gy gw gd) (hO1 : o 100 1 = some (ad 101)) {a b : Int32} (k1 : fIn a 0 19 = 0) : CtI l G L ad v o w yX7_pane cX7_pane 4 .int ({ frames := 1, cells := 0, slots := 0, locals := 22 }) [.ref (ad 100), .int a, .int b] (fun r u => r = 0 ∧ u = up2 (tz v) 100 0 1) := by
  have hsb := hJ.q.sb; have hbd := hJ.bd
  refine q_ofI (by decide) (Nat.le_of_ble_eq_true rfl) ?_
  intro p e s m below meth c hx hb hr hml hts hown hlocks hE h0 hW hS ls hl
  generalize hH : s.heap = H at hW
  have hS : va_S (Ab G.2.2.1) s.heap H [] := hH ▸ hS
  obtain ⟨locs, hlc⟩ : ∃ z : List Loc, z = [] := ⟨_, rfl⟩
  rw [← hlc] at hS ⊢
  have hl : lv_has ls 4 [(0, .ref (ad 100)), (1, .int a), (2, .int b)] := hl
  refine lv_aload_n hx hb dX7_pane_0 rfl (lv_at hl 0 rfl) ?_
  refine lv_iconst (v := 0) hx hb dX7_pane_1 (by decide) ?_
  refine q_put hx hb hts hown hW hS (r := 100) hJ.q.m0 rfl k_8 0 (by decide) rfl t_943 rfl (t := .int) (by decide +kernel) rfl rfl dX7_pane_2 (fun H locs hW hS => ?_)
  have hJ : PJ L ad (up2 v 100 0 0) o 101 110 ng nh nl ns ow gx gy gw gd := hJ.kp kr_t
  generalize hv1 : (up2 v 100 0 0) = v1 at hW hJ
  refine lv_iload_n hx hb dX7_pane_5 rfl (lv_at hl 1 rfl) ?_
  refine lv_iconst (v := 0) hx hb dX7_pane_6 (by decide) ?_
  refine lv_bipush (v := 19) hx hb dX7_pane_7 (by decide) ?_
  refine q_cSiE (As := [.int a, .int 0, .int 19]) (rest := []) hx hb hml hts hown hE h0 hW hS (c_X7_isIn l a 0 19) mw_X7_isIn t_962 ⟨Nat.le_of_ble_eq_true rfl, Nat.le_of_ble_eq_true rfl⟩ rfl hl.1 (Nat.le_of_ble_eq_true rfl) dX7_pane_9 ⟨Nat.zero_le _, Nat.zero_le _⟩ ⟨rfl, rfl⟩ (fun H locs hW hS => ?_)
  refine lv_if_eq (tgt := 25) hx hb dX7_pane_12 (by decide) (fun c_12 => ?_) (fun c_12 => ?_)
  · skip
    refine lv_aload_n hx hb dX7_pane_25 rfl (lv_at hl 0 rfl) ?_
    refine lv_iconst (v := 1) hx hb dX7_pane_26 (by decide) ?_
    refine q_cViE (As := [.int 1]) (rest := []) (r := 100) hx hb hml hts hown hE h0 hW hS (c_X7_no l hJ.q.m0 1) mw_X7_no hJ.q.m0 rfl k_8 t_965 ⟨Nat.le_of_ble_eq_true rfl, Nat.le_of_ble_eq_true rfl⟩ rfl hl.1 (Nat.le_of_ble_eq_true rfl) dX7_pane_27 ⟨Nat.zero_le _, Nat.zero_le _⟩ ⟨rfl, rfl⟩ (fun H locs hW hS => ?_)
    have hJ : PJ L ad (up2 v1 100 0 1) o 101 110 ng nh nl ns ow gx gy gw gd := hJ.kp kr_t
    generalize hv2 : (up2 v1 100 0 1) = v2 at hW hJ
    subst hv2
    subst hv1
    exact q_iret hx hb hr hlocks hW hS (Nat.le_refl _) (Nat.le_refl _) dX7_pane_30 (⟨rfl, rfl⟩)
  · skip
    exact absurd k1 c_12

set_option maxHeartbeats 4000000 in
set_option maxRecDepth 100000 in
theorem c_X7_pane_1b (l : Launch) {G : GG} {L : List Nat} {ad : Nat → Nat} {v : Nat → Nat → Int32} {o : Nat → Nat → Option Nat} {w : Nat → Int64} {ng nh nl ns : Nat} {ow gx gy gw gd : Nat → Nat} (hJ : PJ L ad v o 101 110 ng nh nl ns ow gx gy gw gd) (hO1 : o 100 1 = some (ad 101)) {a b : Int32} (k1 : fIn a 0 19 = 1) (k2 : fIn b 0 19 = 0) : CtI l G L ad v o w yX7_pane cX7_pane 4 .int ({ frames := 1, cells := 0, slots := 0, locals := 22 }) [.ref (ad 100), .int a, .int b] (fun r u => r = 0 ∧ u = up2 (tz v) 100 0 1) := by
  have hsb := hJ.q.sb; have hbd := hJ.bd
  refine q_ofI (by decide) (Nat.le_of_ble_eq_true rfl) ?_
  intro p e s m below meth c hx hb hr hml hts hown hlocks hE h0 hW hS ls hl
  generalize hH : s.heap = H at hW
  have hS : va_S (Ab G.2.2.1) s.heap H [] := hH ▸ hS
  obtain ⟨locs, hlc⟩ : ∃ z : List Loc, z = [] := ⟨_, rfl⟩
  rw [← hlc] at hS ⊢
  have hl : lv_has ls 4 [(0, .ref (ad 100)), (1, .int a), (2, .int b)] := hl
  refine lv_aload_n hx hb dX7_pane_0 rfl (lv_at hl 0 rfl) ?_
  refine lv_iconst (v := 0) hx hb dX7_pane_1 (by decide) ?_
  refine q_put hx hb hts hown hW hS (r := 100) hJ.q.m0 rfl k_8 0 (by decide) rfl t_943 rfl (t := .int) (by decide +kernel) rfl rfl dX7_pane_2 (fun H locs hW hS => ?_)
  have hJ : PJ L ad (up2 v 100 0 0) o 101 110 ng nh nl ns ow gx gy gw gd := hJ.kp kr_t
  generalize hv1 : (up2 v 100 0 0) = v1 at hW hJ
  refine lv_iload_n hx hb dX7_pane_5 rfl (lv_at hl 1 rfl) ?_
  refine lv_iconst (v := 0) hx hb dX7_pane_6 (by decide) ?_
  refine lv_bipush (v := 19) hx hb dX7_pane_7 (by decide) ?_
  refine q_cSiE (As := [.int a, .int 0, .int 19]) (rest := []) hx hb hml hts hown hE h0 hW hS (c_X7_isIn l a 0 19) mw_X7_isIn t_962 ⟨Nat.le_of_ble_eq_true rfl, Nat.le_of_ble_eq_true rfl⟩ rfl hl.1 (Nat.le_of_ble_eq_true rfl) dX7_pane_9 ⟨Nat.zero_le _, Nat.zero_le _⟩ ⟨rfl, rfl⟩ (fun H locs hW hS => ?_)
  refine lv_if_eq (tgt := 25) hx hb dX7_pane_12 (by decide) (fun c_12 => ?_) (fun c_12 => ?_)
  · skip
    exact absurd (k1.symm.trans c_12) (by decide)
  · skip
    refine lv_iload_n hx hb dX7_pane_15 rfl (lv_at hl 2 rfl) ?_
    refine lv_iconst (v := 0) hx hb dX7_pane_16 (by decide) ?_
    refine lv_bipush (v := 19) hx hb dX7_pane_17 (by decide) ?_
    refine q_cSiE (As := [.int b, .int 0, .int 19]) (rest := []) hx hb hml hts hown hE h0 hW hS (c_X7_isIn l b 0 19) mw_X7_isIn t_962 ⟨Nat.le_of_ble_eq_true rfl, Nat.le_of_ble_eq_true rfl⟩ rfl hl.1 (Nat.le_of_ble_eq_true rfl) dX7_pane_19 ⟨Nat.zero_le _, Nat.zero_le _⟩ ⟨rfl, rfl⟩ (fun H locs hW hS => ?_)
    refine lv_if_ne (tgt := 31) hx hb dX7_pane_22 (by decide) (fun c_22 => ?_) (fun c_22 => ?_)
    · skip
      exact absurd k2 c_22
    · skip
      refine lv_aload_n hx hb dX7_pane_25 rfl (lv_at hl 0 rfl) ?_
      refine lv_iconst (v := 1) hx hb dX7_pane_26 (by decide) ?_
      refine q_cViE (As := [.int 1]) (rest := []) (r := 100) hx hb hml hts hown hE h0 hW hS (c_X7_no l hJ.q.m0 1) mw_X7_no hJ.q.m0 rfl k_8 t_965 ⟨Nat.le_of_ble_eq_true rfl, Nat.le_of_ble_eq_true rfl⟩ rfl hl.1 (Nat.le_of_ble_eq_true rfl) dX7_pane_27 ⟨Nat.zero_le _, Nat.zero_le _⟩ ⟨rfl, rfl⟩ (fun H locs hW hS => ?_)
      have hJ : PJ L ad (up2 v1 100 0 1) o 101 110 ng nh nl ns ow gx gy gw gd := hJ.kp kr_t
      generalize hv2 : (up2 v1 100 0 1) = v2 at hW hJ
      subst hv2
      subst hv1
      exact q_iret hx hb hr hlocks hW hS (Nat.le_refl _) (Nat.le_refl _) dX7_pane_30 (⟨rfl, rfl⟩)

set_option maxHeartbeats 4000000 in
set_option maxRecDepth 100000 in
theorem c_X7_addLayer (l : Launch) {G : GG} {L : List Nat} {ad : Nat → Nat} {v : Nat → Nat → Int32} {o : Nat → Nat → Option Nat} {w : Nat → Int64} {ng nh nl ns : Nat} {ow gx gy gw gd : Nat → Nat} (hJ : PJ L ad v o 101 110 ng nh nl ns ow gx gy gw gd) (hO1 : o 100 1 = some (ad 101)) (hr9 : 182 ∉ L) {a b c0 : Int32} (k1 : fIn a 0 100000 = 1) (k2 : fIn b 1 100000 = 1) (k3 : fIn c0 1 100 = 1) (k4 : nl < 6) : CtI l G L ad v o w yX7_addLayer cX7_addLayer 5 .int ({ frames := 1, cells := 1, slots := 5, locals := 30 }) [.ref (ad 100), .int a, .int b, .int c0] (fun r u => r = nI nl ∧ u = rAddL v nl (own5 a b c0 (2 * b) 0)) := by
  have hsb := hJ.q.sb; have hbd := hJ.bd
  refine q_ofI (by decide) (Nat.le_of_ble_eq_true rfl) ?_
  intro p e s m below meth c hx hb hr hml hts hown hlocks hE h0 hW hS ls hl
  generalize hH : s.heap = H at hW
  have hS : va_S (Ab G.2.2.1) s.heap H [] := hH ▸ hS
  obtain ⟨locs, hlc⟩ : ∃ z : List Loc, z = [] := ⟨_, rfl⟩
  rw [← hlc] at hS ⊢
  have hl : lv_has ls 5 [(0, .ref (ad 100)), (1, .int a), (2, .int b), (3, .int c0)] := hl
  refine lv_aload_n hx hb dX7_addLayer_0 rfl (lv_at hl 0 rfl) ?_
  refine lv_iconst (v := 0) hx hb dX7_addLayer_1 (by decide) ?_
  refine q_put hx hb hts hown hW hS (r := 100) hJ.q.m0 rfl k_8 0 (by decide) rfl t_943 rfl (t := .int) (by decide +kernel) rfl rfl dX7_addLayer_2 (fun H locs hW hS => ?_)
  have hJ : PJ L ad (up2 v 100 0 0) o 101 110 ng nh nl ns ow gx gy gw gd := hJ.kp kr_t
  generalize hv1 : (up2 v 100 0 0) = v1 at hW hJ
  refine lv_iload_n hx hb dX7_addLayer_5 rfl (lv_at hl 1 rfl) ?_
  refine lv_iconst (v := 0) hx hb dX7_addLayer_6 (by decide) ?_
  refine lv_ldc (v := 100000) hx hb hown (hts _ t_994) dX7_addLayer_7 ?_
  refine q_cSiE (As := [.int a, .int 0, .int 100000]) (rest := []) hx hb hml hts hown hE h0 hW hS (c_X7_isIn l a 0 100000) mw_X7_isIn t_962 ⟨Nat.le_of_ble_eq_true rfl, Nat.le_of_ble_eq_true rfl⟩ rfl hl.1 (Nat.le_of_ble_eq_true rfl) dX7_addLayer_9 ⟨Nat.zero_le _, Nat.zero_le _⟩ ⟨rfl, rfl⟩ (fun H locs hW hS => ?_)
  refine lv_if_eq (tgt := 35) hx hb dX7_addLayer_12 (by decide) (fun c_12 => ?_) (fun c_12 => ?_)
  · skip
    exact absurd (k1.symm.trans c_12) (by decide)
  · skip
    refine lv_iload_n hx hb dX7_addLayer_15 rfl (lv_at hl 2 rfl) ?_
    refine lv_iconst (v := 1) hx hb dX7_addLayer_16 (by decide) ?_
    refine lv_ldc (v := 100000) hx hb hown (hts _ t_994) dX7_addLayer_17 ?_
    refine q_cSiE (As := [.int b, .int 1, .int 100000]) (rest := []) hx hb hml hts hown hE h0 hW hS (c_X7_isIn l b 1 100000) mw_X7_isIn t_962 ⟨Nat.le_of_ble_eq_true rfl, Nat.le_of_ble_eq_true rfl⟩ rfl hl.1 (Nat.le_of_ble_eq_true rfl) dX7_addLayer_19 ⟨Nat.zero_le _, Nat.zero_le _⟩ ⟨rfl, rfl⟩ (fun H locs hW hS => ?_)
    refine lv_if_eq (tgt := 35) hx hb dX7_addLayer_22 (by decide) (fun c_22 => ?_) (fun c_22 => ?_)
    · skip
      exact absurd (k2.symm.trans c_22) (by decide)
    · skip
      refine lv_iload_n hx hb dX7_addLayer_25 rfl (lv_at hl 3 rfl) ?_
      refine lv_iconst (v := 1) hx hb dX7_addLayer_26 (by decide) ?_
      refine lv_bipush (v := 100) hx hb dX7_addLayer_27 (by decide) ?_
      refine q_cSiE (As := [.int c0, .int 1, .int 100]) (rest := []) hx hb hml hts hown hE h0 hW hS (c_X7_isIn l c0 1 100) mw_X7_isIn t_962 ⟨Nat.le_of_ble_eq_true rfl, Nat.le_of_ble_eq_true rfl⟩ rfl hl.1 (Nat.le_of_ble_eq_true rfl) dX7_addLayer_29 ⟨Nat.zero_le _, Nat.zero_le _⟩ ⟨rfl, rfl⟩ (fun H locs hW hS => ?_)
      refine lv_if_ne (tgt := 41) hx hb dX7_addLayer_32 (by decide) (fun c_32 => ?_) (fun c_32 => ?_)
      · skip
        refine lv_aload_n hx hb dX7_addLayer_41 rfl (lv_at hl 0 rfl) ?_
        refine q_getr hx hb hts hown hW (r := 100) hJ.q.m0 rfl k_8 1 (by decide) rfl t_944 (a := ad 101) hO1 dX7_addLayer_42 ?_
        refine q_getN hx hb hts hown hW (r := 101) hJ.q.mS hJ.q.kS k_7 11 (by decide) rfl t_890 (x := (nI nl)) hJ.eL dX7_addLayer_45 ?_
        refine lv_bipush (v := 6) hx hb dX7_addLayer_48 (by decide) ?_
        refine lv_icmp_ne (tgt := 59) hx hb dX7_addLayer_50 (by decide) (fun c_50 => ?_) (fun c_50 => ?_)
        · skip
          refine lv_iconst (v := 5) hx hb dX7_addLayer_59 (by decide) ?_
          refine q_newa hx hb hts t_136 h0 hW hS 182 hr9 rfl rfl (by decide) (by decide) (by decide) dX7_addLayer_60 (fun ad1 H q9 had hW hS => ?_)
          have hJ := hJ.new (a := z32) (b := nOp) (r := 182) (by decide) had
          have hO1 : up1 o 182 nOp 100 1 = some (ad1 101) := by subst had; exact hO1
          have hF : offR 182 (up1 v1 182 z32) v1 := off_new
          generalize ho9 : up1 o 182 nOp = o1 at hW hJ hO1
          generalize hv2 : up1 v1 182 z32 = v2 at hW hJ hF
          have hl : lv_has ls 5 [(0, .ref (ad1 100)), (1, .int a), (2, .int b), (3, .int c0)] := by subst had; exact hl
          refine lv_dup hx hb dX7_addLayer_62 rfl ?_
          refine lv_iconst (v := 0) hx hb dX7_addLayer_63 (by decide) ?_
          refine lv_iload_n hx hb dX7_addLayer_64 rfl (lv_at hl 1 rfl) ?_
          refine q_iast hx hb hW hS (r := 182) (List.mem_append_right _ (List.mem_singleton.mpr rfl)) rfl (0) rfl (by decide) (by decide) dX7_addLayer_65 (fun H locs hW hS => ?_)
          have hJ : PJ (L ++ [182]) ad1 (up2 v2 182 (0) a) o1 101 110 ng nh nl ns ow gx gy gw gd := hJ.kp (kr_hi (by decide))
          have hF : offR 182 (up2 v2 182 (0) a) v1 := off_up hF
          generalize hv3 : (up2 v2 182 (0) a) = v3 at hW hJ hF
          refine lv_dup hx hb dX7_addLayer_66 rfl ?_
          refine lv_iconst (v := 1) hx hb dX7_addLayer_67 (by decide) ?_
          refine lv_iload_n hx hb dX7_addLayer_68 rfl (lv_at hl 2 rfl) ?_
          refine q_iast hx hb hW hS (r := 182) (List.mem_append_right _ (List.mem_singleton.mpr rfl)) rfl (1) rfl (by decide) (by decide) dX7_addLayer_69 (fun H locs hW hS => ?_)
          have hJ : PJ (L ++ [182]) ad1 (up2 v3 182 (1) b) o1 101 110 ng nh nl ns ow gx gy gw gd := hJ.kp (kr_hi (by decide))
          have hF : offR 182 (up2 v3 182 (1) b) v1 := off_up hF
          generalize hv4 : (up2 v3 182 (1) b) = v4 at hW hJ hF
          refine lv_dup hx hb dX7_addLayer_70 rfl ?_
          refine lv_iconst (v := 2) hx hb dX7_addLayer_71 (by decide) ?_
          refine lv_iload_n hx hb dX7_addLayer_72 rfl (lv_at hl 3 rfl) ?_
          refine q_iast hx hb hW hS (r := 182) (List.mem_append_right _ (List.mem_singleton.mpr rfl)) rfl (2) rfl (by decide) (by decide) dX7_addLayer_73 (fun H locs hW hS => ?_)
          have hJ : PJ (L ++ [182]) ad1 (up2 v4 182 (2) c0) o1 101 110 ng nh nl ns ow gx gy gw gd := hJ.kp (kr_hi (by decide))
          have hF : offR 182 (up2 v4 182 (2) c0) v1 := off_up hF
          generalize hv5 : (up2 v4 182 (2) c0) = v5 at hW hJ hF
          refine lv_dup hx hb dX7_addLayer_74 rfl ?_
          refine lv_iconst (v := 3) hx hb dX7_addLayer_75 (by decide) ?_
          refine lv_iconst (v := 2) hx hb dX7_addLayer_76 (by decide) ?_
          refine lv_iload_n hx hb dX7_addLayer_77 rfl (lv_at hl 2 rfl) ?_
          refine lv_imul hx hb dX7_addLayer_78 ?_
          refine q_iast hx hb hW hS (r := 182) (List.mem_append_right _ (List.mem_singleton.mpr rfl)) rfl (3) rfl (by decide) (by decide) dX7_addLayer_79 (fun H locs hW hS => ?_)
          have hJ : PJ (L ++ [182]) ad1 (up2 v5 182 (3) (2 * b)) o1 101 110 ng nh nl ns ow gx gy gw gd := hJ.kp (kr_hi (by decide))
          have hF : offR 182 (up2 v5 182 (3) (2 * b)) v1 := off_up hF
          generalize hv6 : (up2 v5 182 (3) (2 * b)) = v6 at hW hJ hF
          refine lv_dup hx hb dX7_addLayer_80 rfl ?_
          refine lv_iconst (v := 4) hx hb dX7_addLayer_81 (by decide) ?_
          refine lv_iconst (v := 0) hx hb dX7_addLayer_82 (by decide) ?_
          refine q_iast hx hb hW hS (r := 182) (List.mem_append_right _ (List.mem_singleton.mpr rfl)) rfl (4) rfl (by decide) (by decide) dX7_addLayer_83 (fun H locs hW hS => ?_)
          have hJ : PJ (L ++ [182]) ad1 (up2 v6 182 (4) 0) o1 101 110 ng nh nl ns ow gx gy gw gd := hJ.kp (kr_hi (by decide))
          have hF : offR 182 (up2 v6 182 (4) 0) v1 := off_up hF
          generalize hv7 : (up2 v6 182 (4) 0) = v7 at hW hJ hF
          refine lv_astore (lv' := [(4, .ref (ad1 182)), (0, .ref (ad1 100)), (1, .int a), (2, .int b), (3, .int c0)]) hx hb dX7_addLayer_84 hl (by decide) rfl (fun ls hl => ?_)
          refine lv_aload hx hb dX7_addLayer_86 (lv_at hl 0 rfl) ?_
          refine lv_iconst (v := 0) hx hb dX7_addLayer_88 (by decide) ?_
          refine lv_aload_n hx hb dX7_addLayer_89 rfl (lv_at hl 1 rfl) ?_
          refine q_getr hx hb hts hown hW (r := 100) hJ.q.m0 rfl k_8 1 (by decide) rfl t_944 (a := ad1 101) hO1 dX7_addLayer_90 ?_
          refine q_getrN hx hb hts hown hW (r := 101) hJ.q.mS hJ.q.kS k_7 12 (by decide) rfl t_892 (a := ad1 (110 + 12)) (hJ.q.oB 12 rfl) dX7_addLayer_93 ?_
          refine lv_iconst (v := 5) hx hb dX7_addLayer_96 (by decide) ?_
          refine lv_aload_n hx hb dX7_addLayer_97 rfl (lv_at hl 1 rfl) ?_
          refine q_getr hx hb hts hown hW (r := 100) hJ.q.m0 rfl k_8 1 (by decide) rfl t_944 (a := ad1 101) hO1 dX7_addLayer_98 ?_
          refine q_getN hx hb hts hown hW (r := 101) hJ.q.mS hJ.q.kS k_7 11 (by decide) rfl t_890 (x := (nI nl)) hJ.eL dX7_addLayer_101 ?_
          refine lv_imul hx hb dX7_addLayer_104 ?_
          refine lv_iconst (v := 5) hx hb dX7_addLayer_105 (by decide) ?_
          refine q_copy hx hb hml hl.1 hts hown m_copy t_981 hW hS (r0 := 182) (r1 := (110 + 12)) (List.mem_append_right _ (List.mem_singleton.mpr rfl)) (hJ.q.mB 12 rfl) rfl (hJ.q.k9 12 rfl (by decide)) 0 (5 * nl) 5 rfl (ix_mul rfl rfl) rfl (by decide) (show _ ≤ 30 by omega) (by decide) (by decide) (Nat.le_of_ble_eq_true rfl) (Nat.le_of_ble_eq_true rfl) dX7_addLayer_106 (fun H locs hW hS => ?_)
          refine lv_aload_n hx hb dX7_addLayer_109 rfl (lv_at hl 1 rfl) ?_
          refine q_getr hx hb hts hown hW (r := 100) hJ.q.m0 rfl k_8 1 (by decide) rfl t_944 (a := ad1 101) hO1 dX7_addLayer_110 ?_
          refine lv_dup hx hb dX7_addLayer_113 rfl ?_
          refine q_getN hx hb hts hown hW (r := 101) hJ.q.mS hJ.q.kS k_7 11 (by decide) rfl t_890 (x := (nI nl)) hJ.eL dX7_addLayer_114 ?_
          refine lv_iconst (v := 1) hx hb dX7_addLayer_117 (by decide) ?_
          refine lv_iadd hx hb dX7_addLayer_118 ?_
          refine q_putN hx hb hts hown hW hS (r := 101) hJ.q.mS hJ.q.kS k_7 11 (by decide) rfl t_890 rfl (t := .int) (by decide +kernel) rfl rfl dX7_addLayer_119 (fun H locs hW hS => ?_)
          generalize hv8 : (up2 (cpy2 v7 182 (110 + 12) 0 (5 * nl) 5) 101 11 ((nI nl) + 1)) = v8 at hW
          refine lv_aload_n hx hb dX7_addLayer_122 rfl (lv_at hl 1 rfl) ?_
          refine q_getr hx hb hts hown hW (r := 100) hJ.q.m0 rfl k_8 1 (by decide) rfl t_944 (a := ad1 101) hO1 dX7_addLayer_123 ?_
          refine q_getN hx hb hts hown hW (r := 101) hJ.q.mS hJ.q.kS k_7 11 (by decide) rfl t_890 (x := (v8 101 11)) rfl dX7_addLayer_126 ?_
          refine lv_iconst (v := 1) hx hb dX7_addLayer_129 (by decide) ?_
          refine lv_isub hx hb dX7_addLayer_130 ?_
          subst hv8
          subst hv7
          subst hv6
          subst hv5
          subst hv4
          subst hv3
          subst hv2
          subst hv1
          have hF := rAddL_off (v := v) (nl := nl) (own := own5 a b c0 (2 * b) 0) hF (fun j hj => by rcases (show j = 0 ∨ j = 1 ∨ j = 2 ∨ j = 3 ∨ j = 4 by omega) with rfl | rfl | rfl | rfl | rfl <;> rfl)
          have hW := hW.forget hr9 had ho9 hF
          exact q_iret hx hb hr hlocks hW hS (by first | decide | omega | (dsimp only; omega)) (by first | decide | omega | (dsimp only; omega)) dX7_addLayer_131 (⟨by show nI nl + 1 - 1 = nI nl; rw [nI_1, nI_pred], rfl⟩)
        · skip
          exact absurd c_50 (nI_six k4)
      · skip
        exact absurd (k3.symm.trans c_32) (by decide)

set_option maxHeartbeats 4000000 in
set_option maxRecDepth 100000 in
theorem c_X7_addLayer_1a (l : Launch) {G : GG} {L : List Nat} {ad : Nat → Nat} {v : Nat → Nat → Int32} {o : Nat → Nat → Option Nat} {w : Nat → Int64} {ng nh nl ns : Nat} {ow gx gy gw gd : Nat → Nat} (hJ : PJ L ad v o 101 110 ng nh nl ns ow gx gy gw gd) (hO1 : o 100 1 = some (ad 101)) {a b c0 : Int32} (k1 : fIn a 0 100000 = 0) : CtI l G L ad v o w yX7_addLayer cX7_addLayer 5 .int ({ frames := 1, cells := 0, slots := 0, locals := 22 }) [.ref (ad 100), .int a, .int b, .int c0] (fun r u => r = 0 ∧ u = up2 (tz v) 100 0 1) := by
  have hsb := hJ.q.sb; have hbd := hJ.bd
  refine q_ofI (by decide) (Nat.le_of_ble_eq_true rfl) ?_
  intro p e s m below meth c hx hb hr hml hts hown hlocks hE h0 hW hS ls hl
  generalize hH : s.heap = H at hW
  have hS : va_S (Ab G.2.2.1) s.heap H [] := hH ▸ hS
  obtain ⟨locs, hlc⟩ : ∃ z : List Loc, z = [] := ⟨_, rfl⟩
  rw [← hlc] at hS ⊢
  have hl : lv_has ls 5 [(0, .ref (ad 100)), (1, .int a), (2, .int b), (3, .int c0)] := hl
  refine lv_aload_n hx hb dX7_addLayer_0 rfl (lv_at hl 0 rfl) ?_
  refine lv_iconst (v := 0) hx hb dX7_addLayer_1 (by decide) ?_
  refine q_put hx hb hts hown hW hS (r := 100) hJ.q.m0 rfl k_8 0 (by decide) rfl t_943 rfl (t := .int) (by decide +kernel) rfl rfl dX7_addLayer_2 (fun H locs hW hS => ?_)
  have hJ : PJ L ad (up2 v 100 0 0) o 101 110 ng nh nl ns ow gx gy gw gd := hJ.kp kr_t
  generalize hv1 : (up2 v 100 0 0) = v1 at hW hJ
  refine lv_iload_n hx hb dX7_addLayer_5 rfl (lv_at hl 1 rfl) ?_
  refine lv_iconst (v := 0) hx hb dX7_addLayer_6 (by decide) ?_
  refine lv_ldc (v := 100000) hx hb hown (hts _ t_994) dX7_addLayer_7 ?_
  refine q_cSiE (As := [.int a, .int 0, .int 100000]) (rest := []) hx hb hml hts hown hE h0 hW hS (c_X7_isIn l a 0 100000) mw_X7_isIn t_962 ⟨Nat.le_of_ble_eq_true rfl, Nat.le_of_ble_eq_true rfl⟩ rfl hl.1 (Nat.le_of_ble_eq_true rfl) dX7_addLayer_9 ⟨Nat.zero_le _, Nat.zero_le _⟩ ⟨rfl, rfl⟩ (fun H locs hW hS => ?_)
  refine lv_if_eq (tgt := 35) hx hb dX7_addLayer_12 (by decide) (fun c_12 => ?_) (fun c_12 => ?_)
  · skip
    refine lv_aload_n hx hb dX7_addLayer_35 rfl (lv_at hl 0 rfl) ?_
    refine lv_iconst (v := 1) hx hb dX7_addLayer_36 (by decide) ?_
    refine q_cViE (As := [.int 1]) (rest := []) (r := 100) hx hb hml hts hown hE h0 hW hS (c_X7_no l hJ.q.m0 1) mw_X7_no hJ.q.m0 rfl k_8 t_965 ⟨Nat.le_of_ble_eq_true rfl, Nat.le_of_ble_eq_true rfl⟩ rfl hl.1 (Nat.le_of_ble_eq_true rfl) dX7_addLayer_37 ⟨Nat.zero_le _, Nat.zero_le _⟩ ⟨rfl, rfl⟩ (fun H locs hW hS => ?_)
    have hJ : PJ L ad (up2 v1 100 0 1) o 101 110 ng nh nl ns ow gx gy gw gd := hJ.kp kr_t
    generalize hv2 : (up2 v1 100 0 1) = v2 at hW hJ
    subst hv2
    subst hv1
    exact q_iret hx hb hr hlocks hW hS (Nat.le_refl _) (Nat.le_refl _) dX7_addLayer_40 (⟨rfl, rfl⟩)
  · skip
    exact absurd k1 c_12

set_option maxHeartbeats 4000000 in
set_option maxRecDepth 100000 in
theorem c_X7_addLayer_1b (l : Launch) {G : GG} {L : List Nat} {ad : Nat → Nat} {v : Nat → Nat → Int32} {o : Nat → Nat → Option Nat} {w : Nat → Int64} {ng nh nl ns : Nat} {ow gx gy gw gd : Nat → Nat} (hJ : PJ L ad v o 101 110 ng nh nl ns ow gx gy gw gd) (hO1 : o 100 1 = some (ad 101)) {a b c0 : Int32} (k1 : fIn a 0 100000 = 1) (k2 : fIn b 1 100000 = 0) : CtI l G L ad v o w yX7_addLayer cX7_addLayer 5 .int ({ frames := 1, cells := 0, slots := 0, locals := 22 }) [.ref (ad 100), .int a, .int b, .int c0] (fun r u => r = 0 ∧ u = up2 (tz v) 100 0 1) := by
  have hsb := hJ.q.sb; have hbd := hJ.bd
  refine q_ofI (by decide) (Nat.le_of_ble_eq_true rfl) ?_
  intro p e s m below meth c hx hb hr hml hts hown hlocks hE h0 hW hS ls hl
  generalize hH : s.heap = H at hW
  have hS : va_S (Ab G.2.2.1) s.heap H [] := hH ▸ hS
  obtain ⟨locs, hlc⟩ : ∃ z : List Loc, z = [] := ⟨_, rfl⟩
  rw [← hlc] at hS ⊢
  have hl : lv_has ls 5 [(0, .ref (ad 100)), (1, .int a), (2, .int b), (3, .int c0)] := hl
  refine lv_aload_n hx hb dX7_addLayer_0 rfl (lv_at hl 0 rfl) ?_
  refine lv_iconst (v := 0) hx hb dX7_addLayer_1 (by decide) ?_
  refine q_put hx hb hts hown hW hS (r := 100) hJ.q.m0 rfl k_8 0 (by decide) rfl t_943 rfl (t := .int) (by decide +kernel) rfl rfl dX7_addLayer_2 (fun H locs hW hS => ?_)
  have hJ : PJ L ad (up2 v 100 0 0) o 101 110 ng nh nl ns ow gx gy gw gd := hJ.kp kr_t
  generalize hv1 : (up2 v 100 0 0) = v1 at hW hJ
  refine lv_iload_n hx hb dX7_addLayer_5 rfl (lv_at hl 1 rfl) ?_
  refine lv_iconst (v := 0) hx hb dX7_addLayer_6 (by decide) ?_
  refine lv_ldc (v := 100000) hx hb hown (hts _ t_994) dX7_addLayer_7 ?_
  refine q_cSiE (As := [.int a, .int 0, .int 100000]) (rest := []) hx hb hml hts hown hE h0 hW hS (c_X7_isIn l a 0 100000) mw_X7_isIn t_962 ⟨Nat.le_of_ble_eq_true rfl, Nat.le_of_ble_eq_true rfl⟩ rfl hl.1 (Nat.le_of_ble_eq_true rfl) dX7_addLayer_9 ⟨Nat.zero_le _, Nat.zero_le _⟩ ⟨rfl, rfl⟩ (fun H locs hW hS => ?_)
  refine lv_if_eq (tgt := 35) hx hb dX7_addLayer_12 (by decide) (fun c_12 => ?_) (fun c_12 => ?_)
  · skip
    exact absurd (k1.symm.trans c_12) (by decide)
  · skip
    refine lv_iload_n hx hb dX7_addLayer_15 rfl (lv_at hl 2 rfl) ?_
    refine lv_iconst (v := 1) hx hb dX7_addLayer_16 (by decide) ?_
    refine lv_ldc (v := 100000) hx hb hown (hts _ t_994) dX7_addLayer_17 ?_
    refine q_cSiE (As := [.int b, .int 1, .int 100000]) (rest := []) hx hb hml hts hown hE h0 hW hS (c_X7_isIn l b 1 100000) mw_X7_isIn t_962 ⟨Nat.le_of_ble_eq_true rfl, Nat.le_of_ble_eq_true rfl⟩ rfl hl.1 (Nat.le_of_ble_eq_true rfl) dX7_addLayer_19 ⟨Nat.zero_le _, Nat.zero_le _⟩ ⟨rfl, rfl⟩ (fun H locs hW hS => ?_)
    refine lv_if_eq (tgt := 35) hx hb dX7_addLayer_22 (by decide) (fun c_22 => ?_) (fun c_22 => ?_)
    · skip
      refine lv_aload_n hx hb dX7_addLayer_35 rfl (lv_at hl 0 rfl) ?_
      refine lv_iconst (v := 1) hx hb dX7_addLayer_36 (by decide) ?_
      refine q_cViE (As := [.int 1]) (rest := []) (r := 100) hx hb hml hts hown hE h0 hW hS (c_X7_no l hJ.q.m0 1) mw_X7_no hJ.q.m0 rfl k_8 t_965 ⟨Nat.le_of_ble_eq_true rfl, Nat.le_of_ble_eq_true rfl⟩ rfl hl.1 (Nat.le_of_ble_eq_true rfl) dX7_addLayer_37 ⟨Nat.zero_le _, Nat.zero_le _⟩ ⟨rfl, rfl⟩ (fun H locs hW hS => ?_)
      have hJ : PJ L ad (up2 v1 100 0 1) o 101 110 ng nh nl ns ow gx gy gw gd := hJ.kp kr_t
      generalize hv2 : (up2 v1 100 0 1) = v2 at hW hJ
      subst hv2
      subst hv1
      exact q_iret hx hb hr hlocks hW hS (Nat.le_refl _) (Nat.le_refl _) dX7_addLayer_40 (⟨rfl, rfl⟩)
    · skip
      exact absurd k2 c_22

set_option maxHeartbeats 4000000 in
set_option maxRecDepth 100000 in
theorem c_X7_addLayer_1c (l : Launch) {G : GG} {L : List Nat} {ad : Nat → Nat} {v : Nat → Nat → Int32} {o : Nat → Nat → Option Nat} {w : Nat → Int64} {ng nh nl ns : Nat} {ow gx gy gw gd : Nat → Nat} (hJ : PJ L ad v o 101 110 ng nh nl ns ow gx gy gw gd) (hO1 : o 100 1 = some (ad 101)) {a b c0 : Int32} (k1 : fIn a 0 100000 = 1) (k2 : fIn b 1 100000 = 1) (k3 : fIn c0 1 100 = 0) : CtI l G L ad v o w yX7_addLayer cX7_addLayer 5 .int ({ frames := 1, cells := 0, slots := 0, locals := 22 }) [.ref (ad 100), .int a, .int b, .int c0] (fun r u => r = 0 ∧ u = up2 (tz v) 100 0 1) := by
  have hsb := hJ.q.sb; have hbd := hJ.bd
  refine q_ofI (by decide) (Nat.le_of_ble_eq_true rfl) ?_
  intro p e s m below meth c hx hb hr hml hts hown hlocks hE h0 hW hS ls hl
  generalize hH : s.heap = H at hW
  have hS : va_S (Ab G.2.2.1) s.heap H [] := hH ▸ hS
  obtain ⟨locs, hlc⟩ : ∃ z : List Loc, z = [] := ⟨_, rfl⟩
  rw [← hlc] at hS ⊢
  have hl : lv_has ls 5 [(0, .ref (ad 100)), (1, .int a), (2, .int b), (3, .int c0)] := hl
  refine lv_aload_n hx hb dX7_addLayer_0 rfl (lv_at hl 0 rfl) ?_
  refine lv_iconst (v := 0) hx hb dX7_addLayer_1 (by decide) ?_
  refine q_put hx hb hts hown hW hS (r := 100) hJ.q.m0 rfl k_8 0 (by decide) rfl t_943 rfl (t := .int) (by decide +kernel) rfl rfl dX7_addLayer_2 (fun H locs hW hS => ?_)
  have hJ : PJ L ad (up2 v 100 0 0) o 101 110 ng nh nl ns ow gx gy gw gd := hJ.kp kr_t
  generalize hv1 : (up2 v 100 0 0) = v1 at hW hJ
  refine lv_iload_n hx hb dX7_addLayer_5 rfl (lv_at hl 1 rfl) ?_
  refine lv_iconst (v := 0) hx hb dX7_addLayer_6 (by decide) ?_
  refine lv_ldc (v := 100000) hx hb hown (hts _ t_994) dX7_addLayer_7 ?_
  refine q_cSiE (As := [.int a, .int 0, .int 100000]) (rest := []) hx hb hml hts hown hE h0 hW hS (c_X7_isIn l a 0 100000) mw_X7_isIn t_962 ⟨Nat.le_of_ble_eq_true rfl, Nat.le_of_ble_eq_true rfl⟩ rfl hl.1 (Nat.le_of_ble_eq_true rfl) dX7_addLayer_9 ⟨Nat.zero_le _, Nat.zero_le _⟩ ⟨rfl, rfl⟩ (fun H locs hW hS => ?_)
  refine lv_if_eq (tgt := 35) hx hb dX7_addLayer_12 (by decide) (fun c_12 => ?_) (fun c_12 => ?_)
  · skip
    exact absurd (k1.symm.trans c_12) (by decide)
  · skip
    refine lv_iload_n hx hb dX7_addLayer_15 rfl (lv_at hl 2 rfl) ?_
    refine lv_iconst (v := 1) hx hb dX7_addLayer_16 (by decide) ?_
    refine lv_ldc (v := 100000) hx hb hown (hts _ t_994) dX7_addLayer_17 ?_
    refine q_cSiE (As := [.int b, .int 1, .int 100000]) (rest := []) hx hb hml hts hown hE h0 hW hS (c_X7_isIn l b 1 100000) mw_X7_isIn t_962 ⟨Nat.le_of_ble_eq_true rfl, Nat.le_of_ble_eq_true rfl⟩ rfl hl.1 (Nat.le_of_ble_eq_true rfl) dX7_addLayer_19 ⟨Nat.zero_le _, Nat.zero_le _⟩ ⟨rfl, rfl⟩ (fun H locs hW hS => ?_)
    refine lv_if_eq (tgt := 35) hx hb dX7_addLayer_22 (by decide) (fun c_22 => ?_) (fun c_22 => ?_)
    · skip
      exact absurd (k2.symm.trans c_22) (by decide)
    · skip
      refine lv_iload_n hx hb dX7_addLayer_25 rfl (lv_at hl 3 rfl) ?_
      refine lv_iconst (v := 1) hx hb dX7_addLayer_26 (by decide) ?_
      refine lv_bipush (v := 100) hx hb dX7_addLayer_27 (by decide) ?_
      refine q_cSiE (As := [.int c0, .int 1, .int 100]) (rest := []) hx hb hml hts hown hE h0 hW hS (c_X7_isIn l c0 1 100) mw_X7_isIn t_962 ⟨Nat.le_of_ble_eq_true rfl, Nat.le_of_ble_eq_true rfl⟩ rfl hl.1 (Nat.le_of_ble_eq_true rfl) dX7_addLayer_29 ⟨Nat.zero_le _, Nat.zero_le _⟩ ⟨rfl, rfl⟩ (fun H locs hW hS => ?_)
      refine lv_if_ne (tgt := 41) hx hb dX7_addLayer_32 (by decide) (fun c_32 => ?_) (fun c_32 => ?_)
      · skip
        exact absurd k3 c_32
      · skip
        refine lv_aload_n hx hb dX7_addLayer_35 rfl (lv_at hl 0 rfl) ?_
        refine lv_iconst (v := 1) hx hb dX7_addLayer_36 (by decide) ?_
        refine q_cViE (As := [.int 1]) (rest := []) (r := 100) hx hb hml hts hown hE h0 hW hS (c_X7_no l hJ.q.m0 1) mw_X7_no hJ.q.m0 rfl k_8 t_965 ⟨Nat.le_of_ble_eq_true rfl, Nat.le_of_ble_eq_true rfl⟩ rfl hl.1 (Nat.le_of_ble_eq_true rfl) dX7_addLayer_37 ⟨Nat.zero_le _, Nat.zero_le _⟩ ⟨rfl, rfl⟩ (fun H locs hW hS => ?_)
        have hJ : PJ L ad (up2 v1 100 0 1) o 101 110 ng nh nl ns ow gx gy gw gd := hJ.kp kr_t
        generalize hv2 : (up2 v1 100 0 1) = v2 at hW hJ
        subst hv2
        subst hv1
        exact q_iret hx hb hr hlocks hW hS (Nat.le_refl _) (Nat.le_refl _) dX7_addLayer_40 (⟨rfl, rfl⟩)

set_option maxHeartbeats 4000000 in
set_option maxRecDepth 100000 in
theorem c_X7_addLayer_2 (l : Launch) {G : GG} {L : List Nat} {ad : Nat → Nat} {v : Nat → Nat → Int32} {o : Nat → Nat → Option Nat} {w : Nat → Int64} {ng nh nl ns : Nat} {ow gx gy gw gd : Nat → Nat} (hJ : PJ L ad v o 101 110 ng nh nl ns ow gx gy gw gd) (hO1 : o 100 1 = some (ad 101)) {a b c0 : Int32} (k1 : fIn a 0 100000 = 1) (k2 : fIn b 1 100000 = 1) (k3 : fIn c0 1 100 = 1) (k4 : nl = 6) : CtI l G L ad v o w yX7_addLayer cX7_addLayer 5 .int ({ frames := 1, cells := 0, slots := 0, locals := 22 }) [.ref (ad 100), .int a, .int b, .int c0] (fun r u => r = 0 ∧ u = up2 (tz v) 100 0 2) := by
  have hsb := hJ.q.sb; have hbd := hJ.bd
  refine q_ofI (by decide) (Nat.le_of_ble_eq_true rfl) ?_
  intro p e s m below meth c hx hb hr hml hts hown hlocks hE h0 hW hS ls hl
  generalize hH : s.heap = H at hW
  have hS : va_S (Ab G.2.2.1) s.heap H [] := hH ▸ hS
  obtain ⟨locs, hlc⟩ : ∃ z : List Loc, z = [] := ⟨_, rfl⟩
  rw [← hlc] at hS ⊢
  have hl : lv_has ls 5 [(0, .ref (ad 100)), (1, .int a), (2, .int b), (3, .int c0)] := hl
  refine lv_aload_n hx hb dX7_addLayer_0 rfl (lv_at hl 0 rfl) ?_
  refine lv_iconst (v := 0) hx hb dX7_addLayer_1 (by decide) ?_
  refine q_put hx hb hts hown hW hS (r := 100) hJ.q.m0 rfl k_8 0 (by decide) rfl t_943 rfl (t := .int) (by decide +kernel) rfl rfl dX7_addLayer_2 (fun H locs hW hS => ?_)
  have hJ : PJ L ad (up2 v 100 0 0) o 101 110 ng nh nl ns ow gx gy gw gd := hJ.kp kr_t
  generalize hv1 : (up2 v 100 0 0) = v1 at hW hJ
  refine lv_iload_n hx hb dX7_addLayer_5 rfl (lv_at hl 1 rfl) ?_
  refine lv_iconst (v := 0) hx hb dX7_addLayer_6 (by decide) ?_
  refine lv_ldc (v := 100000) hx hb hown (hts _ t_994) dX7_addLayer_7 ?_
  refine q_cSiE (As := [.int a, .int 0, .int 100000]) (rest := []) hx hb hml hts hown hE h0 hW hS (c_X7_isIn l a 0 100000) mw_X7_isIn t_962 ⟨Nat.le_of_ble_eq_true rfl, Nat.le_of_ble_eq_true rfl⟩ rfl hl.1 (Nat.le_of_ble_eq_true rfl) dX7_addLayer_9 ⟨Nat.zero_le _, Nat.zero_le _⟩ ⟨rfl, rfl⟩ (fun H locs hW hS => ?_)
  refine lv_if_eq (tgt := 35) hx hb dX7_addLayer_12 (by decide) (fun c_12 => ?_) (fun c_12 => ?_)
  · skip
    exact absurd (k1.symm.trans c_12) (by decide)
  · skip
    refine lv_iload_n hx hb dX7_addLayer_15 rfl (lv_at hl 2 rfl) ?_
    refine lv_iconst (v := 1) hx hb dX7_addLayer_16 (by decide) ?_
    refine lv_ldc (v := 100000) hx hb hown (hts _ t_994) dX7_addLayer_17 ?_
    refine q_cSiE (As := [.int b, .int 1, .int 100000]) (rest := []) hx hb hml hts hown hE h0 hW hS (c_X7_isIn l b 1 100000) mw_X7_isIn t_962 ⟨Nat.le_of_ble_eq_true rfl, Nat.le_of_ble_eq_true rfl⟩ rfl hl.1 (Nat.le_of_ble_eq_true rfl) dX7_addLayer_19 ⟨Nat.zero_le _, Nat.zero_le _⟩ ⟨rfl, rfl⟩ (fun H locs hW hS => ?_)
    refine lv_if_eq (tgt := 35) hx hb dX7_addLayer_22 (by decide) (fun c_22 => ?_) (fun c_22 => ?_)
    · skip
      exact absurd (k2.symm.trans c_22) (by decide)
    · skip
      refine lv_iload_n hx hb dX7_addLayer_25 rfl (lv_at hl 3 rfl) ?_
      refine lv_iconst (v := 1) hx hb dX7_addLayer_26 (by decide) ?_
      refine lv_bipush (v := 100) hx hb dX7_addLayer_27 (by decide) ?_
      refine q_cSiE (As := [.int c0, .int 1, .int 100]) (rest := []) hx hb hml hts hown hE h0 hW hS (c_X7_isIn l c0 1 100) mw_X7_isIn t_962 ⟨Nat.le_of_ble_eq_true rfl, Nat.le_of_ble_eq_true rfl⟩ rfl hl.1 (Nat.le_of_ble_eq_true rfl) dX7_addLayer_29 ⟨Nat.zero_le _, Nat.zero_le _⟩ ⟨rfl, rfl⟩ (fun H locs hW hS => ?_)
      refine lv_if_ne (tgt := 41) hx hb dX7_addLayer_32 (by decide) (fun c_32 => ?_) (fun c_32 => ?_)
      · skip
        refine lv_aload_n hx hb dX7_addLayer_41 rfl (lv_at hl 0 rfl) ?_
        refine q_getr hx hb hts hown hW (r := 100) hJ.q.m0 rfl k_8 1 (by decide) rfl t_944 (a := ad 101) hO1 dX7_addLayer_42 ?_
        refine q_getN hx hb hts hown hW (r := 101) hJ.q.mS hJ.q.kS k_7 11 (by decide) rfl t_890 (x := (nI nl)) hJ.eL dX7_addLayer_45 ?_
        refine lv_bipush (v := 6) hx hb dX7_addLayer_48 (by decide) ?_
        refine lv_icmp_ne (tgt := 59) hx hb dX7_addLayer_50 (by decide) (fun c_50 => ?_) (fun c_50 => ?_)
        · skip
          exact absurd (by rw [k4]; rfl) c_50
        · skip
          refine lv_aload_n hx hb dX7_addLayer_53 rfl (lv_at hl 0 rfl) ?_
          refine lv_iconst (v := 2) hx hb dX7_addLayer_54 (by decide) ?_
          refine q_cViE (As := [.int 2]) (rest := []) (r := 100) hx hb hml hts hown hE h0 hW hS (c_X7_no l hJ.q.m0 2) mw_X7_no hJ.q.m0 rfl k_8 t_965 ⟨Nat.le_of_ble_eq_true rfl, Nat.le_of_ble_eq_true rfl⟩ rfl hl.1 (Nat.le_of_ble_eq_true rfl) dX7_addLayer_55 ⟨Nat.zero_le _, Nat.zero_le _⟩ ⟨rfl, rfl⟩ (fun H locs hW hS => ?_)
          have hJ : PJ L ad (up2 v1 100 0 2) o 101 110 ng nh nl ns ow gx gy gw gd := hJ.kp kr_t
          generalize hv2 : (up2 v1 100 0 2) = v2 at hW hJ
          subst hv2
          subst hv1
          exact q_iret hx hb hr hlocks hW hS (Nat.le_refl _) (Nat.le_refl _) dX7_addLayer_58 (⟨rfl, rfl⟩)
      · skip
        exact absurd (k3.symm.trans c_32) (by decide)

set_option maxHeartbeats 4000000 in
set_option maxRecDepth 100000 in
theorem c_X7_build_1 (l : Launch) {G : GG} {L : List Nat} {ad : Nat → Nat} {v : Nat → Nat → Int32} {o : Nat → Nat → Option Nat} {w : Nat → Int64} {ng nh nl ns : Nat} {ow gx gy gw gd : Nat → Nat} (hJ : PJ L ad v o 101 110 ng nh nl ns ow gx gy gw gd) (hO1 : o 100 1 = some (ad 101)) {g0 a b c0 d e0 f : Int32} (k1 : fIn g0 0 (nI ng - 1) = 0) : CtI l G L ad v o w yX7_build cX7_build 10 .int ({ frames := 2, cells := 0, slots := 0, locals := 43 }) [.ref (ad 100), .int g0, .int a, .int b, .int c0, .int d, .int e0, .int f] (fun r u => r = 0 ∧ u = up2 (tz v) 100 0 1) := by
  have hsb := hJ.q.sb; have hbd := hJ.bd
  refine q_ofI (by decide) (Nat.le_of_ble_eq_true rfl) ?_
  intro p e s m below meth c hx hb hr hml hts hown hlocks hE h0 hW hS ls hl
  generalize hH : s.heap = H at hW
  have hS : va_S (Ab G.2.2.1) s.heap H [] := hH ▸ hS
  obtain ⟨locs, hlc⟩ : ∃ z : List Loc, z = [] := ⟨_, rfl⟩
  rw [← hlc] at hS ⊢
  have hl : lv_has ls 10 [(0, .ref (ad 100)), (1, .int g0), (2, .int a), (3, .int b), (4, .int c0), (5, .int d), (6, .int e0), (7, .int f)] := hl
  refine lv_aload_n hx hb dX7_build_0 rfl (lv_at hl 0 rfl) ?_
  refine lv_iconst (v := 0) hx hb dX7_build_1 (by decide) ?_
  refine q_put hx hb hts hown hW hS (r := 100) hJ.q.m0 rfl k_8 0 (by decide) rfl t_943 rfl (t := .int) (by decide +kernel) rfl rfl dX7_build_2 (fun H locs hW hS => ?_)
  have hJ : PJ L ad (up2 v 100 0 0) o 101 110 ng nh nl ns ow gx gy gw gd := hJ.kp kr_t
  generalize hv1 : (up2 v 100 0 0) = v1 at hW hJ
  refine lv_aload_n hx hb dX7_build_5 rfl (lv_at hl 0 rfl) ?_
  refine lv_iload_n hx hb dX7_build_6 rfl (lv_at hl 1 rfl) ?_
  refine q_cViE (As := [.int g0]) (rest := []) (r := 100) hx hb hml hts hown hE h0 hW hS (c_X7_isGrower l hJ hO1 g0) mw_X7_isGrower hJ.q.m0 rfl k_8 t_973 ⟨Nat.le_of_ble_eq_true rfl, Nat.le_of_ble_eq_true rfl⟩ rfl hl.1 (Nat.le_of_ble_eq_true rfl) dX7_build_7 ⟨Nat.zero_le _, Nat.zero_le _⟩ ⟨rfl, rfl⟩ (fun H locs hW hS => ?_)
  refine lv_if_ne (tgt := 19) hx hb dX7_build_10 (by decide) (fun c_10 => ?_) (fun c_10 => ?_)
  · skip
    exact absurd k1 c_10
  · skip
    refine lv_aload_n hx hb dX7_build_13 rfl (lv_at hl 0 rfl) ?_
    refine lv_iconst (v := 1) hx hb dX7_build_14 (by decide) ?_
    refine q_cViE (As := [.int 1]) (rest := []) (r := 100) hx hb hml hts hown hE h0 hW hS (c_X7_no l hJ.q.m0 1) mw_X7_no hJ.q.m0 rfl k_8 t_965 ⟨Nat.le_of_ble_eq_true rfl, Nat.le_of_ble_eq_true rfl⟩ rfl hl.1 (Nat.le_of_ble_eq_true rfl) dX7_build_15 ⟨Nat.zero_le _, Nat.zero_le _⟩ ⟨rfl, rfl⟩ (fun H locs hW hS => ?_)
    have hJ : PJ L ad (up2 v1 100 0 1) o 101 110 ng nh nl ns ow gx gy gw gd := hJ.kp kr_t
    generalize hv2 : (up2 v1 100 0 1) = v2 at hW hJ
    subst hv2
    subst hv1
    exact q_iret hx hb hr hlocks hW hS (Nat.le_refl _) (Nat.le_refl _) dX7_build_18 (⟨rfl, rfl⟩)

set_option maxHeartbeats 4000000 in
set_option maxRecDepth 100000 in
theorem c_X7_build_2a (l : Launch) {G : GG} {L : List Nat} {ad : Nat → Nat} {v : Nat → Nat → Int32} {o : Nat → Nat → Option Nat} {w : Nat → Int64} {ng nh nl ns : Nat} {ow gx gy gw gd : Nat → Nat} (hJ : PJ L ad v o 101 110 ng nh nl ns ow gx gy gw gd) (hO1 : o 100 1 = some (ad 101)) {g : Nat} (hg : g < ng) {a b c0 d e0 f : Int32} (k1 : fIn c0 1 6 = 0) : CtI l G L ad v o w yX7_build cX7_build 10 .int ({ frames := 2, cells := 0, slots := 0, locals := 43 }) [.ref (ad 100), .int (nI g), .int a, .int b, .int c0, .int d, .int e0, .int f] (fun r u => r = 0 ∧ u = up2 (tz v) 100 0 2) := by
  have hsb := hJ.q.sb; have hbd := hJ.bd; have hck := fIn_nat hg (by omega)
  refine q_ofI (by decide) (Nat.le_of_ble_eq_true rfl) ?_
  intro p e s m below meth c hx hb hr hml hts hown hlocks hE h0 hW hS ls hl
  generalize hH : s.heap = H at hW
  have hS : va_S (Ab G.2.2.1) s.heap H [] := hH ▸ hS
  obtain ⟨locs, hlc⟩ : ∃ z : List Loc, z = [] := ⟨_, rfl⟩
  rw [← hlc] at hS ⊢
  have hl : lv_has ls 10 [(0, .ref (ad 100)), (1, .int (nI g)), (2, .int a), (3, .int b), (4, .int c0), (5, .int d), (6, .int e0), (7, .int f)] := hl
  refine lv_aload_n hx hb dX7_build_0 rfl (lv_at hl 0 rfl) ?_
  refine lv_iconst (v := 0) hx hb dX7_build_1 (by decide) ?_
  refine q_put hx hb hts hown hW hS (r := 100) hJ.q.m0 rfl k_8 0 (by decide) rfl t_943 rfl (t := .int) (by decide +kernel) rfl rfl dX7_build_2 (fun H locs hW hS => ?_)
  have hJ : PJ L ad (up2 v 100 0 0) o 101 110 ng nh nl ns ow gx gy gw gd := hJ.kp kr_t
  generalize hv1 : (up2 v 100 0 0) = v1 at hW hJ
  refine lv_aload_n hx hb dX7_build_5 rfl (lv_at hl 0 rfl) ?_
  refine lv_iload_n hx hb dX7_build_6 rfl (lv_at hl 1 rfl) ?_
  refine q_cViE (As := [.int (nI g)]) (rest := []) (r := 100) hx hb hml hts hown hE h0 hW hS (c_X7_isGrower l hJ hO1 (nI g)) mw_X7_isGrower hJ.q.m0 rfl k_8 t_973 ⟨Nat.le_of_ble_eq_true rfl, Nat.le_of_ble_eq_true rfl⟩ rfl hl.1 (Nat.le_of_ble_eq_true rfl) dX7_build_7 ⟨Nat.zero_le _, Nat.zero_le _⟩ ⟨rfl, rfl⟩ (fun H locs hW hS => ?_)
  refine lv_if_ne (tgt := 19) hx hb dX7_build_10 (by decide) (fun c_10 => ?_) (fun c_10 => ?_)
  · skip
    refine lv_iload hx hb dX7_build_19 (lv_at hl 4 rfl) ?_
    refine lv_iconst (v := 1) hx hb dX7_build_21 (by decide) ?_
    refine lv_bipush (v := 6) hx hb dX7_build_22 (by decide) ?_
    refine q_cSiE (As := [.int c0, .int 1, .int 6]) (rest := []) hx hb hml hts hown hE h0 hW hS (c_X7_isIn l c0 1 6) mw_X7_isIn t_962 ⟨Nat.le_of_ble_eq_true rfl, Nat.le_of_ble_eq_true rfl⟩ rfl hl.1 (Nat.le_of_ble_eq_true rfl) dX7_build_24 ⟨Nat.zero_le _, Nat.zero_le _⟩ ⟨rfl, rfl⟩ (fun H locs hW hS => ?_)
    refine lv_if_eq (tgt := 90) hx hb dX7_build_27 (by decide) (fun c_27 => ?_) (fun c_27 => ?_)
    · skip
      refine lv_aload_n hx hb dX7_build_90 rfl (lv_at hl 0 rfl) ?_
      refine lv_iconst (v := 2) hx hb dX7_build_91 (by decide) ?_
      refine q_cViE (As := [.int 2]) (rest := []) (r := 100) hx hb hml hts hown hE h0 hW hS (c_X7_no l hJ.q.m0 2) mw_X7_no hJ.q.m0 rfl k_8 t_965 ⟨Nat.le_of_ble_eq_true rfl, Nat.le_of_ble_eq_true rfl⟩ rfl hl.1 (Nat.le_of_ble_eq_true rfl) dX7_build_92 ⟨Nat.zero_le _, Nat.zero_le _⟩ ⟨rfl, rfl⟩ (fun H locs hW hS => ?_)
      have hJ : PJ L ad (up2 v1 100 0 2) o 101 110 ng nh nl ns ow gx gy gw gd := hJ.kp kr_t
      generalize hv2 : (up2 v1 100 0 2) = v2 at hW hJ
      subst hv2
      subst hv1
      exact q_iret hx hb hr hlocks hW hS (Nat.le_refl _) (Nat.le_refl _) dX7_build_95 (⟨rfl, rfl⟩)
    · skip
      exact absurd k1 c_27
  · skip
    exact absurd (hck.symm.trans c_10) (by decide)

set_option maxHeartbeats 4000000 in
set_option maxRecDepth 100000 in
theorem c_X7_build_2b (l : Launch) {G : GG} {L : List Nat} {ad : Nat → Nat} {v : Nat → Nat → Int32} {o : Nat → Nat → Option Nat} {w : Nat → Int64} {ng nh nl ns : Nat} {ow gx gy gw gd : Nat → Nat} (hJ : PJ L ad v o 101 110 ng nh nl ns ow gx gy gw gd) (hO1 : o 100 1 = some (ad 101)) {g : Nat} (hg : g < ng) {a b c0 d e0 f : Int32} (k1 : fIn c0 1 6 = 1) (k2 : fIn d 1 6 = 0) : CtI l G L ad v o w yX7_build cX7_build 10 .int ({ frames := 2, cells := 0, slots := 0, locals := 43 }) [.ref (ad 100), .int (nI g), .int a, .int b, .int c0, .int d, .int e0, .int f] (fun r u => r = 0 ∧ u = up2 (tz v) 100 0 2) := by
  have hsb := hJ.q.sb; have hbd := hJ.bd; have hck := fIn_nat hg (by omega)
  refine q_ofI (by decide) (Nat.le_of_ble_eq_true rfl) ?_
  intro p e s m below meth c hx hb hr hml hts hown hlocks hE h0 hW hS ls hl
  generalize hH : s.heap = H at hW
  have hS : va_S (Ab G.2.2.1) s.heap H [] := hH ▸ hS
  obtain ⟨locs, hlc⟩ : ∃ z : List Loc, z = [] := ⟨_, rfl⟩
  rw [← hlc] at hS ⊢
  have hl : lv_has ls 10 [(0, .ref (ad 100)), (1, .int (nI g)), (2, .int a), (3, .int b), (4, .int c0), (5, .int d), (6, .int e0), (7, .int f)] := hl
  refine lv_aload_n hx hb dX7_build_0 rfl (lv_at hl 0 rfl) ?_
  refine lv_iconst (v := 0) hx hb dX7_build_1 (by decide) ?_
  refine q_put hx hb hts hown hW hS (r := 100) hJ.q.m0 rfl k_8 0 (by decide) rfl t_943 rfl (t := .int) (by decide +kernel) rfl rfl dX7_build_2 (fun H locs hW hS => ?_)
  have hJ : PJ L ad (up2 v 100 0 0) o 101 110 ng nh nl ns ow gx gy gw gd := hJ.kp kr_t
  generalize hv1 : (up2 v 100 0 0) = v1 at hW hJ
  refine lv_aload_n hx hb dX7_build_5 rfl (lv_at hl 0 rfl) ?_
  refine lv_iload_n hx hb dX7_build_6 rfl (lv_at hl 1 rfl) ?_
  refine q_cViE (As := [.int (nI g)]) (rest := []) (r := 100) hx hb hml hts hown hE h0 hW hS (c_X7_isGrower l hJ hO1 (nI g)) mw_X7_isGrower hJ.q.m0 rfl k_8 t_973 ⟨Nat.le_of_ble_eq_true rfl, Nat.le_of_ble_eq_true rfl⟩ rfl hl.1 (Nat.le_of_ble_eq_true rfl) dX7_build_7 ⟨Nat.zero_le _, Nat.zero_le _⟩ ⟨rfl, rfl⟩ (fun H locs hW hS => ?_)
  refine lv_if_ne (tgt := 19) hx hb dX7_build_10 (by decide) (fun c_10 => ?_) (fun c_10 => ?_)
  · skip
    refine lv_iload hx hb dX7_build_19 (lv_at hl 4 rfl) ?_
    refine lv_iconst (v := 1) hx hb dX7_build_21 (by decide) ?_
    refine lv_bipush (v := 6) hx hb dX7_build_22 (by decide) ?_
    refine q_cSiE (As := [.int c0, .int 1, .int 6]) (rest := []) hx hb hml hts hown hE h0 hW hS (c_X7_isIn l c0 1 6) mw_X7_isIn t_962 ⟨Nat.le_of_ble_eq_true rfl, Nat.le_of_ble_eq_true rfl⟩ rfl hl.1 (Nat.le_of_ble_eq_true rfl) dX7_build_24 ⟨Nat.zero_le _, Nat.zero_le _⟩ ⟨rfl, rfl⟩ (fun H locs hW hS => ?_)
    refine lv_if_eq (tgt := 90) hx hb dX7_build_27 (by decide) (fun c_27 => ?_) (fun c_27 => ?_)
    · skip
      exact absurd (k1.symm.trans c_27) (by decide)
    · skip
      refine lv_iload hx hb dX7_build_30 (lv_at hl 5 rfl) ?_
      refine lv_iconst (v := 1) hx hb dX7_build_32 (by decide) ?_
      refine lv_bipush (v := 6) hx hb dX7_build_33 (by decide) ?_
      refine q_cSiE (As := [.int d, .int 1, .int 6]) (rest := []) hx hb hml hts hown hE h0 hW hS (c_X7_isIn l d 1 6) mw_X7_isIn t_962 ⟨Nat.le_of_ble_eq_true rfl, Nat.le_of_ble_eq_true rfl⟩ rfl hl.1 (Nat.le_of_ble_eq_true rfl) dX7_build_35 ⟨Nat.zero_le _, Nat.zero_le _⟩ ⟨rfl, rfl⟩ (fun H locs hW hS => ?_)
      refine lv_if_eq (tgt := 90) hx hb dX7_build_38 (by decide) (fun c_38 => ?_) (fun c_38 => ?_)
      · skip
        refine lv_aload_n hx hb dX7_build_90 rfl (lv_at hl 0 rfl) ?_
        refine lv_iconst (v := 2) hx hb dX7_build_91 (by decide) ?_
        refine q_cViE (As := [.int 2]) (rest := []) (r := 100) hx hb hml hts hown hE h0 hW hS (c_X7_no l hJ.q.m0 2) mw_X7_no hJ.q.m0 rfl k_8 t_965 ⟨Nat.le_of_ble_eq_true rfl, Nat.le_of_ble_eq_true rfl⟩ rfl hl.1 (Nat.le_of_ble_eq_true rfl) dX7_build_92 ⟨Nat.zero_le _, Nat.zero_le _⟩ ⟨rfl, rfl⟩ (fun H locs hW hS => ?_)
        have hJ : PJ L ad (up2 v1 100 0 2) o 101 110 ng nh nl ns ow gx gy gw gd := hJ.kp kr_t
        generalize hv2 : (up2 v1 100 0 2) = v2 at hW hJ
        subst hv2
        subst hv1
        exact q_iret hx hb hr hlocks hW hS (Nat.le_refl _) (Nat.le_refl _) dX7_build_95 (⟨rfl, rfl⟩)
      · skip
        exact absurd k2 c_38
  · skip
    exact absurd (hck.symm.trans c_10) (by decide)

set_option maxHeartbeats 4000000 in
set_option maxRecDepth 100000 in
theorem c_X7_build_2c (l : Launch) {G : GG} {L : List Nat} {ad : Nat → Nat} {v : Nat → Nat → Int32} {o : Nat → Nat → Option Nat} {w : Nat → Int64} {ng nh nl ns : Nat} {ow gx gy gw gd : Nat → Nat} (hJ : PJ L ad v o 101 110 ng nh nl ns ow gx gy gw gd) (hO1 : o 100 1 = some (ad 101)) {g : Nat} (hg : g < ng) {a b c0 d e0 f : Int32} (k1 : fIn c0 1 6 = 1) (k2 : fIn d 1 6 = 1) (k3 : fIn a 0 (20 - c0) = 0) : CtI l G L ad v o w yX7_build cX7_build 10 .int ({ frames := 2, cells := 0, slots := 0, locals := 43 }) [.ref (ad 100), .int (nI g), .int a, .int b, .int c0, .int d, .int e0, .int f] (fun r u => r = 0 ∧ u = up2 (tz v) 100 0 2) := by
  have hsb := hJ.q.sb; have hbd := hJ.bd; have hck := fIn_nat hg (by omega)
  refine q_ofI (by decide) (Nat.le_of_ble_eq_true rfl) ?_
  intro p e s m below meth c hx hb hr hml hts hown hlocks hE h0 hW hS ls hl
  generalize hH : s.heap = H at hW
  have hS : va_S (Ab G.2.2.1) s.heap H [] := hH ▸ hS
  obtain ⟨locs, hlc⟩ : ∃ z : List Loc, z = [] := ⟨_, rfl⟩
  rw [← hlc] at hS ⊢
  have hl : lv_has ls 10 [(0, .ref (ad 100)), (1, .int (nI g)), (2, .int a), (3, .int b), (4, .int c0), (5, .int d), (6, .int e0), (7, .int f)] := hl
  refine lv_aload_n hx hb dX7_build_0 rfl (lv_at hl 0 rfl) ?_
  refine lv_iconst (v := 0) hx hb dX7_build_1 (by decide) ?_
  refine q_put hx hb hts hown hW hS (r := 100) hJ.q.m0 rfl k_8 0 (by decide) rfl t_943 rfl (t := .int) (by decide +kernel) rfl rfl dX7_build_2 (fun H locs hW hS => ?_)
  have hJ : PJ L ad (up2 v 100 0 0) o 101 110 ng nh nl ns ow gx gy gw gd := hJ.kp kr_t
  generalize hv1 : (up2 v 100 0 0) = v1 at hW hJ
  refine lv_aload_n hx hb dX7_build_5 rfl (lv_at hl 0 rfl) ?_
  refine lv_iload_n hx hb dX7_build_6 rfl (lv_at hl 1 rfl) ?_
  refine q_cViE (As := [.int (nI g)]) (rest := []) (r := 100) hx hb hml hts hown hE h0 hW hS (c_X7_isGrower l hJ hO1 (nI g)) mw_X7_isGrower hJ.q.m0 rfl k_8 t_973 ⟨Nat.le_of_ble_eq_true rfl, Nat.le_of_ble_eq_true rfl⟩ rfl hl.1 (Nat.le_of_ble_eq_true rfl) dX7_build_7 ⟨Nat.zero_le _, Nat.zero_le _⟩ ⟨rfl, rfl⟩ (fun H locs hW hS => ?_)
  refine lv_if_ne (tgt := 19) hx hb dX7_build_10 (by decide) (fun c_10 => ?_) (fun c_10 => ?_)
  · skip
    refine lv_iload hx hb dX7_build_19 (lv_at hl 4 rfl) ?_
    refine lv_iconst (v := 1) hx hb dX7_build_21 (by decide) ?_
    refine lv_bipush (v := 6) hx hb dX7_build_22 (by decide) ?_
    refine q_cSiE (As := [.int c0, .int 1, .int 6]) (rest := []) hx hb hml hts hown hE h0 hW hS (c_X7_isIn l c0 1 6) mw_X7_isIn t_962 ⟨Nat.le_of_ble_eq_true rfl, Nat.le_of_ble_eq_true rfl⟩ rfl hl.1 (Nat.le_of_ble_eq_true rfl) dX7_build_24 ⟨Nat.zero_le _, Nat.zero_le _⟩ ⟨rfl, rfl⟩ (fun H locs hW hS => ?_)
    refine lv_if_eq (tgt := 90) hx hb dX7_build_27 (by decide) (fun c_27 => ?_) (fun c_27 => ?_)
    · skip
      exact absurd (k1.symm.trans c_27) (by decide)
    · skip
      refine lv_iload hx hb dX7_build_30 (lv_at hl 5 rfl) ?_
      refine lv_iconst (v := 1) hx hb dX7_build_32 (by decide) ?_
      refine lv_bipush (v := 6) hx hb dX7_build_33 (by decide) ?_
      refine q_cSiE (As := [.int d, .int 1, .int 6]) (rest := []) hx hb hml hts hown hE h0 hW hS (c_X7_isIn l d 1 6) mw_X7_isIn t_962 ⟨Nat.le_of_ble_eq_true rfl, Nat.le_of_ble_eq_true rfl⟩ rfl hl.1 (Nat.le_of_ble_eq_true rfl) dX7_build_35 ⟨Nat.zero_le _, Nat.zero_le _⟩ ⟨rfl, rfl⟩ (fun H locs hW hS => ?_)
      refine lv_if_eq (tgt := 90) hx hb dX7_build_38 (by decide) (fun c_38 => ?_) (fun c_38 => ?_)
      · skip
        exact absurd (k2.symm.trans c_38) (by decide)
      · skip
        refine lv_iload_n hx hb dX7_build_41 rfl (lv_at hl 2 rfl) ?_
        refine lv_iconst (v := 0) hx hb dX7_build_42 (by decide) ?_
        refine lv_bipush (v := 20) hx hb dX7_build_43 (by decide) ?_
        refine lv_iload hx hb dX7_build_45 (lv_at hl 4 rfl) ?_
        refine lv_isub hx hb dX7_build_47 ?_
        refine q_cSiE (As := [.int a, .int 0, .int (20 - c0)]) (rest := []) hx hb hml hts hown hE h0 hW hS (c_X7_isIn l a 0 (20 - c0)) mw_X7_isIn t_962 ⟨Nat.le_of_ble_eq_true rfl, Nat.le_of_ble_eq_true rfl⟩ rfl hl.1 (Nat.le_of_ble_eq_true rfl) dX7_build_48 ⟨Nat.zero_le _, Nat.zero_le _⟩ ⟨rfl, rfl⟩ (fun H locs hW hS => ?_)
        refine lv_if_eq (tgt := 90) hx hb dX7_build_51 (by decide) (fun c_51 => ?_) (fun c_51 => ?_)
        · skip
          refine lv_aload_n hx hb dX7_build_90 rfl (lv_at hl 0 rfl) ?_
          refine lv_iconst (v := 2) hx hb dX7_build_91 (by decide) ?_
          refine q_cViE (As := [.int 2]) (rest := []) (r := 100) hx hb hml hts hown hE h0 hW hS (c_X7_no l hJ.q.m0 2) mw_X7_no hJ.q.m0 rfl k_8 t_965 ⟨Nat.le_of_ble_eq_true rfl, Nat.le_of_ble_eq_true rfl⟩ rfl hl.1 (Nat.le_of_ble_eq_true rfl) dX7_build_92 ⟨Nat.zero_le _, Nat.zero_le _⟩ ⟨rfl, rfl⟩ (fun H locs hW hS => ?_)
          have hJ : PJ L ad (up2 v1 100 0 2) o 101 110 ng nh nl ns ow gx gy gw gd := hJ.kp kr_t
          generalize hv2 : (up2 v1 100 0 2) = v2 at hW hJ
          subst hv2
          subst hv1
          exact q_iret hx hb hr hlocks hW hS (Nat.le_refl _) (Nat.le_refl _) dX7_build_95 (⟨rfl, rfl⟩)
        · skip
          exact absurd k3 c_51
  · skip
    exact absurd (hck.symm.trans c_10) (by decide)

set_option maxHeartbeats 4000000 in
set_option maxRecDepth 100000 in
theorem c_X7_build_2d (l : Launch) {G : GG} {L : List Nat} {ad : Nat → Nat} {v : Nat → Nat → Int32} {o : Nat → Nat → Option Nat} {w : Nat → Int64} {ng nh nl ns : Nat} {ow gx gy gw gd : Nat → Nat} (hJ : PJ L ad v o 101 110 ng nh nl ns ow gx gy gw gd) (hO1 : o 100 1 = some (ad 101)) {g : Nat} (hg : g < ng) {a b c0 d e0 f : Int32} (k1 : fIn c0 1 6 = 1) (k2 : fIn d 1 6 = 1) (k3 : fIn a 0 (20 - c0) = 1) (k4 : fIn b 0 (20 - d) = 0) : CtI l G L ad v o w yX7_build cX7_build 10 .int ({ frames := 2, cells := 0, slots := 0, locals := 43 }) [.ref (ad 100), .int (nI g), .int a, .int b, .int c0, .int d, .int e0, .int f] (fun r u => r = 0 ∧ u = up2 (tz v) 100 0 2) := by
  have hsb := hJ.q.sb; have hbd := hJ.bd; have hck := fIn_nat hg (by omega)
  refine q_ofI (by decide) (Nat.le_of_ble_eq_true rfl) ?_
  intro p e s m below meth c hx hb hr hml hts hown hlocks hE h0 hW hS ls hl
  generalize hH : s.heap = H at hW
  have hS : va_S (Ab G.2.2.1) s.heap H [] := hH ▸ hS
  obtain ⟨locs, hlc⟩ : ∃ z : List Loc, z = [] := ⟨_, rfl⟩
  rw [← hlc] at hS ⊢
  have hl : lv_has ls 10 [(0, .ref (ad 100)), (1, .int (nI g)), (2, .int a), (3, .int b), (4, .int c0), (5, .int d), (6, .int e0), (7, .int f)] := hl
  refine lv_aload_n hx hb dX7_build_0 rfl (lv_at hl 0 rfl) ?_
  refine lv_iconst (v := 0) hx hb dX7_build_1 (by decide) ?_
  refine q_put hx hb hts hown hW hS (r := 100) hJ.q.m0 rfl k_8 0 (by decide) rfl t_943 rfl (t := .int) (by decide +kernel) rfl rfl dX7_build_2 (fun H locs hW hS => ?_)
  have hJ : PJ L ad (up2 v 100 0 0) o 101 110 ng nh nl ns ow gx gy gw gd := hJ.kp kr_t
  generalize hv1 : (up2 v 100 0 0) = v1 at hW hJ
  refine lv_aload_n hx hb dX7_build_5 rfl (lv_at hl 0 rfl) ?_
  refine lv_iload_n hx hb dX7_build_6 rfl (lv_at hl 1 rfl) ?_
  refine q_cViE (As := [.int (nI g)]) (rest := []) (r := 100) hx hb hml hts hown hE h0 hW hS (c_X7_isGrower l hJ hO1 (nI g)) mw_X7_isGrower hJ.q.m0 rfl k_8 t_973 ⟨Nat.le_of_ble_eq_true rfl, Nat.le_of_ble_eq_true rfl⟩ rfl hl.1 (Nat.le_of_ble_eq_true rfl) dX7_build_7 ⟨Nat.zero_le _, Nat.zero_le _⟩ ⟨rfl, rfl⟩ (fun H locs hW hS => ?_)
  refine lv_if_ne (tgt := 19) hx hb dX7_build_10 (by decide) (fun c_10 => ?_) (fun c_10 => ?_)
  · skip
    refine lv_iload hx hb dX7_build_19 (lv_at hl 4 rfl) ?_
    refine lv_iconst (v := 1) hx hb dX7_build_21 (by decide) ?_
    refine lv_bipush (v := 6) hx hb dX7_build_22 (by decide) ?_
    refine q_cSiE (As := [.int c0, .int 1, .int 6]) (rest := []) hx hb hml hts hown hE h0 hW hS (c_X7_isIn l c0 1 6) mw_X7_isIn t_962 ⟨Nat.le_of_ble_eq_true rfl, Nat.le_of_ble_eq_true rfl⟩ rfl hl.1 (Nat.le_of_ble_eq_true rfl) dX7_build_24 ⟨Nat.zero_le _, Nat.zero_le _⟩ ⟨rfl, rfl⟩ (fun H locs hW hS => ?_)
    refine lv_if_eq (tgt := 90) hx hb dX7_build_27 (by decide) (fun c_27 => ?_) (fun c_27 => ?_)
    · skip
      exact absurd (k1.symm.trans c_27) (by decide)
    · skip
      refine lv_iload hx hb dX7_build_30 (lv_at hl 5 rfl) ?_
      refine lv_iconst (v := 1) hx hb dX7_build_32 (by decide) ?_
      refine lv_bipush (v := 6) hx hb dX7_build_33 (by decide) ?_
      refine q_cSiE (As := [.int d, .int 1, .int 6]) (rest := []) hx hb hml hts hown hE h0 hW hS (c_X7_isIn l d 1 6) mw_X7_isIn t_962 ⟨Nat.le_of_ble_eq_true rfl, Nat.le_of_ble_eq_true rfl⟩ rfl hl.1 (Nat.le_of_ble_eq_true rfl) dX7_build_35 ⟨Nat.zero_le _, Nat.zero_le _⟩ ⟨rfl, rfl⟩ (fun H locs hW hS => ?_)
      refine lv_if_eq (tgt := 90) hx hb dX7_build_38 (by decide) (fun c_38 => ?_) (fun c_38 => ?_)
      · skip
        exact absurd (k2.symm.trans c_38) (by decide)
      · skip
        refine lv_iload_n hx hb dX7_build_41 rfl (lv_at hl 2 rfl) ?_
        refine lv_iconst (v := 0) hx hb dX7_build_42 (by decide) ?_
        refine lv_bipush (v := 20) hx hb dX7_build_43 (by decide) ?_
        refine lv_iload hx hb dX7_build_45 (lv_at hl 4 rfl) ?_
        refine lv_isub hx hb dX7_build_47 ?_
        refine q_cSiE (As := [.int a, .int 0, .int (20 - c0)]) (rest := []) hx hb hml hts hown hE h0 hW hS (c_X7_isIn l a 0 (20 - c0)) mw_X7_isIn t_962 ⟨Nat.le_of_ble_eq_true rfl, Nat.le_of_ble_eq_true rfl⟩ rfl hl.1 (Nat.le_of_ble_eq_true rfl) dX7_build_48 ⟨Nat.zero_le _, Nat.zero_le _⟩ ⟨rfl, rfl⟩ (fun H locs hW hS => ?_)
        refine lv_if_eq (tgt := 90) hx hb dX7_build_51 (by decide) (fun c_51 => ?_) (fun c_51 => ?_)
        · skip
          exact absurd (k3.symm.trans c_51) (by decide)
        · skip
          refine lv_iload_n hx hb dX7_build_54 rfl (lv_at hl 3 rfl) ?_
          refine lv_iconst (v := 0) hx hb dX7_build_55 (by decide) ?_
          refine lv_bipush (v := 20) hx hb dX7_build_56 (by decide) ?_
          refine lv_iload hx hb dX7_build_58 (lv_at hl 5 rfl) ?_
          refine lv_isub hx hb dX7_build_60 ?_
          refine q_cSiE (As := [.int b, .int 0, .int (20 - d)]) (rest := []) hx hb hml hts hown hE h0 hW hS (c_X7_isIn l b 0 (20 - d)) mw_X7_isIn t_962 ⟨Nat.le_of_ble_eq_true rfl, Nat.le_of_ble_eq_true rfl⟩ rfl hl.1 (Nat.le_of_ble_eq_true rfl) dX7_build_61 ⟨Nat.zero_le _, Nat.zero_le _⟩ ⟨rfl, rfl⟩ (fun H locs hW hS => ?_)
          refine lv_if_eq (tgt := 90) hx hb dX7_build_64 (by decide) (fun c_64 => ?_) (fun c_64 => ?_)
          · skip
            refine lv_aload_n hx hb dX7_build_90 rfl (lv_at hl 0 rfl) ?_
            refine lv_iconst (v := 2) hx hb dX7_build_91 (by decide) ?_
            refine q_cViE (As := [.int 2]) (rest := []) (r := 100) hx hb hml hts hown hE h0 hW hS (c_X7_no l hJ.q.m0 2) mw_X7_no hJ.q.m0 rfl k_8 t_965 ⟨Nat.le_of_ble_eq_true rfl, Nat.le_of_ble_eq_true rfl⟩ rfl hl.1 (Nat.le_of_ble_eq_true rfl) dX7_build_92 ⟨Nat.zero_le _, Nat.zero_le _⟩ ⟨rfl, rfl⟩ (fun H locs hW hS => ?_)
            have hJ : PJ L ad (up2 v1 100 0 2) o 101 110 ng nh nl ns ow gx gy gw gd := hJ.kp kr_t
            generalize hv2 : (up2 v1 100 0 2) = v2 at hW hJ
            subst hv2
            subst hv1
            exact q_iret hx hb hr hlocks hW hS (Nat.le_refl _) (Nat.le_refl _) dX7_build_95 (⟨rfl, rfl⟩)
          · skip
            exact absurd k4 c_64
  · skip
    exact absurd (hck.symm.trans c_10) (by decide)

set_option maxHeartbeats 4000000 in
set_option maxRecDepth 100000 in
theorem c_X7_build_2e (l : Launch) {G : GG} {L : List Nat} {ad : Nat → Nat} {v : Nat → Nat → Int32} {o : Nat → Nat → Option Nat} {w : Nat → Int64} {ng nh nl ns : Nat} {ow gx gy gw gd : Nat → Nat} (hJ : PJ L ad v o 101 110 ng nh nl ns ow gx gy gw gd) (hO1 : o 100 1 = some (ad 101)) {g : Nat} (hg : g < ng) {a b c0 d e0 f : Int32} (k1 : fIn c0 1 6 = 1) (k2 : fIn d 1 6 = 1) (k3 : fIn a 0 (20 - c0) = 1) (k4 : fIn b 0 (20 - d) = 1) (k5 : fIn e0 1 9 = 0) : CtI l G L ad v o w yX7_build cX7_build 10 .int ({ frames := 2, cells := 0, slots := 0, locals := 43 }) [.ref (ad 100), .int (nI g), .int a, .int b, .int c0, .int d, .int e0, .int f] (fun r u => r = 0 ∧ u = up2 (tz v) 100 0 2) := by
  have hsb := hJ.q.sb; have hbd := hJ.bd; have hck := fIn_nat hg (by omega)
  refine q_ofI (by decide) (Nat.le_of_ble_eq_true rfl) ?_
  intro p e s m below meth c hx hb hr hml hts hown hlocks hE h0 hW hS ls hl
  generalize hH : s.heap = H at hW
  have hS : va_S (Ab G.2.2.1) s.heap H [] := hH ▸ hS
  obtain ⟨locs, hlc⟩ : ∃ z : List Loc, z = [] := ⟨_, rfl⟩
  rw [← hlc] at hS ⊢
  have hl : lv_has ls 10 [(0, .ref (ad 100)), (1, .int (nI g)), (2, .int a), (3, .int b), (4, .int c0), (5, .int d), (6, .int e0), (7, .int f)] := hl
  refine lv_aload_n hx hb dX7_build_0 rfl (lv_at hl 0 rfl) ?_
  refine lv_iconst (v := 0) hx hb dX7_build_1 (by decide) ?_
  refine q_put hx hb hts hown hW hS (r := 100) hJ.q.m0 rfl k_8 0 (by decide) rfl t_943 rfl (t := .int) (by decide +kernel) rfl rfl dX7_build_2 (fun H locs hW hS => ?_)
  have hJ : PJ L ad (up2 v 100 0 0) o 101 110 ng nh nl ns ow gx gy gw gd := hJ.kp kr_t
  generalize hv1 : (up2 v 100 0 0) = v1 at hW hJ
  refine lv_aload_n hx hb dX7_build_5 rfl (lv_at hl 0 rfl) ?_
  refine lv_iload_n hx hb dX7_build_6 rfl (lv_at hl 1 rfl) ?_
  refine q_cViE (As := [.int (nI g)]) (rest := []) (r := 100) hx hb hml hts hown hE h0 hW hS (c_X7_isGrower l hJ hO1 (nI g)) mw_X7_isGrower hJ.q.m0 rfl k_8 t_973 ⟨Nat.le_of_ble_eq_true rfl, Nat.le_of_ble_eq_true rfl⟩ rfl hl.1 (Nat.le_of_ble_eq_true rfl) dX7_build_7 ⟨Nat.zero_le _, Nat.zero_le _⟩ ⟨rfl, rfl⟩ (fun H locs hW hS => ?_)
  refine lv_if_ne (tgt := 19) hx hb dX7_build_10 (by decide) (fun c_10 => ?_) (fun c_10 => ?_)
  · skip
    refine lv_iload hx hb dX7_build_19 (lv_at hl 4 rfl) ?_
    refine lv_iconst (v := 1) hx hb dX7_build_21 (by decide) ?_
    refine lv_bipush (v := 6) hx hb dX7_build_22 (by decide) ?_
    refine q_cSiE (As := [.int c0, .int 1, .int 6]) (rest := []) hx hb hml hts hown hE h0 hW hS (c_X7_isIn l c0 1 6) mw_X7_isIn t_962 ⟨Nat.le_of_ble_eq_true rfl, Nat.le_of_ble_eq_true rfl⟩ rfl hl.1 (Nat.le_of_ble_eq_true rfl) dX7_build_24 ⟨Nat.zero_le _, Nat.zero_le _⟩ ⟨rfl, rfl⟩ (fun H locs hW hS => ?_)
    refine lv_if_eq (tgt := 90) hx hb dX7_build_27 (by decide) (fun c_27 => ?_) (fun c_27 => ?_)
    · skip
      exact absurd (k1.symm.trans c_27) (by decide)
    · skip
      refine lv_iload hx hb dX7_build_30 (lv_at hl 5 rfl) ?_
      refine lv_iconst (v := 1) hx hb dX7_build_32 (by decide) ?_
      refine lv_bipush (v := 6) hx hb dX7_build_33 (by decide) ?_
      refine q_cSiE (As := [.int d, .int 1, .int 6]) (rest := []) hx hb hml hts hown hE h0 hW hS (c_X7_isIn l d 1 6) mw_X7_isIn t_962 ⟨Nat.le_of_ble_eq_true rfl, Nat.le_of_ble_eq_true rfl⟩ rfl hl.1 (Nat.le_of_ble_eq_true rfl) dX7_build_35 ⟨Nat.zero_le _, Nat.zero_le _⟩ ⟨rfl, rfl⟩ (fun H locs hW hS => ?_)
      refine lv_if_eq (tgt := 90) hx hb dX7_build_38 (by decide) (fun c_38 => ?_) (fun c_38 => ?_)
      · skip
        exact absurd (k2.symm.trans c_38) (by decide)
      · skip
        refine lv_iload_n hx hb dX7_build_41 rfl (lv_at hl 2 rfl) ?_
        refine lv_iconst (v := 0) hx hb dX7_build_42 (by decide) ?_
        refine lv_bipush (v := 20) hx hb dX7_build_43 (by decide) ?_
        refine lv_iload hx hb dX7_build_45 (lv_at hl 4 rfl) ?_
        refine lv_isub hx hb dX7_build_47 ?_
        refine q_cSiE (As := [.int a, .int 0, .int (20 - c0)]) (rest := []) hx hb hml hts hown hE h0 hW hS (c_X7_isIn l a 0 (20 - c0)) mw_X7_isIn t_962 ⟨Nat.le_of_ble_eq_true rfl, Nat.le_of_ble_eq_true rfl⟩ rfl hl.1 (Nat.le_of_ble_eq_true rfl) dX7_build_48 ⟨Nat.zero_le _, Nat.zero_le _⟩ ⟨rfl, rfl⟩ (fun H locs hW hS => ?_)
        refine lv_if_eq (tgt := 90) hx hb dX7_build_51 (by decide) (fun c_51 => ?_) (fun c_51 => ?_)
        · skip
          exact absurd (k3.symm.trans c_51) (by decide)
        · skip
          refine lv_iload_n hx hb dX7_build_54 rfl (lv_at hl 3 rfl) ?_
          refine lv_iconst (v := 0) hx hb dX7_build_55 (by decide) ?_
          refine lv_bipush (v := 20) hx hb dX7_build_56 (by decide) ?_
          refine lv_iload hx hb dX7_build_58 (lv_at hl 5 rfl) ?_
          refine lv_isub hx hb dX7_build_60 ?_
          refine q_cSiE (As := [.int b, .int 0, .int (20 - d)]) (rest := []) hx hb hml hts hown hE h0 hW hS (c_X7_isIn l b 0 (20 - d)) mw_X7_isIn t_962 ⟨Nat.le_of_ble_eq_true rfl, Nat.le_of_ble_eq_true rfl⟩ rfl hl.1 (Nat.le_of_ble_eq_true rfl) dX7_build_61 ⟨Nat.zero_le _, Nat.zero_le _⟩ ⟨rfl, rfl⟩ (fun H locs hW hS => ?_)
          refine lv_if_eq (tgt := 90) hx hb dX7_build_64 (by decide) (fun c_64 => ?_) (fun c_64 => ?_)
          · skip
            exact absurd (k4.symm.trans c_64) (by decide)
          · skip
            refine lv_iload hx hb dX7_build_67 (lv_at hl 6 rfl) ?_
            refine lv_iconst (v := 1) hx hb dX7_build_69 (by decide) ?_
            refine lv_bipush (v := 9) hx hb dX7_build_70 (by decide) ?_
            refine q_cSiE (As := [.int e0, .int 1, .int 9]) (rest := []) hx hb hml hts hown hE h0 hW hS (c_X7_isIn l e0 1 9) mw_X7_isIn t_962 ⟨Nat.le_of_ble_eq_true rfl, Nat.le_of_ble_eq_true rfl⟩ rfl hl.1 (Nat.le_of_ble_eq_true rfl) dX7_build_72 ⟨Nat.zero_le _, Nat.zero_le _⟩ ⟨rfl, rfl⟩ (fun H locs hW hS => ?_)
            refine lv_if_eq (tgt := 90) hx hb dX7_build_75 (by decide) (fun c_75 => ?_) (fun c_75 => ?_)
            · skip
              refine lv_aload_n hx hb dX7_build_90 rfl (lv_at hl 0 rfl) ?_
              refine lv_iconst (v := 2) hx hb dX7_build_91 (by decide) ?_
              refine q_cViE (As := [.int 2]) (rest := []) (r := 100) hx hb hml hts hown hE h0 hW hS (c_X7_no l hJ.q.m0 2) mw_X7_no hJ.q.m0 rfl k_8 t_965 ⟨Nat.le_of_ble_eq_true rfl, Nat.le_of_ble_eq_true rfl⟩ rfl hl.1 (Nat.le_of_ble_eq_true rfl) dX7_build_92 ⟨Nat.zero_le _, Nat.zero_le _⟩ ⟨rfl, rfl⟩ (fun H locs hW hS => ?_)
              have hJ : PJ L ad (up2 v1 100 0 2) o 101 110 ng nh nl ns ow gx gy gw gd := hJ.kp kr_t
              generalize hv2 : (up2 v1 100 0 2) = v2 at hW hJ
              subst hv2
              subst hv1
              exact q_iret hx hb hr hlocks hW hS (Nat.le_refl _) (Nat.le_refl _) dX7_build_95 (⟨rfl, rfl⟩)
            · skip
              exact absurd k5 c_75
  · skip
    exact absurd (hck.symm.trans c_10) (by decide)

set_option maxHeartbeats 4000000 in
set_option maxRecDepth 100000 in
theorem c_X7_build_2f (l : Launch) {G : GG} {L : List Nat} {ad : Nat → Nat} {v : Nat → Nat → Int32} {o : Nat → Nat → Option Nat} {w : Nat → Int64} {ng nh nl ns : Nat} {ow gx gy gw gd : Nat → Nat} (hJ : PJ L ad v o 101 110 ng nh nl ns ow gx gy gw gd) (hO1 : o 100 1 = some (ad 101)) {g : Nat} (hg : g < ng) {a b c0 d e0 f : Int32} (k1 : fIn c0 1 6 = 1) (k2 : fIn d 1 6 = 1) (k3 : fIn a 0 (20 - c0) = 1) (k4 : fIn b 0 (20 - d) = 1) (k5 : fIn e0 1 9 = 1) (k6 : fIn f 1 1000 = 0) : CtI l G L ad v o w yX7_build cX7_build 10 .int ({ frames := 2, cells := 0, slots := 0, locals := 43 }) [.ref (ad 100), .int (nI g), .int a, .int b, .int c0, .int d, .int e0, .int f] (fun r u => r = 0 ∧ u = up2 (tz v) 100 0 2) := by
  have hsb := hJ.q.sb; have hbd := hJ.bd; have hck := fIn_nat hg (by omega)
  refine q_ofI (by decide) (Nat.le_of_ble_eq_true rfl) ?_
  intro p e s m below meth c hx hb hr hml hts hown hlocks hE h0 hW hS ls hl
  generalize hH : s.heap = H at hW
  have hS : va_S (Ab G.2.2.1) s.heap H [] := hH ▸ hS
  obtain ⟨locs, hlc⟩ : ∃ z : List Loc, z = [] := ⟨_, rfl⟩
  rw [← hlc] at hS ⊢
  have hl : lv_has ls 10 [(0, .ref (ad 100)), (1, .int (nI g)), (2, .int a), (3, .int b), (4, .int c0), (5, .int d), (6, .int e0), (7, .int f)] := hl
  refine lv_aload_n hx hb dX7_build_0 rfl (lv_at hl 0 rfl) ?_
  refine lv_iconst (v := 0) hx hb dX7_build_1 (by decide) ?_
  refine q_put hx hb hts hown hW hS (r := 100) hJ.q.m0 rfl k_8 0 (by decide) rfl t_943 rfl (t := .int) (by decide +kernel) rfl rfl dX7_build_2 (fun H locs hW hS => ?_)
  have hJ : PJ L ad (up2 v 100 0 0) o 101 110 ng nh nl ns ow gx gy gw gd := hJ.kp kr_t
  generalize hv1 : (up2 v 100 0 0) = v1 at hW hJ
  refine lv_aload_n hx hb dX7_build_5 rfl (lv_at hl 0 rfl) ?_
  refine lv_iload_n hx hb dX7_build_6 rfl (lv_at hl 1 rfl) ?_
  refine q_cViE (As := [.int (nI g)]) (rest := []) (r := 100) hx hb hml hts hown hE h0 hW hS (c_X7_isGrower l hJ hO1 (nI g)) mw_X7_isGrower hJ.q.m0 rfl k_8 t_973 ⟨Nat.le_of_ble_eq_true rfl, Nat.le_of_ble_eq_true rfl⟩ rfl hl.1 (Nat.le_of_ble_eq_true rfl) dX7_build_7 ⟨Nat.zero_le _, Nat.zero_le _⟩ ⟨rfl, rfl⟩ (fun H locs hW hS => ?_)
  refine lv_if_ne (tgt := 19) hx hb dX7_build_10 (by decide) (fun c_10 => ?_) (fun c_10 => ?_)
  · skip
    refine lv_iload hx hb dX7_build_19 (lv_at hl 4 rfl) ?_
    refine lv_iconst (v := 1) hx hb dX7_build_21 (by decide) ?_
    refine lv_bipush (v := 6) hx hb dX7_build_22 (by decide) ?_
    refine q_cSiE (As := [.int c0, .int 1, .int 6]) (rest := []) hx hb hml hts hown hE h0 hW hS (c_X7_isIn l c0 1 6) mw_X7_isIn t_962 ⟨Nat.le_of_ble_eq_true rfl, Nat.le_of_ble_eq_true rfl⟩ rfl hl.1 (Nat.le_of_ble_eq_true rfl) dX7_build_24 ⟨Nat.zero_le _, Nat.zero_le _⟩ ⟨rfl, rfl⟩ (fun H locs hW hS => ?_)
    refine lv_if_eq (tgt := 90) hx hb dX7_build_27 (by decide) (fun c_27 => ?_) (fun c_27 => ?_)
    · skip
      exact absurd (k1.symm.trans c_27) (by decide)
    · skip
      refine lv_iload hx hb dX7_build_30 (lv_at hl 5 rfl) ?_
      refine lv_iconst (v := 1) hx hb dX7_build_32 (by decide) ?_
      refine lv_bipush (v := 6) hx hb dX7_build_33 (by decide) ?_
      refine q_cSiE (As := [.int d, .int 1, .int 6]) (rest := []) hx hb hml hts hown hE h0 hW hS (c_X7_isIn l d 1 6) mw_X7_isIn t_962 ⟨Nat.le_of_ble_eq_true rfl, Nat.le_of_ble_eq_true rfl⟩ rfl hl.1 (Nat.le_of_ble_eq_true rfl) dX7_build_35 ⟨Nat.zero_le _, Nat.zero_le _⟩ ⟨rfl, rfl⟩ (fun H locs hW hS => ?_)
      refine lv_if_eq (tgt := 90) hx hb dX7_build_38 (by decide) (fun c_38 => ?_) (fun c_38 => ?_)
      · skip
        exact absurd (k2.symm.trans c_38) (by decide)
      · skip
        refine lv_iload_n hx hb dX7_build_41 rfl (lv_at hl 2 rfl) ?_
        refine lv_iconst (v := 0) hx hb dX7_build_42 (by decide) ?_
        refine lv_bipush (v := 20) hx hb dX7_build_43 (by decide) ?_
        refine lv_iload hx hb dX7_build_45 (lv_at hl 4 rfl) ?_
        refine lv_isub hx hb dX7_build_47 ?_
        refine q_cSiE (As := [.int a, .int 0, .int (20 - c0)]) (rest := []) hx hb hml hts hown hE h0 hW hS (c_X7_isIn l a 0 (20 - c0)) mw_X7_isIn t_962 ⟨Nat.le_of_ble_eq_true rfl, Nat.le_of_ble_eq_true rfl⟩ rfl hl.1 (Nat.le_of_ble_eq_true rfl) dX7_build_48 ⟨Nat.zero_le _, Nat.zero_le _⟩ ⟨rfl, rfl⟩ (fun H locs hW hS => ?_)
        refine lv_if_eq (tgt := 90) hx hb dX7_build_51 (by decide) (fun c_51 => ?_) (fun c_51 => ?_)
        · skip
          exact absurd (k3.symm.trans c_51) (by decide)
        · skip
          refine lv_iload_n hx hb dX7_build_54 rfl (lv_at hl 3 rfl) ?_
          refine lv_iconst (v := 0) hx hb dX7_build_55 (by decide) ?_
          refine lv_bipush (v := 20) hx hb dX7_build_56 (by decide) ?_
          refine lv_iload hx hb dX7_build_58 (lv_at hl 5 rfl) ?_
          refine lv_isub hx hb dX7_build_60 ?_
          refine q_cSiE (As := [.int b, .int 0, .int (20 - d)]) (rest := []) hx hb hml hts hown hE h0 hW hS (c_X7_isIn l b 0 (20 - d)) mw_X7_isIn t_962 ⟨Nat.le_of_ble_eq_true rfl, Nat.le_of_ble_eq_true rfl⟩ rfl hl.1 (Nat.le_of_ble_eq_true rfl) dX7_build_61 ⟨Nat.zero_le _, Nat.zero_le _⟩ ⟨rfl, rfl⟩ (fun H locs hW hS => ?_)
          refine lv_if_eq (tgt := 90) hx hb dX7_build_64 (by decide) (fun c_64 => ?_) (fun c_64 => ?_)
          · skip
            exact absurd (k4.symm.trans c_64) (by decide)
          · skip
            refine lv_iload hx hb dX7_build_67 (lv_at hl 6 rfl) ?_
            refine lv_iconst (v := 1) hx hb dX7_build_69 (by decide) ?_
            refine lv_bipush (v := 9) hx hb dX7_build_70 (by decide) ?_
            refine q_cSiE (As := [.int e0, .int 1, .int 9]) (rest := []) hx hb hml hts hown hE h0 hW hS (c_X7_isIn l e0 1 9) mw_X7_isIn t_962 ⟨Nat.le_of_ble_eq_true rfl, Nat.le_of_ble_eq_true rfl⟩ rfl hl.1 (Nat.le_of_ble_eq_true rfl) dX7_build_72 ⟨Nat.zero_le _, Nat.zero_le _⟩ ⟨rfl, rfl⟩ (fun H locs hW hS => ?_)
            refine lv_if_eq (tgt := 90) hx hb dX7_build_75 (by decide) (fun c_75 => ?_) (fun c_75 => ?_)
            · skip
              exact absurd (k5.symm.trans c_75) (by decide)
            · skip
              refine lv_iload hx hb dX7_build_78 (lv_at hl 7 rfl) ?_
              refine lv_iconst (v := 1) hx hb dX7_build_80 (by decide) ?_
              refine lv_sipush (v := 1000) hx hb dX7_build_81 (by decide) ?_
              refine q_cSiE (As := [.int f, .int 1, .int 1000]) (rest := []) hx hb hml hts hown hE h0 hW hS (c_X7_isIn l f 1 1000) mw_X7_isIn t_962 ⟨Nat.le_of_ble_eq_true rfl, Nat.le_of_ble_eq_true rfl⟩ rfl hl.1 (Nat.le_of_ble_eq_true rfl) dX7_build_84 ⟨Nat.zero_le _, Nat.zero_le _⟩ ⟨rfl, rfl⟩ (fun H locs hW hS => ?_)
              refine lv_if_ne (tgt := 96) hx hb dX7_build_87 (by decide) (fun c_87 => ?_) (fun c_87 => ?_)
              · skip
                exact absurd k6 c_87
              · skip
                refine lv_aload_n hx hb dX7_build_90 rfl (lv_at hl 0 rfl) ?_
                refine lv_iconst (v := 2) hx hb dX7_build_91 (by decide) ?_
                refine q_cViE (As := [.int 2]) (rest := []) (r := 100) hx hb hml hts hown hE h0 hW hS (c_X7_no l hJ.q.m0 2) mw_X7_no hJ.q.m0 rfl k_8 t_965 ⟨Nat.le_of_ble_eq_true rfl, Nat.le_of_ble_eq_true rfl⟩ rfl hl.1 (Nat.le_of_ble_eq_true rfl) dX7_build_92 ⟨Nat.zero_le _, Nat.zero_le _⟩ ⟨rfl, rfl⟩ (fun H locs hW hS => ?_)
                have hJ : PJ L ad (up2 v1 100 0 2) o 101 110 ng nh nl ns ow gx gy gw gd := hJ.kp kr_t
                generalize hv2 : (up2 v1 100 0 2) = v2 at hW hJ
                subst hv2
                subst hv1
                exact q_iret hx hb hr hlocks hW hS (Nat.le_refl _) (Nat.le_refl _) dX7_build_95 (⟨rfl, rfl⟩)
  · skip
    exact absurd (hck.symm.trans c_10) (by decide)

set_option maxHeartbeats 4000000 in
set_option maxRecDepth 100000 in
theorem c_X7_build (l : Launch) {G : GG} {L : List Nat} {ad : Nat → Nat} {v : Nat → Nat → Int32} {o : Nat → Nat → Option Nat} {w : Nat → Int64} {ng nh nl ns : Nat} {ow gx gy gw gd : Nat → Nat} (hJ : PJ L ad v o 101 110 ng nh nl ns ow gx gy gw gd) (hO1 : o 100 1 = some (ad 101)) (hr9 : 181 ∉ L) {g : Nat} (hg : g < ng) {x y wd dp : Nat} {e0 f : Int32} (k1 : fIn (nI wd) 1 6 = 1) (k2 : fIn (nI dp) 1 6 = 1) (k3 : fIn (nI x) 0 (20 - nI wd) = 1) (k4 : fIn (nI y) 0 (20 - nI dp) = 1) (k5 : fIn e0 1 9 = 1) (k6 : fIn f 1 1000 = 1) (w1 : 1 ≤ wd) (w2 : wd ≤ 6) (d1 : 1 ≤ dp) (d2 : dp ≤ 6) (x2 : x ≤ 20) (y2 : y ≤ 20) (k7 : rFree gx gy gw gd nh x y wd dp = 1) (k8 : nh < 12) : CtI l G L ad v o w yX7_build cX7_build 10 .int ({ frames := 2, cells := 1, slots := 7, locals := 47 }) [.ref (ad 100), .int (nI g), .int (nI x), .int (nI y), .int (nI wd), .int (nI dp), .int e0, .int f] (fun r u => r = nI nh ∧ u = rBuild v nh (own7 (nI g) (nI x) (nI y) (nI wd) (nI dp) e0 f)) := by
  have hsb := hJ.q.sb; have hbd := hJ.bd; have hck := fIn_nat hg (by omega); have hwd : wd * dp ≤ 36 := sz36 w2 d2
  refine q_ofI (by decide) (Nat.le_of_ble_eq_true rfl) ?_
  intro p e s m below meth c hx hb hr hml hts hown hlocks hE h0 hW hS ls hl
  generalize hH : s.heap = H at hW
  have hS : va_S (Ab G.2.2.1) s.heap H [] := hH ▸ hS
  obtain ⟨locs, hlc⟩ : ∃ z : List Loc, z = [] := ⟨_, rfl⟩
  rw [← hlc] at hS ⊢
  have hl : lv_has ls 10 [(0, .ref (ad 100)), (1, .int (nI g)), (2, .int (nI x)), (3, .int (nI y)), (4, .int (nI wd)), (5, .int (nI dp)), (6, .int e0), (7, .int f)] := hl
  refine lv_aload_n hx hb dX7_build_0 rfl (lv_at hl 0 rfl) ?_
  refine lv_iconst (v := 0) hx hb dX7_build_1 (by decide) ?_
  refine q_put hx hb hts hown hW hS (r := 100) hJ.q.m0 rfl k_8 0 (by decide) rfl t_943 rfl (t := .int) (by decide +kernel) rfl rfl dX7_build_2 (fun H locs hW hS => ?_)
  have hJ : PJ L ad (up2 v 100 0 0) o 101 110 ng nh nl ns ow gx gy gw gd := hJ.kp kr_t
  refine lv_aload_n hx hb dX7_build_5 rfl (lv_at hl 0 rfl) ?_
  refine lv_iload_n hx hb dX7_build_6 rfl (lv_at hl 1 rfl) ?_
  refine q_cViE (As := [.int (nI g)]) (rest := []) (r := 100) hx hb hml hts hown hE h0 hW hS (c_X7_isGrower l hJ hO1 (nI g)) mw_X7_isGrower hJ.q.m0 rfl k_8 t_973 ⟨Nat.le_of_ble_eq_true rfl, Nat.le_of_ble_eq_true rfl⟩ rfl hl.1 (Nat.le_of_ble_eq_true rfl) dX7_build_7 ⟨Nat.zero_le _, Nat.zero_le _⟩ ⟨rfl, rfl⟩ (fun H locs hW hS => ?_)
  refine lv_if_ne (tgt := 19) hx hb dX7_build_10 (by decide) (fun c_10 => ?_) (fun c_10 => ?_)
  · skip
    refine lv_iload hx hb dX7_build_19 (lv_at hl 4 rfl) ?_
    refine lv_iconst (v := 1) hx hb dX7_build_21 (by decide) ?_
    refine lv_bipush (v := 6) hx hb dX7_build_22 (by decide) ?_
    refine q_cSiE (As := [.int (nI wd), .int 1, .int 6]) (rest := []) hx hb hml hts hown hE h0 hW hS (c_X7_isIn l (nI wd) 1 6) mw_X7_isIn t_962 ⟨Nat.le_of_ble_eq_true rfl, Nat.le_of_ble_eq_true rfl⟩ rfl hl.1 (Nat.le_of_ble_eq_true rfl) dX7_build_24 ⟨Nat.zero_le _, Nat.zero_le _⟩ ⟨rfl, rfl⟩ (fun H locs hW hS => ?_)
    refine lv_if_eq (tgt := 90) hx hb dX7_build_27 (by decide) (fun c_27 => ?_) (fun c_27 => ?_)
    · skip
      exact absurd (k1.symm.trans c_27) (by decide)
    · skip
      refine lv_iload hx hb dX7_build_30 (lv_at hl 5 rfl) ?_
      refine lv_iconst (v := 1) hx hb dX7_build_32 (by decide) ?_
      refine lv_bipush (v := 6) hx hb dX7_build_33 (by decide) ?_
      refine q_cSiE (As := [.int (nI dp), .int 1, .int 6]) (rest := []) hx hb hml hts hown hE h0 hW hS (c_X7_isIn l (nI dp) 1 6) mw_X7_isIn t_962 ⟨Nat.le_of_ble_eq_true rfl, Nat.le_of_ble_eq_true rfl⟩ rfl hl.1 (Nat.le_of_ble_eq_true rfl) dX7_build_35 ⟨Nat.zero_le _, Nat.zero_le _⟩ ⟨rfl, rfl⟩ (fun H locs hW hS => ?_)
      refine lv_if_eq (tgt := 90) hx hb dX7_build_38 (by decide) (fun c_38 => ?_) (fun c_38 => ?_)
      · skip
        exact absurd (k2.symm.trans c_38) (by decide)
      · skip
        refine lv_iload_n hx hb dX7_build_41 rfl (lv_at hl 2 rfl) ?_
        refine lv_iconst (v := 0) hx hb dX7_build_42 (by decide) ?_
        refine lv_bipush (v := 20) hx hb dX7_build_43 (by decide) ?_
        refine lv_iload hx hb dX7_build_45 (lv_at hl 4 rfl) ?_
        refine lv_isub hx hb dX7_build_47 ?_
        refine q_cSiE (As := [.int (nI x), .int 0, .int (20 - (nI wd))]) (rest := []) hx hb hml hts hown hE h0 hW hS (c_X7_isIn l (nI x) 0 (20 - (nI wd))) mw_X7_isIn t_962 ⟨Nat.le_of_ble_eq_true rfl, Nat.le_of_ble_eq_true rfl⟩ rfl hl.1 (Nat.le_of_ble_eq_true rfl) dX7_build_48 ⟨Nat.zero_le _, Nat.zero_le _⟩ ⟨rfl, rfl⟩ (fun H locs hW hS => ?_)
        refine lv_if_eq (tgt := 90) hx hb dX7_build_51 (by decide) (fun c_51 => ?_) (fun c_51 => ?_)
        · skip
          exact absurd (k3.symm.trans c_51) (by decide)
        · skip
          refine lv_iload_n hx hb dX7_build_54 rfl (lv_at hl 3 rfl) ?_
          refine lv_iconst (v := 0) hx hb dX7_build_55 (by decide) ?_
          refine lv_bipush (v := 20) hx hb dX7_build_56 (by decide) ?_
          refine lv_iload hx hb dX7_build_58 (lv_at hl 5 rfl) ?_
          refine lv_isub hx hb dX7_build_60 ?_
          refine q_cSiE (As := [.int (nI y), .int 0, .int (20 - (nI dp))]) (rest := []) hx hb hml hts hown hE h0 hW hS (c_X7_isIn l (nI y) 0 (20 - (nI dp))) mw_X7_isIn t_962 ⟨Nat.le_of_ble_eq_true rfl, Nat.le_of_ble_eq_true rfl⟩ rfl hl.1 (Nat.le_of_ble_eq_true rfl) dX7_build_61 ⟨Nat.zero_le _, Nat.zero_le _⟩ ⟨rfl, rfl⟩ (fun H locs hW hS => ?_)
          refine lv_if_eq (tgt := 90) hx hb dX7_build_64 (by decide) (fun c_64 => ?_) (fun c_64 => ?_)
          · skip
            exact absurd (k4.symm.trans c_64) (by decide)
          · skip
            refine lv_iload hx hb dX7_build_67 (lv_at hl 6 rfl) ?_
            refine lv_iconst (v := 1) hx hb dX7_build_69 (by decide) ?_
            refine lv_bipush (v := 9) hx hb dX7_build_70 (by decide) ?_
            refine q_cSiE (As := [.int e0, .int 1, .int 9]) (rest := []) hx hb hml hts hown hE h0 hW hS (c_X7_isIn l e0 1 9) mw_X7_isIn t_962 ⟨Nat.le_of_ble_eq_true rfl, Nat.le_of_ble_eq_true rfl⟩ rfl hl.1 (Nat.le_of_ble_eq_true rfl) dX7_build_72 ⟨Nat.zero_le _, Nat.zero_le _⟩ ⟨rfl, rfl⟩ (fun H locs hW hS => ?_)
            refine lv_if_eq (tgt := 90) hx hb dX7_build_75 (by decide) (fun c_75 => ?_) (fun c_75 => ?_)
            · skip
              exact absurd (k5.symm.trans c_75) (by decide)
            · skip
              refine lv_iload hx hb dX7_build_78 (lv_at hl 7 rfl) ?_
              refine lv_iconst (v := 1) hx hb dX7_build_80 (by decide) ?_
              refine lv_sipush (v := 1000) hx hb dX7_build_81 (by decide) ?_
              refine q_cSiE (As := [.int f, .int 1, .int 1000]) (rest := []) hx hb hml hts hown hE h0 hW hS (c_X7_isIn l f 1 1000) mw_X7_isIn t_962 ⟨Nat.le_of_ble_eq_true rfl, Nat.le_of_ble_eq_true rfl⟩ rfl hl.1 (Nat.le_of_ble_eq_true rfl) dX7_build_84 ⟨Nat.zero_le _, Nat.zero_le _⟩ ⟨rfl, rfl⟩ (fun H locs hW hS => ?_)
              refine lv_if_ne (tgt := 96) hx hb dX7_build_87 (by decide) (fun c_87 => ?_) (fun c_87 => ?_)
              · skip
                refine lv_aload_n hx hb dX7_build_96 rfl (lv_at hl 0 rfl) ?_
                refine q_getr hx hb hts hown hW (r := 100) hJ.q.m0 rfl k_8 1 (by decide) rfl t_944 (a := ad 101) hO1 dX7_build_97 ?_
                refine q_getN hx hb hts hown hW (r := 101) hJ.q.mS hJ.q.kS k_7 6 (by decide) rfl t_880 (x := (nI nh)) hJ.eH dX7_build_100 ?_
                refine lv_bipush (v := 12) hx hb dX7_build_103 (by decide) ?_
                refine lv_icmp_ge (tgt := 112) hx hb dX7_build_105 (by decide) (fun c_105 => ?_) (fun c_105 => ?_)
                · skip
                  refine lv_iconst (v := 0) hx hb dX7_build_112 (by decide) ?_
                  refine lv_topi (fun xt et => ?_)
                  obtain rfl : xt = (if nh < 12 then 1 else 0) := et.trans (by first | rw [if_pos (lt_of_nge (by omega) c_105)] | rw [if_neg (nlt_of_ge (by omega) c_105)])
                  clear et
                  refine lv_istore (lv' := [(8, .int (if nh < 12 then 1 else 0)), (0, .ref (ad 100)), (1, .int (nI g)), (2, .int (nI x)), (3, .int (nI y)), (4, .int (nI wd)), (5, .int (nI dp)), (6, .int e0), (7, .int f)]) hx hb dX7_build_113 hl (by decide) rfl (fun ls hl => ?_)
                  refine lv_iconst (v := 0) hx hb dX7_build_115 (by decide) ?_
                  refine lv_istore (lv' := [(9, .int 0), (8, .int (if nh < 12 then 1 else 0)), (0, .ref (ad 100)), (1, .int (nI g)), (2, .int (nI x)), (3, .int (nI y)), (4, .int (nI wd)), (5, .int (nI dp)), (6, .int e0), (7, .int f)]) hx hb dX7_build_116 hl (by decide) rfl (fun ls hl => ?_)
                  suffices LP_118 : ∀ (n_118 k1 : Nat) (x8_118 : Int32) (x9_118 : Int32)  (u_118 : Nat → Nat → Int32) (H : Heap) (locs : List Loc) (ls : Array Slot), wd * dp + 1 ≤ k1 + n_118 → k1 ≤ wd * dp → itr (fun k f => if f = 0 then 0 else if rAt gx gy gw gd nh (nI x + nI (k % wd)) (nI y + nI (k / wd)) = -1 then 1 else 0) k1 (if nh < 12 then 1 else 0) = x8_118 → nI k1 = x9_118 → up2 v 100 0 0 = u_118 → WD G L ad u_118 o w s H → va_S (Ab G.2.2.1) s.heap H locs → lv_has ls 10 [(9, .int x9_118), (8, .int x8_118), (0, .ref (ad 100)), (1, .int (nI g)), (2, .int (nI x)), (3, .int (nI y)), (4, .int (nI wd)), (5, .int (nI dp)), (6, .int e0), (7, .int f)] → W p l e ({ frames := 2, cells := 1, slots := 7, locals := 47 } : Room) s m ([.ref (ad 100), .int (nI g), .int (nI x), .int (nI y), .int (nI wd), .int (nI dp), .int e0, .int f] : List Value).toArray below meth c H locs 0 0 (MQ below (va_Qi (fun r u => r = nI nh ∧ u = rBuild v nh (own7 (nI g) (nI x) (nI y) (nI wd) (nI dp) e0 f)) (fun u t => WD G L ad u o w t t.heap) (Ab G.2.2.1)) ([.ref (ad 100), .int (nI g), .int (nI x), .int (nI y), .int (nI wd), .int (nI dp), .int e0, .int f] : List Value).toArray s ({ frames := 2, cells := 1, slots := 7, locals := 47 } : Room).cells ({ frames := 2, cells := 1, slots := 7, locals := 47 } : Room).slots (Ab G.2.2.1)) (F0 m 118 ls []) from LP_118 (wd * dp + 1) 0 _ _   _ H locs ls (by omega) (by omega) (by rfl) (by rfl) (by rfl)  hW hS (lv_sub hl [0, 1, 2, 3, 4, 5, 6, 7, 8, 9] rfl)
                  intro n_118
                  induction n_118 with
                  | zero => intro k1 x8_118 x9_118  u_118 H locs ls h1 h2; exact absurd h1 (by omega)
                  | succ n_118 ih_118 =>
                    intro k1 x8_118 x9_118  u_118 H locs ls hn_118 hi_118 ex8_118 ex9_118 eu_118  hW hS hl
                    subst ex8_118
                    subst ex9_118
                    subst eu_118
                    refine lv_iload hx hb dX7_build_118 (lv_at hl 0 rfl) ?_
                    refine lv_iload hx hb dX7_build_120 (lv_at hl 6 rfl) ?_
                    refine lv_iload hx hb dX7_build_122 (lv_at hl 7 rfl) ?_
                    refine lv_imul hx hb dX7_build_124 ?_
                    refine lv_topi (fun xt et => ?_)
                    obtain rfl : xt = nI (wd * dp) := et.trans (by exact pk_mul _ _)
                    clear et
                    refine lv_icmp_ge (tgt := 168) hx hb dX7_build_125 (by decide) (fun c_125 => ?_) (fun c_125 => ?_)
                    · skip
                      have hq_118 := (ge_i (n := (wd * dp)) (by omega) hi_118 c_125).symm
                      subst hq_118
                      refine lv_iload hx hb dX7_build_168 (lv_at hl 1 rfl) ?_
                      refine lv_if_ne (tgt := 179) hx hb dX7_build_170 (by decide) (fun c_170 => ?_) (fun c_170 => ?_)
                      · skip
                        refine lv_bipush (v := 7) hx hb dX7_build_179 (by decide) ?_
                        refine q_newa hx hb hts t_136 h0 hW hS 181 hr9 rfl rfl (by decide) (by decide) (by decide) dX7_build_181 (fun ad1 H q9 had hW hS => ?_)
                        have hJ := hJ.new (a := z32) (b := nOp) (r := 181) (by decide) had
                        have hO1 : up1 o 181 nOp 100 1 = some (ad1 101) := by subst had; exact hO1
                        have hF : offR 181 (up1 (up2 v 100 0 0) 181 z32) (up2 v 100 0 0) := off_new
                        generalize ho9 : up1 o 181 nOp = o1 at hW hJ hO1
                        generalize hv1 : up1 (up2 v 100 0 0) 181 z32 = v1 at hW hJ hF
                        have hl : lv_has ls 10 [(9, .int (nI (wd * dp))), (8, .int (itr (fun k f => if f = 0 then 0 else if rAt gx gy gw gd nh (nI x + nI (k % wd)) (nI y + nI (k / wd)) = -1 then 1 else 0) (wd * dp) (if nh < 12 then 1 else 0))), (0, .ref (ad1 100)), (1, .int (nI g)), (2, .int (nI x)), (3, .int (nI y)), (4, .int (nI wd)), (5, .int (nI dp)), (6, .int e0), (7, .int f)] := by subst had; exact hl
                        refine lv_dup hx hb dX7_build_183 rfl ?_
                        refine lv_iconst (v := 0) hx hb dX7_build_184 (by decide) ?_
                        refine lv_iload_n hx hb dX7_build_185 rfl (lv_at hl 3 rfl) ?_
                        refine q_iast hx hb hW hS (r := 181) (List.mem_append_right _ (List.mem_singleton.mpr rfl)) rfl (0) rfl (by decide) (by decide) dX7_build_186 (fun H locs hW hS => ?_)
                        have hJ : PJ (L ++ [181]) ad1 (up2 v1 181 (0) (nI g)) o1 101 110 ng nh nl ns ow gx gy gw gd := hJ.kp (kr_hi (by decide))
                        have hF : offR 181 (up2 v1 181 (0) (nI g)) (up2 v 100 0 0) := off_up hF
                        generalize hv2 : (up2 v1 181 (0) (nI g)) = v2 at hW hJ hF
                        refine lv_dup hx hb dX7_build_187 rfl ?_
                        refine lv_iconst (v := 1) hx hb dX7_build_188 (by decide) ?_
                        refine lv_iload_n hx hb dX7_build_189 rfl (lv_at hl 4 rfl) ?_
                        refine q_iast hx hb hW hS (r := 181) (List.mem_append_right _ (List.mem_singleton.mpr rfl)) rfl (1) rfl (by decide) (by decide) dX7_build_190 (fun H locs hW hS => ?_)
                        have hJ : PJ (L ++ [181]) ad1 (up2 v2 181 (1) (nI x)) o1 101 110 ng nh nl ns ow gx gy gw gd := hJ.kp (kr_hi (by decide))
                        have hF : offR 181 (up2 v2 181 (1) (nI x)) (up2 v 100 0 0) := off_up hF
                        generalize hv3 : (up2 v2 181 (1) (nI x)) = v3 at hW hJ hF
                        refine lv_dup hx hb dX7_build_191 rfl ?_
                        refine lv_iconst (v := 2) hx hb dX7_build_192 (by decide) ?_
                        refine lv_iload_n hx hb dX7_build_193 rfl (lv_at hl 5 rfl) ?_
                        refine q_iast hx hb hW hS (r := 181) (List.mem_append_right _ (List.mem_singleton.mpr rfl)) rfl (2) rfl (by decide) (by decide) dX7_build_194 (fun H locs hW hS => ?_)
                        have hJ : PJ (L ++ [181]) ad1 (up2 v3 181 (2) (nI y)) o1 101 110 ng nh nl ns ow gx gy gw gd := hJ.kp (kr_hi (by decide))
                        have hF : offR 181 (up2 v3 181 (2) (nI y)) (up2 v 100 0 0) := off_up hF
                        generalize hv4 : (up2 v3 181 (2) (nI y)) = v4 at hW hJ hF
                        refine lv_dup hx hb dX7_build_195 rfl ?_
                        refine lv_iconst (v := 3) hx hb dX7_build_196 (by decide) ?_
                        refine lv_iload hx hb dX7_build_197 (lv_at hl 6 rfl) ?_
                        refine q_iast hx hb hW hS (r := 181) (List.mem_append_right _ (List.mem_singleton.mpr rfl)) rfl (3) rfl (by decide) (by decide) dX7_build_199 (fun H locs hW hS => ?_)
                        have hJ : PJ (L ++ [181]) ad1 (up2 v4 181 (3) (nI wd)) o1 101 110 ng nh nl ns ow gx gy gw gd := hJ.kp (kr_hi (by decide))
                        have hF : offR 181 (up2 v4 181 (3) (nI wd)) (up2 v 100 0 0) := off_up hF
                        generalize hv5 : (up2 v4 181 (3) (nI wd)) = v5 at hW hJ hF
                        refine lv_dup hx hb dX7_build_200 rfl ?_
                        refine lv_iconst (v := 4) hx hb dX7_build_201 (by decide) ?_
                        refine lv_iload hx hb dX7_build_202 (lv_at hl 7 rfl) ?_
                        refine q_iast hx hb hW hS (r := 181) (List.mem_append_right _ (List.mem_singleton.mpr rfl)) rfl (4) rfl (by decide) (by decide) dX7_build_204 (fun H locs hW hS => ?_)
                        have hJ : PJ (L ++ [181]) ad1 (up2 v5 181 (4) (nI dp)) o1 101 110 ng nh nl ns ow gx gy gw gd := hJ.kp (kr_hi (by decide))
                        have hF : offR 181 (up2 v5 181 (4) (nI dp)) (up2 v 100 0 0) := off_up hF
                        generalize hv6 : (up2 v5 181 (4) (nI dp)) = v6 at hW hJ hF
                        refine lv_dup hx hb dX7_build_205 rfl ?_
                        refine lv_iconst (v := 5) hx hb dX7_build_206 (by decide) ?_
                        refine lv_iload hx hb dX7_build_207 (lv_at hl 8 rfl) ?_
                        refine q_iast hx hb hW hS (r := 181) (List.mem_append_right _ (List.mem_singleton.mpr rfl)) rfl (5) rfl (by decide) (by decide) dX7_build_209 (fun H locs hW hS => ?_)
                        have hJ : PJ (L ++ [181]) ad1 (up2 v6 181 (5) e0) o1 101 110 ng nh nl ns ow gx gy gw gd := hJ.kp (kr_hi (by decide))
                        have hF : offR 181 (up2 v6 181 (5) e0) (up2 v 100 0 0) := off_up hF
                        generalize hv7 : (up2 v6 181 (5) e0) = v7 at hW hJ hF
                        refine lv_dup hx hb dX7_build_210 rfl ?_
                        refine lv_bipush (v := 6) hx hb dX7_build_211 (by decide) ?_
                        refine lv_iload hx hb dX7_build_213 (lv_at hl 9 rfl) ?_
                        refine q_iast hx hb hW hS (r := 181) (List.mem_append_right _ (List.mem_singleton.mpr rfl)) rfl (6) rfl (by decide) (by decide) dX7_build_215 (fun H locs hW hS => ?_)
                        have hJ : PJ (L ++ [181]) ad1 (up2 v7 181 (6) f) o1 101 110 ng nh nl ns ow gx gy gw gd := hJ.kp (kr_hi (by decide))
                        have hF : offR 181 (up2 v7 181 (6) f) (up2 v 100 0 0) := off_up hF
                        generalize hv8 : (up2 v7 181 (6) f) = v8 at hW hJ hF
                        refine lv_astore (lv' := [(9, .ref (ad1 181)), (8, .int (itr (fun k f => if f = 0 then 0 else if rAt gx gy gw gd nh (nI x + nI (k % wd)) (nI y + nI (k / wd)) = -1 then 1 else 0) (wd * dp) (if nh < 12 then 1 else 0))), (0, .ref (ad1 100)), (1, .int (nI g)), (2, .int (nI x)), (3, .int (nI y)), (4, .int (nI wd)), (5, .int (nI dp)), (6, .int e0), (7, .int f)]) hx hb dX7_build_216 hl (by decide) rfl (fun ls hl => ?_)
                        refine lv_aload hx hb dX7_build_218 (lv_at hl 0 rfl) ?_
                        refine lv_iconst (v := 0) hx hb dX7_build_220 (by decide) ?_
                        refine lv_aload_n hx hb dX7_build_221 rfl (lv_at hl 2 rfl) ?_
                        refine q_getr hx hb hts hown hW (r := 100) hJ.q.m0 rfl k_8 1 (by decide) rfl t_944 (a := ad1 101) hO1 dX7_build_222 ?_
                        refine q_getrN hx hb hts hown hW (r := 101) hJ.q.mS hJ.q.kS k_7 7 (by decide) rfl t_882 (a := ad1 (110 + 7)) (hJ.q.oB 7 rfl) dX7_build_225 ?_
                        refine lv_bipush (v := 7) hx hb dX7_build_228 (by decide) ?_
                        refine lv_aload_n hx hb dX7_build_230 rfl (lv_at hl 2 rfl) ?_
                        refine q_getr hx hb hts hown hW (r := 100) hJ.q.m0 rfl k_8 1 (by decide) rfl t_944 (a := ad1 101) hO1 dX7_build_231 ?_
                        refine q_getN hx hb hts hown hW (r := 101) hJ.q.mS hJ.q.kS k_7 6 (by decide) rfl t_880 (x := (nI nh)) hJ.eH dX7_build_234 ?_
                        refine lv_imul hx hb dX7_build_237 ?_
                        refine lv_bipush (v := 7) hx hb dX7_build_238 (by decide) ?_
                        refine q_copy hx hb hml hl.1 hts hown m_copy t_981 hW hS (r0 := 181) (r1 := (110 + 7)) (List.mem_append_right _ (List.mem_singleton.mpr rfl)) (hJ.q.mB 7 rfl) rfl (hJ.q.k9 7 rfl (by decide)) 0 (7 * nh) 7 rfl (ix_mul rfl rfl) rfl (by decide) (show _ ≤ 84 by omega) (by decide) (by decide) (Nat.le_of_ble_eq_true rfl) (Nat.le_of_ble_eq_true rfl) dX7_build_240 (fun H locs hW hS => ?_)
                        refine lv_aload_n hx hb dX7_build_243 rfl (lv_at hl 2 rfl) ?_
                        refine q_getr hx hb hts hown hW (r := 100) hJ.q.m0 rfl k_8 1 (by decide) rfl t_944 (a := ad1 101) hO1 dX7_build_244 ?_
                        refine lv_dup hx hb dX7_build_247 rfl ?_
                        refine q_getN hx hb hts hown hW (r := 101) hJ.q.mS hJ.q.kS k_7 6 (by decide) rfl t_880 (x := (nI nh)) hJ.eH dX7_build_248 ?_
                        refine lv_iconst (v := 1) hx hb dX7_build_251 (by decide) ?_
                        refine lv_iadd hx hb dX7_build_252 ?_
                        refine q_putN hx hb hts hown hW hS (r := 101) hJ.q.mS hJ.q.kS k_7 6 (by decide) rfl t_880 rfl (t := .int) (by decide +kernel) rfl rfl dX7_build_253 (fun H locs hW hS => ?_)
                        generalize hv9 : (up2 (cpy2 v8 181 (110 + 7) 0 (7 * nh) 7) 101 6 ((nI nh) + 1)) = v9 at hW
                        refine lv_aload_n hx hb dX7_build_256 rfl (lv_at hl 2 rfl) ?_
                        refine q_getr hx hb hts hown hW (r := 100) hJ.q.m0 rfl k_8 1 (by decide) rfl t_944 (a := ad1 101) hO1 dX7_build_257 ?_
                        refine q_getN hx hb hts hown hW (r := 101) hJ.q.mS hJ.q.kS k_7 6 (by decide) rfl t_880 (x := (v9 101 6)) rfl dX7_build_260 ?_
                        refine lv_iconst (v := 1) hx hb dX7_build_263 (by decide) ?_
                        refine lv_isub hx hb dX7_build_264 ?_
                        subst hv9
                        subst hv8
                        subst hv7
                        subst hv6
                        subst hv5
                        subst hv4
                        subst hv3
                        subst hv2
                        subst hv1
                        have hF := rBuild_off (v := v) (nh := nh) (own := own7 (nI g) (nI x) (nI y) (nI wd) (nI dp) e0 f) hF (fun j hj => by rcases (show j = 0 ∨ j = 1 ∨ j = 2 ∨ j = 3 ∨ j = 4 ∨ j = 5 ∨ j = 6 by omega) with rfl | rfl | rfl | rfl | rfl | rfl | rfl <;> rfl)
                        have hW := hW.forget hr9 had ho9 hF
                        exact q_iret hx hb hr hlocks hW hS (by first | decide | omega | (dsimp only; omega)) (by first | decide | omega | (dsimp only; omega)) dX7_build_265 (⟨by show nI nh + 1 - 1 = nI nh; rw [nI_1, nI_pred], rfl⟩)
                      · skip
                        exact absurd (k7.symm.trans c_170) (by decide)
                    · skip
                      have hlt_118 := lt_i (n := (wd * dp)) (by omega) hi_118 c_125
                      have hwd : wd * dp ≤ 36 := sz36 w2 d2
                      refine lv_iload hx hb dX7_build_128 (lv_at hl 1 rfl) ?_
                      refine lv_if_eq (tgt := 159) hx hb dX7_build_130 (by decide) (fun c_130 => ?_) (fun c_130 => ?_)
                      · skip
                        refine lv_iconst (v := 0) hx hb dX7_build_159 (by decide) ?_
                        refine lv_istore (lv' := [(8, .int 0), (9, .int (nI k1)), (0, .ref (ad 100)), (1, .int (nI g)), (2, .int (nI x)), (3, .int (nI y)), (4, .int (nI wd)), (5, .int (nI dp)), (6, .int e0), (7, .int f)]) hx hb dX7_build_160 hl (by decide) rfl (fun ls hl => ?_)
                        refine lv_iinc (v := (nI (k1 + 1))) (lv' := [(9, .int (nI (k1 + 1))), (8, .int 0), (0, .ref (ad 100)), (1, .int (nI g)), (2, .int (nI x)), (3, .int (nI y)), (4, .int (nI wd)), (5, .int (nI dp)), (6, .int e0), (7, .int f)]) hx hb dX7_build_162 hl (k := 1) rfl (inc_nI _) (by decide) rfl (fun ls hl => ?_)
                        refine lv_goto (tgt := 118) hx hb dX7_build_165 (by decide) ?_
                        exact ih_118 (k1 + 1) _ _   _ H locs ls (by omega) (by omega) (by rw [itr_s]; first | exact (if_pos c_130).symm.symm | exact (if_neg c_130).trans (if_pos c_152) | exact (if_neg c_130).trans (if_neg c_152)) (by rfl) (by rfl)  hW hS (lv_sub hl [0, 1, 2, 3, 4, 5, 6, 7, 8, 9] rfl)
                      · skip
                        refine lv_aload_n hx hb dX7_build_133 rfl (lv_at hl 2 rfl) ?_
                        refine lv_iload_n hx hb dX7_build_134 rfl (lv_at hl 4 rfl) ?_
                        refine lv_iload hx hb dX7_build_135 (lv_at hl 0 rfl) ?_
                        refine lv_iload hx hb dX7_build_137 (lv_at hl 6 rfl) ?_
                        refine lv_irem hx hb dX7_build_139 (nI_ne0 (by omega) (by omega)) ?_
                        refine lv_topi (fun xt et => ?_)
                        obtain rfl : xt = (nI (k1 % wd)) := et.trans (pk_rem (by omega) (by omega) (by omega))
                        clear et
                        refine lv_iadd hx hb dX7_build_140 ?_
                        refine lv_iload_n hx hb dX7_build_141 rfl (lv_at hl 5 rfl) ?_
                        refine lv_iload hx hb dX7_build_142 (lv_at hl 0 rfl) ?_
                        refine lv_iload hx hb dX7_build_144 (lv_at hl 6 rfl) ?_
                        refine lv_idiv hx hb dX7_build_146 (nI_ne0 (by omega) (by omega)) ?_
                        refine lv_topi (fun xt et => ?_)
                        obtain rfl : xt = (nI (k1 / wd)) := et.trans (pk_div (by omega) (by omega) (by omega))
                        clear et
                        refine lv_iadd hx hb dX7_build_147 ?_
                        refine q_cViE (As := [.int ((nI x) + (nI (k1 % wd))), .int ((nI y) + (nI (k1 / wd)))]) (rest := []) (r := 100) hx hb hml hts hown hE h0 hW hS (c_X7_at l hJ hO1 ((nI x) + (nI (k1 % wd))) ((nI y) + (nI (k1 / wd)))) mw_X7_at hJ.q.m0 rfl k_8 t_977 ⟨Nat.le_of_ble_eq_true rfl, Nat.le_of_ble_eq_true rfl⟩ rfl hl.1 (Nat.le_of_ble_eq_true rfl) dX7_build_148 ⟨Nat.zero_le _, Nat.zero_le _⟩ ⟨rfl, rfl⟩ (fun H locs hW hS => ?_)
                        refine lv_iconst (v := (-1)) hx hb dX7_build_151 (by decide) ?_
                        refine lv_icmp_ne (tgt := 159) hx hb dX7_build_152 (by decide) (fun c_152 => ?_) (fun c_152 => ?_)
                        · skip
                          refine lv_iconst (v := 0) hx hb dX7_build_159 (by decide) ?_
                          refine lv_istore (lv' := [(8, .int 0), (9, .int (nI k1)), (0, .ref (ad 100)), (1, .int (nI g)), (2, .int (nI x)), (3, .int (nI y)), (4, .int (nI wd)), (5, .int (nI dp)), (6, .int e0), (7, .int f)]) hx hb dX7_build_160 hl (by decide) rfl (fun ls hl => ?_)
                          refine lv_iinc (v := (nI (k1 + 1))) (lv' := [(9, .int (nI (k1 + 1))), (8, .int 0), (0, .ref (ad 100)), (1, .int (nI g)), (2, .int (nI x)), (3, .int (nI y)), (4, .int (nI wd)), (5, .int (nI dp)), (6, .int e0), (7, .int f)]) hx hb dX7_build_162 hl (k := 1) rfl (inc_nI _) (by decide) rfl (fun ls hl => ?_)
                          refine lv_goto (tgt := 118) hx hb dX7_build_165 (by decide) ?_
                          exact ih_118 (k1 + 1) _ _   _ H locs ls (by omega) (by omega) (by rw [itr_s]; first | exact (if_pos c_130).symm.symm | exact (if_neg c_130).trans (if_pos c_152) | exact (if_neg c_130).trans (if_neg c_152)) (by rfl) (by rfl)  hW hS (lv_sub hl [0, 1, 2, 3, 4, 5, 6, 7, 8, 9] rfl)
                        · skip
                          refine lv_iconst (v := 1) hx hb dX7_build_155 (by decide) ?_
                          refine lv_goto (tgt := 160) hx hb dX7_build_156 (by decide) ?_
                          refine lv_istore (lv' := [(8, .int 1), (9, .int (nI k1)), (0, .ref (ad 100)), (1, .int (nI g)), (2, .int (nI x)), (3, .int (nI y)), (4, .int (nI wd)), (5, .int (nI dp)), (6, .int e0), (7, .int f)]) hx hb dX7_build_160 hl (by decide) rfl (fun ls hl => ?_)
                          refine lv_iinc (v := (nI (k1 + 1))) (lv' := [(9, .int (nI (k1 + 1))), (8, .int 1), (0, .ref (ad 100)), (1, .int (nI g)), (2, .int (nI x)), (3, .int (nI y)), (4, .int (nI wd)), (5, .int (nI dp)), (6, .int e0), (7, .int f)]) hx hb dX7_build_162 hl (k := 1) rfl (inc_nI _) (by decide) rfl (fun ls hl => ?_)
                          refine lv_goto (tgt := 118) hx hb dX7_build_165 (by decide) ?_
                          exact ih_118 (k1 + 1) _ _   _ H locs ls (by omega) (by omega) (by rw [itr_s]; first | exact (if_pos c_130).symm.symm | exact (if_neg c_130).trans (if_pos c_152) | exact (if_neg c_130).trans (if_neg c_152)) (by rfl) (by rfl)  hW hS (lv_sub hl [0, 1, 2, 3, 4, 5, 6, 7, 8, 9] rfl)
                · skip
                  refine lv_iconst (v := 1) hx hb dX7_build_108 (by decide) ?_
                  refine lv_goto (tgt := 113) hx hb dX7_build_109 (by decide) ?_
                  refine lv_topi (fun xt et => ?_)
                  obtain rfl : xt = (if nh < 12 then 1 else 0) := et.trans (by first | rw [if_pos (lt_of_nge (by omega) c_105)] | rw [if_neg (nlt_of_ge (by omega) c_105)])
                  clear et
                  refine lv_istore (lv' := [(8, .int (if nh < 12 then 1 else 0)), (0, .ref (ad 100)), (1, .int (nI g)), (2, .int (nI x)), (3, .int (nI y)), (4, .int (nI wd)), (5, .int (nI dp)), (6, .int e0), (7, .int f)]) hx hb dX7_build_113 hl (by decide) rfl (fun ls hl => ?_)
                  refine lv_iconst (v := 0) hx hb dX7_build_115 (by decide) ?_
                  refine lv_istore (lv' := [(9, .int 0), (8, .int (if nh < 12 then 1 else 0)), (0, .ref (ad 100)), (1, .int (nI g)), (2, .int (nI x)), (3, .int (nI y)), (4, .int (nI wd)), (5, .int (nI dp)), (6, .int e0), (7, .int f)]) hx hb dX7_build_116 hl (by decide) rfl (fun ls hl => ?_)
                  suffices LP_118 : ∀ (n_118 k1 : Nat) (x8_118 : Int32) (x9_118 : Int32)  (u_118 : Nat → Nat → Int32) (H : Heap) (locs : List Loc) (ls : Array Slot), wd * dp + 1 ≤ k1 + n_118 → k1 ≤ wd * dp → itr (fun k f => if f = 0 then 0 else if rAt gx gy gw gd nh (nI x + nI (k % wd)) (nI y + nI (k / wd)) = -1 then 1 else 0) k1 (if nh < 12 then 1 else 0) = x8_118 → nI k1 = x9_118 → up2 v 100 0 0 = u_118 → WD G L ad u_118 o w s H → va_S (Ab G.2.2.1) s.heap H locs → lv_has ls 10 [(9, .int x9_118), (8, .int x8_118), (0, .ref (ad 100)), (1, .int (nI g)), (2, .int (nI x)), (3, .int (nI y)), (4, .int (nI wd)), (5, .int (nI dp)), (6, .int e0), (7, .int f)] → W p l e ({ frames := 2, cells := 1, slots := 7, locals := 47 } : Room) s m ([.ref (ad 100), .int (nI g), .int (nI x), .int (nI y), .int (nI wd), .int (nI dp), .int e0, .int f] : List Value).toArray below meth c H locs 0 0 (MQ below (va_Qi (fun r u => r = nI nh ∧ u = rBuild v nh (own7 (nI g) (nI x) (nI y) (nI wd) (nI dp) e0 f)) (fun u t => WD G L ad u o w t t.heap) (Ab G.2.2.1)) ([.ref (ad 100), .int (nI g), .int (nI x), .int (nI y), .int (nI wd), .int (nI dp), .int e0, .int f] : List Value).toArray s ({ frames := 2, cells := 1, slots := 7, locals := 47 } : Room).cells ({ frames := 2, cells := 1, slots := 7, locals := 47 } : Room).slots (Ab G.2.2.1)) (F0 m 118 ls []) from LP_118 (wd * dp + 1) 0 _ _   _ H locs ls (by omega) (by omega) (by rfl) (by rfl) (by rfl)  hW hS (lv_sub hl [0, 1, 2, 3, 4, 5, 6, 7, 8, 9] rfl)
                  intro n_118
                  induction n_118 with
                  | zero => intro k1 x8_118 x9_118  u_118 H locs ls h1 h2; exact absurd h1 (by omega)
                  | succ n_118 ih_118 =>
                    intro k1 x8_118 x9_118  u_118 H locs ls hn_118 hi_118 ex8_118 ex9_118 eu_118  hW hS hl
                    subst ex8_118
                    subst ex9_118
                    subst eu_118
                    refine lv_iload hx hb dX7_build_118 (lv_at hl 0 rfl) ?_
                    refine lv_iload hx hb dX7_build_120 (lv_at hl 6 rfl) ?_
                    refine lv_iload hx hb dX7_build_122 (lv_at hl 7 rfl) ?_
                    refine lv_imul hx hb dX7_build_124 ?_
                    refine lv_topi (fun xt et => ?_)
                    obtain rfl : xt = nI (wd * dp) := et.trans (by exact pk_mul _ _)
                    clear et
                    refine lv_icmp_ge (tgt := 168) hx hb dX7_build_125 (by decide) (fun c_125 => ?_) (fun c_125 => ?_)
                    · skip
                      have hq_118 := (ge_i (n := (wd * dp)) (by omega) hi_118 c_125).symm
                      subst hq_118
                      refine lv_iload hx hb dX7_build_168 (lv_at hl 1 rfl) ?_
                      refine lv_if_ne (tgt := 179) hx hb dX7_build_170 (by decide) (fun c_170 => ?_) (fun c_170 => ?_)
                      · skip
                        refine lv_bipush (v := 7) hx hb dX7_build_179 (by decide) ?_
                        refine q_newa hx hb hts t_136 h0 hW hS 181 hr9 rfl rfl (by decide) (by decide) (by decide) dX7_build_181 (fun ad1 H q9 had hW hS => ?_)
                        have hJ := hJ.new (a := z32) (b := nOp) (r := 181) (by decide) had
                        have hO1 : up1 o 181 nOp 100 1 = some (ad1 101) := by subst had; exact hO1
                        have hF : offR 181 (up1 (up2 v 100 0 0) 181 z32) (up2 v 100 0 0) := off_new
                        generalize ho9 : up1 o 181 nOp = o1 at hW hJ hO1
                        generalize hv10 : up1 (up2 v 100 0 0) 181 z32 = v10 at hW hJ hF
                        have hl : lv_has ls 10 [(9, .int (nI (wd * dp))), (8, .int (itr (fun k f => if f = 0 then 0 else if rAt gx gy gw gd nh (nI x + nI (k % wd)) (nI y + nI (k / wd)) = -1 then 1 else 0) (wd * dp) (if nh < 12 then 1 else 0))), (0, .ref (ad1 100)), (1, .int (nI g)), (2, .int (nI x)), (3, .int (nI y)), (4, .int (nI wd)), (5, .int (nI dp)), (6, .int e0), (7, .int f)] := by subst had; exact hl
                        refine lv_dup hx hb dX7_build_183 rfl ?_
                        refine lv_iconst (v := 0) hx hb dX7_build_184 (by decide) ?_
                        refine lv_iload_n hx hb dX7_build_185 rfl (lv_at hl 3 rfl) ?_
                        refine q_iast hx hb hW hS (r := 181) (List.mem_append_right _ (List.mem_singleton.mpr rfl)) rfl (0) rfl (by decide) (by decide) dX7_build_186 (fun H locs hW hS => ?_)
                        have hJ : PJ (L ++ [181]) ad1 (up2 v10 181 (0) (nI g)) o1 101 110 ng nh nl ns ow gx gy gw gd := hJ.kp (kr_hi (by decide))
                        have hF : offR 181 (up2 v10 181 (0) (nI g)) (up2 v 100 0 0) := off_up hF
                        generalize hv11 : (up2 v10 181 (0) (nI g)) = v11 at hW hJ hF
                        refine lv_dup hx hb dX7_build_187 rfl ?_
                        refine lv_iconst (v := 1) hx hb dX7_build_188 (by decide) ?_
                        refine lv_iload_n hx hb dX7_build_189 rfl (lv_at hl 4 rfl) ?_
                        refine q_iast hx hb hW hS (r := 181) (List.mem_append_right _ (List.mem_singleton.mpr rfl)) rfl (1) rfl (by decide) (by decide) dX7_build_190 (fun H locs hW hS => ?_)
                        have hJ : PJ (L ++ [181]) ad1 (up2 v11 181 (1) (nI x)) o1 101 110 ng nh nl ns ow gx gy gw gd := hJ.kp (kr_hi (by decide))
                        have hF : offR 181 (up2 v11 181 (1) (nI x)) (up2 v 100 0 0) := off_up hF
                        generalize hv12 : (up2 v11 181 (1) (nI x)) = v12 at hW hJ hF
                        refine lv_dup hx hb dX7_build_191 rfl ?_
                        refine lv_iconst (v := 2) hx hb dX7_build_192 (by decide) ?_
                        refine lv_iload_n hx hb dX7_build_193 rfl (lv_at hl 5 rfl) ?_
                        refine q_iast hx hb hW hS (r := 181) (List.mem_append_right _ (List.mem_singleton.mpr rfl)) rfl (2) rfl (by decide) (by decide) dX7_build_194 (fun H locs hW hS => ?_)
                        have hJ : PJ (L ++ [181]) ad1 (up2 v12 181 (2) (nI y)) o1 101 110 ng nh nl ns ow gx gy gw gd := hJ.kp (kr_hi (by decide))
                        have hF : offR 181 (up2 v12 181 (2) (nI y)) (up2 v 100 0 0) := off_up hF
                        generalize hv13 : (up2 v12 181 (2) (nI y)) = v13 at hW hJ hF
                        refine lv_dup hx hb dX7_build_195 rfl ?_
                        refine lv_iconst (v := 3) hx hb dX7_build_196 (by decide) ?_
                        refine lv_iload hx hb dX7_build_197 (lv_at hl 6 rfl) ?_
                        refine q_iast hx hb hW hS (r := 181) (List.mem_append_right _ (List.mem_singleton.mpr rfl)) rfl (3) rfl (by decide) (by decide) dX7_build_199 (fun H locs hW hS => ?_)
                        have hJ : PJ (L ++ [181]) ad1 (up2 v13 181 (3) (nI wd)) o1 101 110 ng nh nl ns ow gx gy gw gd := hJ.kp (kr_hi (by decide))
                        have hF : offR 181 (up2 v13 181 (3) (nI wd)) (up2 v 100 0 0) := off_up hF
                        generalize hv14 : (up2 v13 181 (3) (nI wd)) = v14 at hW hJ hF
                        refine lv_dup hx hb dX7_build_200 rfl ?_
                        refine lv_iconst (v := 4) hx hb dX7_build_201 (by decide) ?_
                        refine lv_iload hx hb dX7_build_202 (lv_at hl 7 rfl) ?_
                        refine q_iast hx hb hW hS (r := 181) (List.mem_append_right _ (List.mem_singleton.mpr rfl)) rfl (4) rfl (by decide) (by decide) dX7_build_204 (fun H locs hW hS => ?_)
                        have hJ : PJ (L ++ [181]) ad1 (up2 v14 181 (4) (nI dp)) o1 101 110 ng nh nl ns ow gx gy gw gd := hJ.kp (kr_hi (by decide))
                        have hF : offR 181 (up2 v14 181 (4) (nI dp)) (up2 v 100 0 0) := off_up hF
                        generalize hv15 : (up2 v14 181 (4) (nI dp)) = v15 at hW hJ hF
                        refine lv_dup hx hb dX7_build_205 rfl ?_
                        refine lv_iconst (v := 5) hx hb dX7_build_206 (by decide) ?_
                        refine lv_iload hx hb dX7_build_207 (lv_at hl 8 rfl) ?_
                        refine q_iast hx hb hW hS (r := 181) (List.mem_append_right _ (List.mem_singleton.mpr rfl)) rfl (5) rfl (by decide) (by decide) dX7_build_209 (fun H locs hW hS => ?_)
                        have hJ : PJ (L ++ [181]) ad1 (up2 v15 181 (5) e0) o1 101 110 ng nh nl ns ow gx gy gw gd := hJ.kp (kr_hi (by decide))
                        have hF : offR 181 (up2 v15 181 (5) e0) (up2 v 100 0 0) := off_up hF
                        generalize hv16 : (up2 v15 181 (5) e0) = v16 at hW hJ hF
                        refine lv_dup hx hb dX7_build_210 rfl ?_
                        refine lv_bipush (v := 6) hx hb dX7_build_211 (by decide) ?_
                        refine lv_iload hx hb dX7_build_213 (lv_at hl 9 rfl) ?_
                        refine q_iast hx hb hW hS (r := 181) (List.mem_append_right _ (List.mem_singleton.mpr rfl)) rfl (6) rfl (by decide) (by decide) dX7_build_215 (fun H locs hW hS => ?_)
                        have hJ : PJ (L ++ [181]) ad1 (up2 v16 181 (6) f) o1 101 110 ng nh nl ns ow gx gy gw gd := hJ.kp (kr_hi (by decide))
                        have hF : offR 181 (up2 v16 181 (6) f) (up2 v 100 0 0) := off_up hF
                        generalize hv17 : (up2 v16 181 (6) f) = v17 at hW hJ hF
                        refine lv_astore (lv' := [(9, .ref (ad1 181)), (8, .int (itr (fun k f => if f = 0 then 0 else if rAt gx gy gw gd nh (nI x + nI (k % wd)) (nI y + nI (k / wd)) = -1 then 1 else 0) (wd * dp) (if nh < 12 then 1 else 0))), (0, .ref (ad1 100)), (1, .int (nI g)), (2, .int (nI x)), (3, .int (nI y)), (4, .int (nI wd)), (5, .int (nI dp)), (6, .int e0), (7, .int f)]) hx hb dX7_build_216 hl (by decide) rfl (fun ls hl => ?_)
                        refine lv_aload hx hb dX7_build_218 (lv_at hl 0 rfl) ?_
                        refine lv_iconst (v := 0) hx hb dX7_build_220 (by decide) ?_
                        refine lv_aload_n hx hb dX7_build_221 rfl (lv_at hl 2 rfl) ?_
                        refine q_getr hx hb hts hown hW (r := 100) hJ.q.m0 rfl k_8 1 (by decide) rfl t_944 (a := ad1 101) hO1 dX7_build_222 ?_
                        refine q_getrN hx hb hts hown hW (r := 101) hJ.q.mS hJ.q.kS k_7 7 (by decide) rfl t_882 (a := ad1 (110 + 7)) (hJ.q.oB 7 rfl) dX7_build_225 ?_
                        refine lv_bipush (v := 7) hx hb dX7_build_228 (by decide) ?_
                        refine lv_aload_n hx hb dX7_build_230 rfl (lv_at hl 2 rfl) ?_
                        refine q_getr hx hb hts hown hW (r := 100) hJ.q.m0 rfl k_8 1 (by decide) rfl t_944 (a := ad1 101) hO1 dX7_build_231 ?_
                        refine q_getN hx hb hts hown hW (r := 101) hJ.q.mS hJ.q.kS k_7 6 (by decide) rfl t_880 (x := (nI nh)) hJ.eH dX7_build_234 ?_
                        refine lv_imul hx hb dX7_build_237 ?_
                        refine lv_bipush (v := 7) hx hb dX7_build_238 (by decide) ?_
                        refine q_copy hx hb hml hl.1 hts hown m_copy t_981 hW hS (r0 := 181) (r1 := (110 + 7)) (List.mem_append_right _ (List.mem_singleton.mpr rfl)) (hJ.q.mB 7 rfl) rfl (hJ.q.k9 7 rfl (by decide)) 0 (7 * nh) 7 rfl (ix_mul rfl rfl) rfl (by decide) (show _ ≤ 84 by omega) (by decide) (by decide) (Nat.le_of_ble_eq_true rfl) (Nat.le_of_ble_eq_true rfl) dX7_build_240 (fun H locs hW hS => ?_)
                        refine lv_aload_n hx hb dX7_build_243 rfl (lv_at hl 2 rfl) ?_
                        refine q_getr hx hb hts hown hW (r := 100) hJ.q.m0 rfl k_8 1 (by decide) rfl t_944 (a := ad1 101) hO1 dX7_build_244 ?_
                        refine lv_dup hx hb dX7_build_247 rfl ?_
                        refine q_getN hx hb hts hown hW (r := 101) hJ.q.mS hJ.q.kS k_7 6 (by decide) rfl t_880 (x := (nI nh)) hJ.eH dX7_build_248 ?_
                        refine lv_iconst (v := 1) hx hb dX7_build_251 (by decide) ?_
                        refine lv_iadd hx hb dX7_build_252 ?_
                        refine q_putN hx hb hts hown hW hS (r := 101) hJ.q.mS hJ.q.kS k_7 6 (by decide) rfl t_880 rfl (t := .int) (by decide +kernel) rfl rfl dX7_build_253 (fun H locs hW hS => ?_)
                        generalize hv18 : (up2 (cpy2 v17 181 (110 + 7) 0 (7 * nh) 7) 101 6 ((nI nh) + 1)) = v18 at hW
                        refine lv_aload_n hx hb dX7_build_256 rfl (lv_at hl 2 rfl) ?_
                        refine q_getr hx hb hts hown hW (r := 100) hJ.q.m0 rfl k_8 1 (by decide) rfl t_944 (a := ad1 101) hO1 dX7_build_257 ?_
                        refine q_getN hx hb hts hown hW (r := 101) hJ.q.mS hJ.q.kS k_7 6 (by decide) rfl t_880 (x := (v18 101 6)) rfl dX7_build_260 ?_
                        refine lv_iconst (v := 1) hx hb dX7_build_263 (by decide) ?_
                        refine lv_isub hx hb dX7_build_264 ?_
                        subst hv18
                        subst hv17
                        subst hv16
                        subst hv15
                        subst hv14
                        subst hv13
                        subst hv12
                        subst hv11
                        subst hv10
                        have hF := rBuild_off (v := v) (nh := nh) (own := own7 (nI g) (nI x) (nI y) (nI wd) (nI dp) e0 f) hF (fun j hj => by rcases (show j = 0 ∨ j = 1 ∨ j = 2 ∨ j = 3 ∨ j = 4 ∨ j = 5 ∨ j = 6 by omega) with rfl | rfl | rfl | rfl | rfl | rfl | rfl <;> rfl)
                        have hW := hW.forget hr9 had ho9 hF
                        exact q_iret hx hb hr hlocks hW hS (by first | decide | omega | (dsimp only; omega)) (by first | decide | omega | (dsimp only; omega)) dX7_build_265 (⟨by show nI nh + 1 - 1 = nI nh; rw [nI_1, nI_pred], rfl⟩)
                      · skip
                        exact absurd (k7.symm.trans c_170) (by decide)
                    · skip
                      have hlt_118 := lt_i (n := (wd * dp)) (by omega) hi_118 c_125
                      have hwd : wd * dp ≤ 36 := sz36 w2 d2
                      refine lv_iload hx hb dX7_build_128 (lv_at hl 1 rfl) ?_
                      refine lv_if_eq (tgt := 159) hx hb dX7_build_130 (by decide) (fun c_130 => ?_) (fun c_130 => ?_)
                      · skip
                        refine lv_iconst (v := 0) hx hb dX7_build_159 (by decide) ?_
                        refine lv_istore (lv' := [(8, .int 0), (9, .int (nI k1)), (0, .ref (ad 100)), (1, .int (nI g)), (2, .int (nI x)), (3, .int (nI y)), (4, .int (nI wd)), (5, .int (nI dp)), (6, .int e0), (7, .int f)]) hx hb dX7_build_160 hl (by decide) rfl (fun ls hl => ?_)
                        refine lv_iinc (v := (nI (k1 + 1))) (lv' := [(9, .int (nI (k1 + 1))), (8, .int 0), (0, .ref (ad 100)), (1, .int (nI g)), (2, .int (nI x)), (3, .int (nI y)), (4, .int (nI wd)), (5, .int (nI dp)), (6, .int e0), (7, .int f)]) hx hb dX7_build_162 hl (k := 1) rfl (inc_nI _) (by decide) rfl (fun ls hl => ?_)
                        refine lv_goto (tgt := 118) hx hb dX7_build_165 (by decide) ?_
                        exact ih_118 (k1 + 1) _ _   _ H locs ls (by omega) (by omega) (by rw [itr_s]; first | exact (if_pos c_130).symm.symm | exact (if_neg c_130).trans (if_pos c_152) | exact (if_neg c_130).trans (if_neg c_152)) (by rfl) (by rfl)  hW hS (lv_sub hl [0, 1, 2, 3, 4, 5, 6, 7, 8, 9] rfl)
                      · skip
                        refine lv_aload_n hx hb dX7_build_133 rfl (lv_at hl 2 rfl) ?_
                        refine lv_iload_n hx hb dX7_build_134 rfl (lv_at hl 4 rfl) ?_
                        refine lv_iload hx hb dX7_build_135 (lv_at hl 0 rfl) ?_
                        refine lv_iload hx hb dX7_build_137 (lv_at hl 6 rfl) ?_
                        refine lv_irem hx hb dX7_build_139 (nI_ne0 (by omega) (by omega)) ?_
                        refine lv_topi (fun xt et => ?_)
                        obtain rfl : xt = (nI (k1 % wd)) := et.trans (pk_rem (by omega) (by omega) (by omega))
                        clear et
                        refine lv_iadd hx hb dX7_build_140 ?_
                        refine lv_iload_n hx hb dX7_build_141 rfl (lv_at hl 5 rfl) ?_
                        refine lv_iload hx hb dX7_build_142 (lv_at hl 0 rfl) ?_
                        refine lv_iload hx hb dX7_build_144 (lv_at hl 6 rfl) ?_
                        refine lv_idiv hx hb dX7_build_146 (nI_ne0 (by omega) (by omega)) ?_
                        refine lv_topi (fun xt et => ?_)
                        obtain rfl : xt = (nI (k1 / wd)) := et.trans (pk_div (by omega) (by omega) (by omega))
                        clear et
                        refine lv_iadd hx hb dX7_build_147 ?_
                        refine q_cViE (As := [.int ((nI x) + (nI (k1 % wd))), .int ((nI y) + (nI (k1 / wd)))]) (rest := []) (r := 100) hx hb hml hts hown hE h0 hW hS (c_X7_at l hJ hO1 ((nI x) + (nI (k1 % wd))) ((nI y) + (nI (k1 / wd)))) mw_X7_at hJ.q.m0 rfl k_8 t_977 ⟨Nat.le_of_ble_eq_true rfl, Nat.le_of_ble_eq_true rfl⟩ rfl hl.1 (Nat.le_of_ble_eq_true rfl) dX7_build_148 ⟨Nat.zero_le _, Nat.zero_le _⟩ ⟨rfl, rfl⟩ (fun H locs hW hS => ?_)
                        refine lv_iconst (v := (-1)) hx hb dX7_build_151 (by decide) ?_
                        refine lv_icmp_ne (tgt := 159) hx hb dX7_build_152 (by decide) (fun c_152 => ?_) (fun c_152 => ?_)
                        · skip
                          refine lv_iconst (v := 0) hx hb dX7_build_159 (by decide) ?_
                          refine lv_istore (lv' := [(8, .int 0), (9, .int (nI k1)), (0, .ref (ad 100)), (1, .int (nI g)), (2, .int (nI x)), (3, .int (nI y)), (4, .int (nI wd)), (5, .int (nI dp)), (6, .int e0), (7, .int f)]) hx hb dX7_build_160 hl (by decide) rfl (fun ls hl => ?_)
                          refine lv_iinc (v := (nI (k1 + 1))) (lv' := [(9, .int (nI (k1 + 1))), (8, .int 0), (0, .ref (ad 100)), (1, .int (nI g)), (2, .int (nI x)), (3, .int (nI y)), (4, .int (nI wd)), (5, .int (nI dp)), (6, .int e0), (7, .int f)]) hx hb dX7_build_162 hl (k := 1) rfl (inc_nI _) (by decide) rfl (fun ls hl => ?_)
                          refine lv_goto (tgt := 118) hx hb dX7_build_165 (by decide) ?_
                          exact ih_118 (k1 + 1) _ _   _ H locs ls (by omega) (by omega) (by rw [itr_s]; first | exact (if_pos c_130).symm.symm | exact (if_neg c_130).trans (if_pos c_152) | exact (if_neg c_130).trans (if_neg c_152)) (by rfl) (by rfl)  hW hS (lv_sub hl [0, 1, 2, 3, 4, 5, 6, 7, 8, 9] rfl)
                        · skip
                          refine lv_iconst (v := 1) hx hb dX7_build_155 (by decide) ?_
                          refine lv_goto (tgt := 160) hx hb dX7_build_156 (by decide) ?_
                          refine lv_istore (lv' := [(8, .int 1), (9, .int (nI k1)), (0, .ref (ad 100)), (1, .int (nI g)), (2, .int (nI x)), (3, .int (nI y)), (4, .int (nI wd)), (5, .int (nI dp)), (6, .int e0), (7, .int f)]) hx hb dX7_build_160 hl (by decide) rfl (fun ls hl => ?_)
                          refine lv_iinc (v := (nI (k1 + 1))) (lv' := [(9, .int (nI (k1 + 1))), (8, .int 1), (0, .ref (ad 100)), (1, .int (nI g)), (2, .int (nI x)), (3, .int (nI y)), (4, .int (nI wd)), (5, .int (nI dp)), (6, .int e0), (7, .int f)]) hx hb dX7_build_162 hl (k := 1) rfl (inc_nI _) (by decide) rfl (fun ls hl => ?_)
                          refine lv_goto (tgt := 118) hx hb dX7_build_165 (by decide) ?_
                          exact ih_118 (k1 + 1) _ _   _ H locs ls (by omega) (by omega) (by rw [itr_s]; first | exact (if_pos c_130).symm.symm | exact (if_neg c_130).trans (if_pos c_152) | exact (if_neg c_130).trans (if_neg c_152)) (by rfl) (by rfl)  hW hS (lv_sub hl [0, 1, 2, 3, 4, 5, 6, 7, 8, 9] rfl)
              · skip
                exact absurd (k6.symm.trans c_87) (by decide)
  · skip
    exact absurd (hck.symm.trans c_10) (by decide)

set_option maxHeartbeats 4000000 in
set_option maxRecDepth 100000 in
theorem c_X7_build_3 (l : Launch) {G : GG} {L : List Nat} {ad : Nat → Nat} {v : Nat → Nat → Int32} {o : Nat → Nat → Option Nat} {w : Nat → Int64} {ng nh nl ns : Nat} {ow gx gy gw gd : Nat → Nat} (hJ : PJ L ad v o 101 110 ng nh nl ns ow gx gy gw gd) (hO1 : o 100 1 = some (ad 101)) {g : Nat} (hg : g < ng) {x y wd dp : Nat} {e0 f : Int32} (k1 : fIn (nI wd) 1 6 = 1) (k2 : fIn (nI dp) 1 6 = 1) (k3 : fIn (nI x) 0 (20 - nI wd) = 1) (k4 : fIn (nI y) 0 (20 - nI dp) = 1) (k5 : fIn e0 1 9 = 1) (k6 : fIn f 1 1000 = 1) (w1 : 1 ≤ wd) (w2 : wd ≤ 6) (d1 : 1 ≤ dp) (d2 : dp ≤ 6) (x2 : x ≤ 20) (y2 : y ≤ 20) (k7 : rFree gx gy gw gd nh x y wd dp = 0) : CtI l G L ad v o w yX7_build cX7_build 10 .int ({ frames := 2, cells := 0, slots := 0, locals := 47 }) [.ref (ad 100), .int (nI g), .int (nI x), .int (nI y), .int (nI wd), .int (nI dp), .int e0, .int f] (fun r u => r = 0 ∧ u = up2 (tz v) 100 0 3) := by
  have hsb := hJ.q.sb; have hbd := hJ.bd; have hck := fIn_nat hg (by omega); have hwd : wd * dp ≤ 36 := sz36 w2 d2
  refine q_ofI (by decide) (Nat.le_of_ble_eq_true rfl) ?_
  intro p e s m below meth c hx hb hr hml hts hown hlocks hE h0 hW hS ls hl
  generalize hH : s.heap = H at hW
  have hS : va_S (Ab G.2.2.1) s.heap H [] := hH ▸ hS
  obtain ⟨locs, hlc⟩ : ∃ z : List Loc, z = [] := ⟨_, rfl⟩
  rw [← hlc] at hS ⊢
  have hl : lv_has ls 10 [(0, .ref (ad 100)), (1, .int (nI g)), (2, .int (nI x)), (3, .int (nI y)), (4, .int (nI wd)), (5, .int (nI dp)), (6, .int e0), (7, .int f)] := hl
  refine lv_aload_n hx hb dX7_build_0 rfl (lv_at hl 0 rfl) ?_
  refine lv_iconst (v := 0) hx hb dX7_build_1 (by decide) ?_
  refine q_put hx hb hts hown hW hS (r := 100) hJ.q.m0 rfl k_8 0 (by decide) rfl t_943 rfl (t := .int) (by decide +kernel) rfl rfl dX7_build_2 (fun H locs hW hS => ?_)
  have hJ : PJ L ad (up2 v 100 0 0) o 101 110 ng nh nl ns ow gx gy gw gd := hJ.kp kr_t
  refine lv_aload_n hx hb dX7_build_5 rfl (lv_at hl 0 rfl) ?_
  refine lv_iload_n hx hb dX7_build_6 rfl (lv_at hl 1 rfl) ?_
  refine q_cViE (As := [.int (nI g)]) (rest := []) (r := 100) hx hb hml hts hown hE h0 hW hS (c_X7_isGrower l hJ hO1 (nI g)) mw_X7_isGrower hJ.q.m0 rfl k_8 t_973 ⟨Nat.le_of_ble_eq_true rfl, Nat.le_of_ble_eq_true rfl⟩ rfl hl.1 (Nat.le_of_ble_eq_true rfl) dX7_build_7 ⟨Nat.zero_le _, Nat.zero_le _⟩ ⟨rfl, rfl⟩ (fun H locs hW hS => ?_)
  refine lv_if_ne (tgt := 19) hx hb dX7_build_10 (by decide) (fun c_10 => ?_) (fun c_10 => ?_)
  · skip
    refine lv_iload hx hb dX7_build_19 (lv_at hl 4 rfl) ?_
    refine lv_iconst (v := 1) hx hb dX7_build_21 (by decide) ?_
    refine lv_bipush (v := 6) hx hb dX7_build_22 (by decide) ?_
    refine q_cSiE (As := [.int (nI wd), .int 1, .int 6]) (rest := []) hx hb hml hts hown hE h0 hW hS (c_X7_isIn l (nI wd) 1 6) mw_X7_isIn t_962 ⟨Nat.le_of_ble_eq_true rfl, Nat.le_of_ble_eq_true rfl⟩ rfl hl.1 (Nat.le_of_ble_eq_true rfl) dX7_build_24 ⟨Nat.zero_le _, Nat.zero_le _⟩ ⟨rfl, rfl⟩ (fun H locs hW hS => ?_)
    refine lv_if_eq (tgt := 90) hx hb dX7_build_27 (by decide) (fun c_27 => ?_) (fun c_27 => ?_)
    · skip
      exact absurd (k1.symm.trans c_27) (by decide)
    · skip
      refine lv_iload hx hb dX7_build_30 (lv_at hl 5 rfl) ?_
      refine lv_iconst (v := 1) hx hb dX7_build_32 (by decide) ?_
      refine lv_bipush (v := 6) hx hb dX7_build_33 (by decide) ?_
      refine q_cSiE (As := [.int (nI dp), .int 1, .int 6]) (rest := []) hx hb hml hts hown hE h0 hW hS (c_X7_isIn l (nI dp) 1 6) mw_X7_isIn t_962 ⟨Nat.le_of_ble_eq_true rfl, Nat.le_of_ble_eq_true rfl⟩ rfl hl.1 (Nat.le_of_ble_eq_true rfl) dX7_build_35 ⟨Nat.zero_le _, Nat.zero_le _⟩ ⟨rfl, rfl⟩ (fun H locs hW hS => ?_)
      refine lv_if_eq (tgt := 90) hx hb dX7_build_38 (by decide) (fun c_38 => ?_) (fun c_38 => ?_)
      · skip
        exact absurd (k2.symm.trans c_38) (by decide)
      · skip
        refine lv_iload_n hx hb dX7_build_41 rfl (lv_at hl 2 rfl) ?_
        refine lv_iconst (v := 0) hx hb dX7_build_42 (by decide) ?_
        refine lv_bipush (v := 20) hx hb dX7_build_43 (by decide) ?_
        refine lv_iload hx hb dX7_build_45 (lv_at hl 4 rfl) ?_
        refine lv_isub hx hb dX7_build_47 ?_
        refine q_cSiE (As := [.int (nI x), .int 0, .int (20 - (nI wd))]) (rest := []) hx hb hml hts hown hE h0 hW hS (c_X7_isIn l (nI x) 0 (20 - (nI wd))) mw_X7_isIn t_962 ⟨Nat.le_of_ble_eq_true rfl, Nat.le_of_ble_eq_true rfl⟩ rfl hl.1 (Nat.le_of_ble_eq_true rfl) dX7_build_48 ⟨Nat.zero_le _, Nat.zero_le _⟩ ⟨rfl, rfl⟩ (fun H locs hW hS => ?_)
        refine lv_if_eq (tgt := 90) hx hb dX7_build_51 (by decide) (fun c_51 => ?_) (fun c_51 => ?_)
        · skip
          exact absurd (k3.symm.trans c_51) (by decide)
        · skip
          refine lv_iload_n hx hb dX7_build_54 rfl (lv_at hl 3 rfl) ?_
          refine lv_iconst (v := 0) hx hb dX7_build_55 (by decide) ?_
          refine lv_bipush (v := 20) hx hb dX7_build_56 (by decide) ?_
          refine lv_iload hx hb dX7_build_58 (lv_at hl 5 rfl) ?_
          refine lv_isub hx hb dX7_build_60 ?_
          refine q_cSiE (As := [.int (nI y), .int 0, .int (20 - (nI dp))]) (rest := []) hx hb hml hts hown hE h0 hW hS (c_X7_isIn l (nI y) 0 (20 - (nI dp))) mw_X7_isIn t_962 ⟨Nat.le_of_ble_eq_true rfl, Nat.le_of_ble_eq_true rfl⟩ rfl hl.1 (Nat.le_of_ble_eq_true rfl) dX7_build_61 ⟨Nat.zero_le _, Nat.zero_le _⟩ ⟨rfl, rfl⟩ (fun H locs hW hS => ?_)
          refine lv_if_eq (tgt := 90) hx hb dX7_build_64 (by decide) (fun c_64 => ?_) (fun c_64 => ?_)
          · skip
            exact absurd (k4.symm.trans c_64) (by decide)
          · skip
            refine lv_iload hx hb dX7_build_67 (lv_at hl 6 rfl) ?_
            refine lv_iconst (v := 1) hx hb dX7_build_69 (by decide) ?_
            refine lv_bipush (v := 9) hx hb dX7_build_70 (by decide) ?_
            refine q_cSiE (As := [.int e0, .int 1, .int 9]) (rest := []) hx hb hml hts hown hE h0 hW hS (c_X7_isIn l e0 1 9) mw_X7_isIn t_962 ⟨Nat.le_of_ble_eq_true rfl, Nat.le_of_ble_eq_true rfl⟩ rfl hl.1 (Nat.le_of_ble_eq_true rfl) dX7_build_72 ⟨Nat.zero_le _, Nat.zero_le _⟩ ⟨rfl, rfl⟩ (fun H locs hW hS => ?_)
            refine lv_if_eq (tgt := 90) hx hb dX7_build_75 (by decide) (fun c_75 => ?_) (fun c_75 => ?_)
            · skip
              exact absurd (k5.symm.trans c_75) (by decide)
            · skip
              refine lv_iload hx hb dX7_build_78 (lv_at hl 7 rfl) ?_
              refine lv_iconst (v := 1) hx hb dX7_build_80 (by decide) ?_
              refine lv_sipush (v := 1000) hx hb dX7_build_81 (by decide) ?_
              refine q_cSiE (As := [.int f, .int 1, .int 1000]) (rest := []) hx hb hml hts hown hE h0 hW hS (c_X7_isIn l f 1 1000) mw_X7_isIn t_962 ⟨Nat.le_of_ble_eq_true rfl, Nat.le_of_ble_eq_true rfl⟩ rfl hl.1 (Nat.le_of_ble_eq_true rfl) dX7_build_84 ⟨Nat.zero_le _, Nat.zero_le _⟩ ⟨rfl, rfl⟩ (fun H locs hW hS => ?_)
              refine lv_if_ne (tgt := 96) hx hb dX7_build_87 (by decide) (fun c_87 => ?_) (fun c_87 => ?_)
              · skip
                refine lv_aload_n hx hb dX7_build_96 rfl (lv_at hl 0 rfl) ?_
                refine q_getr hx hb hts hown hW (r := 100) hJ.q.m0 rfl k_8 1 (by decide) rfl t_944 (a := ad 101) hO1 dX7_build_97 ?_
                refine q_getN hx hb hts hown hW (r := 101) hJ.q.mS hJ.q.kS k_7 6 (by decide) rfl t_880 (x := (nI nh)) hJ.eH dX7_build_100 ?_
                refine lv_bipush (v := 12) hx hb dX7_build_103 (by decide) ?_
                refine lv_icmp_ge (tgt := 112) hx hb dX7_build_105 (by decide) (fun c_105 => ?_) (fun c_105 => ?_)
                · skip
                  refine lv_iconst (v := 0) hx hb dX7_build_112 (by decide) ?_
                  refine lv_topi (fun xt et => ?_)
                  obtain rfl : xt = (if nh < 12 then 1 else 0) := et.trans (by first | rw [if_pos (lt_of_nge (by omega) c_105)] | rw [if_neg (nlt_of_ge (by omega) c_105)])
                  clear et
                  refine lv_istore (lv' := [(8, .int (if nh < 12 then 1 else 0)), (0, .ref (ad 100)), (1, .int (nI g)), (2, .int (nI x)), (3, .int (nI y)), (4, .int (nI wd)), (5, .int (nI dp)), (6, .int e0), (7, .int f)]) hx hb dX7_build_113 hl (by decide) rfl (fun ls hl => ?_)
                  refine lv_iconst (v := 0) hx hb dX7_build_115 (by decide) ?_
                  refine lv_istore (lv' := [(9, .int 0), (8, .int (if nh < 12 then 1 else 0)), (0, .ref (ad 100)), (1, .int (nI g)), (2, .int (nI x)), (3, .int (nI y)), (4, .int (nI wd)), (5, .int (nI dp)), (6, .int e0), (7, .int f)]) hx hb dX7_build_116 hl (by decide) rfl (fun ls hl => ?_)
                  suffices LP_118 : ∀ (n_118 k1 : Nat) (x8_118 : Int32) (x9_118 : Int32)  (u_118 : Nat → Nat → Int32) (H : Heap) (locs : List Loc) (ls : Array Slot), wd * dp + 1 ≤ k1 + n_118 → k1 ≤ wd * dp → itr (fun k f => if f = 0 then 0 else if rAt gx gy gw gd nh (nI x + nI (k % wd)) (nI y + nI (k / wd)) = -1 then 1 else 0) k1 (if nh < 12 then 1 else 0) = x8_118 → nI k1 = x9_118 → up2 v 100 0 0 = u_118 → WD G L ad u_118 o w s H → va_S (Ab G.2.2.1) s.heap H locs → lv_has ls 10 [(9, .int x9_118), (8, .int x8_118), (0, .ref (ad 100)), (1, .int (nI g)), (2, .int (nI x)), (3, .int (nI y)), (4, .int (nI wd)), (5, .int (nI dp)), (6, .int e0), (7, .int f)] → W p l e ({ frames := 2, cells := 0, slots := 0, locals := 47 } : Room) s m ([.ref (ad 100), .int (nI g), .int (nI x), .int (nI y), .int (nI wd), .int (nI dp), .int e0, .int f] : List Value).toArray below meth c H locs 0 0 (MQ below (va_Qi (fun r u => r = 0 ∧ u = up2 (tz v) 100 0 3) (fun u t => WD G L ad u o w t t.heap) (Ab G.2.2.1)) ([.ref (ad 100), .int (nI g), .int (nI x), .int (nI y), .int (nI wd), .int (nI dp), .int e0, .int f] : List Value).toArray s ({ frames := 2, cells := 0, slots := 0, locals := 47 } : Room).cells ({ frames := 2, cells := 0, slots := 0, locals := 47 } : Room).slots (Ab G.2.2.1)) (F0 m 118 ls []) from LP_118 (wd * dp + 1) 0 _ _   _ H locs ls (by omega) (by omega) (by rfl) (by rfl) (by rfl)  hW hS (lv_sub hl [0, 1, 2, 3, 4, 5, 6, 7, 8, 9] rfl)
                  intro n_118
                  induction n_118 with
                  | zero => intro k1 x8_118 x9_118  u_118 H locs ls h1 h2; exact absurd h1 (by omega)
                  | succ n_118 ih_118 =>
                    intro k1 x8_118 x9_118  u_118 H locs ls hn_118 hi_118 ex8_118 ex9_118 eu_118  hW hS hl
                    subst ex8_118
                    subst ex9_118
                    subst eu_118
                    refine lv_iload hx hb dX7_build_118 (lv_at hl 0 rfl) ?_
                    refine lv_iload hx hb dX7_build_120 (lv_at hl 6 rfl) ?_
                    refine lv_iload hx hb dX7_build_122 (lv_at hl 7 rfl) ?_
                    refine lv_imul hx hb dX7_build_124 ?_
                    refine lv_topi (fun xt et => ?_)
                    obtain rfl : xt = nI (wd * dp) := et.trans (by exact pk_mul _ _)
                    clear et
                    refine lv_icmp_ge (tgt := 168) hx hb dX7_build_125 (by decide) (fun c_125 => ?_) (fun c_125 => ?_)
                    · skip
                      have hq_118 := (ge_i (n := (wd * dp)) (by omega) hi_118 c_125).symm
                      subst hq_118
                      refine lv_iload hx hb dX7_build_168 (lv_at hl 1 rfl) ?_
                      refine lv_if_ne (tgt := 179) hx hb dX7_build_170 (by decide) (fun c_170 => ?_) (fun c_170 => ?_)
                      · skip
                        exact absurd k7 c_170
                      · skip
                        refine lv_aload_n hx hb dX7_build_173 rfl (lv_at hl 2 rfl) ?_
                        refine lv_iconst (v := 3) hx hb dX7_build_174 (by decide) ?_
                        refine q_cViE (As := [.int 3]) (rest := []) (r := 100) hx hb hml hts hown hE h0 hW hS (c_X7_no l hJ.q.m0 3) mw_X7_no hJ.q.m0 rfl k_8 t_965 ⟨Nat.le_of_ble_eq_true rfl, Nat.le_of_ble_eq_true rfl⟩ rfl hl.1 (Nat.le_of_ble_eq_true rfl) dX7_build_175 ⟨Nat.zero_le _, Nat.zero_le _⟩ ⟨rfl, rfl⟩ (fun H locs hW hS => ?_)
                        have hJ : PJ L ad (up2 (up2 v 100 0 0) 100 0 3) o 101 110 ng nh nl ns ow gx gy gw gd := hJ.kp kr_t
                        generalize hv1 : (up2 (up2 v 100 0 0) 100 0 3) = v1 at hW hJ
                        subst hv1
                        exact q_iret hx hb hr hlocks hW hS (Nat.le_refl _) (Nat.le_refl _) dX7_build_178 (⟨rfl, rfl⟩)
                    · skip
                      have hlt_118 := lt_i (n := (wd * dp)) (by omega) hi_118 c_125
                      have hwd : wd * dp ≤ 36 := sz36 w2 d2
                      refine lv_iload hx hb dX7_build_128 (lv_at hl 1 rfl) ?_
                      refine lv_if_eq (tgt := 159) hx hb dX7_build_130 (by decide) (fun c_130 => ?_) (fun c_130 => ?_)
                      · skip
                        refine lv_iconst (v := 0) hx hb dX7_build_159 (by decide) ?_
                        refine lv_istore (lv' := [(8, .int 0), (9, .int (nI k1)), (0, .ref (ad 100)), (1, .int (nI g)), (2, .int (nI x)), (3, .int (nI y)), (4, .int (nI wd)), (5, .int (nI dp)), (6, .int e0), (7, .int f)]) hx hb dX7_build_160 hl (by decide) rfl (fun ls hl => ?_)
                        refine lv_iinc (v := (nI (k1 + 1))) (lv' := [(9, .int (nI (k1 + 1))), (8, .int 0), (0, .ref (ad 100)), (1, .int (nI g)), (2, .int (nI x)), (3, .int (nI y)), (4, .int (nI wd)), (5, .int (nI dp)), (6, .int e0), (7, .int f)]) hx hb dX7_build_162 hl (k := 1) rfl (inc_nI _) (by decide) rfl (fun ls hl => ?_)
                        refine lv_goto (tgt := 118) hx hb dX7_build_165 (by decide) ?_
                        exact ih_118 (k1 + 1) _ _   _ H locs ls (by omega) (by omega) (by rw [itr_s]; first | exact (if_pos c_130).symm.symm | exact (if_neg c_130).trans (if_pos c_152) | exact (if_neg c_130).trans (if_neg c_152)) (by rfl) (by rfl)  hW hS (lv_sub hl [0, 1, 2, 3, 4, 5, 6, 7, 8, 9] rfl)
                      · skip
                        refine lv_aload_n hx hb dX7_build_133 rfl (lv_at hl 2 rfl) ?_
                        refine lv_iload_n hx hb dX7_build_134 rfl (lv_at hl 4 rfl) ?_
                        refine lv_iload hx hb dX7_build_135 (lv_at hl 0 rfl) ?_
                        refine lv_iload hx hb dX7_build_137 (lv_at hl 6 rfl) ?_
                        refine lv_irem hx hb dX7_build_139 (nI_ne0 (by omega) (by omega)) ?_
                        refine lv_topi (fun xt et => ?_)
                        obtain rfl : xt = (nI (k1 % wd)) := et.trans (pk_rem (by omega) (by omega) (by omega))
                        clear et
                        refine lv_iadd hx hb dX7_build_140 ?_
                        refine lv_iload_n hx hb dX7_build_141 rfl (lv_at hl 5 rfl) ?_
                        refine lv_iload hx hb dX7_build_142 (lv_at hl 0 rfl) ?_
                        refine lv_iload hx hb dX7_build_144 (lv_at hl 6 rfl) ?_
                        refine lv_idiv hx hb dX7_build_146 (nI_ne0 (by omega) (by omega)) ?_
                        refine lv_topi (fun xt et => ?_)
                        obtain rfl : xt = (nI (k1 / wd)) := et.trans (pk_div (by omega) (by omega) (by omega))
                        clear et
                        refine lv_iadd hx hb dX7_build_147 ?_
                        refine q_cViE (As := [.int ((nI x) + (nI (k1 % wd))), .int ((nI y) + (nI (k1 / wd)))]) (rest := []) (r := 100) hx hb hml hts hown hE h0 hW hS (c_X7_at l hJ hO1 ((nI x) + (nI (k1 % wd))) ((nI y) + (nI (k1 / wd)))) mw_X7_at hJ.q.m0 rfl k_8 t_977 ⟨Nat.le_of_ble_eq_true rfl, Nat.le_of_ble_eq_true rfl⟩ rfl hl.1 (Nat.le_of_ble_eq_true rfl) dX7_build_148 ⟨Nat.zero_le _, Nat.zero_le _⟩ ⟨rfl, rfl⟩ (fun H locs hW hS => ?_)
                        refine lv_iconst (v := (-1)) hx hb dX7_build_151 (by decide) ?_
                        refine lv_icmp_ne (tgt := 159) hx hb dX7_build_152 (by decide) (fun c_152 => ?_) (fun c_152 => ?_)
                        · skip
                          refine lv_iconst (v := 0) hx hb dX7_build_159 (by decide) ?_
                          refine lv_istore (lv' := [(8, .int 0), (9, .int (nI k1)), (0, .ref (ad 100)), (1, .int (nI g)), (2, .int (nI x)), (3, .int (nI y)), (4, .int (nI wd)), (5, .int (nI dp)), (6, .int e0), (7, .int f)]) hx hb dX7_build_160 hl (by decide) rfl (fun ls hl => ?_)
                          refine lv_iinc (v := (nI (k1 + 1))) (lv' := [(9, .int (nI (k1 + 1))), (8, .int 0), (0, .ref (ad 100)), (1, .int (nI g)), (2, .int (nI x)), (3, .int (nI y)), (4, .int (nI wd)), (5, .int (nI dp)), (6, .int e0), (7, .int f)]) hx hb dX7_build_162 hl (k := 1) rfl (inc_nI _) (by decide) rfl (fun ls hl => ?_)
                          refine lv_goto (tgt := 118) hx hb dX7_build_165 (by decide) ?_
                          exact ih_118 (k1 + 1) _ _   _ H locs ls (by omega) (by omega) (by rw [itr_s]; first | exact (if_pos c_130).symm.symm | exact (if_neg c_130).trans (if_pos c_152) | exact (if_neg c_130).trans (if_neg c_152)) (by rfl) (by rfl)  hW hS (lv_sub hl [0, 1, 2, 3, 4, 5, 6, 7, 8, 9] rfl)
                        · skip
                          refine lv_iconst (v := 1) hx hb dX7_build_155 (by decide) ?_
                          refine lv_goto (tgt := 160) hx hb dX7_build_156 (by decide) ?_
                          refine lv_istore (lv' := [(8, .int 1), (9, .int (nI k1)), (0, .ref (ad 100)), (1, .int (nI g)), (2, .int (nI x)), (3, .int (nI y)), (4, .int (nI wd)), (5, .int (nI dp)), (6, .int e0), (7, .int f)]) hx hb dX7_build_160 hl (by decide) rfl (fun ls hl => ?_)
                          refine lv_iinc (v := (nI (k1 + 1))) (lv' := [(9, .int (nI (k1 + 1))), (8, .int 1), (0, .ref (ad 100)), (1, .int (nI g)), (2, .int (nI x)), (3, .int (nI y)), (4, .int (nI wd)), (5, .int (nI dp)), (6, .int e0), (7, .int f)]) hx hb dX7_build_162 hl (k := 1) rfl (inc_nI _) (by decide) rfl (fun ls hl => ?_)
                          refine lv_goto (tgt := 118) hx hb dX7_build_165 (by decide) ?_
                          exact ih_118 (k1 + 1) _ _   _ H locs ls (by omega) (by omega) (by rw [itr_s]; first | exact (if_pos c_130).symm.symm | exact (if_neg c_130).trans (if_pos c_152) | exact (if_neg c_130).trans (if_neg c_152)) (by rfl) (by rfl)  hW hS (lv_sub hl [0, 1, 2, 3, 4, 5, 6, 7, 8, 9] rfl)
                · skip
                  refine lv_iconst (v := 1) hx hb dX7_build_108 (by decide) ?_
                  refine lv_goto (tgt := 113) hx hb dX7_build_109 (by decide) ?_
                  refine lv_topi (fun xt et => ?_)
                  obtain rfl : xt = (if nh < 12 then 1 else 0) := et.trans (by first | rw [if_pos (lt_of_nge (by omega) c_105)] | rw [if_neg (nlt_of_ge (by omega) c_105)])
                  clear et
                  refine lv_istore (lv' := [(8, .int (if nh < 12 then 1 else 0)), (0, .ref (ad 100)), (1, .int (nI g)), (2, .int (nI x)), (3, .int (nI y)), (4, .int (nI wd)), (5, .int (nI dp)), (6, .int e0), (7, .int f)]) hx hb dX7_build_113 hl (by decide) rfl (fun ls hl => ?_)
                  refine lv_iconst (v := 0) hx hb dX7_build_115 (by decide) ?_
                  refine lv_istore (lv' := [(9, .int 0), (8, .int (if nh < 12 then 1 else 0)), (0, .ref (ad 100)), (1, .int (nI g)), (2, .int (nI x)), (3, .int (nI y)), (4, .int (nI wd)), (5, .int (nI dp)), (6, .int e0), (7, .int f)]) hx hb dX7_build_116 hl (by decide) rfl (fun ls hl => ?_)
                  suffices LP_118 : ∀ (n_118 k1 : Nat) (x8_118 : Int32) (x9_118 : Int32)  (u_118 : Nat → Nat → Int32) (H : Heap) (locs : List Loc) (ls : Array Slot), wd * dp + 1 ≤ k1 + n_118 → k1 ≤ wd * dp → itr (fun k f => if f = 0 then 0 else if rAt gx gy gw gd nh (nI x + nI (k % wd)) (nI y + nI (k / wd)) = -1 then 1 else 0) k1 (if nh < 12 then 1 else 0) = x8_118 → nI k1 = x9_118 → up2 v 100 0 0 = u_118 → WD G L ad u_118 o w s H → va_S (Ab G.2.2.1) s.heap H locs → lv_has ls 10 [(9, .int x9_118), (8, .int x8_118), (0, .ref (ad 100)), (1, .int (nI g)), (2, .int (nI x)), (3, .int (nI y)), (4, .int (nI wd)), (5, .int (nI dp)), (6, .int e0), (7, .int f)] → W p l e ({ frames := 2, cells := 0, slots := 0, locals := 47 } : Room) s m ([.ref (ad 100), .int (nI g), .int (nI x), .int (nI y), .int (nI wd), .int (nI dp), .int e0, .int f] : List Value).toArray below meth c H locs 0 0 (MQ below (va_Qi (fun r u => r = 0 ∧ u = up2 (tz v) 100 0 3) (fun u t => WD G L ad u o w t t.heap) (Ab G.2.2.1)) ([.ref (ad 100), .int (nI g), .int (nI x), .int (nI y), .int (nI wd), .int (nI dp), .int e0, .int f] : List Value).toArray s ({ frames := 2, cells := 0, slots := 0, locals := 47 } : Room).cells ({ frames := 2, cells := 0, slots := 0, locals := 47 } : Room).slots (Ab G.2.2.1)) (F0 m 118 ls []) from LP_118 (wd * dp + 1) 0 _ _   _ H locs ls (by omega) (by omega) (by rfl) (by rfl) (by rfl)  hW hS (lv_sub hl [0, 1, 2, 3, 4, 5, 6, 7, 8, 9] rfl)
                  intro n_118
                  induction n_118 with
                  | zero => intro k1 x8_118 x9_118  u_118 H locs ls h1 h2; exact absurd h1 (by omega)
                  | succ n_118 ih_118 =>
                    intro k1 x8_118 x9_118  u_118 H locs ls hn_118 hi_118 ex8_118 ex9_118 eu_118  hW hS hl
                    subst ex8_118
                    subst ex9_118
                    subst eu_118
                    refine lv_iload hx hb dX7_build_118 (lv_at hl 0 rfl) ?_
                    refine lv_iload hx hb dX7_build_120 (lv_at hl 6 rfl) ?_
                    refine lv_iload hx hb dX7_build_122 (lv_at hl 7 rfl) ?_
                    refine lv_imul hx hb dX7_build_124 ?_
                    refine lv_topi (fun xt et => ?_)
                    obtain rfl : xt = nI (wd * dp) := et.trans (by exact pk_mul _ _)
                    clear et
                    refine lv_icmp_ge (tgt := 168) hx hb dX7_build_125 (by decide) (fun c_125 => ?_) (fun c_125 => ?_)
                    · skip
                      have hq_118 := (ge_i (n := (wd * dp)) (by omega) hi_118 c_125).symm
                      subst hq_118
                      refine lv_iload hx hb dX7_build_168 (lv_at hl 1 rfl) ?_
                      refine lv_if_ne (tgt := 179) hx hb dX7_build_170 (by decide) (fun c_170 => ?_) (fun c_170 => ?_)
                      · skip
                        exact absurd k7 c_170
                      · skip
                        refine lv_aload_n hx hb dX7_build_173 rfl (lv_at hl 2 rfl) ?_
                        refine lv_iconst (v := 3) hx hb dX7_build_174 (by decide) ?_
                        refine q_cViE (As := [.int 3]) (rest := []) (r := 100) hx hb hml hts hown hE h0 hW hS (c_X7_no l hJ.q.m0 3) mw_X7_no hJ.q.m0 rfl k_8 t_965 ⟨Nat.le_of_ble_eq_true rfl, Nat.le_of_ble_eq_true rfl⟩ rfl hl.1 (Nat.le_of_ble_eq_true rfl) dX7_build_175 ⟨Nat.zero_le _, Nat.zero_le _⟩ ⟨rfl, rfl⟩ (fun H locs hW hS => ?_)
                        have hJ : PJ L ad (up2 (up2 v 100 0 0) 100 0 3) o 101 110 ng nh nl ns ow gx gy gw gd := hJ.kp kr_t
                        generalize hv2 : (up2 (up2 v 100 0 0) 100 0 3) = v2 at hW hJ
                        subst hv2
                        exact q_iret hx hb hr hlocks hW hS (Nat.le_refl _) (Nat.le_refl _) dX7_build_178 (⟨rfl, rfl⟩)
                    · skip
                      have hlt_118 := lt_i (n := (wd * dp)) (by omega) hi_118 c_125
                      have hwd : wd * dp ≤ 36 := sz36 w2 d2
                      refine lv_iload hx hb dX7_build_128 (lv_at hl 1 rfl) ?_
                      refine lv_if_eq (tgt := 159) hx hb dX7_build_130 (by decide) (fun c_130 => ?_) (fun c_130 => ?_)
                      · skip
                        refine lv_iconst (v := 0) hx hb dX7_build_159 (by decide) ?_
                        refine lv_istore (lv' := [(8, .int 0), (9, .int (nI k1)), (0, .ref (ad 100)), (1, .int (nI g)), (2, .int (nI x)), (3, .int (nI y)), (4, .int (nI wd)), (5, .int (nI dp)), (6, .int e0), (7, .int f)]) hx hb dX7_build_160 hl (by decide) rfl (fun ls hl => ?_)
                        refine lv_iinc (v := (nI (k1 + 1))) (lv' := [(9, .int (nI (k1 + 1))), (8, .int 0), (0, .ref (ad 100)), (1, .int (nI g)), (2, .int (nI x)), (3, .int (nI y)), (4, .int (nI wd)), (5, .int (nI dp)), (6, .int e0), (7, .int f)]) hx hb dX7_build_162 hl (k := 1) rfl (inc_nI _) (by decide) rfl (fun ls hl => ?_)
                        refine lv_goto (tgt := 118) hx hb dX7_build_165 (by decide) ?_
                        exact ih_118 (k1 + 1) _ _   _ H locs ls (by omega) (by omega) (by rw [itr_s]; first | exact (if_pos c_130).symm.symm | exact (if_neg c_130).trans (if_pos c_152) | exact (if_neg c_130).trans (if_neg c_152)) (by rfl) (by rfl)  hW hS (lv_sub hl [0, 1, 2, 3, 4, 5, 6, 7, 8, 9] rfl)
                      · skip
                        refine lv_aload_n hx hb dX7_build_133 rfl (lv_at hl 2 rfl) ?_
                        refine lv_iload_n hx hb dX7_build_134 rfl (lv_at hl 4 rfl) ?_
                        refine lv_iload hx hb dX7_build_135 (lv_at hl 0 rfl) ?_
                        refine lv_iload hx hb dX7_build_137 (lv_at hl 6 rfl) ?_
                        refine lv_irem hx hb dX7_build_139 (nI_ne0 (by omega) (by omega)) ?_
                        refine lv_topi (fun xt et => ?_)
                        obtain rfl : xt = (nI (k1 % wd)) := et.trans (pk_rem (by omega) (by omega) (by omega))
                        clear et
                        refine lv_iadd hx hb dX7_build_140 ?_
                        refine lv_iload_n hx hb dX7_build_141 rfl (lv_at hl 5 rfl) ?_
                        refine lv_iload hx hb dX7_build_142 (lv_at hl 0 rfl) ?_
                        refine lv_iload hx hb dX7_build_144 (lv_at hl 6 rfl) ?_
                        refine lv_idiv hx hb dX7_build_146 (nI_ne0 (by omega) (by omega)) ?_
                        refine lv_topi (fun xt et => ?_)
                        obtain rfl : xt = (nI (k1 / wd)) := et.trans (pk_div (by omega) (by omega) (by omega))
                        clear et
                        refine lv_iadd hx hb dX7_build_147 ?_
                        refine q_cViE (As := [.int ((nI x) + (nI (k1 % wd))), .int ((nI y) + (nI (k1 / wd)))]) (rest := []) (r := 100) hx hb hml hts hown hE h0 hW hS (c_X7_at l hJ hO1 ((nI x) + (nI (k1 % wd))) ((nI y) + (nI (k1 / wd)))) mw_X7_at hJ.q.m0 rfl k_8 t_977 ⟨Nat.le_of_ble_eq_true rfl, Nat.le_of_ble_eq_true rfl⟩ rfl hl.1 (Nat.le_of_ble_eq_true rfl) dX7_build_148 ⟨Nat.zero_le _, Nat.zero_le _⟩ ⟨rfl, rfl⟩ (fun H locs hW hS => ?_)
                        refine lv_iconst (v := (-1)) hx hb dX7_build_151 (by decide) ?_
                        refine lv_icmp_ne (tgt := 159) hx hb dX7_build_152 (by decide) (fun c_152 => ?_) (fun c_152 => ?_)
                        · skip
                          refine lv_iconst (v := 0) hx hb dX7_build_159 (by decide) ?_
                          refine lv_istore (lv' := [(8, .int 0), (9, .int (nI k1)), (0, .ref (ad 100)), (1, .int (nI g)), (2, .int (nI x)), (3, .int (nI y)), (4, .int (nI wd)), (5, .int (nI dp)), (6, .int e0), (7, .int f)]) hx hb dX7_build_160 hl (by decide) rfl (fun ls hl => ?_)
                          refine lv_iinc (v := (nI (k1 + 1))) (lv' := [(9, .int (nI (k1 + 1))), (8, .int 0), (0, .ref (ad 100)), (1, .int (nI g)), (2, .int (nI x)), (3, .int (nI y)), (4, .int (nI wd)), (5, .int (nI dp)), (6, .int e0), (7, .int f)]) hx hb dX7_build_162 hl (k := 1) rfl (inc_nI _) (by decide) rfl (fun ls hl => ?_)
                          refine lv_goto (tgt := 118) hx hb dX7_build_165 (by decide) ?_
                          exact ih_118 (k1 + 1) _ _   _ H locs ls (by omega) (by omega) (by rw [itr_s]; first | exact (if_pos c_130).symm.symm | exact (if_neg c_130).trans (if_pos c_152) | exact (if_neg c_130).trans (if_neg c_152)) (by rfl) (by rfl)  hW hS (lv_sub hl [0, 1, 2, 3, 4, 5, 6, 7, 8, 9] rfl)
                        · skip
                          refine lv_iconst (v := 1) hx hb dX7_build_155 (by decide) ?_
                          refine lv_goto (tgt := 160) hx hb dX7_build_156 (by decide) ?_
                          refine lv_istore (lv' := [(8, .int 1), (9, .int (nI k1)), (0, .ref (ad 100)), (1, .int (nI g)), (2, .int (nI x)), (3, .int (nI y)), (4, .int (nI wd)), (5, .int (nI dp)), (6, .int e0), (7, .int f)]) hx hb dX7_build_160 hl (by decide) rfl (fun ls hl => ?_)
                          refine lv_iinc (v := (nI (k1 + 1))) (lv' := [(9, .int (nI (k1 + 1))), (8, .int 1), (0, .ref (ad 100)), (1, .int (nI g)), (2, .int (nI x)), (3, .int (nI y)), (4, .int (nI wd)), (5, .int (nI dp)), (6, .int e0), (7, .int f)]) hx hb dX7_build_162 hl (k := 1) rfl (inc_nI _) (by decide) rfl (fun ls hl => ?_)
                          refine lv_goto (tgt := 118) hx hb dX7_build_165 (by decide) ?_
                          exact ih_118 (k1 + 1) _ _   _ H locs ls (by omega) (by omega) (by rw [itr_s]; first | exact (if_pos c_130).symm.symm | exact (if_neg c_130).trans (if_pos c_152) | exact (if_neg c_130).trans (if_neg c_152)) (by rfl) (by rfl)  hW hS (lv_sub hl [0, 1, 2, 3, 4, 5, 6, 7, 8, 9] rfl)
              · skip
                exact absurd (k6.symm.trans c_87) (by decide)
  · skip
    exact absurd (hck.symm.trans c_10) (by decide)

set_option maxHeartbeats 4000000 in
set_option maxRecDepth 100000 in
theorem c_X7_endYear (l : Launch) {G : GG} {L : List Nat} {ad : Nat → Nat} {v : Nat → Nat → Int32} {o : Nat → Nat → Option Nat} {w : Nat → Int64} {ng nh nl ns : Nat} {ow gx gy gw gd : Nat → Nat} (hJ : PJ L ad v o 101 110 ng nh nl ns ow gx gy gw gd) (hO1 : o 100 1 = some (ad 101)) : CtI l G L ad v o w yX7_endYear cX7_endYear 1 .int ({ frames := 3, cells := 0, slots := 0, locals := 67 }) [.ref (ad 100)] (fun r u => r = (rYs (tz v) 110 gw gd ng nh).2 ∧ u = rYear (tz v) 110 101 gw gd ng nh nl) := by
  have hsb := hJ.q.sb; have hbd := hJ.bd
  refine q_ofI (by decide) (Nat.le_of_ble_eq_true rfl) ?_
  intro p e s m below meth c hx hb hr hml hts hown hlocks hE h0 hW hS ls hl
  generalize hH : s.heap = H at hW
  have hS : va_S (Ab G.2.2.1) s.heap H [] := hH ▸ hS
  obtain ⟨locs, hlc⟩ : ∃ z : List Loc, z = [] := ⟨_, rfl⟩
  rw [← hlc] at hS ⊢
  have hl : lv_has ls 1 [(0, .ref (ad 100))] := hl
  refine lv_aload_n hx hb dX7_endYear_0 rfl (lv_at hl 0 rfl) ?_
  refine lv_iconst (v := 0) hx hb dX7_endYear_1 (by decide) ?_
  refine q_put hx hb hts hown hW hS (r := 100) hJ.q.m0 rfl k_8 0 (by decide) rfl t_943 rfl (t := .int) (by decide +kernel) rfl rfl dX7_endYear_2 (fun H locs hW hS => ?_)
  have hJ : PJ L ad (up2 v 100 0 0) o 101 110 ng nh nl ns ow gx gy gw gd := hJ.kp kr_t
  refine lv_aload_n hx hb dX7_endYear_5 rfl (lv_at hl 0 rfl) ?_
  refine q_getr hx hb hts hown hW (r := 100) hJ.q.m0 rfl k_8 1 (by decide) rfl t_944 (a := ad 101) hO1 dX7_endYear_6 ?_
  refine q_cViE (As := []) (rest := []) (r := 101) hx hb hml hts hown hE h0 hW hS (c_X6_endYear l hJ) mw_X6_endYear hJ.q.mS hJ.q.kS k_7 t_1070 ⟨Nat.le_of_ble_eq_true rfl, Nat.le_of_ble_eq_true rfl⟩ rfl hl.1 (Nat.le_of_ble_eq_true rfl) dX7_endYear_9 ⟨Nat.zero_le _, Nat.zero_le _⟩ ⟨rfl, rfl⟩ (fun H locs hW hS => ?_)
  exact q_iret hx hb hr hlocks hW hS (Nat.le_refl _) (Nat.le_refl _) dX7_endYear_12 (⟨rfl, rfl⟩)

set_option maxHeartbeats 4000000 in
set_option maxRecDepth 100000 in
theorem c_X7_isStorm (l : Launch) {G : GG} {L : List Nat} {ad : Nat → Nat} {v : Nat → Nat → Int32} {o : Nat → Nat → Option Nat} {w : Nat → Int64} (a b c0 d e0 f g0 : Int32) : CtI l G L ad v o w yX7_isStorm cX7_isStorm 7 .boolean ({ frames := 1, cells := 0, slots := 0, locals := 22 }) [.int a, .int b, .int c0, .int d, .int e0, .int f, .int g0] (fun r u => r = fSto a b c0 d e0 f g0 ∧ u = v) := by
  skip
  refine q_ofI (by decide) (Nat.le_of_ble_eq_true rfl) ?_
  intro p e s m below meth c hx hb hr hml hts hown hlocks hE h0 hW hS ls hl
  generalize hH : s.heap = H at hW
  have hS : va_S (Ab G.2.2.1) s.heap H [] := hH ▸ hS
  obtain ⟨locs, hlc⟩ : ∃ z : List Loc, z = [] := ⟨_, rfl⟩
  rw [← hlc] at hS ⊢
  have hl : lv_has ls 7 [(0, .int a), (1, .int b), (2, .int c0), (3, .int d), (4, .int e0), (5, .int f), (6, .int g0)] := hl
  refine lv_iload_n hx hb dX7_isStorm_0 rfl (lv_at hl 0 rfl) ?_
  refine lv_bipush (v := (-20)) hx hb dX7_isStorm_1 (by decide) ?_
  refine lv_bipush (v := 39) hx hb dX7_isStorm_3 (by decide) ?_
  refine q_cSiE (As := [.int a, .int (-20), .int 39]) (rest := []) hx hb hml hts hown hE h0 hW hS (c_X7_isIn l a (-20) 39) mw_X7_isIn t_962 ⟨Nat.le_of_ble_eq_true rfl, Nat.le_of_ble_eq_true rfl⟩ rfl hl.1 (Nat.le_of_ble_eq_true rfl) dX7_isStorm_5 ⟨Nat.zero_le _, Nat.zero_le _⟩ ⟨rfl, rfl⟩ (fun H locs hW hS => ?_)
  refine lv_if_eq (tgt := 78) hx hb dX7_isStorm_8 (by decide) (fun c_8 => ?_) (fun c_8 => ?_)
  · skip
    refine lv_iconst (v := 0) hx hb dX7_isStorm_78 (by decide) ?_
    exact q_zret hx hb hr hlocks hW hS (Nat.le_refl _) (Nat.le_refl _) (by decide) dX7_isStorm_79 (⟨by first | exact fSto_1 c_8 c_19 c_29 c_39 c_49 c_60 c_71 | exact fSto_0 (Or.inl c_8) | exact fSto_0 (Or.inr (Or.inl c_19)) | exact fSto_0 (Or.inr (Or.inr (Or.inl c_29))) | exact fSto_0 (Or.inr (Or.inr (Or.inr (Or.inl c_39)))) | exact fSto_0 (Or.inr (Or.inr (Or.inr (Or.inr (Or.inl c_49))))) | exact fSto_0 (Or.inr (Or.inr (Or.inr (Or.inr (Or.inr (Or.inl c_60)))))) | exact fSto_0 (Or.inr (Or.inr (Or.inr (Or.inr (Or.inr (Or.inr (c_71))))))), rfl⟩)
  · skip
    refine lv_iload_n hx hb dX7_isStorm_11 rfl (lv_at hl 1 rfl) ?_
    refine lv_bipush (v := (-20)) hx hb dX7_isStorm_12 (by decide) ?_
    refine lv_bipush (v := 39) hx hb dX7_isStorm_14 (by decide) ?_
    refine q_cSiE (As := [.int b, .int (-20), .int 39]) (rest := []) hx hb hml hts hown hE h0 hW hS (c_X7_isIn l b (-20) 39) mw_X7_isIn t_962 ⟨Nat.le_of_ble_eq_true rfl, Nat.le_of_ble_eq_true rfl⟩ rfl hl.1 (Nat.le_of_ble_eq_true rfl) dX7_isStorm_16 ⟨Nat.zero_le _, Nat.zero_le _⟩ ⟨rfl, rfl⟩ (fun H locs hW hS => ?_)
    refine lv_if_eq (tgt := 78) hx hb dX7_isStorm_19 (by decide) (fun c_19 => ?_) (fun c_19 => ?_)
    · skip
      refine lv_iconst (v := 0) hx hb dX7_isStorm_78 (by decide) ?_
      exact q_zret hx hb hr hlocks hW hS (Nat.le_refl _) (Nat.le_refl _) (by decide) dX7_isStorm_79 (⟨by first | exact fSto_1 c_8 c_19 c_29 c_39 c_49 c_60 c_71 | exact fSto_0 (Or.inl c_8) | exact fSto_0 (Or.inr (Or.inl c_19)) | exact fSto_0 (Or.inr (Or.inr (Or.inl c_29))) | exact fSto_0 (Or.inr (Or.inr (Or.inr (Or.inl c_39)))) | exact fSto_0 (Or.inr (Or.inr (Or.inr (Or.inr (Or.inl c_49))))) | exact fSto_0 (Or.inr (Or.inr (Or.inr (Or.inr (Or.inr (Or.inl c_60)))))) | exact fSto_0 (Or.inr (Or.inr (Or.inr (Or.inr (Or.inr (Or.inr (c_71))))))), rfl⟩)
    · skip
      refine lv_iload_n hx hb dX7_isStorm_22 rfl (lv_at hl 2 rfl) ?_
      refine lv_bipush (v := (-3)) hx hb dX7_isStorm_23 (by decide) ?_
      refine lv_iconst (v := 3) hx hb dX7_isStorm_25 (by decide) ?_
      refine q_cSiE (As := [.int c0, .int (-3), .int 3]) (rest := []) hx hb hml hts hown hE h0 hW hS (c_X7_isIn l c0 (-3) 3) mw_X7_isIn t_962 ⟨Nat.le_of_ble_eq_true rfl, Nat.le_of_ble_eq_true rfl⟩ rfl hl.1 (Nat.le_of_ble_eq_true rfl) dX7_isStorm_26 ⟨Nat.zero_le _, Nat.zero_le _⟩ ⟨rfl, rfl⟩ (fun H locs hW hS => ?_)
      refine lv_if_eq (tgt := 78) hx hb dX7_isStorm_29 (by decide) (fun c_29 => ?_) (fun c_29 => ?_)
      · skip
        refine lv_iconst (v := 0) hx hb dX7_isStorm_78 (by decide) ?_
        exact q_zret hx hb hr hlocks hW hS (Nat.le_refl _) (Nat.le_refl _) (by decide) dX7_isStorm_79 (⟨by first | exact fSto_1 c_8 c_19 c_29 c_39 c_49 c_60 c_71 | exact fSto_0 (Or.inl c_8) | exact fSto_0 (Or.inr (Or.inl c_19)) | exact fSto_0 (Or.inr (Or.inr (Or.inl c_29))) | exact fSto_0 (Or.inr (Or.inr (Or.inr (Or.inl c_39)))) | exact fSto_0 (Or.inr (Or.inr (Or.inr (Or.inr (Or.inl c_49))))) | exact fSto_0 (Or.inr (Or.inr (Or.inr (Or.inr (Or.inr (Or.inl c_60)))))) | exact fSto_0 (Or.inr (Or.inr (Or.inr (Or.inr (Or.inr (Or.inr (c_71))))))), rfl⟩)
      · skip
        refine lv_iload_n hx hb dX7_isStorm_32 rfl (lv_at hl 3 rfl) ?_
        refine lv_bipush (v := (-3)) hx hb dX7_isStorm_33 (by decide) ?_
        refine lv_iconst (v := 3) hx hb dX7_isStorm_35 (by decide) ?_
        refine q_cSiE (As := [.int d, .int (-3), .int 3]) (rest := []) hx hb hml hts hown hE h0 hW hS (c_X7_isIn l d (-3) 3) mw_X7_isIn t_962 ⟨Nat.le_of_ble_eq_true rfl, Nat.le_of_ble_eq_true rfl⟩ rfl hl.1 (Nat.le_of_ble_eq_true rfl) dX7_isStorm_36 ⟨Nat.zero_le _, Nat.zero_le _⟩ ⟨rfl, rfl⟩ (fun H locs hW hS => ?_)
        refine lv_if_eq (tgt := 78) hx hb dX7_isStorm_39 (by decide) (fun c_39 => ?_) (fun c_39 => ?_)
        · skip
          refine lv_iconst (v := 0) hx hb dX7_isStorm_78 (by decide) ?_
          exact q_zret hx hb hr hlocks hW hS (Nat.le_refl _) (Nat.le_refl _) (by decide) dX7_isStorm_79 (⟨by first | exact fSto_1 c_8 c_19 c_29 c_39 c_49 c_60 c_71 | exact fSto_0 (Or.inl c_8) | exact fSto_0 (Or.inr (Or.inl c_19)) | exact fSto_0 (Or.inr (Or.inr (Or.inl c_29))) | exact fSto_0 (Or.inr (Or.inr (Or.inr (Or.inl c_39)))) | exact fSto_0 (Or.inr (Or.inr (Or.inr (Or.inr (Or.inl c_49))))) | exact fSto_0 (Or.inr (Or.inr (Or.inr (Or.inr (Or.inr (Or.inl c_60)))))) | exact fSto_0 (Or.inr (Or.inr (Or.inr (Or.inr (Or.inr (Or.inr (c_71))))))), rfl⟩)
        · skip
          refine lv_iload hx hb dX7_isStorm_42 (lv_at hl 4 rfl) ?_
          refine lv_iconst (v := 0) hx hb dX7_isStorm_44 (by decide) ?_
          refine lv_iconst (v := 5) hx hb dX7_isStorm_45 (by decide) ?_
          refine q_cSiE (As := [.int e0, .int 0, .int 5]) (rest := []) hx hb hml hts hown hE h0 hW hS (c_X7_isIn l e0 0 5) mw_X7_isIn t_962 ⟨Nat.le_of_ble_eq_true rfl, Nat.le_of_ble_eq_true rfl⟩ rfl hl.1 (Nat.le_of_ble_eq_true rfl) dX7_isStorm_46 ⟨Nat.zero_le _, Nat.zero_le _⟩ ⟨rfl, rfl⟩ (fun H locs hW hS => ?_)
          refine lv_if_eq (tgt := 78) hx hb dX7_isStorm_49 (by decide) (fun c_49 => ?_) (fun c_49 => ?_)
          · skip
            refine lv_iconst (v := 0) hx hb dX7_isStorm_78 (by decide) ?_
            exact q_zret hx hb hr hlocks hW hS (Nat.le_refl _) (Nat.le_refl _) (by decide) dX7_isStorm_79 (⟨by first | exact fSto_1 c_8 c_19 c_29 c_39 c_49 c_60 c_71 | exact fSto_0 (Or.inl c_8) | exact fSto_0 (Or.inr (Or.inl c_19)) | exact fSto_0 (Or.inr (Or.inr (Or.inl c_29))) | exact fSto_0 (Or.inr (Or.inr (Or.inr (Or.inl c_39)))) | exact fSto_0 (Or.inr (Or.inr (Or.inr (Or.inr (Or.inl c_49))))) | exact fSto_0 (Or.inr (Or.inr (Or.inr (Or.inr (Or.inr (Or.inl c_60)))))) | exact fSto_0 (Or.inr (Or.inr (Or.inr (Or.inr (Or.inr (Or.inr (c_71))))))), rfl⟩)
          · skip
            refine lv_iload hx hb dX7_isStorm_52 (lv_at hl 5 rfl) ?_
            refine lv_iconst (v := 1) hx hb dX7_isStorm_54 (by decide) ?_
            refine lv_bipush (v := 20) hx hb dX7_isStorm_55 (by decide) ?_
            refine q_cSiE (As := [.int f, .int 1, .int 20]) (rest := []) hx hb hml hts hown hE h0 hW hS (c_X7_isIn l f 1 20) mw_X7_isIn t_962 ⟨Nat.le_of_ble_eq_true rfl, Nat.le_of_ble_eq_true rfl⟩ rfl hl.1 (Nat.le_of_ble_eq_true rfl) dX7_isStorm_57 ⟨Nat.zero_le _, Nat.zero_le _⟩ ⟨rfl, rfl⟩ (fun H locs hW hS => ?_)
            refine lv_if_eq (tgt := 78) hx hb dX7_isStorm_60 (by decide) (fun c_60 => ?_) (fun c_60 => ?_)
            · skip
              refine lv_iconst (v := 0) hx hb dX7_isStorm_78 (by decide) ?_
              exact q_zret hx hb hr hlocks hW hS (Nat.le_refl _) (Nat.le_refl _) (by decide) dX7_isStorm_79 (⟨by first | exact fSto_1 c_8 c_19 c_29 c_39 c_49 c_60 c_71 | exact fSto_0 (Or.inl c_8) | exact fSto_0 (Or.inr (Or.inl c_19)) | exact fSto_0 (Or.inr (Or.inr (Or.inl c_29))) | exact fSto_0 (Or.inr (Or.inr (Or.inr (Or.inl c_39)))) | exact fSto_0 (Or.inr (Or.inr (Or.inr (Or.inr (Or.inl c_49))))) | exact fSto_0 (Or.inr (Or.inr (Or.inr (Or.inr (Or.inr (Or.inl c_60)))))) | exact fSto_0 (Or.inr (Or.inr (Or.inr (Or.inr (Or.inr (Or.inr (c_71))))))), rfl⟩)
            · skip
              refine lv_iload hx hb dX7_isStorm_63 (lv_at hl 6 rfl) ?_
              refine lv_iconst (v := 1) hx hb dX7_isStorm_65 (by decide) ?_
              refine lv_bipush (v := 30) hx hb dX7_isStorm_66 (by decide) ?_
              refine q_cSiE (As := [.int g0, .int 1, .int 30]) (rest := []) hx hb hml hts hown hE h0 hW hS (c_X7_isIn l g0 1 30) mw_X7_isIn t_962 ⟨Nat.le_of_ble_eq_true rfl, Nat.le_of_ble_eq_true rfl⟩ rfl hl.1 (Nat.le_of_ble_eq_true rfl) dX7_isStorm_68 ⟨Nat.zero_le _, Nat.zero_le _⟩ ⟨rfl, rfl⟩ (fun H locs hW hS => ?_)
              refine lv_if_eq (tgt := 78) hx hb dX7_isStorm_71 (by decide) (fun c_71 => ?_) (fun c_71 => ?_)
              · skip
                refine lv_iconst (v := 0) hx hb dX7_isStorm_78 (by decide) ?_
                exact q_zret hx hb hr hlocks hW hS (Nat.le_refl _) (Nat.le_refl _) (by decide) dX7_isStorm_79 (⟨by first | exact fSto_1 c_8 c_19 c_29 c_39 c_49 c_60 c_71 | exact fSto_0 (Or.inl c_8) | exact fSto_0 (Or.inr (Or.inl c_19)) | exact fSto_0 (Or.inr (Or.inr (Or.inl c_29))) | exact fSto_0 (Or.inr (Or.inr (Or.inr (Or.inl c_39)))) | exact fSto_0 (Or.inr (Or.inr (Or.inr (Or.inr (Or.inl c_49))))) | exact fSto_0 (Or.inr (Or.inr (Or.inr (Or.inr (Or.inr (Or.inl c_60)))))) | exact fSto_0 (Or.inr (Or.inr (Or.inr (Or.inr (Or.inr (Or.inr (c_71))))))), rfl⟩)
              · skip
                refine lv_iconst (v := 1) hx hb dX7_isStorm_74 (by decide) ?_
                refine lv_goto (tgt := 79) hx hb dX7_isStorm_75 (by decide) ?_
                exact q_zret hx hb hr hlocks hW hS (Nat.le_refl _) (Nat.le_refl _) (by decide) dX7_isStorm_79 (⟨by first | exact fSto_1 c_8 c_19 c_29 c_39 c_49 c_60 c_71 | exact fSto_0 (Or.inl c_8) | exact fSto_0 (Or.inr (Or.inl c_19)) | exact fSto_0 (Or.inr (Or.inr (Or.inl c_29))) | exact fSto_0 (Or.inr (Or.inr (Or.inr (Or.inl c_39)))) | exact fSto_0 (Or.inr (Or.inr (Or.inr (Or.inr (Or.inl c_49))))) | exact fSto_0 (Or.inr (Or.inr (Or.inr (Or.inr (Or.inr (Or.inl c_60)))))) | exact fSto_0 (Or.inr (Or.inr (Or.inr (Or.inr (Or.inr (Or.inr (c_71))))))), rfl⟩)

set_option maxHeartbeats 4000000 in
set_option maxRecDepth 100000 in
theorem c_X7_storm (l : Launch) {G : GG} {L : List Nat} {ad : Nat → Nat} {v : Nat → Nat → Int32} {o : Nat → Nat → Option Nat} {w : Nat → Int64} {ng nh nl ns : Nat} {ow gx gy gw gd : Nat → Nat} (hJ : PJ L ad v o 101 110 ng nh nl ns ow gx gy gw gd) (hO1 : o 100 1 = some (ad 101)) {sx sy dx dy rad : Int} {F : Int32} {st : Nat} (hs1 : -20 ≤ sx) (hs2 : sx ≤ 39) (hs3 : -20 ≤ sy) (hs4 : sy ≤ 39) (hs5 : -3 ≤ dx) (hs6 : dx ≤ 3) (hs7 : -3 ≤ dy) (hs8 : dy ≤ 3) (hs9 : 0 ≤ rad) (hs10 : rad ≤ 5) (hs11 : st ≤ 30) (k1 : fSto (iI sx) (iI sy) (iI dx) (iI dy) (iI rad) F (nI st) = 1) (k2 : ns < 30) : CtI l G L ad v o w yX7_storm cX7_storm 8 .int ({ frames := 4, cells := 0, slots := 0, locals := 99 }) [.ref (ad 100), .int (iI sx), .int (iI sy), .int (iI dx), .int (iI dy), .int (iI rad), .int F, .int (nI st)] (fun r u => r = rStorm (tz v) 110 101 gx gy gw gd ng nh nl sx sy dx dy rad F st 126 3 ∧ u = up2 (cpy2 (rStorm (tz v) 110 101 gx gy gw gd ng nh nl sx sy dx dy rad F st) 126 124 0 (6 * ns) 6) 101 13 (nI (ns + 1))) := by
  have hsb := hJ.q.sb; have hbd := hJ.bd
  refine q_ofI (by decide) (Nat.le_of_ble_eq_true rfl) ?_
  intro p e s m below meth c hx hb hr hml hts hown hlocks hE h0 hW hS ls hl
  generalize hH : s.heap = H at hW
  have hS : va_S (Ab G.2.2.1) s.heap H [] := hH ▸ hS
  obtain ⟨locs, hlc⟩ : ∃ z : List Loc, z = [] := ⟨_, rfl⟩
  rw [← hlc] at hS ⊢
  have hl : lv_has ls 8 [(0, .ref (ad 100)), (1, .int (iI sx)), (2, .int (iI sy)), (3, .int (iI dx)), (4, .int (iI dy)), (5, .int (iI rad)), (6, .int F), (7, .int (nI st))] := hl
  refine lv_aload_n hx hb dX7_storm_0 rfl (lv_at hl 0 rfl) ?_
  refine lv_iconst (v := 0) hx hb dX7_storm_1 (by decide) ?_
  refine q_put hx hb hts hown hW hS (r := 100) hJ.q.m0 rfl k_8 0 (by decide) rfl t_943 rfl (t := .int) (by decide +kernel) rfl rfl dX7_storm_2 (fun H locs hW hS => ?_)
  have hJ : PJ L ad (up2 v 100 0 0) o 101 110 ng nh nl ns ow gx gy gw gd := hJ.kp kr_t
  refine lv_iload_n hx hb dX7_storm_5 rfl (lv_at hl 1 rfl) ?_
  refine lv_iload_n hx hb dX7_storm_6 rfl (lv_at hl 2 rfl) ?_
  refine lv_iload_n hx hb dX7_storm_7 rfl (lv_at hl 3 rfl) ?_
  refine lv_iload hx hb dX7_storm_8 (lv_at hl 4 rfl) ?_
  refine lv_iload hx hb dX7_storm_10 (lv_at hl 5 rfl) ?_
  refine lv_iload hx hb dX7_storm_12 (lv_at hl 6 rfl) ?_
  refine lv_iload hx hb dX7_storm_14 (lv_at hl 7 rfl) ?_
  refine q_cSiE (As := [.int (iI sx), .int (iI sy), .int (iI dx), .int (iI dy), .int (iI rad), .int F, .int (nI st)]) (rest := []) hx hb hml hts hown hE h0 hW hS (c_X7_isStorm l (iI sx) (iI sy) (iI dx) (iI dy) (iI rad) F (nI st)) mw_X7_isStorm t_1085 ⟨Nat.le_of_ble_eq_true rfl, Nat.le_of_ble_eq_true rfl⟩ rfl hl.1 (Nat.le_of_ble_eq_true rfl) dX7_storm_16 ⟨Nat.zero_le _, Nat.zero_le _⟩ ⟨rfl, rfl⟩ (fun H locs hW hS => ?_)
  refine lv_if_ne (tgt := 28) hx hb dX7_storm_19 (by decide) (fun c_19 => ?_) (fun c_19 => ?_)
  · skip
    refine lv_aload_n hx hb dX7_storm_28 rfl (lv_at hl 0 rfl) ?_
    refine q_getr hx hb hts hown hW (r := 100) hJ.q.m0 rfl k_8 1 (by decide) rfl t_944 (a := ad 101) hO1 dX7_storm_29 ?_
    refine q_getN hx hb hts hown hW (r := 101) hJ.q.mS hJ.q.kS k_7 13 (by decide) rfl t_894 (x := (nI ns)) hJ.eS dX7_storm_32 ?_
    refine lv_bipush (v := 30) hx hb dX7_storm_35 (by decide) ?_
    refine lv_icmp_ne (tgt := 46) hx hb dX7_storm_37 (by decide) (fun c_37 => ?_) (fun c_37 => ?_)
    · skip
      refine lv_aload_n hx hb dX7_storm_46 rfl (lv_at hl 0 rfl) ?_
      refine q_getr hx hb hts hown hW (r := 100) hJ.q.m0 rfl k_8 1 (by decide) rfl t_944 (a := ad 101) hO1 dX7_storm_47 ?_
      refine lv_iload_n hx hb dX7_storm_50 rfl (lv_at hl 1 rfl) ?_
      refine lv_iload_n hx hb dX7_storm_51 rfl (lv_at hl 2 rfl) ?_
      refine lv_iload_n hx hb dX7_storm_52 rfl (lv_at hl 3 rfl) ?_
      refine lv_iload hx hb dX7_storm_53 (lv_at hl 4 rfl) ?_
      refine lv_iload hx hb dX7_storm_55 (lv_at hl 5 rfl) ?_
      refine lv_iload hx hb dX7_storm_57 (lv_at hl 6 rfl) ?_
      refine lv_iload hx hb dX7_storm_59 (lv_at hl 7 rfl) ?_
      refine q_cVvE (As := [.int (iI sx), .int (iI sy), .int (iI dx), .int (iI dy), .int (iI rad), .int F, .int (nI st)]) (rest := []) (r := 101) hx hb hml hts hown hE h0 hW hS (c_X6_storm l hJ hs1 hs2 hs3 hs4 hs5 hs6 hs7 hs8 hs9 hs10 hs11) mw_X6_storm hJ.q.mS hJ.q.kS k_7 t_1088 ⟨Nat.le_of_ble_eq_true rfl, Nat.le_of_ble_eq_true rfl⟩ rfl hl.1 (Nat.le_of_ble_eq_true rfl) dX7_storm_61 ⟨Nat.zero_le _, Nat.zero_le _⟩ ⟨rfl, rfl⟩ (fun H locs hW hS => ?_)
      have hJ : PJ L ad (rStorm (up2 v 100 0 0) 110 101 gx gy gw gd ng nh nl sx sy dx dy rad F st) o 101 110 ng nh nl ns ow gx gy gw gd := hJ.kp (kr_rStorm hJ.q.1)
      generalize hv1 : (rStorm (up2 v 100 0 0) 110 101 gx gy gw gd ng nh nl sx sy dx dy rad F st) = v1 at hW hJ
      refine lv_aload_n hx hb dX7_storm_64 rfl (lv_at hl 0 rfl) ?_
      refine q_getr hx hb hts hown hW (r := 100) hJ.q.m0 rfl k_8 1 (by decide) rfl t_944 (a := ad 101) hO1 dX7_storm_65 ?_
      refine q_getrN hx hb hts hown hW (r := 101) hJ.q.mS hJ.q.kS k_7 16 (by decide) rfl t_900 (a := ad (110 + 16)) (hJ.q.oB 16 rfl) dX7_storm_68 ?_
      refine lv_iconst (v := 0) hx hb dX7_storm_71 (by decide) ?_
      refine lv_aload_n hx hb dX7_storm_72 rfl (lv_at hl 0 rfl) ?_
      refine q_getr hx hb hts hown hW (r := 100) hJ.q.m0 rfl k_8 1 (by decide) rfl t_944 (a := ad 101) hO1 dX7_storm_73 ?_
      refine q_getrN hx hb hts hown hW (r := 101) hJ.q.mS hJ.q.kS k_7 14 (by decide) rfl t_896 (a := ad (110 + 14)) (hJ.q.oB 14 rfl) dX7_storm_76 ?_
      refine lv_bipush (v := 6) hx hb dX7_storm_79 (by decide) ?_
      refine lv_aload_n hx hb dX7_storm_81 rfl (lv_at hl 0 rfl) ?_
      refine q_getr hx hb hts hown hW (r := 100) hJ.q.m0 rfl k_8 1 (by decide) rfl t_944 (a := ad 101) hO1 dX7_storm_82 ?_
      refine q_getN hx hb hts hown hW (r := 101) hJ.q.mS hJ.q.kS k_7 13 (by decide) rfl t_894 (x := (nI ns)) hJ.eS dX7_storm_85 ?_
      refine lv_imul hx hb dX7_storm_88 ?_
      refine lv_bipush (v := 6) hx hb dX7_storm_89 (by decide) ?_
      refine q_copy hx hb hml hl.1 hts hown m_copy t_981 hW hS (r0 := (110 + 16)) (r1 := (110 + 14)) (hJ.q.mB 16 rfl) (hJ.q.mB 14 rfl) (hJ.q.k9 16 rfl (by decide)) (hJ.q.k9 14 rfl (by decide)) 0 (6 * ns) 6 rfl (ix_mul rfl rfl) rfl (by decide) (show _ ≤ 180 by omega) (by decide) (by decide) (Nat.le_of_ble_eq_true rfl) (Nat.le_of_ble_eq_true rfl) dX7_storm_91 (fun H locs hW hS => ?_)
      have hJ : PJ L ad (cpy2 v1 (110 + 16) (110 + 14) 0 (6 * ns) 6) o 101 110 ng nh nl ns ow gx gy gw gd := hJ.kp (kr_cpy (by intro k; unfold depR; omega))
      generalize hv2 : (cpy2 v1 (110 + 16) (110 + 14) 0 (6 * ns) 6) = v2 at hW hJ
      refine lv_aload_n hx hb dX7_storm_94 rfl (lv_at hl 0 rfl) ?_
      refine q_getr hx hb hts hown hW (r := 100) hJ.q.m0 rfl k_8 1 (by decide) rfl t_944 (a := ad 101) hO1 dX7_storm_95 ?_
      refine lv_dup hx hb dX7_storm_98 rfl ?_
      refine q_getN hx hb hts hown hW (r := 101) hJ.q.mS hJ.q.kS k_7 13 (by decide) rfl t_894 (x := (nI ns)) hJ.eS dX7_storm_99 ?_
      refine lv_iconst (v := 1) hx hb dX7_storm_102 (by decide) ?_
      refine lv_iadd hx hb dX7_storm_103 ?_
      refine q_putN hx hb hts hown hW hS (r := 101) hJ.q.mS hJ.q.kS k_7 13 (by decide) rfl t_894 rfl (t := .int) (by decide +kernel) rfl rfl dX7_storm_104 (fun H locs hW hS => ?_)
      generalize hv3 : (up2 v2 101 13 ((nI ns) + 1)) = v3 at hW
      refine lv_aload_n hx hb dX7_storm_107 rfl (lv_at hl 0 rfl) ?_
      refine q_getr hx hb hts hown hW (r := 100) hJ.q.m0 rfl k_8 1 (by decide) rfl t_944 (a := ad 101) hO1 dX7_storm_108 ?_
      refine q_getrN hx hb hts hown hW (r := 101) hJ.q.mS hJ.q.kS k_7 16 (by decide) rfl t_900 (a := ad (110 + 16)) (hJ.q.oB 16 rfl) dX7_storm_111 ?_
      refine lv_iconst (v := 3) hx hb dX7_storm_114 (by decide) ?_
      refine q_iald hx hb hW (r := (110 + 16)) (hJ.q.mB 16 rfl) (hJ.q.k9 16 rfl (by decide)) (3) rfl (by rw [hJ.q.ln 16 rfl]; show _ < 6; omega) (by rw [hJ.q.ln 16 rfl]; decide) (x := (v3 (110 + 16) (3))) rfl dX7_storm_115 ?_
      subst hv3
      subst hv2
      subst hv1
      exact q_iret hx hb hr hlocks hW hS (Nat.le_refl _) (Nat.le_refl _) dX7_storm_116 (⟨rfl, by rw [nI_1]⟩)
    · skip
      exact absurd c_37 (nI_ne (n := ns) (m := 30) (by omega) (by omega) (by decide))
  · skip
    exact absurd (k1.symm.trans c_19) (by decide)

set_option maxHeartbeats 4000000 in
set_option maxRecDepth 100000 in
theorem c_X7_storm_1 (l : Launch) {G : GG} {L : List Nat} {ad : Nat → Nat} {v : Nat → Nat → Int32} {o : Nat → Nat → Option Nat} {w : Nat → Int64} {ng nh nl ns : Nat} {ow gx gy gw gd : Nat → Nat} (hJ : PJ L ad v o 101 110 ng nh nl ns ow gx gy gw gd) (hO1 : o 100 1 = some (ad 101)) {a b c0 d e0 f g0 : Int32} (k1 : fSto a b c0 d e0 f g0 = 0) : CtI l G L ad v o w yX7_storm cX7_storm 8 .int ({ frames := 2, cells := 0, slots := 0, locals := 48 }) [.ref (ad 100), .int a, .int b, .int c0, .int d, .int e0, .int f, .int g0] (fun r u => r = 0 ∧ u = up2 (tz v) 100 0 1) := by
  have hsb := hJ.q.sb; have hbd := hJ.bd
  refine q_ofI (by decide) (Nat.le_of_ble_eq_true rfl) ?_
  intro p e s m below meth c hx hb hr hml hts hown hlocks hE h0 hW hS ls hl
  generalize hH : s.heap = H at hW
  have hS : va_S (Ab G.2.2.1) s.heap H [] := hH ▸ hS
  obtain ⟨locs, hlc⟩ : ∃ z : List Loc, z = [] := ⟨_, rfl⟩
  rw [← hlc] at hS ⊢
  have hl : lv_has ls 8 [(0, .ref (ad 100)), (1, .int a), (2, .int b), (3, .int c0), (4, .int d), (5, .int e0), (6, .int f), (7, .int g0)] := hl
  refine lv_aload_n hx hb dX7_storm_0 rfl (lv_at hl 0 rfl) ?_
  refine lv_iconst (v := 0) hx hb dX7_storm_1 (by decide) ?_
  refine q_put hx hb hts hown hW hS (r := 100) hJ.q.m0 rfl k_8 0 (by decide) rfl t_943 rfl (t := .int) (by decide +kernel) rfl rfl dX7_storm_2 (fun H locs hW hS => ?_)
  have hJ : PJ L ad (up2 v 100 0 0) o 101 110 ng nh nl ns ow gx gy gw gd := hJ.kp kr_t
  generalize hv1 : (up2 v 100 0 0) = v1 at hW hJ
  refine lv_iload_n hx hb dX7_storm_5 rfl (lv_at hl 1 rfl) ?_
  refine lv_iload_n hx hb dX7_storm_6 rfl (lv_at hl 2 rfl) ?_
  refine lv_iload_n hx hb dX7_storm_7 rfl (lv_at hl 3 rfl) ?_
  refine lv_iload hx hb dX7_storm_8 (lv_at hl 4 rfl) ?_
  refine lv_iload hx hb dX7_storm_10 (lv_at hl 5 rfl) ?_
  refine lv_iload hx hb dX7_storm_12 (lv_at hl 6 rfl) ?_
  refine lv_iload hx hb dX7_storm_14 (lv_at hl 7 rfl) ?_
  refine q_cSiE (As := [.int a, .int b, .int c0, .int d, .int e0, .int f, .int g0]) (rest := []) hx hb hml hts hown hE h0 hW hS (c_X7_isStorm l a b c0 d e0 f g0) mw_X7_isStorm t_1085 ⟨Nat.le_of_ble_eq_true rfl, Nat.le_of_ble_eq_true rfl⟩ rfl hl.1 (Nat.le_of_ble_eq_true rfl) dX7_storm_16 ⟨Nat.zero_le _, Nat.zero_le _⟩ ⟨rfl, rfl⟩ (fun H locs hW hS => ?_)
  refine lv_if_ne (tgt := 28) hx hb dX7_storm_19 (by decide) (fun c_19 => ?_) (fun c_19 => ?_)
  · skip
    exact absurd k1 c_19
  · skip
    refine lv_aload_n hx hb dX7_storm_22 rfl (lv_at hl 0 rfl) ?_
    refine lv_iconst (v := 1) hx hb dX7_storm_23 (by decide) ?_
    refine q_cViE (As := [.int 1]) (rest := []) (r := 100) hx hb hml hts hown hE h0 hW hS (c_X7_no l hJ.q.m0 1) mw_X7_no hJ.q.m0 rfl k_8 t_965 ⟨Nat.le_of_ble_eq_true rfl, Nat.le_of_ble_eq_true rfl⟩ rfl hl.1 (Nat.le_of_ble_eq_true rfl) dX7_storm_24 ⟨Nat.zero_le _, Nat.zero_le _⟩ ⟨rfl, rfl⟩ (fun H locs hW hS => ?_)
    have hJ : PJ L ad (up2 v1 100 0 1) o 101 110 ng nh nl ns ow gx gy gw gd := hJ.kp kr_t
    generalize hv2 : (up2 v1 100 0 1) = v2 at hW hJ
    subst hv2
    subst hv1
    exact q_iret hx hb hr hlocks hW hS (Nat.le_refl _) (Nat.le_refl _) dX7_storm_27 (⟨rfl, rfl⟩)

set_option maxHeartbeats 4000000 in
set_option maxRecDepth 100000 in
theorem c_X7_storm_2 (l : Launch) {G : GG} {L : List Nat} {ad : Nat → Nat} {v : Nat → Nat → Int32} {o : Nat → Nat → Option Nat} {w : Nat → Int64} {ng nh nl ns : Nat} {ow gx gy gw gd : Nat → Nat} (hJ : PJ L ad v o 101 110 ng nh nl ns ow gx gy gw gd) (hO1 : o 100 1 = some (ad 101)) {a b c0 d e0 f g0 : Int32} (k1 : fSto a b c0 d e0 f g0 = 1) (k2 : ns = 30) : CtI l G L ad v o w yX7_storm cX7_storm 8 .int ({ frames := 2, cells := 0, slots := 0, locals := 48 }) [.ref (ad 100), .int a, .int b, .int c0, .int d, .int e0, .int f, .int g0] (fun r u => r = 0 ∧ u = up2 (tz v) 100 0 2) := by
  have hsb := hJ.q.sb; have hbd := hJ.bd
  refine q_ofI (by decide) (Nat.le_of_ble_eq_true rfl) ?_
  intro p e s m below meth c hx hb hr hml hts hown hlocks hE h0 hW hS ls hl
  generalize hH : s.heap = H at hW
  have hS : va_S (Ab G.2.2.1) s.heap H [] := hH ▸ hS
  obtain ⟨locs, hlc⟩ : ∃ z : List Loc, z = [] := ⟨_, rfl⟩
  rw [← hlc] at hS ⊢
  have hl : lv_has ls 8 [(0, .ref (ad 100)), (1, .int a), (2, .int b), (3, .int c0), (4, .int d), (5, .int e0), (6, .int f), (7, .int g0)] := hl
  refine lv_aload_n hx hb dX7_storm_0 rfl (lv_at hl 0 rfl) ?_
  refine lv_iconst (v := 0) hx hb dX7_storm_1 (by decide) ?_
  refine q_put hx hb hts hown hW hS (r := 100) hJ.q.m0 rfl k_8 0 (by decide) rfl t_943 rfl (t := .int) (by decide +kernel) rfl rfl dX7_storm_2 (fun H locs hW hS => ?_)
  have hJ : PJ L ad (up2 v 100 0 0) o 101 110 ng nh nl ns ow gx gy gw gd := hJ.kp kr_t
  generalize hv1 : (up2 v 100 0 0) = v1 at hW hJ
  refine lv_iload_n hx hb dX7_storm_5 rfl (lv_at hl 1 rfl) ?_
  refine lv_iload_n hx hb dX7_storm_6 rfl (lv_at hl 2 rfl) ?_
  refine lv_iload_n hx hb dX7_storm_7 rfl (lv_at hl 3 rfl) ?_
  refine lv_iload hx hb dX7_storm_8 (lv_at hl 4 rfl) ?_
  refine lv_iload hx hb dX7_storm_10 (lv_at hl 5 rfl) ?_
  refine lv_iload hx hb dX7_storm_12 (lv_at hl 6 rfl) ?_
  refine lv_iload hx hb dX7_storm_14 (lv_at hl 7 rfl) ?_
  refine q_cSiE (As := [.int a, .int b, .int c0, .int d, .int e0, .int f, .int g0]) (rest := []) hx hb hml hts hown hE h0 hW hS (c_X7_isStorm l a b c0 d e0 f g0) mw_X7_isStorm t_1085 ⟨Nat.le_of_ble_eq_true rfl, Nat.le_of_ble_eq_true rfl⟩ rfl hl.1 (Nat.le_of_ble_eq_true rfl) dX7_storm_16 ⟨Nat.zero_le _, Nat.zero_le _⟩ ⟨rfl, rfl⟩ (fun H locs hW hS => ?_)
  refine lv_if_ne (tgt := 28) hx hb dX7_storm_19 (by decide) (fun c_19 => ?_) (fun c_19 => ?_)
  · skip
    refine lv_aload_n hx hb dX7_storm_28 rfl (lv_at hl 0 rfl) ?_
    refine q_getr hx hb hts hown hW (r := 100) hJ.q.m0 rfl k_8 1 (by decide) rfl t_944 (a := ad 101) hO1 dX7_storm_29 ?_
    refine q_getN hx hb hts hown hW (r := 101) hJ.q.mS hJ.q.kS k_7 13 (by decide) rfl t_894 (x := (nI ns)) hJ.eS dX7_storm_32 ?_
    refine lv_bipush (v := 30) hx hb dX7_storm_35 (by decide) ?_
    refine lv_icmp_ne (tgt := 46) hx hb dX7_storm_37 (by decide) (fun c_37 => ?_) (fun c_37 => ?_)
    · skip
      exact absurd (by rw [k2]; rfl) c_37
    · skip
      refine lv_aload_n hx hb dX7_storm_40 rfl (lv_at hl 0 rfl) ?_
      refine lv_iconst (v := 2) hx hb dX7_storm_41 (by decide) ?_
      refine q_cViE (As := [.int 2]) (rest := []) (r := 100) hx hb hml hts hown hE h0 hW hS (c_X7_no l hJ.q.m0 2) mw_X7_no hJ.q.m0 rfl k_8 t_965 ⟨Nat.le_of_ble_eq_true rfl, Nat.le_of_ble_eq_true rfl⟩ rfl hl.1 (Nat.le_of_ble_eq_true rfl) dX7_storm_42 ⟨Nat.zero_le _, Nat.zero_le _⟩ ⟨rfl, rfl⟩ (fun H locs hW hS => ?_)
      have hJ : PJ L ad (up2 v1 100 0 2) o 101 110 ng nh nl ns ow gx gy gw gd := hJ.kp kr_t
      generalize hv2 : (up2 v1 100 0 2) = v2 at hW hJ
      subst hv2
      subst hv1
      exact q_iret hx hb hr hlocks hW hS (Nat.le_refl _) (Nat.le_refl _) dX7_storm_45 (⟨rfl, rfl⟩)
  · skip
    exact absurd (k1.symm.trans c_19) (by decide)

set_option maxHeartbeats 4000000 in
set_option maxRecDepth 100000 in
theorem c_X7_wouldBe (l : Launch) {G : GG} {L : List Nat} {ad : Nat → Nat} {v : Nat → Nat → Int32} {o : Nat → Nat → Option Nat} {w : Nat → Int64} {ng nh nl ns : Nat} {ow gx gy gw gd : Nat → Nat} (hJ : PJ L ad v o 101 110 ng nh nl ns ow gx gy gw gd) (hO1 : o 100 1 = some (ad 101)) (hO2 : o 100 2 = some (ad 102)) (hQ2 : PQ L ad o 102 140) (hn01 : ∀ i, i < 12 → v 118 i = 0 ∨ v 118 i = 1) {sx sy dx dy rad : Int} {F : Int32} {st : Nat} (hs1 : -20 ≤ sx) (hs2 : sx ≤ 39) (hs3 : -20 ≤ sy) (hs4 : sy ≤ 39) (hs5 : -3 ≤ dx) (hs6 : dx ≤ 3) (hs7 : -3 ≤ dy) (hs8 : dy ≤ 3) (hs9 : 0 ≤ rad) (hs10 : rad ≤ 5) (hs11 : st ≤ 30) (k1 : fSto (iI sx) (iI sy) (iI dx) (iI dy) (iI rad) F (nI st) = 1) {what : Nat} (hw9 : what < 6) : CtI l G L ad v o w yX7_wouldBe cX7_wouldBe 9 .int ({ frames := 4, cells := 0, slots := 0, locals := 99 }) [.ref (ad 100), .int (iI sx), .int (iI sy), .int (iI dx), .int (iI dy), .int (iI rad), .int F, .int (nI st), .int (nI what)] (fun r u => r = rStorm (uBec (tz v)) 140 102 gx gy gw gd ng nh nl sx sy dx dy rad F st 156 what ∧ u = rStorm (uBec (tz v)) 140 102 gx gy gw gd ng nh nl sx sy dx dy rad F st) := by
  have hsb := hJ.q.sb; have hbd := hJ.bd; have hcw : fIn (nI what) 0 5 = 1 := fIn_nat (n := 6) hw9 (by decide)
  refine q_ofI (by decide) (Nat.le_of_ble_eq_true rfl) ?_
  intro p e s m below meth c hx hb hr hml hts hown hlocks hE h0 hW hS ls hl
  generalize hH : s.heap = H at hW
  have hS : va_S (Ab G.2.2.1) s.heap H [] := hH ▸ hS
  obtain ⟨locs, hlc⟩ : ∃ z : List Loc, z = [] := ⟨_, rfl⟩
  rw [← hlc] at hS ⊢
  have hl : lv_has ls 9 [(0, .ref (ad 100)), (1, .int (iI sx)), (2, .int (iI sy)), (3, .int (iI dx)), (4, .int (iI dy)), (5, .int (iI rad)), (6, .int F), (7, .int (nI st)), (8, .int (nI what))] := hl
  refine lv_aload_n hx hb dX7_wouldBe_0 rfl (lv_at hl 0 rfl) ?_
  refine lv_iconst (v := 0) hx hb dX7_wouldBe_1 (by decide) ?_
  refine q_put hx hb hts hown hW hS (r := 100) hJ.q.m0 rfl k_8 0 (by decide) rfl t_943 rfl (t := .int) (by decide +kernel) rfl rfl dX7_wouldBe_2 (fun H locs hW hS => ?_)
  have hJ : PJ L ad (up2 v 100 0 0) o 101 110 ng nh nl ns ow gx gy gw gd := hJ.kp kr_t
  refine lv_iload_n hx hb dX7_wouldBe_5 rfl (lv_at hl 1 rfl) ?_
  refine lv_iload_n hx hb dX7_wouldBe_6 rfl (lv_at hl 2 rfl) ?_
  refine lv_iload_n hx hb dX7_wouldBe_7 rfl (lv_at hl 3 rfl) ?_
  refine lv_iload hx hb dX7_wouldBe_8 (lv_at hl 4 rfl) ?_
  refine lv_iload hx hb dX7_wouldBe_10 (lv_at hl 5 rfl) ?_
  refine lv_iload hx hb dX7_wouldBe_12 (lv_at hl 6 rfl) ?_
  refine lv_iload hx hb dX7_wouldBe_14 (lv_at hl 7 rfl) ?_
  refine q_cSiE (As := [.int (iI sx), .int (iI sy), .int (iI dx), .int (iI dy), .int (iI rad), .int F, .int (nI st)]) (rest := []) hx hb hml hts hown hE h0 hW hS (c_X7_isStorm l (iI sx) (iI sy) (iI dx) (iI dy) (iI rad) F (nI st)) mw_X7_isStorm t_1085 ⟨Nat.le_of_ble_eq_true rfl, Nat.le_of_ble_eq_true rfl⟩ rfl hl.1 (Nat.le_of_ble_eq_true rfl) dX7_wouldBe_16 ⟨Nat.zero_le _, Nat.zero_le _⟩ ⟨rfl, rfl⟩ (fun H locs hW hS => ?_)
  refine lv_if_ne (tgt := 28) hx hb dX7_wouldBe_19 (by decide) (fun c_19 => ?_) (fun c_19 => ?_)
  · skip
    refine lv_iload hx hb dX7_wouldBe_28 (lv_at hl 8 rfl) ?_
    refine lv_iconst (v := 0) hx hb dX7_wouldBe_30 (by decide) ?_
    refine lv_iconst (v := 5) hx hb dX7_wouldBe_31 (by decide) ?_
    refine q_cSiE (As := [.int (nI what), .int 0, .int 5]) (rest := []) hx hb hml hts hown hE h0 hW hS (c_X7_isIn l (nI what) 0 5) mw_X7_isIn t_962 ⟨Nat.le_of_ble_eq_true rfl, Nat.le_of_ble_eq_true rfl⟩ rfl hl.1 (Nat.le_of_ble_eq_true rfl) dX7_wouldBe_32 ⟨Nat.zero_le _, Nat.zero_le _⟩ ⟨rfl, rfl⟩ (fun H locs hW hS => ?_)
    refine lv_if_ne (tgt := 44) hx hb dX7_wouldBe_35 (by decide) (fun c_35 => ?_) (fun c_35 => ?_)
    · skip
      refine lv_aload_n hx hb dX7_wouldBe_44 rfl (lv_at hl 0 rfl) ?_
      refine q_getr hx hb hts hown hW (r := 100) hJ.q.m0 rfl k_8 2 (by decide) rfl t_945 (a := ad 102) hO2 dX7_wouldBe_45 ?_
      refine lv_aload_n hx hb dX7_wouldBe_48 rfl (lv_at hl 0 rfl) ?_
      refine q_getr hx hb hts hown hW (r := 100) hJ.q.m0 rfl k_8 1 (by decide) rfl t_944 (a := ad 101) hO1 dX7_wouldBe_49 ?_
      refine q_cVvE (As := [.ref (ad 101)]) (rest := []) (r := 102) hx hb hml hts hown hE h0 hW hS (c_X6_become l hJ hO1 hO2 hQ2 hn01) mw_X6_become hQ2.mS rfl k_7 t_1106 ⟨Nat.le_of_ble_eq_true rfl, Nat.le_of_ble_eq_true rfl⟩ rfl hl.1 (Nat.le_of_ble_eq_true rfl) dX7_wouldBe_52 ⟨Nat.zero_le _, Nat.zero_le _⟩ ⟨rfl, rfl⟩ (fun H locs hW hS => ?_)
      have hJ2 := PJ_bec hJ hQ2
      have hJ : PJ L ad (uBec (up2 v 100 0 0)) o 101 110 ng nh nl ns ow gx gy gw gd := hJ.kp2 kO_bec
      refine lv_aload_n hx hb dX7_wouldBe_55 rfl (lv_at hl 0 rfl) ?_
      refine q_getr hx hb hts hown hW (r := 100) hJ.q.m0 rfl k_8 2 (by decide) rfl t_945 (a := ad 102) hO2 dX7_wouldBe_56 ?_
      refine lv_iload_n hx hb dX7_wouldBe_59 rfl (lv_at hl 1 rfl) ?_
      refine lv_iload_n hx hb dX7_wouldBe_60 rfl (lv_at hl 2 rfl) ?_
      refine lv_iload_n hx hb dX7_wouldBe_61 rfl (lv_at hl 3 rfl) ?_
      refine lv_iload hx hb dX7_wouldBe_62 (lv_at hl 4 rfl) ?_
      refine lv_iload hx hb dX7_wouldBe_64 (lv_at hl 5 rfl) ?_
      refine lv_iload hx hb dX7_wouldBe_66 (lv_at hl 6 rfl) ?_
      refine lv_iload hx hb dX7_wouldBe_68 (lv_at hl 7 rfl) ?_
      refine q_cVvE (As := [.int (iI sx), .int (iI sy), .int (iI dx), .int (iI dy), .int (iI rad), .int F, .int (nI st)]) (rest := []) (r := 102) hx hb hml hts hown hE h0 hW hS (c_X6_storm l hJ2 hs1 hs2 hs3 hs4 hs5 hs6 hs7 hs8 hs9 hs10 hs11) mw_X6_storm hQ2.mS rfl k_7 t_1088 ⟨Nat.le_of_ble_eq_true rfl, Nat.le_of_ble_eq_true rfl⟩ rfl hl.1 (Nat.le_of_ble_eq_true rfl) dX7_wouldBe_70 ⟨Nat.zero_le _, Nat.zero_le _⟩ ⟨rfl, rfl⟩ (fun H locs hW hS => ?_)
      have hJ : PJ L ad (rStorm (uBec (up2 v 100 0 0)) 140 102 gx gy gw gd ng nh nl sx sy dx dy rad F st) o 101 110 ng nh nl ns ow gx gy gw gd := hJ.kp2 (kr_rStorm SB2).out
      generalize hv1 : (rStorm (uBec (up2 v 100 0 0)) 140 102 gx gy gw gd ng nh nl sx sy dx dy rad F st) = v1 at hW hJ
      refine lv_aload_n hx hb dX7_wouldBe_73 rfl (lv_at hl 0 rfl) ?_
      refine q_getr hx hb hts hown hW (r := 100) hJ.q.m0 rfl k_8 2 (by decide) rfl t_945 (a := ad 102) hO2 dX7_wouldBe_74 ?_
      refine q_getrN hx hb hts hown hW (r := 102) hQ2.mS rfl k_7 16 (by decide) rfl t_900 (a := ad (140 + 16)) (hQ2.oB 16 rfl) dX7_wouldBe_77 ?_
      refine lv_iload hx hb dX7_wouldBe_80 (lv_at hl 8 rfl) ?_
      refine q_iald hx hb hW (r := (140 + 16)) (hQ2.mB 16 rfl) rfl (what) rfl (by rw [hJ2.q.ln 16 rfl]; show _ < 6; omega) (by rw [hJ2.q.ln 16 rfl]; decide) (x := (v1 (140 + 16) (what))) rfl dX7_wouldBe_82 ?_
      subst hv1
      exact q_iret hx hb hr hlocks hW hS (Nat.le_refl _) (Nat.le_refl _) dX7_wouldBe_83 (⟨rfl, rfl⟩)
    · skip
      exact absurd (hcw.symm.trans c_35) (by decide)
  · skip
    exact absurd (k1.symm.trans c_19) (by decide)

set_option maxHeartbeats 4000000 in
set_option maxRecDepth 100000 in
theorem c_X7_wouldBe_1 (l : Launch) {G : GG} {L : List Nat} {ad : Nat → Nat} {v : Nat → Nat → Int32} {o : Nat → Nat → Option Nat} {w : Nat → Int64} {ng nh nl ns : Nat} {ow gx gy gw gd : Nat → Nat} (hJ : PJ L ad v o 101 110 ng nh nl ns ow gx gy gw gd) (hO1 : o 100 1 = some (ad 101)) {a b c0 d e0 f g0 hh0 : Int32} (k1 : fSto a b c0 d e0 f g0 = 0) : CtI l G L ad v o w yX7_wouldBe cX7_wouldBe 9 .int ({ frames := 2, cells := 0, slots := 0, locals := 48 }) [.ref (ad 100), .int a, .int b, .int c0, .int d, .int e0, .int f, .int g0, .int hh0] (fun r u => r = 0 ∧ u = up2 (tz v) 100 0 1) := by
  have hsb := hJ.q.sb; have hbd := hJ.bd
  refine q_ofI (by decide) (Nat.le_of_ble_eq_true rfl) ?_
  intro p e s m below meth c hx hb hr hml hts hown hlocks hE h0 hW hS ls hl
  generalize hH : s.heap = H at hW
  have hS : va_S (Ab G.2.2.1) s.heap H [] := hH ▸ hS
  obtain ⟨locs, hlc⟩ : ∃ z : List Loc, z = [] := ⟨_, rfl⟩
  rw [← hlc] at hS ⊢
  have hl : lv_has ls 9 [(0, .ref (ad 100)), (1, .int a), (2, .int b), (3, .int c0), (4, .int d), (5, .int e0), (6, .int f), (7, .int g0), (8, .int hh0)] := hl
  refine lv_aload_n hx hb dX7_wouldBe_0 rfl (lv_at hl 0 rfl) ?_
  refine lv_iconst (v := 0) hx hb dX7_wouldBe_1 (by decide) ?_
  refine q_put hx hb hts hown hW hS (r := 100) hJ.q.m0 rfl k_8 0 (by decide) rfl t_943 rfl (t := .int) (by decide +kernel) rfl rfl dX7_wouldBe_2 (fun H locs hW hS => ?_)
  have hJ : PJ L ad (up2 v 100 0 0) o 101 110 ng nh nl ns ow gx gy gw gd := hJ.kp kr_t
  generalize hv1 : (up2 v 100 0 0) = v1 at hW hJ
  refine lv_iload_n hx hb dX7_wouldBe_5 rfl (lv_at hl 1 rfl) ?_
  refine lv_iload_n hx hb dX7_wouldBe_6 rfl (lv_at hl 2 rfl) ?_
  refine lv_iload_n hx hb dX7_wouldBe_7 rfl (lv_at hl 3 rfl) ?_
  refine lv_iload hx hb dX7_wouldBe_8 (lv_at hl 4 rfl) ?_
  refine lv_iload hx hb dX7_wouldBe_10 (lv_at hl 5 rfl) ?_
  refine lv_iload hx hb dX7_wouldBe_12 (lv_at hl 6 rfl) ?_
  refine lv_iload hx hb dX7_wouldBe_14 (lv_at hl 7 rfl) ?_
  refine q_cSiE (As := [.int a, .int b, .int c0, .int d, .int e0, .int f, .int g0]) (rest := []) hx hb hml hts hown hE h0 hW hS (c_X7_isStorm l a b c0 d e0 f g0) mw_X7_isStorm t_1085 ⟨Nat.le_of_ble_eq_true rfl, Nat.le_of_ble_eq_true rfl⟩ rfl hl.1 (Nat.le_of_ble_eq_true rfl) dX7_wouldBe_16 ⟨Nat.zero_le _, Nat.zero_le _⟩ ⟨rfl, rfl⟩ (fun H locs hW hS => ?_)
  refine lv_if_ne (tgt := 28) hx hb dX7_wouldBe_19 (by decide) (fun c_19 => ?_) (fun c_19 => ?_)
  · skip
    exact absurd k1 c_19
  · skip
    refine lv_aload_n hx hb dX7_wouldBe_22 rfl (lv_at hl 0 rfl) ?_
    refine lv_iconst (v := 1) hx hb dX7_wouldBe_23 (by decide) ?_
    refine q_cViE (As := [.int 1]) (rest := []) (r := 100) hx hb hml hts hown hE h0 hW hS (c_X7_no l hJ.q.m0 1) mw_X7_no hJ.q.m0 rfl k_8 t_965 ⟨Nat.le_of_ble_eq_true rfl, Nat.le_of_ble_eq_true rfl⟩ rfl hl.1 (Nat.le_of_ble_eq_true rfl) dX7_wouldBe_24 ⟨Nat.zero_le _, Nat.zero_le _⟩ ⟨rfl, rfl⟩ (fun H locs hW hS => ?_)
    have hJ : PJ L ad (up2 v1 100 0 1) o 101 110 ng nh nl ns ow gx gy gw gd := hJ.kp kr_t
    generalize hv2 : (up2 v1 100 0 1) = v2 at hW hJ
    subst hv2
    subst hv1
    exact q_iret hx hb hr hlocks hW hS (Nat.le_refl _) (Nat.le_refl _) dX7_wouldBe_27 (⟨rfl, rfl⟩)

set_option maxHeartbeats 4000000 in
set_option maxRecDepth 100000 in
theorem c_X7_wouldBe_2 (l : Launch) {G : GG} {L : List Nat} {ad : Nat → Nat} {v : Nat → Nat → Int32} {o : Nat → Nat → Option Nat} {w : Nat → Int64} {ng nh nl ns : Nat} {ow gx gy gw gd : Nat → Nat} (hJ : PJ L ad v o 101 110 ng nh nl ns ow gx gy gw gd) (hO1 : o 100 1 = some (ad 101)) {a b c0 d e0 f g0 hh0 : Int32} (k1 : fSto a b c0 d e0 f g0 = 1) (k2 : fIn hh0 0 5 = 0) : CtI l G L ad v o w yX7_wouldBe cX7_wouldBe 9 .int ({ frames := 2, cells := 0, slots := 0, locals := 48 }) [.ref (ad 100), .int a, .int b, .int c0, .int d, .int e0, .int f, .int g0, .int hh0] (fun r u => r = 0 ∧ u = up2 (tz v) 100 0 2) := by
  have hsb := hJ.q.sb; have hbd := hJ.bd
  refine q_ofI (by decide) (Nat.le_of_ble_eq_true rfl) ?_
  intro p e s m below meth c hx hb hr hml hts hown hlocks hE h0 hW hS ls hl
  generalize hH : s.heap = H at hW
  have hS : va_S (Ab G.2.2.1) s.heap H [] := hH ▸ hS
  obtain ⟨locs, hlc⟩ : ∃ z : List Loc, z = [] := ⟨_, rfl⟩
  rw [← hlc] at hS ⊢
  have hl : lv_has ls 9 [(0, .ref (ad 100)), (1, .int a), (2, .int b), (3, .int c0), (4, .int d), (5, .int e0), (6, .int f), (7, .int g0), (8, .int hh0)] := hl
  refine lv_aload_n hx hb dX7_wouldBe_0 rfl (lv_at hl 0 rfl) ?_
  refine lv_iconst (v := 0) hx hb dX7_wouldBe_1 (by decide) ?_
  refine q_put hx hb hts hown hW hS (r := 100) hJ.q.m0 rfl k_8 0 (by decide) rfl t_943 rfl (t := .int) (by decide +kernel) rfl rfl dX7_wouldBe_2 (fun H locs hW hS => ?_)
  have hJ : PJ L ad (up2 v 100 0 0) o 101 110 ng nh nl ns ow gx gy gw gd := hJ.kp kr_t
  generalize hv1 : (up2 v 100 0 0) = v1 at hW hJ
  refine lv_iload_n hx hb dX7_wouldBe_5 rfl (lv_at hl 1 rfl) ?_
  refine lv_iload_n hx hb dX7_wouldBe_6 rfl (lv_at hl 2 rfl) ?_
  refine lv_iload_n hx hb dX7_wouldBe_7 rfl (lv_at hl 3 rfl) ?_
  refine lv_iload hx hb dX7_wouldBe_8 (lv_at hl 4 rfl) ?_
  refine lv_iload hx hb dX7_wouldBe_10 (lv_at hl 5 rfl) ?_
  refine lv_iload hx hb dX7_wouldBe_12 (lv_at hl 6 rfl) ?_
  refine lv_iload hx hb dX7_wouldBe_14 (lv_at hl 7 rfl) ?_
  refine q_cSiE (As := [.int a, .int b, .int c0, .int d, .int e0, .int f, .int g0]) (rest := []) hx hb hml hts hown hE h0 hW hS (c_X7_isStorm l a b c0 d e0 f g0) mw_X7_isStorm t_1085 ⟨Nat.le_of_ble_eq_true rfl, Nat.le_of_ble_eq_true rfl⟩ rfl hl.1 (Nat.le_of_ble_eq_true rfl) dX7_wouldBe_16 ⟨Nat.zero_le _, Nat.zero_le _⟩ ⟨rfl, rfl⟩ (fun H locs hW hS => ?_)
  refine lv_if_ne (tgt := 28) hx hb dX7_wouldBe_19 (by decide) (fun c_19 => ?_) (fun c_19 => ?_)
  · skip
    refine lv_iload hx hb dX7_wouldBe_28 (lv_at hl 8 rfl) ?_
    refine lv_iconst (v := 0) hx hb dX7_wouldBe_30 (by decide) ?_
    refine lv_iconst (v := 5) hx hb dX7_wouldBe_31 (by decide) ?_
    refine q_cSiE (As := [.int hh0, .int 0, .int 5]) (rest := []) hx hb hml hts hown hE h0 hW hS (c_X7_isIn l hh0 0 5) mw_X7_isIn t_962 ⟨Nat.le_of_ble_eq_true rfl, Nat.le_of_ble_eq_true rfl⟩ rfl hl.1 (Nat.le_of_ble_eq_true rfl) dX7_wouldBe_32 ⟨Nat.zero_le _, Nat.zero_le _⟩ ⟨rfl, rfl⟩ (fun H locs hW hS => ?_)
    refine lv_if_ne (tgt := 44) hx hb dX7_wouldBe_35 (by decide) (fun c_35 => ?_) (fun c_35 => ?_)
    · skip
      exact absurd k2 c_35
    · skip
      refine lv_aload_n hx hb dX7_wouldBe_38 rfl (lv_at hl 0 rfl) ?_
      refine lv_iconst (v := 2) hx hb dX7_wouldBe_39 (by decide) ?_
      refine q_cViE (As := [.int 2]) (rest := []) (r := 100) hx hb hml hts hown hE h0 hW hS (c_X7_no l hJ.q.m0 2) mw_X7_no hJ.q.m0 rfl k_8 t_965 ⟨Nat.le_of_ble_eq_true rfl, Nat.le_of_ble_eq_true rfl⟩ rfl hl.1 (Nat.le_of_ble_eq_true rfl) dX7_wouldBe_40 ⟨Nat.zero_le _, Nat.zero_le _⟩ ⟨rfl, rfl⟩ (fun H locs hW hS => ?_)
      have hJ : PJ L ad (up2 v1 100 0 2) o 101 110 ng nh nl ns ow gx gy gw gd := hJ.kp kr_t
      generalize hv2 : (up2 v1 100 0 2) = v2 at hW hJ
      subst hv2
      subst hv1
      exact q_iret hx hb hr hlocks hW hS (Nat.le_refl _) (Nat.le_refl _) dX7_wouldBe_43 (⟨rfl, rfl⟩)
  · skip
    exact absurd (k1.symm.trans c_19) (by decide)

set_option maxHeartbeats 4000000 in
set_option maxRecDepth 100000 in
theorem c_X7_worst (l : Launch) {G : GG} {L : List Nat} {ad : Nat → Nat} {v : Nat → Nat → Int32} {o : Nat → Nat → Option Nat} {w : Nat → Int64} {ng nh nl ns : Nat} {ow gx gy gw gd : Nat → Nat} (hJ : PJ L ad v o 101 110 ng nh nl ns ow gx gy gw gd) (hO1 : o 100 1 = some (ad 101)) (hO2 : o 100 2 = some (ad 102)) (hQ2 : PQ L ad o 102 140) (hn01 : ∀ i, i < 12 → v 118 i = 0 ∨ v 118 i = 1) {rad : Int} {F : Int32} (r1 : 0 ≤ rad) (r2 : rad ≤ 5) (k1 : fIn (iI rad) 0 5 = 1) (k2 : fIn F 1 20 = 1) : CtI l G L ad v o w yX7_worst cX7_worst 6 .int ({ frames := 4, cells := 0, slots := 0, locals := 99 }) [.ref (ad 100), .int (iI rad), .int F] (fun r u => r = (itr (rWo gx gy gw gd ng nh nl rad F) 20 (tz v, 0, -1)).2.2 ∧ u = (itr (rWo gx gy gw gd ng nh nl rad F) 20 (tz v, 0, -1)).1) := by
  have hsb := hJ.q.sb; have hbd := hJ.bd
  refine q_ofI (by decide) (Nat.le_of_ble_eq_true rfl) ?_
  intro p e s m below meth c hx hb hr hml hts hown hlocks hE h0 hW hS ls hl
  generalize hH : s.heap = H at hW
  have hS : va_S (Ab G.2.2.1) s.heap H [] := hH ▸ hS
  obtain ⟨locs, hlc⟩ : ∃ z : List Loc, z = [] := ⟨_, rfl⟩
  rw [← hlc] at hS ⊢
  have hl : lv_has ls 6 [(0, .ref (ad 100)), (1, .int (iI rad)), (2, .int F)] := hl
  refine lv_aload_n hx hb dX7_worst_0 rfl (lv_at hl 0 rfl) ?_
  refine lv_iconst (v := 0) hx hb dX7_worst_1 (by decide) ?_
  refine q_put hx hb hts hown hW hS (r := 100) hJ.q.m0 rfl k_8 0 (by decide) rfl t_943 rfl (t := .int) (by decide +kernel) rfl rfl dX7_worst_2 (fun H locs hW hS => ?_)
  have hJ : PJ L ad (up2 v 100 0 0) o 101 110 ng nh nl ns ow gx gy gw gd := hJ.kp kr_t
  refine lv_iload_n hx hb dX7_worst_5 rfl (lv_at hl 1 rfl) ?_
  refine lv_iconst (v := 0) hx hb dX7_worst_6 (by decide) ?_
  refine lv_iconst (v := 5) hx hb dX7_worst_7 (by decide) ?_
  refine q_cSiE (As := [.int (iI rad), .int 0, .int 5]) (rest := []) hx hb hml hts hown hE h0 hW hS (c_X7_isIn l (iI rad) 0 5) mw_X7_isIn t_962 ⟨Nat.le_of_ble_eq_true rfl, Nat.le_of_ble_eq_true rfl⟩ rfl hl.1 (Nat.le_of_ble_eq_true rfl) dX7_worst_8 ⟨Nat.zero_le _, Nat.zero_le _⟩ ⟨rfl, rfl⟩ (fun H locs hW hS => ?_)
  refine lv_if_eq (tgt := 24) hx hb dX7_worst_11 (by decide) (fun c_11 => ?_) (fun c_11 => ?_)
  · skip
    exact absurd (k1.symm.trans c_11) (by decide)
  · skip
    refine lv_iload_n hx hb dX7_worst_14 rfl (lv_at hl 2 rfl) ?_
    refine lv_iconst (v := 1) hx hb dX7_worst_15 (by decide) ?_
    refine lv_bipush (v := 20) hx hb dX7_worst_16 (by decide) ?_
    refine q_cSiE (As := [.int F, .int 1, .int 20]) (rest := []) hx hb hml hts hown hE h0 hW hS (c_X7_isIn l F 1 20) mw_X7_isIn t_962 ⟨Nat.le_of_ble_eq_true rfl, Nat.le_of_ble_eq_true rfl⟩ rfl hl.1 (Nat.le_of_ble_eq_true rfl) dX7_worst_18 ⟨Nat.zero_le _, Nat.zero_le _⟩ ⟨rfl, rfl⟩ (fun H locs hW hS => ?_)
    refine lv_if_ne (tgt := 30) hx hb dX7_worst_21 (by decide) (fun c_21 => ?_) (fun c_21 => ?_)
    · skip
      refine lv_iconst (v := (-1)) hx hb dX7_worst_30 (by decide) ?_
      refine lv_istore_n (lv' := [(3, .int (-1)), (0, .ref (ad 100)), (1, .int (iI rad)), (2, .int F)]) hx hb dX7_worst_31 rfl hl (by decide) rfl (fun ls hl => ?_)
      have hn01 : ∀ i, i < 12 → (tz v) 118 i = 0 ∨ (tz v) 118 i = 1 := n01_kp hn01 kO_t
      refine lv_iconst (v := 0) hx hb dX7_worst_32 (by decide) ?_
      refine lv_istore (lv' := [(4, .int 0), (3, .int (-1)), (0, .ref (ad 100)), (1, .int (iI rad)), (2, .int F)]) hx hb dX7_worst_33 hl (by decide) rfl (fun ls hl => ?_)
      refine lv_iconst (v := 0) hx hb dX7_worst_35 (by decide) ?_
      refine lv_istore (lv' := [(5, .int 0), (4, .int 0), (3, .int (-1)), (0, .ref (ad 100)), (1, .int (iI rad)), (2, .int F)]) hx hb dX7_worst_36 hl (by decide) rfl (fun ls hl => ?_)
      suffices LP_38 : ∀ (n_38 i : Nat) (x3_38 : Int32) (x4_38 : Int32) (x5_38 : Int32)  (u_38 : Nat → Nat → Int32) (H : Heap) (locs : List Loc) (ls : Array Slot), 20 + 1 ≤ i + n_38 → i ≤ 20 → (itr (rWo gx gy gw gd ng nh nl rad F) i (tz v, 0, -1)).2.2 = x3_38 → (itr (rWo gx gy gw gd ng nh nl rad F) i (tz v, 0, -1)).2.1 = x4_38 → nI i = x5_38 → (itr (rWo gx gy gw gd ng nh nl rad F) i (tz v, 0, -1)).1 = u_38 → WD G L ad u_38 o w s H → va_S (Ab G.2.2.1) s.heap H locs → lv_has ls 6 [(5, .int x5_38), (4, .int x4_38), (3, .int x3_38), (0, .ref (ad 100)), (1, .int (iI rad)), (2, .int F)] → W p l e ({ frames := 4, cells := 0, slots := 0, locals := 99 } : Room) s m ([.ref (ad 100), .int (iI rad), .int F] : List Value).toArray below meth c H locs 0 0 (MQ below (va_Qi (fun r u => r = (itr (rWo gx gy gw gd ng nh nl rad F) 20 (tz v, 0, -1)).2.2 ∧ u = (itr (rWo gx gy gw gd ng nh nl rad F) 20 (tz v, 0, -1)).1) (fun u t => WD G L ad u o w t t.heap) (Ab G.2.2.1)) ([.ref (ad 100), .int (iI rad), .int F] : List Value).toArray s ({ frames := 4, cells := 0, slots := 0, locals := 99 } : Room).cells ({ frames := 4, cells := 0, slots := 0, locals := 99 } : Room).slots (Ab G.2.2.1)) (F0 m 38 ls []) from LP_38 (20 + 1) 0 _ _ _   _ H locs ls (by omega) (by omega) (by rfl) (by rfl) (by rfl) (by rfl)  hW hS (lv_sub hl [0, 1, 2, 3, 4, 5] rfl)
      intro n_38
      induction n_38 with
      | zero => intro i x3_38 x4_38 x5_38  u_38 H locs ls h1 h2; exact absurd h1 (by omega)
      | succ n_38 ih_38 =>
        intro i x3_38 x4_38 x5_38  u_38 H locs ls hn_38 hi_38 ex3_38 ex4_38 ex5_38 eu_38  hW hS hl
        subst ex3_38
        subst ex4_38
        subst ex5_38
        subst eu_38
        have hJ : PJ L ad (itr (rWo gx gy gw gd ng nh nl rad F) i (tz v, 0, -1)).1 o 101 110 ng nh nl ns ow gx gy gw gd := hJ.kp2 (kO_rWos (t := (tz v, 0, -1)))
        have hn01 : ∀ i9, i9 < 12 → ((itr (rWo gx gy gw gd ng nh nl rad F) i (tz v, 0, -1)).1) 118 i9 = 0 ∨ ((itr (rWo gx gy gw gd ng nh nl rad F) i (tz v, 0, -1)).1) 118 i9 = 1 := n01_kp hn01 (kO_rWos (t := (tz v, 0, -1)))
        refine lv_iload hx hb dX7_worst_38 (lv_at hl 0 rfl) ?_
        refine lv_bipush (v := 20) hx hb dX7_worst_40 (by decide) ?_
        refine lv_icmp_ge (tgt := 109) hx hb dX7_worst_42 (by decide) (fun c_42 => ?_) (fun c_42 => ?_)
        · skip
          have hq_38 := (ge_i (n := 20) (by omega) hi_38 c_42).symm
          subst hq_38
          refine lv_iload_n hx hb dX7_worst_109 rfl (lv_at hl 2 rfl) ?_
          exact q_iret hx hb hr hlocks hW hS (Nat.le_refl _) (Nat.le_refl _) dX7_worst_110 (⟨rfl, rfl⟩)
        · skip
          have hlt_38 := lt_i (n := 20) (by omega) hi_38 c_42
          refine lv_aload_n hx hb dX7_worst_45 rfl (lv_at hl 3 rfl) ?_
          refine q_getr hx hb hts hown hW (r := 100) hJ.q.m0 rfl k_8 2 (by decide) rfl t_945 (a := ad 102) hO2 dX7_worst_46 ?_
          refine lv_aload_n hx hb dX7_worst_49 rfl (lv_at hl 3 rfl) ?_
          refine q_getr hx hb hts hown hW (r := 100) hJ.q.m0 rfl k_8 1 (by decide) rfl t_944 (a := ad 101) hO1 dX7_worst_50 ?_
          refine q_cVvE (As := [.ref (ad 101)]) (rest := []) (r := 102) hx hb hml hts hown hE h0 hW hS (c_X6_become l hJ hO1 hO2 hQ2 hn01) mw_X6_become hQ2.mS rfl k_7 t_1106 ⟨Nat.le_of_ble_eq_true rfl, Nat.le_of_ble_eq_true rfl⟩ rfl hl.1 (Nat.le_of_ble_eq_true rfl) dX7_worst_53 ⟨Nat.zero_le _, Nat.zero_le _⟩ ⟨rfl, rfl⟩ (fun H locs hW hS => ?_)
          have hJ2 := PJ_bec hJ hQ2
          have hJ : PJ L ad (uBec ((itr (rWo gx gy gw gd ng nh nl rad F) i (tz v, 0, -1)).1)) o 101 110 ng nh nl ns ow gx gy gw gd := hJ.kp2 kO_bec
          refine lv_aload_n hx hb dX7_worst_56 rfl (lv_at hl 3 rfl) ?_
          refine q_getr hx hb hts hown hW (r := 100) hJ.q.m0 rfl k_8 2 (by decide) rfl t_945 (a := ad 102) hO2 dX7_worst_57 ?_
          refine lv_iconst (v := 0) hx hb dX7_worst_60 (by decide) ?_
          refine lv_iload hx hb dX7_worst_61 (lv_at hl 0 rfl) ?_
          refine lv_topi (fun xt et => ?_)
          obtain rfl : xt = iI (i : Int) := et.trans (by exact (iI_n _).symm)
          clear et
          refine lv_iconst (v := 2) hx hb dX7_worst_63 (by decide) ?_
          refine lv_iconst (v := 0) hx hb dX7_worst_64 (by decide) ?_
          refine lv_iload_n hx hb dX7_worst_65 rfl (lv_at hl 4 rfl) ?_
          refine lv_iload_n hx hb dX7_worst_66 rfl (lv_at hl 5 rfl) ?_
          refine lv_bipush (v := 12) hx hb dX7_worst_67 (by decide) ?_
          refine q_cVvE (As := [.int 0, .int (iI (i : Int)), .int 2, .int 0, .int (iI rad), .int F, .int 12]) (rest := []) (r := 102) hx hb hml hts hown hE h0 hW hS (c_X6_storm l hJ2 (sx := 0) (sy := (i : Int)) (dx := 2) (dy := 0) (rad := rad) (F := F) (st := 12) (by omega) (by omega) (by omega) (by omega) (by omega) (by omega) (by omega) (by omega) r1 r2 (by omega)) mw_X6_storm hQ2.mS rfl k_7 t_1088 ⟨Nat.le_of_ble_eq_true rfl, Nat.le_of_ble_eq_true rfl⟩ rfl hl.1 (Nat.le_of_ble_eq_true rfl) dX7_worst_69 ⟨Nat.zero_le _, Nat.zero_le _⟩ ⟨rfl, rfl⟩ (fun H locs hW hS => ?_)
          have hJ : PJ L ad (rWest (uBec ((itr (rWo gx gy gw gd ng nh nl rad F) i (tz v, 0, -1)).1)) gx gy gw gd ng nh nl i rad F) o 101 110 ng nh nl ns ow gx gy gw gd := hJ.kp2 (kr_rStorm SB2).out
          refine lv_aload_n hx hb dX7_worst_72 rfl (lv_at hl 3 rfl) ?_
          refine q_getr hx hb hts hown hW (r := 100) hJ.q.m0 rfl k_8 2 (by decide) rfl t_945 (a := ad 102) hO2 dX7_worst_73 ?_
          refine q_getrN hx hb hts hown hW (r := 102) hQ2.mS rfl k_7 16 (by decide) rfl t_900 (a := ad (140 + 16)) (hQ2.oB 16 rfl) dX7_worst_76 ?_
          refine lv_iconst (v := 3) hx hb dX7_worst_79 (by decide) ?_
          refine q_iald hx hb hW (r := (140 + 16)) (hQ2.mB 16 rfl) rfl (3) rfl (by rw [hJ2.q.ln 16 rfl]; show _ < 6; omega) (by rw [hJ2.q.ln 16 rfl]; decide) (x := ((rWest (uBec ((itr (rWo gx gy gw gd ng nh nl rad F) i (tz v, 0, -1)).1)) gx gy gw gd ng nh nl i rad F) (140 + 16) (3))) rfl dX7_worst_80 ?_
          refine lv_iload hx hb dX7_worst_81 (lv_at hl 1 rfl) ?_
          refine lv_icmp_gt (tgt := 89) hx hb dX7_worst_83 (by decide) (fun c_83 => ?_) (fun c_83 => ?_)
          · skip
            refine lv_aload_n hx hb dX7_worst_89 rfl (lv_at hl 3 rfl) ?_
            refine q_getr hx hb hts hown hW (r := 100) hJ.q.m0 rfl k_8 2 (by decide) rfl t_945 (a := ad 102) hO2 dX7_worst_90 ?_
            refine q_getrN hx hb hts hown hW (r := 102) hQ2.mS rfl k_7 16 (by decide) rfl t_900 (a := ad (140 + 16)) (hQ2.oB 16 rfl) dX7_worst_93 ?_
            refine lv_iconst (v := 3) hx hb dX7_worst_96 (by decide) ?_
            refine q_iald hx hb hW (r := (140 + 16)) (hQ2.mB 16 rfl) rfl (3) rfl (by rw [hJ2.q.ln 16 rfl]; show _ < 6; omega) (by rw [hJ2.q.ln 16 rfl]; decide) (x := ((rWest (uBec ((itr (rWo gx gy gw gd ng nh nl rad F) i (tz v, 0, -1)).1)) gx gy gw gd ng nh nl i rad F) (140 + 16) (3))) rfl dX7_worst_97 ?_
            refine lv_istore (lv' := [(4, .int ((rWest (uBec ((itr (rWo gx gy gw gd ng nh nl rad F) i (tz v, 0, -1)).1)) gx gy gw gd ng nh nl i rad F) (140 + 16) (3))), (5, .int (nI i)), (3, .int ((itr (rWo gx gy gw gd ng nh nl rad F) i (tz v, 0, -1)).2.2)), (0, .ref (ad 100)), (1, .int (iI rad)), (2, .int F)]) hx hb dX7_worst_98 hl (by decide) rfl (fun ls hl => ?_)
            refine lv_iload hx hb dX7_worst_100 (lv_at hl 1 rfl) ?_
            refine lv_istore_n (lv' := [(3, .int (nI i)), (4, .int ((rWest (uBec ((itr (rWo gx gy gw gd ng nh nl rad F) i (tz v, 0, -1)).1)) gx gy gw gd ng nh nl i rad F) (140 + 16) (3))), (5, .int (nI i)), (0, .ref (ad 100)), (1, .int (iI rad)), (2, .int F)]) hx hb dX7_worst_102 rfl hl (by decide) rfl (fun ls hl => ?_)
            refine lv_iinc (v := (nI (i + 1))) (lv' := [(5, .int (nI (i + 1))), (3, .int (nI i)), (4, .int ((rWest (uBec ((itr (rWo gx gy gw gd ng nh nl rad F) i (tz v, 0, -1)).1)) gx gy gw gd ng nh nl i rad F) (140 + 16) (3))), (0, .ref (ad 100)), (1, .int (iI rad)), (2, .int F)]) hx hb dX7_worst_103 hl (k := 2) rfl (inc_nI _) (by decide) rfl (fun ls hl => ?_)
            refine lv_goto (tgt := 38) hx hb dX7_worst_106 (by decide) ?_
            exact ih_38 (i + 1) _ _ _   _ H locs ls (by omega) (by omega) (by rw [itr_s]; first | exact congrArg (fun z => z.2.2) (rWo_1 c_83) | exact congrArg (fun z => z.2.2) (rWo_0 c_83)) (by rw [itr_s]; first | exact congrArg (fun z => z.2.1) (rWo_1 c_83) | exact congrArg (fun z => z.2.1) (rWo_0 c_83)) (by rfl) (by rw [itr_s]; first | exact congrArg (fun z => z.1) (rWo_1 c_83) | exact congrArg (fun z => z.1) (rWo_0 c_83))  hW hS (lv_sub hl [0, 2, 1, 3, 4, 5] rfl)
          · skip
            refine lv_goto (tgt := 103) hx hb dX7_worst_86 (by decide) ?_
            refine lv_iinc (v := (nI (i + 1))) (lv' := [(5, .int (nI (i + 1))), (4, .int ((itr (rWo gx gy gw gd ng nh nl rad F) i (tz v, 0, -1)).2.1)), (3, .int ((itr (rWo gx gy gw gd ng nh nl rad F) i (tz v, 0, -1)).2.2)), (0, .ref (ad 100)), (1, .int (iI rad)), (2, .int F)]) hx hb dX7_worst_103 hl (k := 0) rfl (inc_nI _) (by decide) rfl (fun ls hl => ?_)
            refine lv_goto (tgt := 38) hx hb dX7_worst_106 (by decide) ?_
            exact ih_38 (i + 1) _ _ _   _ H locs ls (by omega) (by omega) (by rw [itr_s]; first | exact congrArg (fun z => z.2.2) (rWo_1 c_83) | exact congrArg (fun z => z.2.2) (rWo_0 c_83)) (by rw [itr_s]; first | exact congrArg (fun z => z.2.1) (rWo_1 c_83) | exact congrArg (fun z => z.2.1) (rWo_0 c_83)) (by rfl) (by rw [itr_s]; first | exact congrArg (fun z => z.1) (rWo_1 c_83) | exact congrArg (fun z => z.1) (rWo_0 c_83))  hW hS (lv_sub hl [0, 1, 2, 3, 4, 5] rfl)
    · skip
      exact absurd (k2.symm.trans c_21) (by decide)

set_option maxHeartbeats 4000000 in
set_option maxRecDepth 100000 in
theorem c_X7_worst_1a (l : Launch) {G : GG} {L : List Nat} {ad : Nat → Nat} {v : Nat → Nat → Int32} {o : Nat → Nat → Option Nat} {w : Nat → Int64} {ng nh nl ns : Nat} {ow gx gy gw gd : Nat → Nat} (hJ : PJ L ad v o 101 110 ng nh nl ns ow gx gy gw gd) (hO1 : o 100 1 = some (ad 101)) {a b : Int32} (k1 : fIn a 0 5 = 0) : CtI l G L ad v o w yX7_worst cX7_worst 6 .int ({ frames := 1, cells := 0, slots := 0, locals := 22 }) [.ref (ad 100), .int a, .int b] (fun r u => r = 0 ∧ u = up2 (tz v) 100 0 1) := by
  have hsb := hJ.q.sb; have hbd := hJ.bd
  refine q_ofI (by decide) (Nat.le_of_ble_eq_true rfl) ?_
  intro p e s m below meth c hx hb hr hml hts hown hlocks hE h0 hW hS ls hl
  generalize hH : s.heap = H at hW
  have hS : va_S (Ab G.2.2.1) s.heap H [] := hH ▸ hS
  obtain ⟨locs, hlc⟩ : ∃ z : List Loc, z = [] := ⟨_, rfl⟩
  rw [← hlc] at hS ⊢
  have hl : lv_has ls 6 [(0, .ref (ad 100)), (1, .int a), (2, .int b)] := hl
  refine lv_aload_n hx hb dX7_worst_0 rfl (lv_at hl 0 rfl) ?_
  refine lv_iconst (v := 0) hx hb dX7_worst_1 (by decide) ?_
  refine q_put hx hb hts hown hW hS (r := 100) hJ.q.m0 rfl k_8 0 (by decide) rfl t_943 rfl (t := .int) (by decide +kernel) rfl rfl dX7_worst_2 (fun H locs hW hS => ?_)
  have hJ : PJ L ad (up2 v 100 0 0) o 101 110 ng nh nl ns ow gx gy gw gd := hJ.kp kr_t
  generalize hv1 : (up2 v 100 0 0) = v1 at hW hJ
  refine lv_iload_n hx hb dX7_worst_5 rfl (lv_at hl 1 rfl) ?_
  refine lv_iconst (v := 0) hx hb dX7_worst_6 (by decide) ?_
  refine lv_iconst (v := 5) hx hb dX7_worst_7 (by decide) ?_
  refine q_cSiE (As := [.int a, .int 0, .int 5]) (rest := []) hx hb hml hts hown hE h0 hW hS (c_X7_isIn l a 0 5) mw_X7_isIn t_962 ⟨Nat.le_of_ble_eq_true rfl, Nat.le_of_ble_eq_true rfl⟩ rfl hl.1 (Nat.le_of_ble_eq_true rfl) dX7_worst_8 ⟨Nat.zero_le _, Nat.zero_le _⟩ ⟨rfl, rfl⟩ (fun H locs hW hS => ?_)
  refine lv_if_eq (tgt := 24) hx hb dX7_worst_11 (by decide) (fun c_11 => ?_) (fun c_11 => ?_)
  · skip
    refine lv_aload_n hx hb dX7_worst_24 rfl (lv_at hl 0 rfl) ?_
    refine lv_iconst (v := 1) hx hb dX7_worst_25 (by decide) ?_
    refine q_cViE (As := [.int 1]) (rest := []) (r := 100) hx hb hml hts hown hE h0 hW hS (c_X7_no l hJ.q.m0 1) mw_X7_no hJ.q.m0 rfl k_8 t_965 ⟨Nat.le_of_ble_eq_true rfl, Nat.le_of_ble_eq_true rfl⟩ rfl hl.1 (Nat.le_of_ble_eq_true rfl) dX7_worst_26 ⟨Nat.zero_le _, Nat.zero_le _⟩ ⟨rfl, rfl⟩ (fun H locs hW hS => ?_)
    have hJ : PJ L ad (up2 v1 100 0 1) o 101 110 ng nh nl ns ow gx gy gw gd := hJ.kp kr_t
    generalize hv2 : (up2 v1 100 0 1) = v2 at hW hJ
    subst hv2
    subst hv1
    exact q_iret hx hb hr hlocks hW hS (Nat.le_refl _) (Nat.le_refl _) dX7_worst_29 (⟨rfl, rfl⟩)
  · skip
    exact absurd k1 c_11

set_option maxHeartbeats 4000000 in
set_option maxRecDepth 100000 in
theorem c_X7_worst_1b (l : Launch) {G : GG} {L : List Nat} {ad : Nat → Nat} {v : Nat → Nat → Int32} {o : Nat → Nat → Option Nat} {w : Nat → Int64} {ng nh nl ns : Nat} {ow gx gy gw gd : Nat → Nat} (hJ : PJ L ad v o 101 110 ng nh nl ns ow gx gy gw gd) (hO1 : o 100 1 = some (ad 101)) {a b : Int32} (k1 : fIn a 0 5 = 1) (k2 : fIn b 1 20 = 0) : CtI l G L ad v o w yX7_worst cX7_worst 6 .int ({ frames := 1, cells := 0, slots := 0, locals := 22 }) [.ref (ad 100), .int a, .int b] (fun r u => r = 0 ∧ u = up2 (tz v) 100 0 1) := by
  have hsb := hJ.q.sb; have hbd := hJ.bd
  refine q_ofI (by decide) (Nat.le_of_ble_eq_true rfl) ?_
  intro p e s m below meth c hx hb hr hml hts hown hlocks hE h0 hW hS ls hl
  generalize hH : s.heap = H at hW
  have hS : va_S (Ab G.2.2.1) s.heap H [] := hH ▸ hS
  obtain ⟨locs, hlc⟩ : ∃ z : List Loc, z = [] := ⟨_, rfl⟩
  rw [← hlc] at hS ⊢
  have hl : lv_has ls 6 [(0, .ref (ad 100)), (1, .int a), (2, .int b)] := hl
  refine lv_aload_n hx hb dX7_worst_0 rfl (lv_at hl 0 rfl) ?_
  refine lv_iconst (v := 0) hx hb dX7_worst_1 (by decide) ?_
  refine q_put hx hb hts hown hW hS (r := 100) hJ.q.m0 rfl k_8 0 (by decide) rfl t_943 rfl (t := .int) (by decide +kernel) rfl rfl dX7_worst_2 (fun H locs hW hS => ?_)
  have hJ : PJ L ad (up2 v 100 0 0) o 101 110 ng nh nl ns ow gx gy gw gd := hJ.kp kr_t
  generalize hv1 : (up2 v 100 0 0) = v1 at hW hJ
  refine lv_iload_n hx hb dX7_worst_5 rfl (lv_at hl 1 rfl) ?_
  refine lv_iconst (v := 0) hx hb dX7_worst_6 (by decide) ?_
  refine lv_iconst (v := 5) hx hb dX7_worst_7 (by decide) ?_
  refine q_cSiE (As := [.int a, .int 0, .int 5]) (rest := []) hx hb hml hts hown hE h0 hW hS (c_X7_isIn l a 0 5) mw_X7_isIn t_962 ⟨Nat.le_of_ble_eq_true rfl, Nat.le_of_ble_eq_true rfl⟩ rfl hl.1 (Nat.le_of_ble_eq_true rfl) dX7_worst_8 ⟨Nat.zero_le _, Nat.zero_le _⟩ ⟨rfl, rfl⟩ (fun H locs hW hS => ?_)
  refine lv_if_eq (tgt := 24) hx hb dX7_worst_11 (by decide) (fun c_11 => ?_) (fun c_11 => ?_)
  · skip
    exact absurd (k1.symm.trans c_11) (by decide)
  · skip
    refine lv_iload_n hx hb dX7_worst_14 rfl (lv_at hl 2 rfl) ?_
    refine lv_iconst (v := 1) hx hb dX7_worst_15 (by decide) ?_
    refine lv_bipush (v := 20) hx hb dX7_worst_16 (by decide) ?_
    refine q_cSiE (As := [.int b, .int 1, .int 20]) (rest := []) hx hb hml hts hown hE h0 hW hS (c_X7_isIn l b 1 20) mw_X7_isIn t_962 ⟨Nat.le_of_ble_eq_true rfl, Nat.le_of_ble_eq_true rfl⟩ rfl hl.1 (Nat.le_of_ble_eq_true rfl) dX7_worst_18 ⟨Nat.zero_le _, Nat.zero_le _⟩ ⟨rfl, rfl⟩ (fun H locs hW hS => ?_)
    refine lv_if_ne (tgt := 30) hx hb dX7_worst_21 (by decide) (fun c_21 => ?_) (fun c_21 => ?_)
    · skip
      exact absurd k2 c_21
    · skip
      refine lv_aload_n hx hb dX7_worst_24 rfl (lv_at hl 0 rfl) ?_
      refine lv_iconst (v := 1) hx hb dX7_worst_25 (by decide) ?_
      refine q_cViE (As := [.int 1]) (rest := []) (r := 100) hx hb hml hts hown hE h0 hW hS (c_X7_no l hJ.q.m0 1) mw_X7_no hJ.q.m0 rfl k_8 t_965 ⟨Nat.le_of_ble_eq_true rfl, Nat.le_of_ble_eq_true rfl⟩ rfl hl.1 (Nat.le_of_ble_eq_true rfl) dX7_worst_26 ⟨Nat.zero_le _, Nat.zero_le _⟩ ⟨rfl, rfl⟩ (fun H locs hW hS => ?_)
      have hJ : PJ L ad (up2 v1 100 0 1) o 101 110 ng nh nl ns ow gx gy gw gd := hJ.kp kr_t
      generalize hv2 : (up2 v1 100 0 1) = v2 at hW hJ
      subst hv2
      subst hv1
      exact q_iret hx hb hr hlocks hW hS (Nat.le_refl _) (Nat.le_refl _) dX7_worst_29 (⟨rfl, rfl⟩)

set_option maxHeartbeats 4000000 in
set_option maxRecDepth 100000 in
theorem c_X7_damage_n (l : Launch) {G : GG} {L : List Nat} {ad : Nat → Nat} {v : Nat → Nat → Int32} {o : Nat → Nat → Option Nat} {w : Nat → Int64} {ng nh nl ns : Nat} {ow gx gy gw gd : Nat → Nat} (hJ : PJ L ad v o 101 110 ng nh nl ns ow gx gy gw gd) (hO1 : o 100 1 = some (ad 101)) (hO2 : o 100 2 = some (ad 102)) (hQ2 : PQ L ad o 102 140) (hn01 : ∀ i, i < 12 → v 118 i = 0 ∨ v 118 i = 1) {y : Nat} {rad : Int} {F : Int32} (y9 : y < 20) (r1 : 0 ≤ rad) (r2 : rad ≤ 5) : CtI l G L ad v o w yX7_damage cX7_damage 5 .int ({ frames := 4, cells := 0, slots := 0, locals := 99 }) [.ref (ad 100), .int (-1), .int (nI y), .int (iI rad), .int F] (fun r u => r = rDam v gx gy gw gd ng nh nl y rad F 156 2 ∧ u = rDam v gx gy gw gd ng nh nl y rad F) := by
  have hsb := hJ.q.sb; have hbd := hJ.bd
  refine q_ofI (by decide) (Nat.le_of_ble_eq_true rfl) ?_
  intro p e s m below meth c hx hb hr hml hts hown hlocks hE h0 hW hS ls hl
  generalize hH : s.heap = H at hW
  have hS : va_S (Ab G.2.2.1) s.heap H [] := hH ▸ hS
  obtain ⟨locs, hlc⟩ : ∃ z : List Loc, z = [] := ⟨_, rfl⟩
  rw [← hlc] at hS ⊢
  have hl : lv_has ls 5 [(0, .ref (ad 100)), (1, .int (-1)), (2, .int (nI y)), (3, .int (iI rad)), (4, .int F)] := hl
  refine lv_aload_n hx hb dX7_damage_0 rfl (lv_at hl 0 rfl) ?_
  refine q_getr hx hb hts hown hW (r := 100) hJ.q.m0 rfl k_8 2 (by decide) rfl t_945 (a := ad 102) hO2 dX7_damage_1 ?_
  refine lv_aload_n hx hb dX7_damage_4 rfl (lv_at hl 0 rfl) ?_
  refine q_getr hx hb hts hown hW (r := 100) hJ.q.m0 rfl k_8 1 (by decide) rfl t_944 (a := ad 101) hO1 dX7_damage_5 ?_
  refine q_cVvE (As := [.ref (ad 101)]) (rest := []) (r := 102) hx hb hml hts hown hE h0 hW hS (c_X6_become l hJ hO1 hO2 hQ2 hn01) mw_X6_become hQ2.mS rfl k_7 t_1106 ⟨Nat.le_of_ble_eq_true rfl, Nat.le_of_ble_eq_true rfl⟩ rfl hl.1 (Nat.le_of_ble_eq_true rfl) dX7_damage_8 ⟨Nat.zero_le _, Nat.zero_le _⟩ ⟨rfl, rfl⟩ (fun H locs hW hS => ?_)
  have hJ2 := PJ_bec hJ hQ2
  have hJ : PJ L ad (uBec v) o 101 110 ng nh nl ns ow gx gy gw gd := hJ.kp2 kO_bec
  refine lv_iload_n hx hb dX7_damage_11 rfl (lv_at hl 1 rfl) ?_
  refine lv_iconst (v := (-1)) hx hb dX7_damage_12 (by decide) ?_
  refine lv_icmp_eq (tgt := 26) hx hb dX7_damage_13 (by decide) (fun c_13 => ?_) (fun c_13 => ?_)
  · skip
    refine lv_aload_n hx hb dX7_damage_26 rfl (lv_at hl 0 rfl) ?_
    refine q_getr hx hb hts hown hW (r := 100) hJ.q.m0 rfl k_8 2 (by decide) rfl t_945 (a := ad 102) hO2 dX7_damage_27 ?_
    refine lv_iconst (v := 0) hx hb dX7_damage_30 (by decide) ?_
    refine lv_iload_n hx hb dX7_damage_31 rfl (lv_at hl 2 rfl) ?_
    refine lv_topi (fun xt et => ?_)
    obtain rfl : xt = iI (y : Int) := et.trans (by exact (iI_n _).symm)
    clear et
    refine lv_iconst (v := 2) hx hb dX7_damage_32 (by decide) ?_
    refine lv_iconst (v := 0) hx hb dX7_damage_33 (by decide) ?_
    refine lv_iload_n hx hb dX7_damage_34 rfl (lv_at hl 3 rfl) ?_
    refine lv_iload hx hb dX7_damage_35 (lv_at hl 4 rfl) ?_
    refine lv_bipush (v := 12) hx hb dX7_damage_37 (by decide) ?_
    refine q_cVvE (As := [.int 0, .int (iI (y : Int)), .int 2, .int 0, .int (iI rad), .int F, .int 12]) (rest := []) (r := 102) hx hb hml hts hown hE h0 hW hS (c_X6_storm l hJ2 (sx := 0) (sy := (y : Int)) (dx := 2) (dy := 0) (rad := rad) (F := F) (st := 12) (by omega) (by omega) (by omega) (by omega) (by omega) (by omega) (by omega) (by omega) r1 r2 (by omega)) mw_X6_storm hQ2.mS rfl k_7 t_1088 ⟨Nat.le_of_ble_eq_true rfl, Nat.le_of_ble_eq_true rfl⟩ rfl hl.1 (Nat.le_of_ble_eq_true rfl) dX7_damage_39 ⟨Nat.zero_le _, Nat.zero_le _⟩ ⟨rfl, rfl⟩ (fun H locs hW hS => ?_)
    have hJ : PJ L ad (rWest (uBec v) gx gy gw gd ng nh nl y rad F) o 101 110 ng nh nl ns ow gx gy gw gd := hJ.kp2 (kr_rStorm SB2).out
    refine lv_aload_n hx hb dX7_damage_42 rfl (lv_at hl 0 rfl) ?_
    refine q_getr hx hb hts hown hW (r := 100) hJ.q.m0 rfl k_8 2 (by decide) rfl t_945 (a := ad 102) hO2 dX7_damage_43 ?_
    refine q_getrN hx hb hts hown hW (r := 102) hQ2.mS rfl k_7 16 (by decide) rfl t_900 (a := ad (140 + 16)) (hQ2.oB 16 rfl) dX7_damage_46 ?_
    refine lv_iconst (v := 2) hx hb dX7_damage_49 (by decide) ?_
    refine q_iald hx hb hW (r := (140 + 16)) (hQ2.mB 16 rfl) rfl (2) rfl (by rw [hJ2.q.ln 16 rfl]; show _ < 6; omega) (by rw [hJ2.q.ln 16 rfl]; decide) (x := ((rWest (uBec v) gx gy gw gd ng nh nl y rad F) (140 + 16) (2))) rfl dX7_damage_50 ?_
    exact q_iret hx hb hr hlocks hW hS (Nat.le_refl _) (Nat.le_refl _) dX7_damage_51 (⟨rfl, rfl⟩)
  · skip
    exact absurd rfl c_13

set_option maxHeartbeats 4000000 in
set_option maxRecDepth 100000 in
theorem c_X7_damage (l : Launch) {G : GG} {L : List Nat} {ad : Nat → Nat} {v : Nat → Nat → Int32} {o : Nat → Nat → Option Nat} {w : Nat → Int64} {ng nh nl ns : Nat} {ow gx gy gw gd : Nat → Nat} (hJ : PJ L ad v o 101 110 ng nh nl ns ow gx gy gw gd) (hO1 : o 100 1 = some (ad 101)) (hO2 : o 100 2 = some (ad 102)) (hQ2 : PQ L ad o 102 140) (hn01 : ∀ i, i < 12 → v 118 i = 0 ∨ v 118 i = 1) {h : Nat} (hh : h < nh) {y : Nat} {rad : Int} {F : Int32} (y9 : y < 20) (r1 : 0 ≤ rad) (r2 : rad ≤ 5) : CtI l G L ad v o w yX7_damage cX7_damage 5 .int ({ frames := 4, cells := 0, slots := 0, locals := 99 }) [.ref (ad 100), .int (nI h), .int (nI y), .int (iI rad), .int F] (fun r u => r = rDamN v gx gy gw gd ng nh nl h y rad F 156 2 ∧ u = rDamN v gx gy gw gd ng nh nl h y rad F) := by
  have hsb := hJ.q.sb; have hbd := hJ.bd
  refine q_ofI (by decide) (Nat.le_of_ble_eq_true rfl) ?_
  intro p e s m below meth c hx hb hr hml hts hown hlocks hE h0 hW hS ls hl
  generalize hH : s.heap = H at hW
  have hS : va_S (Ab G.2.2.1) s.heap H [] := hH ▸ hS
  obtain ⟨locs, hlc⟩ : ∃ z : List Loc, z = [] := ⟨_, rfl⟩
  rw [← hlc] at hS ⊢
  have hl : lv_has ls 5 [(0, .ref (ad 100)), (1, .int (nI h)), (2, .int (nI y)), (3, .int (iI rad)), (4, .int F)] := hl
  refine lv_aload_n hx hb dX7_damage_0 rfl (lv_at hl 0 rfl) ?_
  refine q_getr hx hb hts hown hW (r := 100) hJ.q.m0 rfl k_8 2 (by decide) rfl t_945 (a := ad 102) hO2 dX7_damage_1 ?_
  refine lv_aload_n hx hb dX7_damage_4 rfl (lv_at hl 0 rfl) ?_
  refine q_getr hx hb hts hown hW (r := 100) hJ.q.m0 rfl k_8 1 (by decide) rfl t_944 (a := ad 101) hO1 dX7_damage_5 ?_
  refine q_cVvE (As := [.ref (ad 101)]) (rest := []) (r := 102) hx hb hml hts hown hE h0 hW hS (c_X6_become l hJ hO1 hO2 hQ2 hn01) mw_X6_become hQ2.mS rfl k_7 t_1106 ⟨Nat.le_of_ble_eq_true rfl, Nat.le_of_ble_eq_true rfl⟩ rfl hl.1 (Nat.le_of_ble_eq_true rfl) dX7_damage_8 ⟨Nat.zero_le _, Nat.zero_le _⟩ ⟨rfl, rfl⟩ (fun H locs hW hS => ?_)
  have hJ2 := PJ_bec hJ hQ2
  have hJ : PJ L ad (uBec v) o 101 110 ng nh nl ns ow gx gy gw gd := hJ.kp2 kO_bec
  refine lv_iload_n hx hb dX7_damage_11 rfl (lv_at hl 1 rfl) ?_
  refine lv_iconst (v := (-1)) hx hb dX7_damage_12 (by decide) ?_
  refine lv_icmp_eq (tgt := 26) hx hb dX7_damage_13 (by decide) (fun c_13 => ?_) (fun c_13 => ?_)
  · skip
    exact absurd c_13 (nI_m1 (by omega))
  · skip
    refine lv_aload_n hx hb dX7_damage_16 rfl (lv_at hl 0 rfl) ?_
    refine q_getr hx hb hts hown hW (r := 100) hJ.q.m0 rfl k_8 2 (by decide) rfl t_945 (a := ad 102) hO2 dX7_damage_17 ?_
    refine q_getrN hx hb hts hown hW (r := 102) hQ2.mS rfl k_7 8 (by decide) rfl t_884 (a := ad (140 + 8)) (hQ2.oB 8 rfl) dX7_damage_20 ?_
    refine lv_iload_n hx hb dX7_damage_23 rfl (lv_at hl 1 rfl) ?_
    refine lv_iconst (v := 1) hx hb dX7_damage_24 (by decide) ?_
    refine q_zast hx hb hW hS (r := (140 + 8)) (hQ2.mB 8 rfl) rfl h rfl (show _ < 12 by omega) (by decide) (Or.inr rfl) dX7_damage_25 (fun H locs hW hS => ?_)
    have hJ : PJ L ad (up2 (uBec v) (140 + 8) h 1) o 101 110 ng nh nl ns ow gx gy gw gd := hJ.kp2 (keepR.out (kr_b SB2 (by omega)))
    have hJ2 : PJ L ad (up2 (uBec v) (140 + 8) h 1) o 102 140 ng nh nl ns ow gx gy gw gd := hJ2.kp (kr_b SB2 (by omega))
    refine lv_aload_n hx hb dX7_damage_26 rfl (lv_at hl 0 rfl) ?_
    refine q_getr hx hb hts hown hW (r := 100) hJ.q.m0 rfl k_8 2 (by decide) rfl t_945 (a := ad 102) hO2 dX7_damage_27 ?_
    refine lv_iconst (v := 0) hx hb dX7_damage_30 (by decide) ?_
    refine lv_iload_n hx hb dX7_damage_31 rfl (lv_at hl 2 rfl) ?_
    refine lv_topi (fun xt et => ?_)
    obtain rfl : xt = iI (y : Int) := et.trans (by exact (iI_n _).symm)
    clear et
    refine lv_iconst (v := 2) hx hb dX7_damage_32 (by decide) ?_
    refine lv_iconst (v := 0) hx hb dX7_damage_33 (by decide) ?_
    refine lv_iload_n hx hb dX7_damage_34 rfl (lv_at hl 3 rfl) ?_
    refine lv_iload hx hb dX7_damage_35 (lv_at hl 4 rfl) ?_
    refine lv_bipush (v := 12) hx hb dX7_damage_37 (by decide) ?_
    refine q_cVvE (As := [.int 0, .int (iI (y : Int)), .int 2, .int 0, .int (iI rad), .int F, .int 12]) (rest := []) (r := 102) hx hb hml hts hown hE h0 hW hS (c_X6_storm l hJ2 (sx := 0) (sy := (y : Int)) (dx := 2) (dy := 0) (rad := rad) (F := F) (st := 12) (by omega) (by omega) (by omega) (by omega) (by omega) (by omega) (by omega) (by omega) r1 r2 (by omega)) mw_X6_storm hQ2.mS rfl k_7 t_1088 ⟨Nat.le_of_ble_eq_true rfl, Nat.le_of_ble_eq_true rfl⟩ rfl hl.1 (Nat.le_of_ble_eq_true rfl) dX7_damage_39 ⟨Nat.zero_le _, Nat.zero_le _⟩ ⟨rfl, rfl⟩ (fun H locs hW hS => ?_)
    have hJ : PJ L ad (rWest (up2 (uBec v) (140 + 8) h 1) gx gy gw gd ng nh nl y rad F) o 101 110 ng nh nl ns ow gx gy gw gd := hJ.kp2 (kr_rStorm SB2).out
    refine lv_aload_n hx hb dX7_damage_42 rfl (lv_at hl 0 rfl) ?_
    refine q_getr hx hb hts hown hW (r := 100) hJ.q.m0 rfl k_8 2 (by decide) rfl t_945 (a := ad 102) hO2 dX7_damage_43 ?_
    refine q_getrN hx hb hts hown hW (r := 102) hQ2.mS rfl k_7 16 (by decide) rfl t_900 (a := ad (140 + 16)) (hQ2.oB 16 rfl) dX7_damage_46 ?_
    refine lv_iconst (v := 2) hx hb dX7_damage_49 (by decide) ?_
    refine q_iald hx hb hW (r := (140 + 16)) (hQ2.mB 16 rfl) rfl (2) rfl (by rw [hJ2.q.ln 16 rfl]; show _ < 6; omega) (by rw [hJ2.q.ln 16 rfl]; decide) (x := ((rWest (up2 (uBec v) (140 + 8) h 1) gx gy gw gd ng nh nl y rad F) (140 + 16) (2))) rfl dX7_damage_50 ?_
    exact q_iret hx hb hr hlocks hW hS (Nat.le_refl _) (Nat.le_refl _) dX7_damage_51 (⟨rfl, rfl⟩)

set_option maxHeartbeats 4000000 in
set_option maxRecDepth 100000 in
theorem c_X7_advise (l : Launch) {G : GG} {L : List Nat} {ad : Nat → Nat} {v : Nat → Nat → Int32} {o : Nat → Nat → Option Nat} {w : Nat → Int64} {ng nh nl ns : Nat} {ow gx gy gw gd : Nat → Nat} (hJ : PJ L ad v o 101 110 ng nh nl ns ow gx gy gw gd) (hO1 : o 100 1 = some (ad 101)) (hO2 : o 100 2 = some (ad 102)) (hQ2 : PQ L ad o 102 140) (hn01 : ∀ i, i < 12 → v 118 i = 0 ∨ v 118 i = 1) {y : Nat} (y9 : y < 20) (k0 : fIn (nI y) 0 19 = 1) {rad : Int} {F : Int32} (r1 : 0 ≤ rad) (r2 : rad ≤ 5) (k1 : fIn (iI rad) 0 5 = 1) (k2 : fIn F 1 20 = 1) : CtI l G L ad v o w yX7_advise cX7_advise 8 .int ({ frames := 5, cells := 0, slots := 0, locals := 123 }) [.ref (ad 100), .int (nI y), .int (iI rad), .int F] (fun r u => r = (itr (rAd gx gy gw gd ng nh nl y rad F) nh ((rDam (tz v) gx gy gw gd ng nh nl y rad F), (rDam (tz v) gx gy gw gd ng nh nl y rad F) 156 2, -1)).2.2 ∧ u = (itr (rAd gx gy gw gd ng nh nl y rad F) nh ((rDam (tz v) gx gy gw gd ng nh nl y rad F), (rDam (tz v) gx gy gw gd ng nh nl y rad F) 156 2, -1)).1) := by
  have hsb := hJ.q.sb; have hbd := hJ.bd
  refine q_ofI (by decide) (Nat.le_of_ble_eq_true rfl) ?_
  intro p e s m below meth c hx hb hr hml hts hown hlocks hE h0 hW hS ls hl
  generalize hH : s.heap = H at hW
  have hS : va_S (Ab G.2.2.1) s.heap H [] := hH ▸ hS
  obtain ⟨locs, hlc⟩ : ∃ z : List Loc, z = [] := ⟨_, rfl⟩
  rw [← hlc] at hS ⊢
  have hl : lv_has ls 8 [(0, .ref (ad 100)), (1, .int (nI y)), (2, .int (iI rad)), (3, .int F)] := hl
  refine lv_aload_n hx hb dX7_advise_0 rfl (lv_at hl 0 rfl) ?_
  refine lv_iconst (v := 0) hx hb dX7_advise_1 (by decide) ?_
  refine q_put hx hb hts hown hW hS (r := 100) hJ.q.m0 rfl k_8 0 (by decide) rfl t_943 rfl (t := .int) (by decide +kernel) rfl rfl dX7_advise_2 (fun H locs hW hS => ?_)
  have hJ : PJ L ad (up2 v 100 0 0) o 101 110 ng nh nl ns ow gx gy gw gd := hJ.kp kr_t
  refine lv_iload_n hx hb dX7_advise_5 rfl (lv_at hl 1 rfl) ?_
  refine lv_iconst (v := 0) hx hb dX7_advise_6 (by decide) ?_
  refine lv_bipush (v := 19) hx hb dX7_advise_7 (by decide) ?_
  refine q_cSiE (As := [.int (nI y), .int 0, .int 19]) (rest := []) hx hb hml hts hown hE h0 hW hS (c_X7_isIn l (nI y) 0 19) mw_X7_isIn t_962 ⟨Nat.le_of_ble_eq_true rfl, Nat.le_of_ble_eq_true rfl⟩ rfl hl.1 (Nat.le_of_ble_eq_true rfl) dX7_advise_9 ⟨Nat.zero_le _, Nat.zero_le _⟩ ⟨rfl, rfl⟩ (fun H locs hW hS => ?_)
  refine lv_if_eq (tgt := 34) hx hb dX7_advise_12 (by decide) (fun c_12 => ?_) (fun c_12 => ?_)
  · skip
    exact absurd (k0.symm.trans c_12) (by decide)
  · skip
    refine lv_iload_n hx hb dX7_advise_15 rfl (lv_at hl 2 rfl) ?_
    refine lv_iconst (v := 0) hx hb dX7_advise_16 (by decide) ?_
    refine lv_iconst (v := 5) hx hb dX7_advise_17 (by decide) ?_
    refine q_cSiE (As := [.int (iI rad), .int 0, .int 5]) (rest := []) hx hb hml hts hown hE h0 hW hS (c_X7_isIn l (iI rad) 0 5) mw_X7_isIn t_962 ⟨Nat.le_of_ble_eq_true rfl, Nat.le_of_ble_eq_true rfl⟩ rfl hl.1 (Nat.le_of_ble_eq_true rfl) dX7_advise_18 ⟨Nat.zero_le _, Nat.zero_le _⟩ ⟨rfl, rfl⟩ (fun H locs hW hS => ?_)
    refine lv_if_eq (tgt := 34) hx hb dX7_advise_21 (by decide) (fun c_21 => ?_) (fun c_21 => ?_)
    · skip
      exact absurd (k1.symm.trans c_21) (by decide)
    · skip
      refine lv_iload_n hx hb dX7_advise_24 rfl (lv_at hl 3 rfl) ?_
      refine lv_iconst (v := 1) hx hb dX7_advise_25 (by decide) ?_
      refine lv_bipush (v := 20) hx hb dX7_advise_26 (by decide) ?_
      refine q_cSiE (As := [.int F, .int 1, .int 20]) (rest := []) hx hb hml hts hown hE h0 hW hS (c_X7_isIn l F 1 20) mw_X7_isIn t_962 ⟨Nat.le_of_ble_eq_true rfl, Nat.le_of_ble_eq_true rfl⟩ rfl hl.1 (Nat.le_of_ble_eq_true rfl) dX7_advise_28 ⟨Nat.zero_le _, Nat.zero_le _⟩ ⟨rfl, rfl⟩ (fun H locs hW hS => ?_)
      refine lv_if_ne (tgt := 40) hx hb dX7_advise_31 (by decide) (fun c_31 => ?_) (fun c_31 => ?_)
      · skip
        have hn01 : ∀ i, i < 12 → (tz v) 118 i = 0 ∨ (tz v) 118 i = 1 := n01_kp hn01 kO_t
        refine lv_iconst (v := (-1)) hx hb dX7_advise_40 (by decide) ?_
        refine lv_istore (lv' := [(4, .int (-1)), (0, .ref (ad 100)), (1, .int (nI y)), (2, .int (iI rad)), (3, .int F)]) hx hb dX7_advise_41 hl (by decide) rfl (fun ls hl => ?_)
        refine lv_aload_n hx hb dX7_advise_43 rfl (lv_at hl 1 rfl) ?_
        refine lv_iconst (v := (-1)) hx hb dX7_advise_44 (by decide) ?_
        refine lv_iload_n hx hb dX7_advise_45 rfl (lv_at hl 2 rfl) ?_
        refine lv_iload_n hx hb dX7_advise_46 rfl (lv_at hl 3 rfl) ?_
        refine lv_iload_n hx hb dX7_advise_47 rfl (lv_at hl 4 rfl) ?_
        refine q_cViE (As := [.int (-1), .int (nI y), .int (iI rad), .int F]) (rest := []) (r := 100) hx hb hml hts hown hE h0 hW hS (c_X7_damage_n l hJ hO1 hO2 hQ2 hn01 y9 r1 r2) mw_X7_damage hJ.q.m0 rfl k_8 t_1122 ⟨Nat.le_of_ble_eq_true rfl, Nat.le_of_ble_eq_true rfl⟩ rfl hl.1 (Nat.le_of_ble_eq_true rfl) dX7_advise_48 ⟨Nat.zero_le _, Nat.zero_le _⟩ ⟨rfl, rfl⟩ (fun H locs hW hS => ?_)
        have hJ : PJ L ad (rDam (up2 v 100 0 0) gx gy gw gd ng nh nl y rad F) o 101 110 ng nh nl ns ow gx gy gw gd := hJ.kp2 kO_dam
        refine lv_istore (lv' := [(5, .int (rDam (up2 v 100 0 0) gx gy gw gd ng nh nl y rad F 156 2)), (4, .int (-1)), (0, .ref (ad 100)), (1, .int (nI y)), (2, .int (iI rad)), (3, .int F)]) hx hb dX7_advise_51 hl (by decide) rfl (fun ls hl => ?_)
        have hn01 : ∀ i, i < 12 → (rDam (tz v) gx gy gw gd ng nh nl y rad F) 118 i = 0 ∨ (rDam (tz v) gx gy gw gd ng nh nl y rad F) 118 i = 1 := n01_kp hn01 kO_dam
        refine lv_iconst (v := 0) hx hb dX7_advise_53 (by decide) ?_
        refine lv_istore (lv' := [(6, .int 0), (5, .int (rDam (up2 v 100 0 0) gx gy gw gd ng nh nl y rad F 156 2)), (4, .int (-1)), (0, .ref (ad 100)), (1, .int (nI y)), (2, .int (iI rad)), (3, .int F)]) hx hb dX7_advise_54 hl (by decide) rfl (fun ls hl => ?_)
        suffices LP_56 : ∀ (n_56 i : Nat) (x4_56 : Int32) (x5_56 : Int32) (x6_56 : Int32)  (u_56 : Nat → Nat → Int32) (H : Heap) (locs : List Loc) (ls : Array Slot), nh + 1 ≤ i + n_56 → i ≤ nh → (itr (rAd gx gy gw gd ng nh nl y rad F) i ((rDam (tz v) gx gy gw gd ng nh nl y rad F), (rDam (tz v) gx gy gw gd ng nh nl y rad F) 156 2, -1)).2.2 = x4_56 → (itr (rAd gx gy gw gd ng nh nl y rad F) i ((rDam (tz v) gx gy gw gd ng nh nl y rad F), (rDam (tz v) gx gy gw gd ng nh nl y rad F) 156 2, -1)).2.1 = x5_56 → nI i = x6_56 → (itr (rAd gx gy gw gd ng nh nl y rad F) i ((rDam (tz v) gx gy gw gd ng nh nl y rad F), (rDam (tz v) gx gy gw gd ng nh nl y rad F) 156 2, -1)).1 = u_56 → WD G L ad u_56 o w s H → va_S (Ab G.2.2.1) s.heap H locs → lv_has ls 8 [(6, .int x6_56), (5, .int x5_56), (4, .int x4_56), (0, .ref (ad 100)), (1, .int (nI y)), (2, .int (iI rad)), (3, .int F)] → W p l e ({ frames := 5, cells := 0, slots := 0, locals := 123 } : Room) s m ([.ref (ad 100), .int (nI y), .int (iI rad), .int F] : List Value).toArray below meth c H locs 0 0 (MQ below (va_Qi (fun r u => r = (itr (rAd gx gy gw gd ng nh nl y rad F) nh ((rDam (tz v) gx gy gw gd ng nh nl y rad F), (rDam (tz v) gx gy gw gd ng nh nl y rad F) 156 2, -1)).2.2 ∧ u = (itr (rAd gx gy gw gd ng nh nl y rad F) nh ((rDam (tz v) gx gy gw gd ng nh nl y rad F), (rDam (tz v) gx gy gw gd ng nh nl y rad F) 156 2, -1)).1) (fun u t => WD G L ad u o w t t.heap) (Ab G.2.2.1)) ([.ref (ad 100), .int (nI y), .int (iI rad), .int F] : List Value).toArray s ({ frames := 5, cells := 0, slots := 0, locals := 123 } : Room).cells ({ frames := 5, cells := 0, slots := 0, locals := 123 } : Room).slots (Ab G.2.2.1)) (F0 m 56 ls []) from LP_56 (nh + 1) 0 _ _ _   _ H locs ls (by omega) (by omega) (by rfl) (by rfl) (by rfl) (by rfl)  hW hS (lv_sub hl [0, 1, 2, 3, 4, 5, 6] rfl)
        intro n_56
        induction n_56 with
        | zero => intro i x4_56 x5_56 x6_56  u_56 H locs ls h1 h2; exact absurd h1 (by omega)
        | succ n_56 ih_56 =>
          intro i x4_56 x5_56 x6_56  u_56 H locs ls hn_56 hi_56 ex4_56 ex5_56 ex6_56 eu_56  hW hS hl
          subst ex4_56
          subst ex5_56
          subst ex6_56
          subst eu_56
          have hJ : PJ L ad (itr (rAd gx gy gw gd ng nh nl y rad F) i ((rDam (tz v) gx gy gw gd ng nh nl y rad F), (rDam (tz v) gx gy gw gd ng nh nl y rad F) 156 2, -1)).1 o 101 110 ng nh nl ns ow gx gy gw gd := hJ.kp2 (kO_rAds (t := ((rDam (tz v) gx gy gw gd ng nh nl y rad F), (rDam (tz v) gx gy gw gd ng nh nl y rad F) 156 2, -1)))
          have hn01 : ∀ i9, i9 < 12 → ((itr (rAd gx gy gw gd ng nh nl y rad F) i ((rDam (tz v) gx gy gw gd ng nh nl y rad F), (rDam (tz v) gx gy gw gd ng nh nl y rad F) 156 2, -1)).1) 118 i9 = 0 ∨ ((itr (rAd gx gy gw gd ng nh nl y rad F) i ((rDam (tz v) gx gy gw gd ng nh nl y rad F), (rDam (tz v) gx gy gw gd ng nh nl y rad F) 156 2, -1)).1) 118 i9 = 1 := n01_kp hn01 (kO_rAds (t := ((rDam (tz v) gx gy gw gd ng nh nl y rad F), (rDam (tz v) gx gy gw gd ng nh nl y rad F) 156 2, -1)))
          refine lv_iload hx hb dX7_advise_56 (lv_at hl 0 rfl) ?_
          refine lv_aload_n hx hb dX7_advise_58 rfl (lv_at hl 3 rfl) ?_
          refine q_getr hx hb hts hown hW (r := 100) hJ.q.m0 rfl k_8 1 (by decide) rfl t_944 (a := ad 101) hO1 dX7_advise_59 ?_
          refine q_getN hx hb hts hown hW (r := 101) hJ.q.mS hJ.q.kS k_7 6 (by decide) rfl t_880 (x := (nI nh)) hJ.eH dX7_advise_62 ?_
          refine lv_icmp_ge (tgt := 121) hx hb dX7_advise_65 (by decide) (fun c_65 => ?_) (fun c_65 => ?_)
          · skip
            have hq_56 := (ge_i (n := nh) (by omega) hi_56 c_65).symm
            subst hq_56
            refine lv_iload hx hb dX7_advise_121 (lv_at hl 2 rfl) ?_
            exact q_iret hx hb hr hlocks hW hS (Nat.le_refl _) (Nat.le_refl _) dX7_advise_123 (⟨rfl, rfl⟩)
          · skip
            have hlt_56 := lt_i (n := nh) (by omega) hi_56 c_65
            refine lv_aload_n hx hb dX7_advise_68 rfl (lv_at hl 3 rfl) ?_
            refine q_getr hx hb hts hown hW (r := 100) hJ.q.m0 rfl k_8 1 (by decide) rfl t_944 (a := ad 101) hO1 dX7_advise_69 ?_
            refine q_getrN hx hb hts hown hW (r := 101) hJ.q.mS hJ.q.kS k_7 8 (by decide) rfl t_884 (a := ad (110 + 8)) (hJ.q.oB 8 rfl) dX7_advise_72 ?_
            refine lv_iload hx hb dX7_advise_75 (lv_at hl 0 rfl) ?_
            refine q_zald hx hb hW (r := (110 + 8)) (hJ.q.mB 8 rfl) hJ.q.k10 (i) rfl (by rw [hJ.q.ln 8 rfl]; show _ < 12; omega) (by rw [hJ.q.ln 8 rfl]; decide) (x := (((itr (rAd gx gy gw gd ng nh nl y rad F) i ((rDam (tz v) gx gy gw gd ng nh nl y rad F), (rDam (tz v) gx gy gw gd ng nh nl y rad F) 156 2, -1)).1) (110 + 8) (i))) rfl dX7_advise_77 ?_
            refine lv_if_eq (tgt := 86) hx hb dX7_advise_78 (by decide) (fun c_78 => ?_) (fun c_78 => ?_)
            · skip
              refine lv_aload_n hx hb dX7_advise_86 rfl (lv_at hl 3 rfl) ?_
              refine lv_iload hx hb dX7_advise_87 (lv_at hl 0 rfl) ?_
              refine lv_iload_n hx hb dX7_advise_89 rfl (lv_at hl 4 rfl) ?_
              refine lv_iload_n hx hb dX7_advise_90 rfl (lv_at hl 5 rfl) ?_
              refine lv_iload_n hx hb dX7_advise_91 rfl (lv_at hl 6 rfl) ?_
              refine q_cViE (As := [.int (nI i), .int (nI y), .int (iI rad), .int F]) (rest := []) (r := 100) hx hb hml hts hown hE h0 hW hS (c_X7_damage l hJ hO1 hO2 hQ2 hn01 hlt_56 y9 r1 r2) mw_X7_damage hJ.q.m0 rfl k_8 t_1122 ⟨Nat.le_of_ble_eq_true rfl, Nat.le_of_ble_eq_true rfl⟩ rfl hl.1 (Nat.le_of_ble_eq_true rfl) dX7_advise_92 ⟨Nat.zero_le _, Nat.zero_le _⟩ ⟨rfl, rfl⟩ (fun H locs hW hS => ?_)
              have hJ : PJ L ad (rDamN ((itr (rAd gx gy gw gd ng nh nl y rad F) i ((rDam (tz v) gx gy gw gd ng nh nl y rad F), (rDam (tz v) gx gy gw gd ng nh nl y rad F) 156 2, -1)).1) gx gy gw gd ng nh nl i y rad F) o 101 110 ng nh nl ns ow gx gy gw gd := hJ.kp2 kO_damN
              refine lv_istore (lv' := [(7, .int (rDamN ((itr (rAd gx gy gw gd ng nh nl y rad F) i ((rDam (tz v) gx gy gw gd ng nh nl y rad F), (rDam (tz v) gx gy gw gd ng nh nl y rad F) 156 2, -1)).1) gx gy gw gd ng nh nl i y rad F 156 2)), (6, .int (nI i)), (5, .int ((itr (rAd gx gy gw gd ng nh nl y rad F) i ((rDam (tz v) gx gy gw gd ng nh nl y rad F), (rDam (tz v) gx gy gw gd ng nh nl y rad F) 156 2, -1)).2.1)), (4, .int ((itr (rAd gx gy gw gd ng nh nl y rad F) i ((rDam (tz v) gx gy gw gd ng nh nl y rad F), (rDam (tz v) gx gy gw gd ng nh nl y rad F) 156 2, -1)).2.2)), (0, .ref (ad 100)), (1, .int (nI y)), (2, .int (iI rad)), (3, .int F)]) hx hb dX7_advise_95 hl (by decide) rfl (fun ls hl => ?_)
              refine lv_iload hx hb dX7_advise_97 (lv_at hl 0 rfl) ?_
              refine lv_iload hx hb dX7_advise_99 (lv_at hl 2 rfl) ?_
              refine lv_icmp_lt (tgt := 107) hx hb dX7_advise_101 (by decide) (fun c_101 => ?_) (fun c_101 => ?_)
              · skip
                refine lv_iload hx hb dX7_advise_107 (lv_at hl 0 rfl) ?_
                refine lv_istore (lv' := [(5, .int (rDamN ((itr (rAd gx gy gw gd ng nh nl y rad F) i ((rDam (tz v) gx gy gw gd ng nh nl y rad F), (rDam (tz v) gx gy gw gd ng nh nl y rad F) 156 2, -1)).1) gx gy gw gd ng nh nl i y rad F 156 2)), (7, .int (rDamN ((itr (rAd gx gy gw gd ng nh nl y rad F) i ((rDam (tz v) gx gy gw gd ng nh nl y rad F), (rDam (tz v) gx gy gw gd ng nh nl y rad F) 156 2, -1)).1) gx gy gw gd ng nh nl i y rad F 156 2)), (6, .int (nI i)), (4, .int ((itr (rAd gx gy gw gd ng nh nl y rad F) i ((rDam (tz v) gx gy gw gd ng nh nl y rad F), (rDam (tz v) gx gy gw gd ng nh nl y rad F) 156 2, -1)).2.2)), (0, .ref (ad 100)), (1, .int (nI y)), (2, .int (iI rad)), (3, .int F)]) hx hb dX7_advise_109 hl (by decide) rfl (fun ls hl => ?_)
                refine lv_iload hx hb dX7_advise_111 (lv_at hl 2 rfl) ?_
                refine lv_istore (lv' := [(4, .int (nI i)), (5, .int (rDamN ((itr (rAd gx gy gw gd ng nh nl y rad F) i ((rDam (tz v) gx gy gw gd ng nh nl y rad F), (rDam (tz v) gx gy gw gd ng nh nl y rad F) 156 2, -1)).1) gx gy gw gd ng nh nl i y rad F 156 2)), (7, .int (rDamN ((itr (rAd gx gy gw gd ng nh nl y rad F) i ((rDam (tz v) gx gy gw gd ng nh nl y rad F), (rDam (tz v) gx gy gw gd ng nh nl y rad F) 156 2, -1)).1) gx gy gw gd ng nh nl i y rad F 156 2)), (6, .int (nI i)), (0, .ref (ad 100)), (1, .int (nI y)), (2, .int (iI rad)), (3, .int F)]) hx hb dX7_advise_113 hl (by decide) rfl (fun ls hl => ?_)
                refine lv_iinc (v := (nI (i + 1))) (lv' := [(6, .int (nI (i + 1))), (4, .int (nI i)), (5, .int (rDamN ((itr (rAd gx gy gw gd ng nh nl y rad F) i ((rDam (tz v) gx gy gw gd ng nh nl y rad F), (rDam (tz v) gx gy gw gd ng nh nl y rad F) 156 2, -1)).1) gx gy gw gd ng nh nl i y rad F 156 2)), (7, .int (rDamN ((itr (rAd gx gy gw gd ng nh nl y rad F) i ((rDam (tz v) gx gy gw gd ng nh nl y rad F), (rDam (tz v) gx gy gw gd ng nh nl y rad F) 156 2, -1)).1) gx gy gw gd ng nh nl i y rad F 156 2)), (0, .ref (ad 100)), (1, .int (nI y)), (2, .int (iI rad)), (3, .int F)]) hx hb dX7_advise_115 hl (k := 3) rfl (inc_nI _) (by decide) rfl (fun ls hl => ?_)
                refine lv_goto (tgt := 56) hx hb dX7_advise_118 (by decide) ?_
                exact ih_56 (i + 1) _ _ _   _ H locs ls (by omega) (by omega) (by rw [itr_s]; first | exact congrArg (fun z => z.2.2) (rAd_1 c_78 c_101) | exact congrArg (fun z => z.2.2) (rAd_0 c_78 c_101) | exact congrArg (fun z => z.2.2) (rAd_n c_78) | exact (Int32.lt_irrefl c_101).elim) (by rw [itr_s]; first | exact congrArg (fun z => z.2.1) (rAd_1 c_78 c_101) | exact congrArg (fun z => z.2.1) (rAd_0 c_78 c_101) | exact congrArg (fun z => z.2.1) (rAd_n c_78) | exact (Int32.lt_irrefl c_101).elim) (by rfl) (by rw [itr_s]; first | exact congrArg (fun z => z.1) (rAd_1 c_78 c_101) | exact congrArg (fun z => z.1) (rAd_0 c_78 c_101) | exact congrArg (fun z => z.1) (rAd_n c_78) | exact (Int32.lt_irrefl c_101).elim)  hW hS (lv_sub hl [0, 2, 1, 4, 5, 6, 7] rfl)
              · skip
                refine lv_goto (tgt := 115) hx hb dX7_advise_104 (by decide) ?_
                refine lv_iinc (v := (nI (i + 1))) (lv' := [(6, .int (nI (i + 1))), (7, .int (rDamN ((itr (rAd gx gy gw gd ng nh nl y rad F) i ((rDam (tz v) gx gy gw gd ng nh nl y rad F), (rDam (tz v) gx gy gw gd ng nh nl y rad F) 156 2, -1)).1) gx gy gw gd ng nh nl i y rad F 156 2)), (5, .int ((itr (rAd gx gy gw gd ng nh nl y rad F) i ((rDam (tz v) gx gy gw gd ng nh nl y rad F), (rDam (tz v) gx gy gw gd ng nh nl y rad F) 156 2, -1)).2.1)), (4, .int ((itr (rAd gx gy gw gd ng nh nl y rad F) i ((rDam (tz v) gx gy gw gd ng nh nl y rad F), (rDam (tz v) gx gy gw gd ng nh nl y rad F) 156 2, -1)).2.2)), (0, .ref (ad 100)), (1, .int (nI y)), (2, .int (iI rad)), (3, .int F)]) hx hb dX7_advise_115 hl (k := 1) rfl (inc_nI _) (by decide) rfl (fun ls hl => ?_)
                refine lv_goto (tgt := 56) hx hb dX7_advise_118 (by decide) ?_
                exact ih_56 (i + 1) _ _ _   _ H locs ls (by omega) (by omega) (by rw [itr_s]; first | exact congrArg (fun z => z.2.2) (rAd_1 c_78 c_101) | exact congrArg (fun z => z.2.2) (rAd_0 c_78 c_101) | exact congrArg (fun z => z.2.2) (rAd_n c_78) | exact (Int32.lt_irrefl c_101).elim) (by rw [itr_s]; first | exact congrArg (fun z => z.2.1) (rAd_1 c_78 c_101) | exact congrArg (fun z => z.2.1) (rAd_0 c_78 c_101) | exact congrArg (fun z => z.2.1) (rAd_n c_78) | exact (Int32.lt_irrefl c_101).elim) (by rfl) (by rw [itr_s]; first | exact congrArg (fun z => z.1) (rAd_1 c_78 c_101) | exact congrArg (fun z => z.1) (rAd_0 c_78 c_101) | exact congrArg (fun z => z.1) (rAd_n c_78) | exact (Int32.lt_irrefl c_101).elim)  hW hS (lv_sub hl [0, 2, 3, 4, 5, 6, 7] rfl)
            · skip
              refine lv_iload hx hb dX7_advise_81 (lv_at hl 1 rfl) ?_
              refine lv_goto (tgt := 95) hx hb dX7_advise_83 (by decide) ?_
              refine lv_istore (lv' := [(7, .int ((itr (rAd gx gy gw gd ng nh nl y rad F) i ((rDam (tz v) gx gy gw gd ng nh nl y rad F), (rDam (tz v) gx gy gw gd ng nh nl y rad F) 156 2, -1)).2.1)), (6, .int (nI i)), (5, .int ((itr (rAd gx gy gw gd ng nh nl y rad F) i ((rDam (tz v) gx gy gw gd ng nh nl y rad F), (rDam (tz v) gx gy gw gd ng nh nl y rad F) 156 2, -1)).2.1)), (4, .int ((itr (rAd gx gy gw gd ng nh nl y rad F) i ((rDam (tz v) gx gy gw gd ng nh nl y rad F), (rDam (tz v) gx gy gw gd ng nh nl y rad F) 156 2, -1)).2.2)), (0, .ref (ad 100)), (1, .int (nI y)), (2, .int (iI rad)), (3, .int F)]) hx hb dX7_advise_95 hl (by decide) rfl (fun ls hl => ?_)
              refine lv_iload hx hb dX7_advise_97 (lv_at hl 0 rfl) ?_
              refine lv_iload hx hb dX7_advise_99 (lv_at hl 2 rfl) ?_
              refine lv_icmp_lt (tgt := 107) hx hb dX7_advise_101 (by decide) (fun c_101 => ?_) (fun c_101 => ?_)
              · skip
                refine lv_iload hx hb dX7_advise_107 (lv_at hl 0 rfl) ?_
                refine lv_istore (lv' := [(5, .int ((itr (rAd gx gy gw gd ng nh nl y rad F) i ((rDam (tz v) gx gy gw gd ng nh nl y rad F), (rDam (tz v) gx gy gw gd ng nh nl y rad F) 156 2, -1)).2.1)), (7, .int ((itr (rAd gx gy gw gd ng nh nl y rad F) i ((rDam (tz v) gx gy gw gd ng nh nl y rad F), (rDam (tz v) gx gy gw gd ng nh nl y rad F) 156 2, -1)).2.1)), (6, .int (nI i)), (4, .int ((itr (rAd gx gy gw gd ng nh nl y rad F) i ((rDam (tz v) gx gy gw gd ng nh nl y rad F), (rDam (tz v) gx gy gw gd ng nh nl y rad F) 156 2, -1)).2.2)), (0, .ref (ad 100)), (1, .int (nI y)), (2, .int (iI rad)), (3, .int F)]) hx hb dX7_advise_109 hl (by decide) rfl (fun ls hl => ?_)
                refine lv_iload hx hb dX7_advise_111 (lv_at hl 2 rfl) ?_
                refine lv_istore (lv' := [(4, .int (nI i)), (5, .int ((itr (rAd gx gy gw gd ng nh nl y rad F) i ((rDam (tz v) gx gy gw gd ng nh nl y rad F), (rDam (tz v) gx gy gw gd ng nh nl y rad F) 156 2, -1)).2.1)), (7, .int ((itr (rAd gx gy gw gd ng nh nl y rad F) i ((rDam (tz v) gx gy gw gd ng nh nl y rad F), (rDam (tz v) gx gy gw gd ng nh nl y rad F) 156 2, -1)).2.1)), (6, .int (nI i)), (0, .ref (ad 100)), (1, .int (nI y)), (2, .int (iI rad)), (3, .int F)]) hx hb dX7_advise_113 hl (by decide) rfl (fun ls hl => ?_)
                refine lv_iinc (v := (nI (i + 1))) (lv' := [(6, .int (nI (i + 1))), (4, .int (nI i)), (5, .int ((itr (rAd gx gy gw gd ng nh nl y rad F) i ((rDam (tz v) gx gy gw gd ng nh nl y rad F), (rDam (tz v) gx gy gw gd ng nh nl y rad F) 156 2, -1)).2.1)), (7, .int ((itr (rAd gx gy gw gd ng nh nl y rad F) i ((rDam (tz v) gx gy gw gd ng nh nl y rad F), (rDam (tz v) gx gy gw gd ng nh nl y rad F) 156 2, -1)).2.1)), (0, .ref (ad 100)), (1, .int (nI y)), (2, .int (iI rad)), (3, .int F)]) hx hb dX7_advise_115 hl (k := 3) rfl (inc_nI _) (by decide) rfl (fun ls hl => ?_)
                refine lv_goto (tgt := 56) hx hb dX7_advise_118 (by decide) ?_
                exact ih_56 (i + 1) _ _ _   _ H locs ls (by omega) (by omega) (by rw [itr_s]; first | exact congrArg (fun z => z.2.2) (rAd_1 c_78 c_101) | exact congrArg (fun z => z.2.2) (rAd_0 c_78 c_101) | exact congrArg (fun z => z.2.2) (rAd_n c_78) | exact (Int32.lt_irrefl c_101).elim) (by rw [itr_s]; first | exact congrArg (fun z => z.2.1) (rAd_1 c_78 c_101) | exact congrArg (fun z => z.2.1) (rAd_0 c_78 c_101) | exact congrArg (fun z => z.2.1) (rAd_n c_78) | exact (Int32.lt_irrefl c_101).elim) (by rfl) (by rw [itr_s]; first | exact congrArg (fun z => z.1) (rAd_1 c_78 c_101) | exact congrArg (fun z => z.1) (rAd_0 c_78 c_101) | exact congrArg (fun z => z.1) (rAd_n c_78) | exact (Int32.lt_irrefl c_101).elim)  hW hS (lv_sub hl [0, 2, 1, 4, 5, 6, 7] rfl)
              · skip
                refine lv_goto (tgt := 115) hx hb dX7_advise_104 (by decide) ?_
                refine lv_iinc (v := (nI (i + 1))) (lv' := [(6, .int (nI (i + 1))), (7, .int ((itr (rAd gx gy gw gd ng nh nl y rad F) i ((rDam (tz v) gx gy gw gd ng nh nl y rad F), (rDam (tz v) gx gy gw gd ng nh nl y rad F) 156 2, -1)).2.1)), (5, .int ((itr (rAd gx gy gw gd ng nh nl y rad F) i ((rDam (tz v) gx gy gw gd ng nh nl y rad F), (rDam (tz v) gx gy gw gd ng nh nl y rad F) 156 2, -1)).2.1)), (4, .int ((itr (rAd gx gy gw gd ng nh nl y rad F) i ((rDam (tz v) gx gy gw gd ng nh nl y rad F), (rDam (tz v) gx gy gw gd ng nh nl y rad F) 156 2, -1)).2.2)), (0, .ref (ad 100)), (1, .int (nI y)), (2, .int (iI rad)), (3, .int F)]) hx hb dX7_advise_115 hl (k := 1) rfl (inc_nI _) (by decide) rfl (fun ls hl => ?_)
                refine lv_goto (tgt := 56) hx hb dX7_advise_118 (by decide) ?_
                exact ih_56 (i + 1) _ _ _   _ H locs ls (by omega) (by omega) (by rw [itr_s]; first | exact congrArg (fun z => z.2.2) (rAd_1 c_78 c_101) | exact congrArg (fun z => z.2.2) (rAd_0 c_78 c_101) | exact congrArg (fun z => z.2.2) (rAd_n c_78) | exact (Int32.lt_irrefl c_101).elim) (by rw [itr_s]; first | exact congrArg (fun z => z.2.1) (rAd_1 c_78 c_101) | exact congrArg (fun z => z.2.1) (rAd_0 c_78 c_101) | exact congrArg (fun z => z.2.1) (rAd_n c_78) | exact (Int32.lt_irrefl c_101).elim) (by rfl) (by rw [itr_s]; first | exact congrArg (fun z => z.1) (rAd_1 c_78 c_101) | exact congrArg (fun z => z.1) (rAd_0 c_78 c_101) | exact congrArg (fun z => z.1) (rAd_n c_78) | exact (Int32.lt_irrefl c_101).elim)  hW hS (lv_sub hl [0, 2, 3, 4, 5, 6, 7] rfl)
      · skip
        exact absurd (k2.symm.trans c_31) (by decide)

set_option maxHeartbeats 4000000 in
set_option maxRecDepth 100000 in
theorem c_X7_advise_1a (l : Launch) {G : GG} {L : List Nat} {ad : Nat → Nat} {v : Nat → Nat → Int32} {o : Nat → Nat → Option Nat} {w : Nat → Int64} {ng nh nl ns : Nat} {ow gx gy gw gd : Nat → Nat} (hJ : PJ L ad v o 101 110 ng nh nl ns ow gx gy gw gd) (hO1 : o 100 1 = some (ad 101)) {a b c0 : Int32} (k1 : fIn a 0 19 = 0) : CtI l G L ad v o w yX7_advise cX7_advise 8 .int ({ frames := 1, cells := 0, slots := 0, locals := 22 }) [.ref (ad 100), .int a, .int b, .int c0] (fun r u => r = 0 ∧ u = up2 (tz v) 100 0 1) := by
  have hsb := hJ.q.sb; have hbd := hJ.bd
  refine q_ofI (by decide) (Nat.le_of_ble_eq_true rfl) ?_
  intro p e s m below meth c hx hb hr hml hts hown hlocks hE h0 hW hS ls hl
  generalize hH : s.heap = H at hW
  have hS : va_S (Ab G.2.2.1) s.heap H [] := hH ▸ hS
  obtain ⟨locs, hlc⟩ : ∃ z : List Loc, z = [] := ⟨_, rfl⟩
  rw [← hlc] at hS ⊢
  have hl : lv_has ls 8 [(0, .ref (ad 100)), (1, .int a), (2, .int b), (3, .int c0)] := hl
  refine lv_aload_n hx hb dX7_advise_0 rfl (lv_at hl 0 rfl) ?_
  refine lv_iconst (v := 0) hx hb dX7_advise_1 (by decide) ?_
  refine q_put hx hb hts hown hW hS (r := 100) hJ.q.m0 rfl k_8 0 (by decide) rfl t_943 rfl (t := .int) (by decide +kernel) rfl rfl dX7_advise_2 (fun H locs hW hS => ?_)
  have hJ : PJ L ad (up2 v 100 0 0) o 101 110 ng nh nl ns ow gx gy gw gd := hJ.kp kr_t
  generalize hv1 : (up2 v 100 0 0) = v1 at hW hJ
  refine lv_iload_n hx hb dX7_advise_5 rfl (lv_at hl 1 rfl) ?_
  refine lv_iconst (v := 0) hx hb dX7_advise_6 (by decide) ?_
  refine lv_bipush (v := 19) hx hb dX7_advise_7 (by decide) ?_
  refine q_cSiE (As := [.int a, .int 0, .int 19]) (rest := []) hx hb hml hts hown hE h0 hW hS (c_X7_isIn l a 0 19) mw_X7_isIn t_962 ⟨Nat.le_of_ble_eq_true rfl, Nat.le_of_ble_eq_true rfl⟩ rfl hl.1 (Nat.le_of_ble_eq_true rfl) dX7_advise_9 ⟨Nat.zero_le _, Nat.zero_le _⟩ ⟨rfl, rfl⟩ (fun H locs hW hS => ?_)
  refine lv_if_eq (tgt := 34) hx hb dX7_advise_12 (by decide) (fun c_12 => ?_) (fun c_12 => ?_)
  · skip
    refine lv_aload_n hx hb dX7_advise_34 rfl (lv_at hl 0 rfl) ?_
    refine lv_iconst (v := 1) hx hb dX7_advise_35 (by decide) ?_
    refine q_cViE (As := [.int 1]) (rest := []) (r := 100) hx hb hml hts hown hE h0 hW hS (c_X7_no l hJ.q.m0 1) mw_X7_no hJ.q.m0 rfl k_8 t_965 ⟨Nat.le_of_ble_eq_true rfl, Nat.le_of_ble_eq_true rfl⟩ rfl hl.1 (Nat.le_of_ble_eq_true rfl) dX7_advise_36 ⟨Nat.zero_le _, Nat.zero_le _⟩ ⟨rfl, rfl⟩ (fun H locs hW hS => ?_)
    have hJ : PJ L ad (up2 v1 100 0 1) o 101 110 ng nh nl ns ow gx gy gw gd := hJ.kp kr_t
    generalize hv2 : (up2 v1 100 0 1) = v2 at hW hJ
    subst hv2
    subst hv1
    exact q_iret hx hb hr hlocks hW hS (Nat.le_refl _) (Nat.le_refl _) dX7_advise_39 (⟨rfl, rfl⟩)
  · skip
    exact absurd k1 c_12

set_option maxHeartbeats 4000000 in
set_option maxRecDepth 100000 in
theorem c_X7_advise_1b (l : Launch) {G : GG} {L : List Nat} {ad : Nat → Nat} {v : Nat → Nat → Int32} {o : Nat → Nat → Option Nat} {w : Nat → Int64} {ng nh nl ns : Nat} {ow gx gy gw gd : Nat → Nat} (hJ : PJ L ad v o 101 110 ng nh nl ns ow gx gy gw gd) (hO1 : o 100 1 = some (ad 101)) {a b c0 : Int32} (k1 : fIn a 0 19 = 1) (k2 : fIn b 0 5 = 0) : CtI l G L ad v o w yX7_advise cX7_advise 8 .int ({ frames := 1, cells := 0, slots := 0, locals := 22 }) [.ref (ad 100), .int a, .int b, .int c0] (fun r u => r = 0 ∧ u = up2 (tz v) 100 0 1) := by
  have hsb := hJ.q.sb; have hbd := hJ.bd
  refine q_ofI (by decide) (Nat.le_of_ble_eq_true rfl) ?_
  intro p e s m below meth c hx hb hr hml hts hown hlocks hE h0 hW hS ls hl
  generalize hH : s.heap = H at hW
  have hS : va_S (Ab G.2.2.1) s.heap H [] := hH ▸ hS
  obtain ⟨locs, hlc⟩ : ∃ z : List Loc, z = [] := ⟨_, rfl⟩
  rw [← hlc] at hS ⊢
  have hl : lv_has ls 8 [(0, .ref (ad 100)), (1, .int a), (2, .int b), (3, .int c0)] := hl
  refine lv_aload_n hx hb dX7_advise_0 rfl (lv_at hl 0 rfl) ?_
  refine lv_iconst (v := 0) hx hb dX7_advise_1 (by decide) ?_
  refine q_put hx hb hts hown hW hS (r := 100) hJ.q.m0 rfl k_8 0 (by decide) rfl t_943 rfl (t := .int) (by decide +kernel) rfl rfl dX7_advise_2 (fun H locs hW hS => ?_)
  have hJ : PJ L ad (up2 v 100 0 0) o 101 110 ng nh nl ns ow gx gy gw gd := hJ.kp kr_t
  generalize hv1 : (up2 v 100 0 0) = v1 at hW hJ
  refine lv_iload_n hx hb dX7_advise_5 rfl (lv_at hl 1 rfl) ?_
  refine lv_iconst (v := 0) hx hb dX7_advise_6 (by decide) ?_
  refine lv_bipush (v := 19) hx hb dX7_advise_7 (by decide) ?_
  refine q_cSiE (As := [.int a, .int 0, .int 19]) (rest := []) hx hb hml hts hown hE h0 hW hS (c_X7_isIn l a 0 19) mw_X7_isIn t_962 ⟨Nat.le_of_ble_eq_true rfl, Nat.le_of_ble_eq_true rfl⟩ rfl hl.1 (Nat.le_of_ble_eq_true rfl) dX7_advise_9 ⟨Nat.zero_le _, Nat.zero_le _⟩ ⟨rfl, rfl⟩ (fun H locs hW hS => ?_)
  refine lv_if_eq (tgt := 34) hx hb dX7_advise_12 (by decide) (fun c_12 => ?_) (fun c_12 => ?_)
  · skip
    exact absurd (k1.symm.trans c_12) (by decide)
  · skip
    refine lv_iload_n hx hb dX7_advise_15 rfl (lv_at hl 2 rfl) ?_
    refine lv_iconst (v := 0) hx hb dX7_advise_16 (by decide) ?_
    refine lv_iconst (v := 5) hx hb dX7_advise_17 (by decide) ?_
    refine q_cSiE (As := [.int b, .int 0, .int 5]) (rest := []) hx hb hml hts hown hE h0 hW hS (c_X7_isIn l b 0 5) mw_X7_isIn t_962 ⟨Nat.le_of_ble_eq_true rfl, Nat.le_of_ble_eq_true rfl⟩ rfl hl.1 (Nat.le_of_ble_eq_true rfl) dX7_advise_18 ⟨Nat.zero_le _, Nat.zero_le _⟩ ⟨rfl, rfl⟩ (fun H locs hW hS => ?_)
    refine lv_if_eq (tgt := 34) hx hb dX7_advise_21 (by decide) (fun c_21 => ?_) (fun c_21 => ?_)
    · skip
      refine lv_aload_n hx hb dX7_advise_34 rfl (lv_at hl 0 rfl) ?_
      refine lv_iconst (v := 1) hx hb dX7_advise_35 (by decide) ?_
      refine q_cViE (As := [.int 1]) (rest := []) (r := 100) hx hb hml hts hown hE h0 hW hS (c_X7_no l hJ.q.m0 1) mw_X7_no hJ.q.m0 rfl k_8 t_965 ⟨Nat.le_of_ble_eq_true rfl, Nat.le_of_ble_eq_true rfl⟩ rfl hl.1 (Nat.le_of_ble_eq_true rfl) dX7_advise_36 ⟨Nat.zero_le _, Nat.zero_le _⟩ ⟨rfl, rfl⟩ (fun H locs hW hS => ?_)
      have hJ : PJ L ad (up2 v1 100 0 1) o 101 110 ng nh nl ns ow gx gy gw gd := hJ.kp kr_t
      generalize hv2 : (up2 v1 100 0 1) = v2 at hW hJ
      subst hv2
      subst hv1
      exact q_iret hx hb hr hlocks hW hS (Nat.le_refl _) (Nat.le_refl _) dX7_advise_39 (⟨rfl, rfl⟩)
    · skip
      exact absurd k2 c_21

set_option maxHeartbeats 4000000 in
set_option maxRecDepth 100000 in
theorem c_X7_advise_1c (l : Launch) {G : GG} {L : List Nat} {ad : Nat → Nat} {v : Nat → Nat → Int32} {o : Nat → Nat → Option Nat} {w : Nat → Int64} {ng nh nl ns : Nat} {ow gx gy gw gd : Nat → Nat} (hJ : PJ L ad v o 101 110 ng nh nl ns ow gx gy gw gd) (hO1 : o 100 1 = some (ad 101)) {a b c0 : Int32} (k1 : fIn a 0 19 = 1) (k2 : fIn b 0 5 = 1) (k3 : fIn c0 1 20 = 0) : CtI l G L ad v o w yX7_advise cX7_advise 8 .int ({ frames := 1, cells := 0, slots := 0, locals := 22 }) [.ref (ad 100), .int a, .int b, .int c0] (fun r u => r = 0 ∧ u = up2 (tz v) 100 0 1) := by
  have hsb := hJ.q.sb; have hbd := hJ.bd
  refine q_ofI (by decide) (Nat.le_of_ble_eq_true rfl) ?_
  intro p e s m below meth c hx hb hr hml hts hown hlocks hE h0 hW hS ls hl
  generalize hH : s.heap = H at hW
  have hS : va_S (Ab G.2.2.1) s.heap H [] := hH ▸ hS
  obtain ⟨locs, hlc⟩ : ∃ z : List Loc, z = [] := ⟨_, rfl⟩
  rw [← hlc] at hS ⊢
  have hl : lv_has ls 8 [(0, .ref (ad 100)), (1, .int a), (2, .int b), (3, .int c0)] := hl
  refine lv_aload_n hx hb dX7_advise_0 rfl (lv_at hl 0 rfl) ?_
  refine lv_iconst (v := 0) hx hb dX7_advise_1 (by decide) ?_
  refine q_put hx hb hts hown hW hS (r := 100) hJ.q.m0 rfl k_8 0 (by decide) rfl t_943 rfl (t := .int) (by decide +kernel) rfl rfl dX7_advise_2 (fun H locs hW hS => ?_)
  have hJ : PJ L ad (up2 v 100 0 0) o 101 110 ng nh nl ns ow gx gy gw gd := hJ.kp kr_t
  generalize hv1 : (up2 v 100 0 0) = v1 at hW hJ
  refine lv_iload_n hx hb dX7_advise_5 rfl (lv_at hl 1 rfl) ?_
  refine lv_iconst (v := 0) hx hb dX7_advise_6 (by decide) ?_
  refine lv_bipush (v := 19) hx hb dX7_advise_7 (by decide) ?_
  refine q_cSiE (As := [.int a, .int 0, .int 19]) (rest := []) hx hb hml hts hown hE h0 hW hS (c_X7_isIn l a 0 19) mw_X7_isIn t_962 ⟨Nat.le_of_ble_eq_true rfl, Nat.le_of_ble_eq_true rfl⟩ rfl hl.1 (Nat.le_of_ble_eq_true rfl) dX7_advise_9 ⟨Nat.zero_le _, Nat.zero_le _⟩ ⟨rfl, rfl⟩ (fun H locs hW hS => ?_)
  refine lv_if_eq (tgt := 34) hx hb dX7_advise_12 (by decide) (fun c_12 => ?_) (fun c_12 => ?_)
  · skip
    exact absurd (k1.symm.trans c_12) (by decide)
  · skip
    refine lv_iload_n hx hb dX7_advise_15 rfl (lv_at hl 2 rfl) ?_
    refine lv_iconst (v := 0) hx hb dX7_advise_16 (by decide) ?_
    refine lv_iconst (v := 5) hx hb dX7_advise_17 (by decide) ?_
    refine q_cSiE (As := [.int b, .int 0, .int 5]) (rest := []) hx hb hml hts hown hE h0 hW hS (c_X7_isIn l b 0 5) mw_X7_isIn t_962 ⟨Nat.le_of_ble_eq_true rfl, Nat.le_of_ble_eq_true rfl⟩ rfl hl.1 (Nat.le_of_ble_eq_true rfl) dX7_advise_18 ⟨Nat.zero_le _, Nat.zero_le _⟩ ⟨rfl, rfl⟩ (fun H locs hW hS => ?_)
    refine lv_if_eq (tgt := 34) hx hb dX7_advise_21 (by decide) (fun c_21 => ?_) (fun c_21 => ?_)
    · skip
      exact absurd (k2.symm.trans c_21) (by decide)
    · skip
      refine lv_iload_n hx hb dX7_advise_24 rfl (lv_at hl 3 rfl) ?_
      refine lv_iconst (v := 1) hx hb dX7_advise_25 (by decide) ?_
      refine lv_bipush (v := 20) hx hb dX7_advise_26 (by decide) ?_
      refine q_cSiE (As := [.int c0, .int 1, .int 20]) (rest := []) hx hb hml hts hown hE h0 hW hS (c_X7_isIn l c0 1 20) mw_X7_isIn t_962 ⟨Nat.le_of_ble_eq_true rfl, Nat.le_of_ble_eq_true rfl⟩ rfl hl.1 (Nat.le_of_ble_eq_true rfl) dX7_advise_28 ⟨Nat.zero_le _, Nat.zero_le _⟩ ⟨rfl, rfl⟩ (fun H locs hW hS => ?_)
      refine lv_if_ne (tgt := 40) hx hb dX7_advise_31 (by decide) (fun c_31 => ?_) (fun c_31 => ?_)
      · skip
        exact absurd k3 c_31
      · skip
        refine lv_aload_n hx hb dX7_advise_34 rfl (lv_at hl 0 rfl) ?_
        refine lv_iconst (v := 1) hx hb dX7_advise_35 (by decide) ?_
        refine q_cViE (As := [.int 1]) (rest := []) (r := 100) hx hb hml hts hown hE h0 hW hS (c_X7_no l hJ.q.m0 1) mw_X7_no hJ.q.m0 rfl k_8 t_965 ⟨Nat.le_of_ble_eq_true rfl, Nat.le_of_ble_eq_true rfl⟩ rfl hl.1 (Nat.le_of_ble_eq_true rfl) dX7_advise_36 ⟨Nat.zero_le _, Nat.zero_le _⟩ ⟨rfl, rfl⟩ (fun H locs hW hS => ?_)
        have hJ : PJ L ad (up2 v1 100 0 1) o 101 110 ng nh nl ns ow gx gy gw gd := hJ.kp kr_t
        generalize hv2 : (up2 v1 100 0 1) = v2 at hW hJ
        subst hv2
        subst hv1
        exact q_iret hx hb hr hlocks hW hS (Nat.le_refl _) (Nat.le_refl _) dX7_advise_39 (⟨rfl, rfl⟩)

set_option maxHeartbeats 4000000 in
set_option maxRecDepth 100000 in
theorem c_X7_digest (l : Launch) {G : GG} {L : List Nat} {ad : Nat → Nat} {v : Nat → Nat → Int32} {o : Nat → Nat → Option Nat} {w : Nat → Int64} {ng nh nl ns : Nat} {ow gx gy gw gd : Nat → Nat} (hJ : PJ L ad v o 101 110 ng nh nl ns ow gx gy gw gd) (hO1 : o 100 1 = some (ad 101)) (hr183 : 183 ∉ L) (hr184 : 184 ∉ L) : CtL l G L ad v o w yX7_digest cX7_digest 5 ({ frames := 4, cells := 71, slots := 721, locals := 92 }) [.ref (ad 100)] (fun r u => r = rDig (tz v) gw gd ng nh nl ns ∧ u = tz v) := by
  have hsb := hJ.q.sb; have hbd := hJ.bd
  refine q_ofL (by decide) (Nat.le_of_ble_eq_true rfl) ?_
  intro p e s m below meth c hx hb hr hml hts hown hlocks hE h0 hW hS ls hl
  generalize hH : s.heap = H at hW
  have hS : va_S (Ab G.2.2.1) s.heap H [] := hH ▸ hS
  obtain ⟨locs, hlc⟩ : ∃ z : List Loc, z = [] := ⟨_, rfl⟩
  rw [← hlc] at hS ⊢
  have hl : lv_has ls 5 [(0, .ref (ad 100))] := hl
  refine lv_aload_n hx hb dX7_digest_0 rfl (lv_at hl 0 rfl) ?_
  refine lv_iconst (v := 0) hx hb dX7_digest_1 (by decide) ?_
  refine q_put hx hb hts hown hW hS (r := 100) hJ.q.m0 rfl k_8 0 (by decide) rfl t_943 rfl (t := .int) (by decide +kernel) rfl rfl dX7_digest_2 (fun H locs hW hS => ?_)
  have hJ : PJ L ad (up2 v 100 0 0) o 101 110 ng nh nl ns ow gx gy gw gd := hJ.kp kr_t
  refine lv_ldc2 (v := 541) hx hb hown (hts _ t_1134) dX7_digest_5 ?_
  refine lv_lstore_n (lv' := [(1, .long 541), (0, .ref (ad 100))]) hx hb dX7_digest_8 rfl hl (by decide) rfl (fun ls hl => ?_)
  refine lv_iconst (v := 0) hx hb dX7_digest_9 (by decide) ?_
  refine lv_istore_n (lv' := [(3, .int 0), (1, .long 541), (0, .ref (ad 100))]) hx hb dX7_digest_10 rfl hl (by decide) rfl (fun ls hl => ?_)
  refine W.widen (k := 0) (n := 11 * 0) (by first | decide | omega | (dsimp only; omega)) (by first | decide | omega | (dsimp only; omega)) ?_
  suffices LP_11 : ∀ (n_11 i : Nat) (x1_11 : Int64) (x3_11 : Int32)  (u_11 : Nat → Nat → Int32) (H : Heap) (locs : List Loc) (ls : Array Slot), 11 + 1 ≤ i + n_11 → i ≤ 11 → dig (rCo (tz v) gw gd ng nh nl ns) 541 i = x1_11 → nI i = x3_11 → up2 v 100 0 0 = u_11 → WD G L ad u_11 o w s H → va_S (Ab G.2.2.1) s.heap H locs → lv_has ls 5 [(3, .int x3_11), (1, .long x1_11), (0, .ref (ad 100))] → W p l e ({ frames := 4, cells := 71, slots := 721, locals := 92 } : Room) s m ([.ref (ad 100)] : List Value).toArray below meth c H locs i (11 * i) (MQ below (va_Ql (fun r u => r = rDig (tz v) gw gd ng nh nl ns ∧ u = tz v) (fun u t => WD G L ad u o w t t.heap) (Ab G.2.2.1)) ([.ref (ad 100)] : List Value).toArray s ({ frames := 4, cells := 71, slots := 721, locals := 92 } : Room).cells ({ frames := 4, cells := 71, slots := 721, locals := 92 } : Room).slots (Ab G.2.2.1)) (F0 m 11 ls []) from LP_11 (11 + 1) 0 _ _   _ H locs ls (by omega) (by omega) (by exact dig_0) (by rfl) (by rfl)  hW hS (lv_sub hl [0, 1, 2] rfl)
  intro n_11
  induction n_11 with
  | zero => intro i x1_11 x3_11  u_11 H locs ls h1 h2; exact absurd h1 (by omega)
  | succ n_11 ih_11 =>
    intro i x1_11 x3_11  u_11 H locs ls hn_11 hi_11 ex1_11 ex3_11 eu_11  hW hS hl
    subst ex1_11
    subst ex3_11
    subst eu_11
    refine lv_iload_n hx hb dX7_digest_11 rfl (lv_at hl 0 rfl) ?_
    refine lv_bipush (v := 11) hx hb dX7_digest_12 (by decide) ?_
    refine lv_icmp_ge (tgt := 36) hx hb dX7_digest_14 (by decide) (fun c_14 => ?_) (fun c_14 => ?_)
    · skip
      have hq_11 := (ge_i (n := 11) (by omega) hi_11 c_14).symm
      subst hq_11
      refine lv_iconst (v := 0) hx hb dX7_digest_36 (by decide) ?_
      refine lv_istore_n (lv' := [(3, .int 0), (1, .long (dig (rCo (tz v) gw gd ng nh nl ns) 541 11)), (0, .ref (ad 100))]) hx hb dX7_digest_37 rfl hl (by decide) rfl (fun ls hl => ?_)
      refine W.widen (k := 11 + 10 * 0) (n := 121 + 100 * 0) (by first | decide | omega | (dsimp only; omega)) (by first | decide | omega | (dsimp only; omega)) ?_
      suffices LP_38 : ∀ (n_38 i : Nat) (x1_38 : Int64) (x3_38 : Int32)  (u_38 : Nat → Nat → Int32) (H : Heap) (locs : List Loc) (ls : Array Slot), ng + 1 ≤ i + n_38 → i ≤ ng → itr (fun g d => dig (rGr (tz v) gw gd nh g) d 10) i (dig (rCo (tz v) gw gd ng nh nl ns) 541 11) = x1_38 → nI i = x3_38 → up2 v 100 0 0 = u_38 → WD G L ad u_38 o w s H → va_S (Ab G.2.2.1) s.heap H locs → lv_has ls 5 [(3, .int x3_38), (1, .long x1_38), (0, .ref (ad 100))] → W p l e ({ frames := 4, cells := 71, slots := 721, locals := 92 } : Room) s m ([.ref (ad 100)] : List Value).toArray below meth c H locs (11 + 10 * i) (121 + 100 * i) (MQ below (va_Ql (fun r u => r = rDig (tz v) gw gd ng nh nl ns ∧ u = tz v) (fun u t => WD G L ad u o w t t.heap) (Ab G.2.2.1)) ([.ref (ad 100)] : List Value).toArray s ({ frames := 4, cells := 71, slots := 721, locals := 92 } : Room).cells ({ frames := 4, cells := 71, slots := 721, locals := 92 } : Room).slots (Ab G.2.2.1)) (F0 m 38 ls []) from LP_38 (ng + 1) 0 _ _   _ H locs ls (by omega) (by omega) (by exact itr_0) (by rfl) (by rfl)  hW hS (lv_sub hl [0, 1, 2] rfl)
      intro n_38
      induction n_38 with
      | zero => intro i x1_38 x3_38  u_38 H locs ls h1 h2; exact absurd h1 (by omega)
      | succ n_38 ih_38 =>
        intro i x1_38 x3_38  u_38 H locs ls hn_38 hi_38 ex1_38 ex3_38 eu_38  hW hS hl
        subst ex1_38
        subst ex3_38
        subst eu_38
        refine lv_iload_n hx hb dX7_digest_38 rfl (lv_at hl 0 rfl) ?_
        refine lv_aload_n hx hb dX7_digest_39 rfl (lv_at hl 2 rfl) ?_
        refine q_getr hx hb hts hown hW (r := 100) hJ.q.m0 rfl k_8 1 (by decide) rfl t_944 (a := ad 101) hO1 dX7_digest_40 ?_
        refine q_getN hx hb hts hown hW (r := 101) hJ.q.mS hJ.q.kS k_7 0 (by decide) rfl t_868 (x := (nI ng)) hJ.eG dX7_digest_43 ?_
        refine lv_icmp_ge (tgt := 86) hx hb dX7_digest_46 (by decide) (fun c_46 => ?_) (fun c_46 => ?_)
        · skip
          have hq_38 := (ge_i (n := ng) (by omega) hi_38 c_46).symm
          subst hq_38
          refine lv_iconst (v := 0) hx hb dX7_digest_86 (by decide) ?_
          refine lv_istore_n (lv' := [(3, .int 0), (1, .long (itr (fun g d => dig (rGr (tz v) gw gd nh g) d 10) ng (dig (rCo (tz v) gw gd ng nh nl ns) 541 11))), (0, .ref (ad 100))]) hx hb dX7_digest_87 rfl hl (by decide) rfl (fun ls hl => ?_)
          refine W.widen (k := 71) (n := 721) (by first | decide | omega | (dsimp only; omega)) (by first | decide | omega | (dsimp only; omega)) ?_
          suffices LP_88 : ∀ (n_88 i : Nat) (x1_88 : Int64) (x3_88 : Int32)  (u_88 : Nat → Nat → Int32) (H : Heap) (locs : List Loc) (ls : Array Slot), nh + 1 ≤ i + n_88 → i ≤ nh → itr (fun h d => dig (fun k => (tz v) 119 (36 * h + k)) (dig (rHo (tz v) gw gd nh h) d 11) (gw h * gd h)) i (itr (fun g d => dig (rGr (tz v) gw gd nh g) d 10) ng (dig (rCo (tz v) gw gd ng nh nl ns) 541 11)) = x1_88 → nI i = x3_88 → up2 v 100 0 0 = u_88 → WD G L ad u_88 o w s H → va_S (Ab G.2.2.1) s.heap H locs → lv_has ls 5 [(3, .int x3_88), (1, .long x1_88), (0, .ref (ad 100))] → W p l e ({ frames := 4, cells := 71, slots := 721, locals := 92 } : Room) s m ([.ref (ad 100)] : List Value).toArray below meth c H locs 71 721 (MQ below (va_Ql (fun r u => r = rDig (tz v) gw gd ng nh nl ns ∧ u = tz v) (fun u t => WD G L ad u o w t t.heap) (Ab G.2.2.1)) ([.ref (ad 100)] : List Value).toArray s ({ frames := 4, cells := 71, slots := 721, locals := 92 } : Room).cells ({ frames := 4, cells := 71, slots := 721, locals := 92 } : Room).slots (Ab G.2.2.1)) (F0 m 88 ls []) from LP_88 (nh + 1) 0 _ _   _ H locs ls (by omega) (by omega) (by exact itr_0) (by rfl) (by rfl)  hW hS (lv_sub hl [0, 1, 2] rfl)
          intro n_88
          induction n_88 with
          | zero => intro i x1_88 x3_88  u_88 H locs ls h1 h2; exact absurd h1 (by omega)
          | succ n_88 ih_88 =>
            intro i x1_88 x3_88  u_88 H locs ls hn_88 hi_88 ex1_88 ex3_88 eu_88  hW hS hl
            subst ex1_88
            subst ex3_88
            subst eu_88
            refine lv_iload_n hx hb dX7_digest_88 rfl (lv_at hl 0 rfl) ?_
            refine lv_aload_n hx hb dX7_digest_89 rfl (lv_at hl 2 rfl) ?_
            refine q_getr hx hb hts hown hW (r := 100) hJ.q.m0 rfl k_8 1 (by decide) rfl t_944 (a := ad 101) hO1 dX7_digest_90 ?_
            refine q_getN hx hb hts hown hW (r := 101) hJ.q.mS hJ.q.kS k_7 6 (by decide) rfl t_880 (x := (nI nh)) hJ.eH dX7_digest_93 ?_
            refine lv_icmp_ge (tgt := 181) hx hb dX7_digest_96 (by decide) (fun c_96 => ?_) (fun c_96 => ?_)
            · skip
              have hq_88 := (ge_i (n := nh) (by omega) hi_88 c_96).symm
              subst hq_88
              refine lv_iconst (v := 0) hx hb dX7_digest_181 (by decide) ?_
              refine lv_istore_n (lv' := [(3, .int 0), (1, .long (itr (fun h d => dig (fun k => (tz v) 119 (36 * h + k)) (dig (rHo (tz v) gw gd nh h) d 11) (gw h * gd h)) nh (itr (fun g d => dig (rGr (tz v) gw gd nh g) d 10) ng (dig (rCo (tz v) gw gd ng nh nl ns) 541 11)))), (0, .ref (ad 100))]) hx hb dX7_digest_182 rfl hl (by decide) rfl (fun ls hl => ?_)
              refine W.widen (k := 71) (n := 721) (by first | decide | omega | (dsimp only; omega)) (by first | decide | omega | (dsimp only; omega)) ?_
              suffices LP_183 : ∀ (n_183 i : Nat) (x1_183 : Int64) (x3_183 : Int32)  (u_183 : Nat → Nat → Int32) (H : Heap) (locs : List Loc) (ls : Array Slot), 5 * nl + 1 ≤ i + n_183 → i ≤ 5 * nl → dig ((tz v) 122) (itr (fun h d => dig (fun k => (tz v) 119 (36 * h + k)) (dig (rHo (tz v) gw gd nh h) d 11) (gw h * gd h)) nh (itr (fun g d => dig (rGr (tz v) gw gd nh g) d 10) ng (dig (rCo (tz v) gw gd ng nh nl ns) 541 11))) i = x1_183 → nI i = x3_183 → up2 v 100 0 0 = u_183 → WD G L ad u_183 o w s H → va_S (Ab G.2.2.1) s.heap H locs → lv_has ls 5 [(3, .int x3_183), (1, .long x1_183), (0, .ref (ad 100))] → W p l e ({ frames := 4, cells := 71, slots := 721, locals := 92 } : Room) s m ([.ref (ad 100)] : List Value).toArray below meth c H locs 71 721 (MQ below (va_Ql (fun r u => r = rDig (tz v) gw gd ng nh nl ns ∧ u = tz v) (fun u t => WD G L ad u o w t t.heap) (Ab G.2.2.1)) ([.ref (ad 100)] : List Value).toArray s ({ frames := 4, cells := 71, slots := 721, locals := 92 } : Room).cells ({ frames := 4, cells := 71, slots := 721, locals := 92 } : Room).slots (Ab G.2.2.1)) (F0 m 183 ls []) from LP_183 (5 * nl + 1) 0 _ _   _ H locs ls (by omega) (by omega) (by exact dig_0) (by rfl) (by rfl)  hW hS (lv_sub hl [0, 1, 2] rfl)
              intro n_183
              induction n_183 with
              | zero => intro i x1_183 x3_183  u_183 H locs ls h1 h2; exact absurd h1 (by omega)
              | succ n_183 ih_183 =>
                intro i x1_183 x3_183  u_183 H locs ls hn_183 hi_183 ex1_183 ex3_183 eu_183  hW hS hl
                subst ex1_183
                subst ex3_183
                subst eu_183
                refine lv_iload_n hx hb dX7_digest_183 rfl (lv_at hl 0 rfl) ?_
                refine lv_iconst (v := 5) hx hb dX7_digest_184 (by decide) ?_
                refine lv_aload_n hx hb dX7_digest_185 rfl (lv_at hl 2 rfl) ?_
                refine q_getr hx hb hts hown hW (r := 100) hJ.q.m0 rfl k_8 1 (by decide) rfl t_944 (a := ad 101) hO1 dX7_digest_186 ?_
                refine q_getN hx hb hts hown hW (r := 101) hJ.q.mS hJ.q.kS k_7 11 (by decide) rfl t_890 (x := (nI nl)) hJ.eL dX7_digest_189 ?_
                refine lv_imul hx hb dX7_digest_192 ?_
                refine lv_topi (fun xt et => ?_)
                obtain rfl : xt = nI (5 * nl) := et.trans (by exact pk_mul 5 nl)
                clear et
                refine lv_icmp_ge (tgt := 219) hx hb dX7_digest_193 (by decide) (fun c_193 => ?_) (fun c_193 => ?_)
                · skip
                  have hq_183 := (ge_i (n := (5 * nl)) (by omega) hi_183 c_193).symm
                  subst hq_183
                  refine lv_iconst (v := 0) hx hb dX7_digest_219 (by decide) ?_
                  refine lv_istore_n (lv' := [(3, .int 0), (1, .long (dig ((tz v) 122) (itr (fun h d => dig (fun k => (tz v) 119 (36 * h + k)) (dig (rHo (tz v) gw gd nh h) d 11) (gw h * gd h)) nh (itr (fun g d => dig (rGr (tz v) gw gd nh g) d 10) ng (dig (rCo (tz v) gw gd ng nh nl ns) 541 11))) (5 * nl))), (0, .ref (ad 100))]) hx hb dX7_digest_220 rfl hl (by decide) rfl (fun ls hl => ?_)
                  refine W.widen (k := 71) (n := 721) (by first | decide | omega | (dsimp only; omega)) (by first | decide | omega | (dsimp only; omega)) ?_
                  suffices LP_221 : ∀ (n_221 i : Nat) (x1_221 : Int64) (x3_221 : Int32)  (u_221 : Nat → Nat → Int32) (H : Heap) (locs : List Loc) (ls : Array Slot), 6 * ns + 1 ≤ i + n_221 → i ≤ 6 * ns → dig ((tz v) 124) (dig ((tz v) 122) (itr (fun h d => dig (fun k => (tz v) 119 (36 * h + k)) (dig (rHo (tz v) gw gd nh h) d 11) (gw h * gd h)) nh (itr (fun g d => dig (rGr (tz v) gw gd nh g) d 10) ng (dig (rCo (tz v) gw gd ng nh nl ns) 541 11))) (5 * nl)) i = x1_221 → nI i = x3_221 → up2 v 100 0 0 = u_221 → WD G L ad u_221 o w s H → va_S (Ab G.2.2.1) s.heap H locs → lv_has ls 5 [(3, .int x3_221), (1, .long x1_221), (0, .ref (ad 100))] → W p l e ({ frames := 4, cells := 71, slots := 721, locals := 92 } : Room) s m ([.ref (ad 100)] : List Value).toArray below meth c H locs 71 721 (MQ below (va_Ql (fun r u => r = rDig (tz v) gw gd ng nh nl ns ∧ u = tz v) (fun u t => WD G L ad u o w t t.heap) (Ab G.2.2.1)) ([.ref (ad 100)] : List Value).toArray s ({ frames := 4, cells := 71, slots := 721, locals := 92 } : Room).cells ({ frames := 4, cells := 71, slots := 721, locals := 92 } : Room).slots (Ab G.2.2.1)) (F0 m 221 ls []) from LP_221 (6 * ns + 1) 0 _ _   _ H locs ls (by omega) (by omega) (by exact dig_0) (by rfl) (by rfl)  hW hS (lv_sub hl [0, 1, 2] rfl)
                  intro n_221
                  induction n_221 with
                  | zero => intro i x1_221 x3_221  u_221 H locs ls h1 h2; exact absurd h1 (by omega)
                  | succ n_221 ih_221 =>
                    intro i x1_221 x3_221  u_221 H locs ls hn_221 hi_221 ex1_221 ex3_221 eu_221  hW hS hl
                    subst ex1_221
                    subst ex3_221
                    subst eu_221
                    refine lv_iload_n hx hb dX7_digest_221 rfl (lv_at hl 0 rfl) ?_
                    refine lv_bipush (v := 6) hx hb dX7_digest_222 (by decide) ?_
                    refine lv_aload_n hx hb dX7_digest_224 rfl (lv_at hl 2 rfl) ?_
                    refine q_getr hx hb hts hown hW (r := 100) hJ.q.m0 rfl k_8 1 (by decide) rfl t_944 (a := ad 101) hO1 dX7_digest_225 ?_
                    refine q_getN hx hb hts hown hW (r := 101) hJ.q.mS hJ.q.kS k_7 13 (by decide) rfl t_894 (x := (nI ns)) hJ.eS dX7_digest_228 ?_
                    refine lv_imul hx hb dX7_digest_231 ?_
                    refine lv_topi (fun xt et => ?_)
                    obtain rfl : xt = nI (6 * ns) := et.trans (by exact pk_mul 6 ns)
                    clear et
                    refine lv_icmp_ge (tgt := 258) hx hb dX7_digest_232 (by decide) (fun c_232 => ?_) (fun c_232 => ?_)
                    · skip
                      have hq_221 := (ge_i (n := (6 * ns)) (by omega) hi_221 c_232).symm
                      subst hq_221
                      refine lv_lload_n hx hb dX7_digest_258 rfl (lv_at hl 1 rfl) ?_
                      exact q_lret hx hb hr hlocks hW hS (by first | decide | omega | (dsimp only; omega)) (by first | decide | omega | (dsimp only; omega)) dX7_digest_259 (⟨rfl, rfl⟩)
                    · skip
                      have hlt_221 := lt_i (n := (6 * ns)) (by omega) hi_221 c_232
                      refine lv_lload_n hx hb dX7_digest_235 rfl (lv_at hl 1 rfl) ?_
                      refine lv_ldc2 (v := 31) hx hb hown (hts _ t_1135) dX7_digest_236 ?_
                      refine lv_lmul hx hb dX7_digest_239 ?_
                      refine lv_aload_n hx hb dX7_digest_240 rfl (lv_at hl 2 rfl) ?_
                      refine q_getr hx hb hts hown hW (r := 100) hJ.q.m0 rfl k_8 1 (by decide) rfl t_944 (a := ad 101) hO1 dX7_digest_241 ?_
                      refine q_getrN hx hb hts hown hW (r := 101) hJ.q.mS hJ.q.kS k_7 14 (by decide) rfl t_896 (a := ad (110 + 14)) (hJ.q.oB 14 rfl) dX7_digest_244 ?_
                      refine lv_iload_n hx hb dX7_digest_247 rfl (lv_at hl 0 rfl) ?_
                      refine q_iald hx hb hW (r := (110 + 14)) (hJ.q.mB 14 rfl) (hJ.q.k9 14 rfl (by decide)) (i) rfl (by rw [hJ.q.ln 14 rfl]; show _ < 180; omega) (by rw [hJ.q.ln 14 rfl]; decide) (x := ((up2 v 100 0 0) (110 + 14) (i))) rfl dX7_digest_248 ?_
                      refine lv_i2l (v := (((up2 v 100 0 0) (110 + 14) (i))).toInt64) hx hb dX7_digest_249 rfl ?_
                      refine lv_ladd hx hb dX7_digest_250 ?_
                      refine lv_lstore_n (lv' := [(1, .long (((dig ((tz v) 124) (dig ((tz v) 122) (itr (fun h d => dig (fun k => (tz v) 119 (36 * h + k)) (dig (rHo (tz v) gw gd nh h) d 11) (gw h * gd h)) nh (itr (fun g d => dig (rGr (tz v) gw gd nh g) d 10) ng (dig (rCo (tz v) gw gd ng nh nl ns) 541 11))) (5 * nl)) i) * 31) + (Int32.toInt64 ((up2 v 100 0 0) (110 + 14) (i))))), (3, .int (nI i)), (0, .ref (ad 100))]) hx hb dX7_digest_251 rfl hl (by decide) rfl (fun ls hl => ?_)
                      refine lv_iinc (v := (nI (i + 1))) (lv' := [(3, .int (nI (i + 1))), (1, .long (((dig ((tz v) 124) (dig ((tz v) 122) (itr (fun h d => dig (fun k => (tz v) 119 (36 * h + k)) (dig (rHo (tz v) gw gd nh h) d 11) (gw h * gd h)) nh (itr (fun g d => dig (rGr (tz v) gw gd nh g) d 10) ng (dig (rCo (tz v) gw gd ng nh nl ns) 541 11))) (5 * nl)) i) * 31) + (Int32.toInt64 ((up2 v 100 0 0) (110 + 14) (i))))), (0, .ref (ad 100))]) hx hb dX7_digest_252 hl (k := 1) rfl (inc_nI _) (by decide) rfl (fun ls hl => ?_)
                      refine lv_goto (tgt := 221) hx hb dX7_digest_255 (by decide) ?_
                      refine W.widen (k := 71) (n := 721) (by first | decide | omega | (dsimp only; omega)) (by first | decide | omega | (dsimp only; omega)) ?_
                      exact ih_221 (i + 1) _ _   _ H locs ls (by omega) (by omega) (by exact dig_s) (by rfl) (by rfl)  hW hS (lv_sub hl [0, 1, 2] rfl)
                · skip
                  have hlt_183 := lt_i (n := (5 * nl)) (by omega) hi_183 c_193
                  refine lv_lload_n hx hb dX7_digest_196 rfl (lv_at hl 1 rfl) ?_
                  refine lv_ldc2 (v := 31) hx hb hown (hts _ t_1135) dX7_digest_197 ?_
                  refine lv_lmul hx hb dX7_digest_200 ?_
                  refine lv_aload_n hx hb dX7_digest_201 rfl (lv_at hl 2 rfl) ?_
                  refine q_getr hx hb hts hown hW (r := 100) hJ.q.m0 rfl k_8 1 (by decide) rfl t_944 (a := ad 101) hO1 dX7_digest_202 ?_
                  refine q_getrN hx hb hts hown hW (r := 101) hJ.q.mS hJ.q.kS k_7 12 (by decide) rfl t_892 (a := ad (110 + 12)) (hJ.q.oB 12 rfl) dX7_digest_205 ?_
                  refine lv_iload_n hx hb dX7_digest_208 rfl (lv_at hl 0 rfl) ?_
                  refine q_iald hx hb hW (r := (110 + 12)) (hJ.q.mB 12 rfl) (hJ.q.k9 12 rfl (by decide)) (i) rfl (by rw [hJ.q.ln 12 rfl]; show _ < 30; omega) (by rw [hJ.q.ln 12 rfl]; decide) (x := ((up2 v 100 0 0) (110 + 12) (i))) rfl dX7_digest_209 ?_
                  refine lv_i2l (v := (((up2 v 100 0 0) (110 + 12) (i))).toInt64) hx hb dX7_digest_210 rfl ?_
                  refine lv_ladd hx hb dX7_digest_211 ?_
                  refine lv_lstore_n (lv' := [(1, .long (((dig ((tz v) 122) (itr (fun h d => dig (fun k => (tz v) 119 (36 * h + k)) (dig (rHo (tz v) gw gd nh h) d 11) (gw h * gd h)) nh (itr (fun g d => dig (rGr (tz v) gw gd nh g) d 10) ng (dig (rCo (tz v) gw gd ng nh nl ns) 541 11))) i) * 31) + (Int32.toInt64 ((up2 v 100 0 0) (110 + 12) (i))))), (3, .int (nI i)), (0, .ref (ad 100))]) hx hb dX7_digest_212 rfl hl (by decide) rfl (fun ls hl => ?_)
                  refine lv_iinc (v := (nI (i + 1))) (lv' := [(3, .int (nI (i + 1))), (1, .long (((dig ((tz v) 122) (itr (fun h d => dig (fun k => (tz v) 119 (36 * h + k)) (dig (rHo (tz v) gw gd nh h) d 11) (gw h * gd h)) nh (itr (fun g d => dig (rGr (tz v) gw gd nh g) d 10) ng (dig (rCo (tz v) gw gd ng nh nl ns) 541 11))) i) * 31) + (Int32.toInt64 ((up2 v 100 0 0) (110 + 12) (i))))), (0, .ref (ad 100))]) hx hb dX7_digest_213 hl (k := 1) rfl (inc_nI _) (by decide) rfl (fun ls hl => ?_)
                  refine lv_goto (tgt := 183) hx hb dX7_digest_216 (by decide) ?_
                  refine W.widen (k := 71) (n := 721) (by first | decide | omega | (dsimp only; omega)) (by first | decide | omega | (dsimp only; omega)) ?_
                  exact ih_183 (i + 1) _ _   _ H locs ls (by omega) (by omega) (by exact dig_s) (by rfl) (by rfl)  hW hS (lv_sub hl [0, 1, 2] rfl)
            · skip
              have hlt_88 := lt_i (n := nh) (by omega) hi_88 c_96
              refine lv_iconst (v := 0) hx hb dX7_digest_99 (by decide) ?_
              refine lv_istore (lv' := [(4, .int 0), (3, .int (nI i)), (1, .long (itr (fun h d => dig (fun k => (tz v) 119 (36 * h + k)) (dig (rHo (tz v) gw gd nh h) d 11) (gw h * gd h)) i (itr (fun g d => dig (rGr (tz v) gw gd nh g) d 10) ng (dig (rCo (tz v) gw gd ng nh nl ns) 541 11)))), (0, .ref (ad 100))]) hx hb dX7_digest_100 hl (by decide) rfl (fun ls hl => ?_)
              refine W.widen (k := 71) (n := 721) (by first | decide | omega | (dsimp only; omega)) (by first | decide | omega | (dsimp only; omega)) ?_
              suffices LP_102 : ∀ (n_102 j : Nat) (x1_102 : Int64) (x4_102 : Int32)  (u_102 : Nat → Nat → Int32) (H : Heap) (locs : List Loc) (ls : Array Slot), 11 + 1 ≤ j + n_102 → j ≤ 11 → dig (rHo (tz v) gw gd nh i) (itr (fun h d => dig (fun k => (tz v) 119 (36 * h + k)) (dig (rHo (tz v) gw gd nh h) d 11) (gw h * gd h)) i (itr (fun g d => dig (rGr (tz v) gw gd nh g) d 10) ng (dig (rCo (tz v) gw gd ng nh nl ns) 541 11))) j = x1_102 → nI j = x4_102 → up2 v 100 0 0 = u_102 → WD G L ad u_102 o w s H → va_S (Ab G.2.2.1) s.heap H locs → lv_has ls 5 [(4, .int x4_102), (3, .int (nI i)), (1, .long x1_102), (0, .ref (ad 100))] → W p l e ({ frames := 4, cells := 71, slots := 721, locals := 92 } : Room) s m ([.ref (ad 100)] : List Value).toArray below meth c H locs 71 721 (MQ below (va_Ql (fun r u => r = rDig (tz v) gw gd ng nh nl ns ∧ u = tz v) (fun u t => WD G L ad u o w t t.heap) (Ab G.2.2.1)) ([.ref (ad 100)] : List Value).toArray s ({ frames := 4, cells := 71, slots := 721, locals := 92 } : Room).cells ({ frames := 4, cells := 71, slots := 721, locals := 92 } : Room).slots (Ab G.2.2.1)) (F0 m 102 ls []) from LP_102 (11 + 1) 0 _ _   _ H locs ls (by omega) (by omega) (by exact dig_0) (by rfl) (by rfl)  hW hS (lv_sub hl [0, 1, 2, 3] rfl)
              intro n_102
              induction n_102 with
              | zero => intro j x1_102 x4_102  u_102 H locs ls h1 h2; exact absurd h1 (by omega)
              | succ n_102 ih_102 =>
                intro j x1_102 x4_102  u_102 H locs ls hn_102 hi_102 ex1_102 ex4_102 eu_102  hW hS hl
                subst ex1_102
                subst ex4_102
                subst eu_102
                refine lv_iload hx hb dX7_digest_102 (lv_at hl 0 rfl) ?_
                refine lv_bipush (v := 11) hx hb dX7_digest_104 (by decide) ?_
                refine lv_icmp_ge (tgt := 130) hx hb dX7_digest_106 (by decide) (fun c_106 => ?_) (fun c_106 => ?_)
                · skip
                  have hq_102 := (ge_i (n := 11) (by omega) hi_102 c_106).symm
                  subst hq_102
                  have hz36 := hJ.z36 hlt_88
                  refine lv_iconst (v := 0) hx hb dX7_digest_130 (by decide) ?_
                  refine lv_istore (lv' := [(4, .int 0), (3, .int (nI i)), (1, .long (dig (rHo (tz v) gw gd nh i) (itr (fun h d => dig (fun k => (tz v) 119 (36 * h + k)) (dig (rHo (tz v) gw gd nh h) d 11) (gw h * gd h)) i (itr (fun g d => dig (rGr (tz v) gw gd nh g) d 10) ng (dig (rCo (tz v) gw gd ng nh nl ns) 541 11))) 11)), (0, .ref (ad 100))]) hx hb dX7_digest_131 hl (by decide) rfl (fun ls hl => ?_)
                  refine W.widen (k := 71) (n := 721) (by first | decide | omega | (dsimp only; omega)) (by first | decide | omega | (dsimp only; omega)) ?_
                  suffices LP_133 : ∀ (n_133 k1 : Nat) (x1_133 : Int64) (x4_133 : Int32)  (u_133 : Nat → Nat → Int32) (H : Heap) (locs : List Loc) (ls : Array Slot), gw i * gd i + 1 ≤ k1 + n_133 → k1 ≤ gw i * gd i → dig (fun k => (tz v) 119 (36 * i + k)) (dig (rHo (tz v) gw gd nh i) (itr (fun h d => dig (fun k => (tz v) 119 (36 * h + k)) (dig (rHo (tz v) gw gd nh h) d 11) (gw h * gd h)) i (itr (fun g d => dig (rGr (tz v) gw gd nh g) d 10) ng (dig (rCo (tz v) gw gd ng nh nl ns) 541 11))) 11) k1 = x1_133 → nI k1 = x4_133 → up2 v 100 0 0 = u_133 → WD G L ad u_133 o w s H → va_S (Ab G.2.2.1) s.heap H locs → lv_has ls 5 [(4, .int x4_133), (3, .int (nI i)), (1, .long x1_133), (0, .ref (ad 100))] → W p l e ({ frames := 4, cells := 71, slots := 721, locals := 92 } : Room) s m ([.ref (ad 100)] : List Value).toArray below meth c H locs 71 721 (MQ below (va_Ql (fun r u => r = rDig (tz v) gw gd ng nh nl ns ∧ u = tz v) (fun u t => WD G L ad u o w t t.heap) (Ab G.2.2.1)) ([.ref (ad 100)] : List Value).toArray s ({ frames := 4, cells := 71, slots := 721, locals := 92 } : Room).cells ({ frames := 4, cells := 71, slots := 721, locals := 92 } : Room).slots (Ab G.2.2.1)) (F0 m 133 ls []) from LP_133 (gw i * gd i + 1) 0 _ _   _ H locs ls (by omega) (by omega) (by exact dig_0) (by rfl) (by rfl)  hW hS (lv_sub hl [0, 1, 2, 3] rfl)
                  intro n_133
                  induction n_133 with
                  | zero => intro k1 x1_133 x4_133  u_133 H locs ls h1 h2; exact absurd h1 (by omega)
                  | succ n_133 ih_133 =>
                    intro k1 x1_133 x4_133  u_133 H locs ls hn_133 hi_133 ex1_133 ex4_133 eu_133  hW hS hl
                    subst ex1_133
                    subst ex4_133
                    subst eu_133
                    refine lv_iload hx hb dX7_digest_133 (lv_at hl 0 rfl) ?_
                    refine lv_aload_n hx hb dX7_digest_135 rfl (lv_at hl 3 rfl) ?_
                    refine q_getr hx hb hts hown hW (r := 100) hJ.q.m0 rfl k_8 1 (by decide) rfl t_944 (a := ad 101) hO1 dX7_digest_136 ?_
                    refine lv_iload_n hx hb dX7_digest_139 rfl (lv_at hl 1 rfl) ?_
                    refine q_cViE (As := [.int (nI i)]) (rest := [.int (nI k1)]) (r := 101) hx hb hml hts hown hE h0 hW hS (c_X6_size l hJ hlt_88) mw_X6_size hJ.q.mS hJ.q.kS k_7 t_1011 ⟨Nat.le_of_ble_eq_true rfl, Nat.le_of_ble_eq_true rfl⟩ rfl hl.1 (Nat.le_of_ble_eq_true rfl) dX7_digest_140 ⟨(by first | decide | omega | (dsimp only; omega)), (by first | decide | omega | (dsimp only; omega))⟩ ⟨rfl, rfl⟩ (fun H locs hW hS => ?_)
                    refine lv_icmp_ge (tgt := 175) hx hb dX7_digest_143 (by decide) (fun c_143 => ?_) (fun c_143 => ?_)
                    · skip
                      have hq_133 := (ge_i (n := (gw i * gd i)) (by omega) hi_133 c_143).symm
                      subst hq_133
                      refine lv_iinc (v := (nI (i + 1))) (lv' := [(3, .int (nI (i + 1))), (4, .int (nI (gw i * gd i))), (1, .long (dig (fun k => (tz v) 119 (36 * i + k)) (dig (rHo (tz v) gw gd nh i) (itr (fun h d => dig (fun k => (tz v) 119 (36 * h + k)) (dig (rHo (tz v) gw gd nh h) d 11) (gw h * gd h)) i (itr (fun g d => dig (rGr (tz v) gw gd nh g) d 10) ng (dig (rCo (tz v) gw gd ng nh nl ns) 541 11))) 11) (gw i * gd i))), (0, .ref (ad 100))]) hx hb dX7_digest_175 hl (k := 1) rfl (inc_nI _) (by decide) rfl (fun ls hl => ?_)
                      refine lv_goto (tgt := 88) hx hb dX7_digest_178 (by decide) ?_
                      refine W.widen (k := 71) (n := 721) (by first | decide | omega | (dsimp only; omega)) (by first | decide | omega | (dsimp only; omega)) ?_
                      exact ih_88 (i + 1) _ _   _ H locs ls (by omega) (by omega) (by exact itr_s) (by rfl) (by rfl)  hW hS (lv_sub hl [0, 2, 3] rfl)
                    · skip
                      have hlt_133 := lt_i (n := (gw i * gd i)) (by omega) hi_133 c_143
                      refine lv_lload_n hx hb dX7_digest_146 rfl (lv_at hl 2 rfl) ?_
                      refine lv_ldc2 (v := 31) hx hb hown (hts _ t_1135) dX7_digest_147 ?_
                      refine lv_lmul hx hb dX7_digest_150 ?_
                      refine lv_aload_n hx hb dX7_digest_151 rfl (lv_at hl 3 rfl) ?_
                      refine q_getr hx hb hts hown hW (r := 100) hJ.q.m0 rfl k_8 1 (by decide) rfl t_944 (a := ad 101) hO1 dX7_digest_152 ?_
                      refine q_getrN hx hb hts hown hW (r := 101) hJ.q.mS hJ.q.kS k_7 9 (by decide) rfl t_886 (a := ad (110 + 9)) (hJ.q.oB 9 rfl) dX7_digest_155 ?_
                      refine lv_bipush (v := 36) hx hb dX7_digest_158 (by decide) ?_
                      refine lv_iload_n hx hb dX7_digest_160 rfl (lv_at hl 1 rfl) ?_
                      refine lv_imul hx hb dX7_digest_161 ?_
                      refine lv_iload hx hb dX7_digest_162 (lv_at hl 0 rfl) ?_
                      refine lv_iadd hx hb dX7_digest_164 ?_
                      refine q_iald hx hb hW (r := (110 + 9)) (hJ.q.mB 9 rfl) (hJ.q.k9 9 rfl (by decide)) (36 * i + k1) (ix_add (ix_mul rfl rfl) rfl) (by rw [hJ.q.ln 9 rfl]; show _ < 432; omega) (by rw [hJ.q.ln 9 rfl]; decide) (x := ((up2 v 100 0 0) (110 + 9) (36 * i + k1))) rfl dX7_digest_165 ?_
                      refine lv_i2l (v := (((up2 v 100 0 0) (110 + 9) (36 * i + k1))).toInt64) hx hb dX7_digest_166 rfl ?_
                      refine lv_ladd hx hb dX7_digest_167 ?_
                      refine lv_lstore_n (lv' := [(1, .long (((dig (fun k => (tz v) 119 (36 * i + k)) (dig (rHo (tz v) gw gd nh i) (itr (fun h d => dig (fun k => (tz v) 119 (36 * h + k)) (dig (rHo (tz v) gw gd nh h) d 11) (gw h * gd h)) i (itr (fun g d => dig (rGr (tz v) gw gd nh g) d 10) ng (dig (rCo (tz v) gw gd ng nh nl ns) 541 11))) 11) k1) * 31) + (Int32.toInt64 ((up2 v 100 0 0) (110 + 9) (36 * i + k1))))), (4, .int (nI k1)), (3, .int (nI i)), (0, .ref (ad 100))]) hx hb dX7_digest_168 rfl hl (by decide) rfl (fun ls hl => ?_)
                      refine lv_iinc (v := (nI (k1 + 1))) (lv' := [(4, .int (nI (k1 + 1))), (1, .long (((dig (fun k => (tz v) 119 (36 * i + k)) (dig (rHo (tz v) gw gd nh i) (itr (fun h d => dig (fun k => (tz v) 119 (36 * h + k)) (dig (rHo (tz v) gw gd nh h) d 11) (gw h * gd h)) i (itr (fun g d => dig (rGr (tz v) gw gd nh g) d 10) ng (dig (rCo (tz v) gw gd ng nh nl ns) 541 11))) 11) k1) * 31) + (Int32.toInt64 ((up2 v 100 0 0) (110 + 9) (36 * i + k1))))), (3, .int (nI i)), (0, .ref (ad 100))]) hx hb dX7_digest_169 hl (k := 1) rfl (inc_nI _) (by decide) rfl (fun ls hl => ?_)
                      refine lv_goto (tgt := 133) hx hb dX7_digest_172 (by decide) ?_
                      refine W.widen (k := 71) (n := 721) (by first | decide | omega | (dsimp only; omega)) (by first | decide | omega | (dsimp only; omega)) ?_
                      exact ih_133 (k1 + 1) _ _   _ H locs ls (by omega) (by omega) (by exact dig_s) (by rfl) (by rfl)  hW hS (lv_sub hl [0, 2, 1, 3] rfl)
                · skip
                  have hlt_102 := lt_i (n := 11) (by omega) hi_102 c_106
                  refine lv_lload_n hx hb dX7_digest_109 rfl (lv_at hl 2 rfl) ?_
                  refine lv_ldc2 (v := 31) hx hb hown (hts _ t_1135) dX7_digest_110 ?_
                  refine lv_lmul hx hb dX7_digest_113 ?_
                  refine lv_aload_n hx hb dX7_digest_114 rfl (lv_at hl 3 rfl) ?_
                  refine lv_iload_n hx hb dX7_digest_115 rfl (lv_at hl 1 rfl) ?_
                  refine lv_iload hx hb dX7_digest_116 (lv_at hl 0 rfl) ?_
                  refine q_cViE (As := [.int (nI i), .int (nI j)]) (rest := [.long ((dig (rHo (tz v) gw gd nh i) (itr (fun h d => dig (fun k => (tz v) 119 (36 * h + k)) (dig (rHo (tz v) gw gd nh h) d 11) (gw h * gd h)) i (itr (fun g d => dig (rGr (tz v) gw gd nh g) d 10) ng (dig (rCo (tz v) gw gd ng nh nl ns) 541 11))) j) * 31)]) (r := 100) hx hb hml hts hown hE h0 hW hS (c_X7_houseTold l hJ hO1 hlt_88 hlt_102) mw_X7_houseTold hJ.q.m0 rfl k_8 t_1033 ⟨Nat.le_of_ble_eq_true rfl, Nat.le_of_ble_eq_true rfl⟩ rfl hl.1 (Nat.le_of_ble_eq_true rfl) dX7_digest_118 ⟨(by first | decide | omega | (dsimp only; omega)), (by first | decide | omega | (dsimp only; omega))⟩ ⟨rfl, rfl⟩ (fun H locs hW hS => ?_)
                  refine lv_i2l (v := ((rHo (up2 v 100 0 0) gw gd nh i j)).toInt64) hx hb dX7_digest_121 rfl ?_
                  refine lv_ladd hx hb dX7_digest_122 ?_
                  refine lv_lstore_n (lv' := [(1, .long (((dig (rHo (tz v) gw gd nh i) (itr (fun h d => dig (fun k => (tz v) 119 (36 * h + k)) (dig (rHo (tz v) gw gd nh h) d 11) (gw h * gd h)) i (itr (fun g d => dig (rGr (tz v) gw gd nh g) d 10) ng (dig (rCo (tz v) gw gd ng nh nl ns) 541 11))) j) * 31) + (Int32.toInt64 (rHo (up2 v 100 0 0) gw gd nh i j)))), (4, .int (nI j)), (3, .int (nI i)), (0, .ref (ad 100))]) hx hb dX7_digest_123 rfl hl (by decide) rfl (fun ls hl => ?_)
                  refine lv_iinc (v := (nI (j + 1))) (lv' := [(4, .int (nI (j + 1))), (1, .long (((dig (rHo (tz v) gw gd nh i) (itr (fun h d => dig (fun k => (tz v) 119 (36 * h + k)) (dig (rHo (tz v) gw gd nh h) d 11) (gw h * gd h)) i (itr (fun g d => dig (rGr (tz v) gw gd nh g) d 10) ng (dig (rCo (tz v) gw gd ng nh nl ns) 541 11))) j) * 31) + (Int32.toInt64 (rHo (up2 v 100 0 0) gw gd nh i j)))), (3, .int (nI i)), (0, .ref (ad 100))]) hx hb dX7_digest_124 hl (k := 1) rfl (inc_nI _) (by decide) rfl (fun ls hl => ?_)
                  refine lv_goto (tgt := 102) hx hb dX7_digest_127 (by decide) ?_
                  refine W.widen (k := 71) (n := 721) (by first | decide | omega | (dsimp only; omega)) (by first | decide | omega | (dsimp only; omega)) ?_
                  exact ih_102 (j + 1) _ _   _ H locs ls (by omega) (by omega) (by exact dig_s) (by rfl) (by rfl)  hW hS (lv_sub hl [0, 2, 1, 3] rfl)
        · skip
          have hlt_38 := lt_i (n := ng) (by omega) hi_38 c_46
          refine lv_iconst (v := 0) hx hb dX7_digest_49 (by decide) ?_
          refine lv_istore (lv' := [(4, .int 0), (3, .int (nI i)), (1, .long (itr (fun g d => dig (rGr (tz v) gw gd nh g) d 10) i (dig (rCo (tz v) gw gd ng nh nl ns) 541 11))), (0, .ref (ad 100))]) hx hb dX7_digest_50 hl (by decide) rfl (fun ls hl => ?_)
          refine W.widen (k := 11 + 10 * i + 0) (n := 121 + 100 * i + 10 * 0) (by first | decide | omega | (dsimp only; omega)) (by first | decide | omega | (dsimp only; omega)) ?_
          suffices LP_52 : ∀ (n_52 j : Nat) (x1_52 : Int64) (x4_52 : Int32)  (u_52 : Nat → Nat → Int32) (H : Heap) (locs : List Loc) (ls : Array Slot), 10 + 1 ≤ j + n_52 → j ≤ 10 → dig (rGr (tz v) gw gd nh i) (itr (fun g d => dig (rGr (tz v) gw gd nh g) d 10) i (dig (rCo (tz v) gw gd ng nh nl ns) 541 11)) j = x1_52 → nI j = x4_52 → up2 v 100 0 0 = u_52 → WD G L ad u_52 o w s H → va_S (Ab G.2.2.1) s.heap H locs → lv_has ls 5 [(4, .int x4_52), (3, .int (nI i)), (1, .long x1_52), (0, .ref (ad 100))] → W p l e ({ frames := 4, cells := 71, slots := 721, locals := 92 } : Room) s m ([.ref (ad 100)] : List Value).toArray below meth c H locs (11 + 10 * i + j) (121 + 100 * i + 10 * j) (MQ below (va_Ql (fun r u => r = rDig (tz v) gw gd ng nh nl ns ∧ u = tz v) (fun u t => WD G L ad u o w t t.heap) (Ab G.2.2.1)) ([.ref (ad 100)] : List Value).toArray s ({ frames := 4, cells := 71, slots := 721, locals := 92 } : Room).cells ({ frames := 4, cells := 71, slots := 721, locals := 92 } : Room).slots (Ab G.2.2.1)) (F0 m 52 ls []) from LP_52 (10 + 1) 0 _ _   _ H locs ls (by omega) (by omega) (by exact dig_0) (by rfl) (by rfl)  hW hS (lv_sub hl [0, 1, 2, 3] rfl)
          intro n_52
          induction n_52 with
          | zero => intro j x1_52 x4_52  u_52 H locs ls h1 h2; exact absurd h1 (by omega)
          | succ n_52 ih_52 =>
            intro j x1_52 x4_52  u_52 H locs ls hn_52 hi_52 ex1_52 ex4_52 eu_52  hW hS hl
            subst ex1_52
            subst ex4_52
            subst eu_52
            refine lv_iload hx hb dX7_digest_52 (lv_at hl 0 rfl) ?_
            refine lv_bipush (v := 10) hx hb dX7_digest_54 (by decide) ?_
            refine lv_icmp_ge (tgt := 80) hx hb dX7_digest_56 (by decide) (fun c_56 => ?_) (fun c_56 => ?_)
            · skip
              have hq_52 := (ge_i (n := 10) (by omega) hi_52 c_56).symm
              subst hq_52
              refine lv_iinc (v := (nI (i + 1))) (lv' := [(3, .int (nI (i + 1))), (4, .int (nI 10)), (1, .long (dig (rGr (tz v) gw gd nh i) (itr (fun g d => dig (rGr (tz v) gw gd nh g) d 10) i (dig (rCo (tz v) gw gd ng nh nl ns) 541 11)) 10)), (0, .ref (ad 100))]) hx hb dX7_digest_80 hl (k := 1) rfl (inc_nI _) (by decide) rfl (fun ls hl => ?_)
              refine lv_goto (tgt := 38) hx hb dX7_digest_83 (by decide) ?_
              refine W.widen (k := 11 + 10 * (i + 1)) (n := 121 + 100 * (i + 1)) (by first | decide | omega | (dsimp only; omega)) (by first | decide | omega | (dsimp only; omega)) ?_
              exact ih_38 (i + 1) _ _   _ H locs ls (by omega) (by omega) (by exact itr_s) (by rfl) (by rfl)  hW hS (lv_sub hl [0, 2, 3] rfl)
            · skip
              have hlt_52 := lt_i (n := 10) (by omega) hi_52 c_56
              refine lv_lload_n hx hb dX7_digest_59 rfl (lv_at hl 2 rfl) ?_
              refine lv_ldc2 (v := 31) hx hb hown (hts _ t_1135) dX7_digest_60 ?_
              refine lv_lmul hx hb dX7_digest_63 ?_
              refine lv_aload_n hx hb dX7_digest_64 rfl (lv_at hl 3 rfl) ?_
              refine lv_iload_n hx hb dX7_digest_65 rfl (lv_at hl 1 rfl) ?_
              refine lv_iload hx hb dX7_digest_66 (lv_at hl 0 rfl) ?_
              refine q_cVi (As := [.int (nI i), .int (nI j)]) (rest := [.long ((dig (rGr (tz v) gw gd nh i) (itr (fun g d => dig (rGr (tz v) gw gd nh g) d 10) i (dig (rCo (tz v) gw gd ng nh nl ns) 541 11)) j) * 31)]) (r := 100) hx hb hml hts hown hE h0 hW hS (c_X7_growerTold l hJ hO1 hr183 hlt_38 hlt_52) mw_X7_growerTold hJ.q.m0 rfl k_8 t_1016 ⟨Nat.le_of_ble_eq_true rfl, Nat.le_of_ble_eq_true rfl⟩ rfl hl.1 (Nat.le_of_ble_eq_true rfl) dX7_digest_68 ⟨(by first | decide | omega | (dsimp only; omega)), (by first | decide | omega | (dsimp only; omega))⟩ (fun rz u H locs hrz hW hS => ?_)
              obtain ⟨hr1, hr2⟩ := hrz
              rw [hr2] at hW
              subst hr1
              refine lv_i2l (v := ((rGr (up2 v 100 0 0) gw gd nh i j)).toInt64) hx hb dX7_digest_71 rfl ?_
              refine lv_ladd hx hb dX7_digest_72 ?_
              refine lv_lstore_n (lv' := [(1, .long (((dig (rGr (tz v) gw gd nh i) (itr (fun g d => dig (rGr (tz v) gw gd nh g) d 10) i (dig (rCo (tz v) gw gd ng nh nl ns) 541 11)) j) * 31) + (Int32.toInt64 (rGr (up2 v 100 0 0) gw gd nh i j)))), (4, .int (nI j)), (3, .int (nI i)), (0, .ref (ad 100))]) hx hb dX7_digest_73 rfl hl (by decide) rfl (fun ls hl => ?_)
              refine lv_iinc (v := (nI (j + 1))) (lv' := [(4, .int (nI (j + 1))), (1, .long (((dig (rGr (tz v) gw gd nh i) (itr (fun g d => dig (rGr (tz v) gw gd nh g) d 10) i (dig (rCo (tz v) gw gd ng nh nl ns) 541 11)) j) * 31) + (Int32.toInt64 (rGr (up2 v 100 0 0) gw gd nh i j)))), (3, .int (nI i)), (0, .ref (ad 100))]) hx hb dX7_digest_74 hl (k := 1) rfl (inc_nI _) (by decide) rfl (fun ls hl => ?_)
              refine lv_goto (tgt := 52) hx hb dX7_digest_77 (by decide) ?_
              refine W.widen (k := 11 + 10 * i + (j + 1)) (n := 121 + 100 * i + 10 * (j + 1)) (by first | decide | omega | (dsimp only; omega)) (by first | decide | omega | (dsimp only; omega)) ?_
              exact ih_52 (j + 1) _ _   _ H locs ls (by omega) (by omega) (by exact dig_s) (by rfl) (by rfl)  hW hS (lv_sub hl [0, 2, 1, 3] rfl)
    · skip
      have hlt_11 := lt_i (n := 11) (by omega) hi_11 c_14
      refine lv_lload_n hx hb dX7_digest_17 rfl (lv_at hl 1 rfl) ?_
      refine lv_ldc2 (v := 31) hx hb hown (hts _ t_1135) dX7_digest_18 ?_
      refine lv_lmul hx hb dX7_digest_21 ?_
      refine lv_aload_n hx hb dX7_digest_22 rfl (lv_at hl 2 rfl) ?_
      refine lv_iload_n hx hb dX7_digest_23 rfl (lv_at hl 0 rfl) ?_
      refine q_cVi (As := [.int (nI i)]) (rest := [.long ((dig (rCo (tz v) gw gd ng nh nl ns) 541 i) * 31)]) (r := 100) hx hb hml hts hown hE h0 hW hS (c_X7_counted l hJ hO1 hr184 hlt_11) mw_X7_counted hJ.q.m0 rfl k_8 t_1062 ⟨Nat.le_of_ble_eq_true rfl, Nat.le_of_ble_eq_true rfl⟩ rfl hl.1 (Nat.le_of_ble_eq_true rfl) dX7_digest_24 ⟨(by first | decide | omega | (dsimp only; omega)), (by first | decide | omega | (dsimp only; omega))⟩ (fun rz u H locs hrz hW hS => ?_)
      obtain ⟨hr1, hr2⟩ := hrz
      rw [hr2] at hW
      subst hr1
      refine lv_i2l (v := ((rCo (up2 v 100 0 0) gw gd ng nh nl ns i)).toInt64) hx hb dX7_digest_27 rfl ?_
      refine lv_ladd hx hb dX7_digest_28 ?_
      refine lv_lstore_n (lv' := [(1, .long (((dig (rCo (tz v) gw gd ng nh nl ns) 541 i) * 31) + (Int32.toInt64 (rCo (up2 v 100 0 0) gw gd ng nh nl ns i)))), (3, .int (nI i)), (0, .ref (ad 100))]) hx hb dX7_digest_29 rfl hl (by decide) rfl (fun ls hl => ?_)
      refine lv_iinc (v := (nI (i + 1))) (lv' := [(3, .int (nI (i + 1))), (1, .long (((dig (rCo (tz v) gw gd ng nh nl ns) 541 i) * 31) + (Int32.toInt64 (rCo (up2 v 100 0 0) gw gd ng nh nl ns i)))), (0, .ref (ad 100))]) hx hb dX7_digest_30 hl (k := 1) rfl (inc_nI _) (by decide) rfl (fun ls hl => ?_)
      refine lv_goto (tgt := 11) hx hb dX7_digest_33 (by decide) ?_
      refine W.widen (k := (i + 1)) (n := 11 * (i + 1)) (by first | decide | omega | (dsimp only; omega)) (by first | decide | omega | (dsimp only; omega)) ?_
      exact ih_11 (i + 1) _ _   _ H locs ls (by omega) (by omega) (by exact dig_s) (by rfl) (by rfl)  hW hS (lv_sub hl [0, 1, 2] rfl)
