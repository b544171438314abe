/-! the constructors -/
theorem c_AC_init (l : Launch) {G : GG} {L : List Nat} {ad : Nat → Nat} {v : Nat → Nat → Int32} {o : Nat → Nat → Option Nat} {w : Nat → Int64} {r : Nat} (hr9 : r ∈ L) (hk9 : kd r = 0) : CtV l G L ad v o w yJxa1e45_init_da8c8 cJxa1e45_init_da8c8 1 ({ frames := 1, cells := 0, slots := 0, locals := 12 }) [.ref (ad r)] (fun u => u = v) := by
  refine q_ofV (by decide) (Nat.le_of_ble_eq_true rfl) ?_
  intro p e s m below meth c hx hb hr hml hts hown hlocks hE h0 hW hS hin ls hl
  generalize hH : s.heap = H at hW
  have hS : va_S (Ab G.2.2.1) s.heap H [] := hH ▸ hS
  obtain ⟨locs, hlc⟩ : ∃ z : List Loc, z = [] := ⟨_, rfl⟩
  rw [← hlc] at hS ⊢
  have hl : lv_has ls 1 [(0, .ref (ad r))] := hl
  refine lv_aload_n hx hb dJxa1e45_init_da8c8_0 rfl (lv_at hl 0 rfl) ?_
  refine q_oinit hx hb hml hl.1 hts hown t_88 t_75 t_76 dJxa1e45_init_da8c8_1 (Nat.le_of_ble_eq_true rfl) (Nat.le_of_ble_eq_true rfl) ?_
  exact q_vret hx hb hr hlocks hW hS (Nat.le_refl _) (Nat.le_refl _) dJxa1e45_init_da8c8_4 rfl
theorem c_AB_init (l : Launch) {G : GG} {L : List Nat} {ad : Nat → Nat} {v : Nat → Nat → Int32} {o : Nat → Nat → Option Nat} {w : Nat → Int64} {r : Nat} (hr9 : r ∈ L) (hk9 : kd r = 0) : CtV l G L ad v o w yJxc12de_init_da8c8 cJxc12de_init_da8c8 1 ({ frames := 2, cells := 0, slots := 0, locals := 32 }) [.ref (ad r)] (fun u => u = up2 v r 0 0) := by
  refine q_ofV (by decide) (Nat.le_of_ble_eq_true rfl) ?_
  intro p e s m below meth c hx hb hr hml hts hown hlocks hE h0 hW hS hin ls hl
  generalize hH : s.heap = H at hW
  have hS : va_S (Ab G.2.2.1) s.heap H [] := hH ▸ hS
  obtain ⟨locs, hlc⟩ : ∃ z : List Loc, z = [] := ⟨_, rfl⟩
  rw [← hlc] at hS ⊢
  have hl : lv_has ls 1 [(0, .ref (ad r))] := hl
  refine lv_aload_n hx hb dJxc12de_init_da8c8_0 rfl (lv_at hl 0 rfl) ?_
  refine q_cIE (As := []) (rest := []) (r := r) hx hb hml hts hown hE h0 hW hS (c_AC_init l hr9 hk9) mw_Jxa1e45_init_da8c8 t_85 ⟨Nat.le_of_ble_eq_true rfl, Nat.le_of_ble_eq_true rfl⟩ rfl hl.1 (Nat.le_of_ble_eq_true rfl) dJxc12de_init_da8c8_1 ⟨Nat.zero_le _, Nat.zero_le _⟩ ⟨rfl, rfl⟩ (fun H locs hW hS => ?_)
  refine lv_aload_n hx hb dJxc12de_init_da8c8_4 rfl (lv_at hl 0 rfl) ?_
  refine lv_iconst (v := 0) hx hb dJxc12de_init_da8c8_5 (by decide) ?_
  refine q_put hx hb hts hown hW hS (r := r) hr9 hk9 k_0 0 (by decide) rfl t_93 rfl (t := .int) (by decide +kernel) rfl rfl dJxc12de_init_da8c8_6 (fun H locs hW hS => ?_)
  exact q_vret hx hb hr hlocks hW hS (Nat.le_refl _) (Nat.le_refl _) dJxc12de_init_da8c8_9 rfl
theorem c_AL_init (l : Launch) {G : GG} {L : List Nat} {ad : Nat → Nat} {v : Nat → Nat → Int32} {o : Nat → Nat → Option Nat} {w : Nat → Int64} {r : Nat} (hr9 : r ∈ L) (hk9 : kd r = 0) (hv0 : v r 0 = 0) : CtVw l G L ad v o w yJx4a65c_init_da8c8 cJx4a65c_init_da8c8 1 ({ frames := 3, cells := 0, slots := 0, locals := 52 }) [.ref (ad r)] (fun P => P = (L, ad, v, up2 o r 1 (some G.2.2.2))) := by
  refine Met.ofW (cc := cJx4a65c_init_da8c8) (maxL := 1) (ret := none) (by decide) rfl ?_
  intro p e s m args below meth c s₁ B hml hv9
  obtain ⟨rfl, hE, h0, hW⟩ := hv9
  have hx := B.exec; have hb := B.bytes; have hr := B.returns; have hts := hE.hts (args := ([.ref (ad r)] : List Value).toArray); have hown : s.vm.findClass RJx4a65c = some m.cls := findClass_of_methodNamed B.named; have hlocks := B.notSynchronized
  have hl := lv_entry ([.ref (ad r)] : List Value) (n := 1) (Nat.le_of_ble_eq_true rfl)
  rw [lg_entry_eq]
  generalize (lg_sl ([.ref (ad r)] : List Value) ++ List.replicate (1 - (lg_sl ([.ref (ad r)] : List Value)).length) Slot.unset).toArray = ls at hl ⊢
  generalize hH : s.heap = H at hW ⊢
  have hS : va_S (Ab G.2.2.1) s.heap H [] := hH ▸ va_S.rf
  obtain ⟨locs, hlc⟩ : ∃ z : List Loc, z = [] := ⟨_, rfl⟩
  rw [← hlc] at hS ⊢
  have hl : lv_has ls 1 [(0, .ref (ad r))] := hl
  refine lv_aload_n hx hb dJx4a65c_init_da8c8_0 rfl (lv_at hl 0 rfl) ?_
  refine q_cIE (As := []) (rest := []) (r := r) hx hb hml hts hown hE h0 hW hS (c_AB_init l hr9 hk9) mw_Jxc12de_init_da8c8 t_82 ⟨Nat.le_of_ble_eq_true rfl, Nat.le_of_ble_eq_true rfl⟩ rfl hl.1 (Nat.le_of_ble_eq_true rfl) dJx4a65c_init_da8c8_1 ⟨Nat.zero_le _, Nat.zero_le _⟩ ⟨rfl, rfl⟩ (fun H locs hW hS => ?_)
  rw [up2_self hv0] at hW
  refine lv_aload_n hx hb dJx4a65c_init_da8c8_4 rfl (lv_at hl 0 rfl) ?_
  refine q_tdget hx hb hts hown hE hS t_89 dJx4a65c_init_da8c8_5 ?_
  refine q_putr hx hb hts hown hW hS (r := r) hr9 hk9 k_0 1 (by decide) rfl t_91 rfl (t := .array (.object "java/lang/Object")) (by decide +kernel) rfl rfl dJx4a65c_init_da8c8_8 (fun H locs hW hS => ?_)
  exact q_vretw hx hb hr hlocks hW hS (Nat.le_refl _) (Nat.le_refl _) dJx4a65c_init_da8c8_11 rfl

theorem sub_dec {l M : List Nat} (h : l.all (fun x => M.elem x) = true) {x : Nat} (hx : x ∈ l) : x ∈ M := List.mem_of_elem_eq_true (List.all_eq_true.mp h x hx)
theorem sub_decn {l M : List Nat} (h : l.all (fun x => !(M.elem x)) = true) {x : Nat} (hx : x ∈ l) : x ∉ M := fun g => by
  have := List.all_eq_true.mp h x hx
  rw [List.elem_eq_true_of_mem g] at this
  cases this
theorem mna_facts {ad ad1 : Nat → Nat} {o o1 : Nat → Nat → Option Nat} {q : Nat} {f : Nat → Nat} (ha : ad1 = adR ad q f) (ho : o1 = oR o f) : Fr ([5] ++ rw30) 5 ad1 ad o1 o ∧ FO ((List.range 30).map (fun i => (5, i, 20 + i))) ad1 o1 := by
  subst ha ho
  refine ⟨⟨fun x hx => ?_, fun x h1 h2 => ?_⟩, fun x hx => ?_⟩
  · unfold adR
    rw [if_neg (fun e => hx (List.mem_append_left _ (List.mem_singleton.mpr e))), if_neg (fun e => hx (List.mem_append_right _ (List.mem_map.mpr ⟨x - 20, List.mem_range.mpr (by omega), by omega⟩)))]
  · funext k
    unfold oR
    rw [if_neg h1]
  · obtain ⟨i, hi, rfl⟩ := List.mem_map.mp hx
    have hi := List.mem_range.mp hi
    show oR o f 5 i = some (adR ad q f (20 + i))
    unfold oR adR
    rw [if_pos rfl, if_pos hi, if_neg (by omega), if_pos (by omega), show 20 + i - 20 = i by omega]

set_option maxHeartbeats 8000000 in
set_option maxRecDepth 100000 in
theorem c_X4_init (l : Launch) {G : GG} {L : List Nat} {ad : Nat → Nat} {v : Nat → Nat → Int32} {o : Nat → Nat → Option Nat} {w : Nat → Int64} (hr9 : 6 ∈ L) (hL : ∀ x, x ∈ [7, 8, 9, 10, 11, 12] → x ∉ L) (hv : ∀ x, x ∈ [7, 8, 9, 10, 11, 12] → v x = z32) : CtVw l G L ad v o w yX4_init cX4_init 1 ({ frames := 1, cells := 6, slots := 430, locals := 12 }) [.ref (ad 6)] (fun P => ∃ ad1 o1, P = (L ++ [7, 8, 9, 10, 11, 12], ad1, v, o1) ∧ Fr [7, 8, 9, 10, 11, 12] 6 ad1 ad o1 o ∧ FO [(6, 0, 7), (6, 1, 8), (6, 2, 9), (6, 3, 10), (6, 4, 11), (6, 5, 12)] ad1 o1) := by
  obtain ⟨a0, e0⟩ : ∃ z, z = ad 6 := ⟨_, rfl⟩
  rw [← e0]
  refine Met.ofW (cc := cX4_init) (maxL := 1) (ret := none) (by decide) rfl ?_
  intro p e s m args below meth c s₁ B hml hv9
  obtain ⟨rfl, hE, h0, hW⟩ := hv9
  have hx := B.exec; have hb := B.bytes; have hr := B.returns; have hts := hE.hts (args := ([.ref a0] : List Value).toArray); have hown : s.vm.findClass RX4 = some m.cls := findClass_of_methodNamed B.named; have hlocks := B.notSynchronized; have hin := (name_of_methodNamed B.named B.method).1
  have hl := lv_entry ([.ref a0] : List Value) (n := 1) (Nat.le_of_ble_eq_true rfl)
  rw [lg_entry_eq]
  generalize (lg_sl ([.ref a0] : List Value) ++ List.replicate (1 - (lg_sl ([.ref a0] : List Value)).length) Slot.unset).toArray = ls at hl ⊢
  generalize hH : s.heap = H at hW ⊢
  have hS : va_S (Ab G.2.2.1) s.heap H [] := hH ▸ va_S.rf
  obtain ⟨locs, hlc⟩ : ∃ z : List Loc, z = [] := ⟨_, rfl⟩
  rw [← hlc] at hS ⊢
  have hl : lv_has ls 1 [(0, .ref a0)] := hl
  have hFr : Fr [] 6 ad ad o o := Fr.rf
  have hF : FO [] ad o := FO.nil
  refine lv_aload_n hx hb dX4_init_0 rfl (lv_at hl 0 rfl) ?_
  refine q_oinit hx hb hml hl.1 hts hown t_110 t_75 t_76 dX4_init_1 (Nat.le_of_ble_eq_true rfl) (Nat.le_of_ble_eq_true rfl) ?_
  refine lv_aload_n hx hb dX4_init_4 rfl (lv_at hl 0 rfl) ?_
  refine lv_sipush (v := 400) hx hb dX4_init_5 (by decide) ?_
  refine q_newa hx hb hts t_136 h0 hW hS 7 (hL _ (by decide)) rfl rfl (by decide) (by first | decide | omega | (dsimp only; omega)) (by first | decide | omega | (dsimp only; omega)) dX4_init_8 (fun ad_1 H q_1 had1 hW hS => ?_)
  have hW : WD G (L ++ [7]) ad_1 v (up1 o 7 nOp) w s H := by
    rw [up1_self (hv 7 (by decide))] at hW
    exact hW
  obtain ⟨o_1, ho1⟩ : ∃ z, z = up1 o 7 nOp := ⟨_, rfl⟩
  rw [← ho1] at hW
  have hFr : Fr [7] 6 ad_1 ad o_1 o := by rw [had1, ho1]; exact hFr.new rfl
  have hF : FO [] ad_1 o_1 := by rw [had1, ho1]; exact hF.new (by decide)
  have e0 : a0 = ad_1 6 := e0.trans (by rw [had1]; exact (upA_n (by decide)).symm)
  obtain ⟨a_1, e_1⟩ : ∃ z, z = ad_1 7 := ⟨_, rfl⟩
  rw [← e_1]
  refine q_putFA hx hb hts hown hW hS (r := 6) (List.mem_append_left _ hr9) rfl k_5 0 (by decide) rfl t_111 rfl hin rfl (t := .array .int) (by decide +kernel) rfl rfl e0 dX4_init_10 (fun H locs hW hS => ?_)
  obtain ⟨o_2, ho2⟩ : ∃ z, z = up2 o_1 6 0 (some a_1) := ⟨_, rfl⟩
  rw [← ho2] at hW
  have hFr : Fr [7] 6 ad_1 ad o_2 o := by rw [ho2]; exact hFr.put (by decide)
  have hF : FO [(6, 0, 7)] ad_1 o_2 := by rw [ho2]; exact hF.put (by decide) (by rw [e_1]) rfl
  refine lv_aload_n hx hb dX4_init_13 rfl (lv_at hl 0 rfl) ?_
  refine lv_bipush (v := 6) hx hb dX4_init_14 (by decide) ?_
  refine q_newa hx hb hts t_136 h0 hW hS 8 (nm_new hL (by decide) (by decide)) rfl rfl (by decide) (by first | decide | omega | (dsimp only; omega)) (by first | decide | omega | (dsimp only; omega)) dX4_init_16 (fun ad_3 H q_3 had3 hW hS => ?_)
  have hW : WD G (L ++ [7, 8]) ad_3 v (up1 o_2 8 nOp) w s H := by
    rw [List.append_assoc, up1_self (hv 8 (by decide))] at hW
    exact hW
  obtain ⟨o_3, ho3⟩ : ∃ z, z = up1 o_2 8 nOp := ⟨_, rfl⟩
  rw [← ho3] at hW
  have hFr : Fr [7, 8] 6 ad_3 ad o_3 o := by rw [had3, ho3]; exact hFr.new rfl
  have hF : FO [(6, 0, 7)] ad_3 o_3 := by rw [had3, ho3]; exact hF.new (by decide)
  have e0 : a0 = ad_3 6 := e0.trans (by rw [had3]; exact (upA_n (by decide)).symm)
  obtain ⟨a_3, e_3⟩ : ∃ z, z = ad_3 8 := ⟨_, rfl⟩
  rw [← e_3]
  refine q_putFA hx hb hts hown hW hS (r := 6) (List.mem_append_left _ hr9) rfl k_5 1 (by decide) rfl t_113 rfl hin rfl (t := .array .int) (by decide +kernel) rfl rfl e0 dX4_init_18 (fun H locs hW hS => ?_)
  obtain ⟨o_4, ho4⟩ : ∃ z, z = up2 o_3 6 1 (some a_3) := ⟨_, rfl⟩
  rw [← ho4] at hW
  have hFr : Fr [7, 8] 6 ad_3 ad o_4 o := by rw [ho4]; exact hFr.put (by decide)
  have hF : FO [(6, 0, 7), (6, 1, 8)] ad_3 o_4 := by rw [ho4]; exact hF.put (by decide) (by rw [e_3]) rfl
  refine lv_aload_n hx hb dX4_init_21 rfl (lv_at hl 0 rfl) ?_
  refine lv_bipush (v := 6) hx hb dX4_init_22 (by decide) ?_
  refine q_newa hx hb hts t_136 h0 hW hS 9 (nm_new hL (by decide) (by decide)) rfl rfl (by decide) (by first | decide | omega | (dsimp only; omega)) (by first | decide | omega | (dsimp only; omega)) dX4_init_24 (fun ad_5 H q_5 had5 hW hS => ?_)
  have hW : WD G (L ++ [7, 8, 9]) ad_5 v (up1 o_4 9 nOp) w s H := by
    rw [List.append_assoc, up1_self (hv 9 (by decide))] at hW
    exact hW
  obtain ⟨o_5, ho5⟩ : ∃ z, z = up1 o_4 9 nOp := ⟨_, rfl⟩
  rw [← ho5] at hW
  have hFr : Fr [7, 8, 9] 6 ad_5 ad o_5 o := by rw [had5, ho5]; exact hFr.new rfl
  have hF : FO [(6, 0, 7), (6, 1, 8)] ad_5 o_5 := by rw [had5, ho5]; exact hF.new (by decide)
  have e0 : a0 = ad_5 6 := e0.trans (by rw [had5]; exact (upA_n (by decide)).symm)
  obtain ⟨a_5, e_5⟩ : ∃ z, z = ad_5 9 := ⟨_, rfl⟩
  rw [← e_5]
  refine q_putFA hx hb hts hown hW hS (r := 6) (List.mem_append_left _ hr9) rfl k_5 2 (by decide) rfl t_115 rfl hin rfl (t := .array .int) (by decide +kernel) rfl rfl e0 dX4_init_26 (fun H locs hW hS => ?_)
  obtain ⟨o_6, ho6⟩ : ∃ z, z = up2 o_5 6 2 (some a_5) := ⟨_, rfl⟩
  rw [← ho6] at hW
  have hFr : Fr [7, 8, 9] 6 ad_5 ad o_6 o := by rw [ho6]; exact hFr.put (by decide)
  have hF : FO [(6, 0, 7), (6, 1, 8), (6, 2, 9)] ad_5 o_6 := by rw [ho6]; exact hF.put (by decide) (by rw [e_5]) rfl
  refine lv_aload_n hx hb dX4_init_29 rfl (lv_at hl 0 rfl) ?_
  refine lv_bipush (v := 6) hx hb dX4_init_30 (by decide) ?_
  refine q_newa hx hb hts t_136 h0 hW hS 10 (nm_new hL (by decide) (by decide)) rfl rfl (by decide) (by first | decide | omega | (dsimp only; omega)) (by first | decide | omega | (dsimp only; omega)) dX4_init_32 (fun ad_7 H q_7 had7 hW hS => ?_)
  have hW : WD G (L ++ [7, 8, 9, 10]) ad_7 v (up1 o_6 10 nOp) w s H := by
    rw [List.append_assoc, up1_self (hv 10 (by decide))] at hW
    exact hW
  obtain ⟨o_7, ho7⟩ : ∃ z, z = up1 o_6 10 nOp := ⟨_, rfl⟩
  rw [← ho7] at hW
  have hFr : Fr [7, 8, 9, 10] 6 ad_7 ad o_7 o := by rw [had7, ho7]; exact hFr.new rfl
  have hF : FO [(6, 0, 7), (6, 1, 8), (6, 2, 9)] ad_7 o_7 := by rw [had7, ho7]; exact hF.new (by decide)
  have e0 : a0 = ad_7 6 := e0.trans (by rw [had7]; exact (upA_n (by decide)).symm)
  obtain ⟨a_7, e_7⟩ : ∃ z, z = ad_7 10 := ⟨_, rfl⟩
  rw [← e_7]
  refine q_putFA hx hb hts hown hW hS (r := 6) (List.mem_append_left _ hr9) rfl k_5 3 (by decide) rfl t_117 rfl hin rfl (t := .array .int) (by decide +kernel) rfl rfl e0 dX4_init_34 (fun H locs hW hS => ?_)
  obtain ⟨o_8, ho8⟩ : ∃ z, z = up2 o_7 6 3 (some a_7) := ⟨_, rfl⟩
  rw [← ho8] at hW
  have hFr : Fr [7, 8, 9, 10] 6 ad_7 ad o_8 o := by rw [ho8]; exact hFr.put (by decide)
  have hF : FO [(6, 0, 7), (6, 1, 8), (6, 2, 9), (6, 3, 10)] ad_7 o_8 := by rw [ho8]; exact hF.put (by decide) (by rw [e_7]) rfl
  refine lv_aload_n hx hb dX4_init_37 rfl (lv_at hl 0 rfl) ?_
  refine lv_bipush (v := 6) hx hb dX4_init_38 (by decide) ?_
  refine q_newa hx hb hts t_136 h0 hW hS 11 (nm_new hL (by decide) (by decide)) rfl rfl (by decide) (by first | decide | omega | (dsimp only; omega)) (by first | decide | omega | (dsimp only; omega)) dX4_init_40 (fun ad_9 H q_9 had9 hW hS => ?_)
  have hW : WD G (L ++ [7, 8, 9, 10, 11]) ad_9 v (up1 o_8 11 nOp) w s H := by
    rw [List.append_assoc, up1_self (hv 11 (by decide))] at hW
    exact hW
  obtain ⟨o_9, ho9⟩ : ∃ z, z = up1 o_8 11 nOp := ⟨_, rfl⟩
  rw [← ho9] at hW
  have hFr : Fr [7, 8, 9, 10, 11] 6 ad_9 ad o_9 o := by rw [had9, ho9]; exact hFr.new rfl
  have hF : FO [(6, 0, 7), (6, 1, 8), (6, 2, 9), (6, 3, 10)] ad_9 o_9 := by rw [had9, ho9]; exact hF.new (by decide)
  have e0 : a0 = ad_9 6 := e0.trans (by rw [had9]; exact (upA_n (by decide)).symm)
  obtain ⟨a_9, e_9⟩ : ∃ z, z = ad_9 11 := ⟨_, rfl⟩
  rw [← e_9]
  refine q_putFA hx hb hts hown hW hS (r := 6) (List.mem_append_left _ hr9) rfl k_5 4 (by decide) rfl t_119 rfl hin rfl (t := .array .int) (by decide +kernel) rfl rfl e0 dX4_init_42 (fun H locs hW hS => ?_)
  obtain ⟨o_10, ho10⟩ : ∃ z, z = up2 o_9 6 4 (some a_9) := ⟨_, rfl⟩
  rw [← ho10] at hW
  have hFr : Fr [7, 8, 9, 10, 11] 6 ad_9 ad o_10 o := by rw [ho10]; exact hFr.put (by decide)
  have hF : FO [(6, 0, 7), (6, 1, 8), (6, 2, 9), (6, 3, 10), (6, 4, 11)] ad_9 o_10 := by rw [ho10]; exact hF.put (by decide) (by rw [e_9]) rfl
  refine lv_aload_n hx hb dX4_init_45 rfl (lv_at hl 0 rfl) ?_
  refine lv_bipush (v := 6) hx hb dX4_init_46 (by decide) ?_
  refine q_newa hx hb hts t_136 h0 hW hS 12 (nm_new hL (by decide) (by decide)) rfl rfl (by decide) (by first | decide | omega | (dsimp only; omega)) (by first | decide | omega | (dsimp only; omega)) dX4_init_48 (fun ad_11 H q_11 had11 hW hS => ?_)
  have hW : WD G (L ++ [7, 8, 9, 10, 11, 12]) ad_11 v (up1 o_10 12 nOp) w s H := by
    rw [List.append_assoc, up1_self (hv 12 (by decide))] at hW
    exact hW
  obtain ⟨o_11, ho11⟩ : ∃ z, z = up1 o_10 12 nOp := ⟨_, rfl⟩
  rw [← ho11] at hW
  have hFr : Fr [7, 8, 9, 10, 11, 12] 6 ad_11 ad o_11 o := by rw [had11, ho11]; exact hFr.new rfl
  have hF : FO [(6, 0, 7), (6, 1, 8), (6, 2, 9), (6, 3, 10), (6, 4, 11)] ad_11 o_11 := by rw [had11, ho11]; exact hF.new (by decide)
  have e0 : a0 = ad_11 6 := e0.trans (by rw [had11]; exact (upA_n (by decide)).symm)
  obtain ⟨a_11, e_11⟩ : ∃ z, z = ad_11 12 := ⟨_, rfl⟩
  rw [← e_11]
  refine q_putFA hx hb hts hown hW hS (r := 6) (List.mem_append_left _ hr9) rfl k_5 5 (by decide) rfl t_121 rfl hin rfl (t := .array .int) (by decide +kernel) rfl rfl e0 dX4_init_50 (fun H locs hW hS => ?_)
  obtain ⟨o_12, ho12⟩ : ∃ z, z = up2 o_11 6 5 (some a_11) := ⟨_, rfl⟩
  rw [← ho12] at hW
  have hFr : Fr [7, 8, 9, 10, 11, 12] 6 ad_11 ad o_12 o := by rw [ho12]; exact hFr.put (by decide)
  have hF : FO [(6, 0, 7), (6, 1, 8), (6, 2, 9), (6, 3, 10), (6, 4, 11), (6, 5, 12)] ad_11 o_12 := by rw [ho12]; exact hF.put (by decide) (by rw [e_11]) rfl
  exact q_vretw hx hb hr hlocks hW hS (by first | decide | omega | (dsimp only; omega)) (by first | decide | omega | (dsimp only; omega)) dX4_init_53 ⟨_, _, rfl, hFr, hF⟩

set_option maxHeartbeats 8000000 in
set_option maxRecDepth 100000 in
theorem c_X6_init1 (l : Launch) {G : GG} {L : List Nat} {ad : Nat → Nat} {v : Nat → Nat → Int32} {o : Nat → Nat → Option Nat} {w : Nat → Int64} (hr9 : 101 ∈ L) (hL : ∀ x, x ∈ [111, 112, 113, 114, 115, 117, 118, 119, 122, 124, 126, 127, 128] → x ∉ L) (hv : ∀ x, x ∈ [111, 112, 113, 114, 115, 117, 118, 119, 122, 124, 126, 127, 128] → v x = z32) : CtVw l G L ad v o w yX6_init cX6_init 1 ({ frames := 1, cells := 13, slots := 798, locals := 12 }) [.ref (ad 101)] (fun P => ∃ ad1 o1, P = (L ++ [111, 112, 113, 114, 115, 117, 118, 119, 122, 124, 126, 127, 128], ad1, v, o1) ∧ Fr [111, 112, 113, 114, 115, 117, 118, 119, 122, 124, 126, 127, 128] 101 ad1 ad o1 o ∧ FO [(101, 1, 111), (101, 2, 112), (101, 3, 113), (101, 4, 114), (101, 5, 115), (101, 7, 117), (101, 8, 118), (101, 9, 119), (101, 12, 122), (101, 14, 124), (101, 16, 126), (101, 17, 127), (101, 18, 128)] ad1 o1) := by
  obtain ⟨a0, e0⟩ : ∃ z, z = ad 101 := ⟨_, rfl⟩
  rw [← e0]
  refine Met.ofW (cc := cX6_init) (maxL := 1) (ret := none) (by decide) rfl ?_
  intro p e s m args below meth c s₁ B hml hv9
  obtain ⟨rfl, hE, h0, hW⟩ := hv9
  have hx := B.exec; have hb := B.bytes; have hr := B.returns; have hts := hE.hts (args := ([.ref a0] : List Value).toArray); have hown : s.vm.findClass RX6 = some m.cls := findClass_of_methodNamed B.named; have hlocks := B.notSynchronized; have hin := (name_of_methodNamed B.named B.method).1
  have hl := lv_entry ([.ref a0] : List Value) (n := 1) (Nat.le_of_ble_eq_true rfl)
  rw [lg_entry_eq]
  generalize (lg_sl ([.ref a0] : List Value) ++ List.replicate (1 - (lg_sl ([.ref a0] : List Value)).length) Slot.unset).toArray = ls at hl ⊢
  generalize hH : s.heap = H at hW ⊢
  have hS : va_S (Ab G.2.2.1) s.heap H [] := hH ▸ va_S.rf
  obtain ⟨locs, hlc⟩ : ∃ z : List Loc, z = [] := ⟨_, rfl⟩
  rw [← hlc] at hS ⊢
  have hl : lv_has ls 1 [(0, .ref a0)] := hl
  have hFr : Fr [] 101 ad ad o o := Fr.rf
  have hF : FO [] ad o := FO.nil
  refine lv_aload_n hx hb dX6_init_0 rfl (lv_at hl 0 rfl) ?_
  refine q_oinit hx hb hml hl.1 hts hown t_866 t_75 t_76 dX6_init_1 (Nat.le_of_ble_eq_true rfl) (Nat.le_of_ble_eq_true rfl) ?_
  refine lv_aload_n hx hb dX6_init_4 rfl (lv_at hl 0 rfl) ?_
  refine lv_bipush (v := 6) hx hb dX6_init_5 (by decide) ?_
  refine q_newa hx hb hts t_136 h0 hW hS 111 (hL _ (by decide)) rfl rfl (by decide) (by first | decide | omega | (dsimp only; omega)) (by first | decide | omega | (dsimp only; omega)) dX6_init_7 (fun ad_1 H q_1 had1 hW hS => ?_)
  have hW : WD G (L ++ [111]) ad_1 v (up1 o 111 nOp) w s H := by
    rw [up1_self (hv 111 (by decide))] at hW
    exact hW
  obtain ⟨o_1, ho1⟩ : ∃ z, z = up1 o 111 nOp := ⟨_, rfl⟩
  rw [← ho1] at hW
  have hFr : Fr [111] 101 ad_1 ad o_1 o := by rw [had1, ho1]; exact hFr.new rfl
  have hF : FO [] ad_1 o_1 := by rw [had1, ho1]; exact hF.new (by decide)
  have e0 : a0 = ad_1 101 := e0.trans (by rw [had1]; exact (upA_n (by decide)).symm)
  obtain ⟨a_1, e_1⟩ : ∃ z, z = ad_1 111 := ⟨_, rfl⟩
  rw [← e_1]
  refine q_putFA hx hb hts hown hW hS (r := 101) (List.mem_append_left _ hr9) rfl k_7 1 (by decide) rfl t_869 rfl hin rfl (t := .array .int) (by decide +kernel) rfl rfl e0 dX6_init_9 (fun H locs hW hS => ?_)
  obtain ⟨o_2, ho2⟩ : ∃ z, z = up2 o_1 101 1 (some a_1) := ⟨_, rfl⟩
  rw [← ho2] at hW
  have hFr : Fr [111] 101 ad_1 ad o_2 o := by rw [ho2]; exact hFr.put (by decide)
  have hF : FO [(101, 1, 111)] ad_1 o_2 := by rw [ho2]; exact hF.put (by decide) (by rw [e_1]) rfl
  refine lv_aload_n hx hb dX6_init_12 rfl (lv_at hl 0 rfl) ?_
  refine lv_bipush (v := 18) hx hb dX6_init_13 (by decide) ?_
  refine q_newa hx hb hts t_136 h0 hW hS 112 (nm_new hL (by decide) (by decide)) rfl rfl (by decide) (by first | decide | omega | (dsimp only; omega)) (by first | decide | omega | (dsimp only; omega)) dX6_init_15 (fun ad_3 H q_3 had3 hW hS => ?_)
  have hW : WD G (L ++ [111, 112]) ad_3 v (up1 o_2 112 nOp) w s H := by
    rw [List.append_assoc, up1_self (hv 112 (by decide))] at hW
    exact hW
  obtain ⟨o_3, ho3⟩ : ∃ z, z = up1 o_2 112 nOp := ⟨_, rfl⟩
  rw [← ho3] at hW
  have hFr : Fr [111, 112] 101 ad_3 ad o_3 o := by rw [had3, ho3]; exact hFr.new rfl
  have hF : FO [(101, 1, 111)] ad_3 o_3 := by rw [had3, ho3]; exact hF.new (by decide)
  have e0 : a0 = ad_3 101 := e0.trans (by rw [had3]; exact (upA_n (by decide)).symm)
  obtain ⟨a_3, e_3⟩ : ∃ z, z = ad_3 112 := ⟨_, rfl⟩
  rw [← e_3]
  refine q_putFA hx hb hts hown hW hS (r := 101) (List.mem_append_left _ hr9) rfl k_7 2 (by decide) rfl t_871 rfl hin rfl (t := .array .int) (by decide +kernel) rfl rfl e0 dX6_init_17 (fun H locs hW hS => ?_)
  obtain ⟨o_4, ho4⟩ : ∃ z, z = up2 o_3 101 2 (some a_3) := ⟨_, rfl⟩
  rw [← ho4] at hW
  have hFr : Fr [111, 112] 101 ad_3 ad o_4 o := by rw [ho4]; exact hFr.put (by decide)
  have hF : FO [(101, 1, 111), (101, 2, 112)] ad_3 o_4 := by rw [ho4]; exact hF.put (by decide) (by rw [e_3]) rfl
  refine lv_aload_n hx hb dX6_init_20 rfl (lv_at hl 0 rfl) ?_
  refine lv_bipush (v := 6) hx hb dX6_init_21 (by decide) ?_
  refine q_newa hx hb hts t_136 h0 hW hS 113 (nm_new hL (by decide) (by decide)) rfl rfl (by decide) (by first | decide | omega | (dsimp only; omega)) (by first | decide | omega | (dsimp only; omega)) dX6_init_23 (fun ad_5 H q_5 had5 hW hS => ?_)
  have hW : WD G (L ++ [111, 112, 113]) ad_5 v (up1 o_4 113 nOp) w s H := by
    rw [List.append_assoc, up1_self (hv 113 (by decide))] at hW
    exact hW
  obtain ⟨o_5, ho5⟩ : ∃ z, z = up1 o_4 113 nOp := ⟨_, rfl⟩
  rw [← ho5] at hW
  have hFr : Fr [111, 112, 113] 101 ad_5 ad o_5 o := by rw [had5, ho5]; exact hFr.new rfl
  have hF : FO [(101, 1, 111), (101, 2, 112)] ad_5 o_5 := by rw [had5, ho5]; exact hF.new (by decide)
  have e0 : a0 = ad_5 101 := e0.trans (by rw [had5]; exact (upA_n (by decide)).symm)
  obtain ⟨a_5, e_5⟩ : ∃ z, z = ad_5 113 := ⟨_, rfl⟩
  rw [← e_5]
  refine q_putFA hx hb hts hown hW hS (r := 101) (List.mem_append_left _ hr9) rfl k_7 3 (by decide) rfl t_873 rfl hin rfl (t := .array .int) (by decide +kernel) rfl rfl e0 dX6_init_25 (fun H locs hW hS => ?_)
  obtain ⟨o_6, ho6⟩ : ∃ z, z = up2 o_5 101 3 (some a_5) := ⟨_, rfl⟩
  rw [← ho6] at hW
  have hFr : Fr [111, 112, 113] 101 ad_5 ad o_6 o := by rw [ho6]; exact hFr.put (by decide)
  have hF : FO [(101, 1, 111), (101, 2, 112), (101, 3, 113)] ad_5 o_6 := by rw [ho6]; exact hF.put (by decide) (by rw [e_5]) rfl
  refine lv_aload_n hx hb dX6_init_28 rfl (lv_at hl 0 rfl) ?_
  refine lv_bipush (v := 6) hx hb dX6_init_29 (by decide) ?_
  refine q_newa hx hb hts t_136 h0 hW hS 114 (nm_new hL (by decide) (by decide)) rfl rfl (by decide) (by first | decide | omega | (dsimp only; omega)) (by first | decide | omega | (dsimp only; omega)) dX6_init_31 (fun ad_7 H q_7 had7 hW hS => ?_)
  have hW : WD G (L ++ [111, 112, 113, 114]) ad_7 v (up1 o_6 114 nOp) w s H := by
    rw [List.append_assoc, up1_self (hv 114 (by decide))] at hW
    exact hW
  obtain ⟨o_7, ho7⟩ : ∃ z, z = up1 o_6 114 nOp := ⟨_, rfl⟩
  rw [← ho7] at hW
  have hFr : Fr [111, 112, 113, 114] 101 ad_7 ad o_7 o := by rw [had7, ho7]; exact hFr.new rfl
  have hF : FO [(101, 1, 111), (101, 2, 112), (101, 3, 113)] ad_7 o_7 := by rw [had7, ho7]; exact hF.new (by decide)
  have e0 : a0 = ad_7 101 := e0.trans (by rw [had7]; exact (upA_n (by decide)).symm)
  obtain ⟨a_7, e_7⟩ : ∃ z, z = ad_7 114 := ⟨_, rfl⟩
  rw [← e_7]
  refine q_putFA hx hb hts hown hW hS (r := 101) (List.mem_append_left _ hr9) rfl k_7 4 (by decide) rfl t_875 rfl hin rfl (t := .array .int) (by decide +kernel) rfl rfl e0 dX6_init_33 (fun H locs hW hS => ?_)
  obtain ⟨o_8, ho8⟩ : ∃ z, z = up2 o_7 101 4 (some a_7) := ⟨_, rfl⟩
  rw [← ho8] at hW
  have hFr : Fr [111, 112, 113, 114] 101 ad_7 ad o_8 o := by rw [ho8]; exact hFr.put (by decide)
  have hF : FO [(101, 1, 111), (101, 2, 112), (101, 3, 113), (101, 4, 114)] ad_7 o_8 := by rw [ho8]; exact hF.put (by decide) (by rw [e_7]) rfl
  refine lv_aload_n hx hb dX6_init_36 rfl (lv_at hl 0 rfl) ?_
  refine lv_bipush (v := 6) hx hb dX6_init_37 (by decide) ?_
  refine q_newa hx hb hts t_136 h0 hW hS 115 (nm_new hL (by decide) (by decide)) rfl rfl (by decide) (by first | decide | omega | (dsimp only; omega)) (by first | decide | omega | (dsimp only; omega)) dX6_init_39 (fun ad_9 H q_9 had9 hW hS => ?_)
  have hW : WD G (L ++ [111, 112, 113, 114, 115]) ad_9 v (up1 o_8 115 nOp) w s H := by
    rw [List.append_assoc, up1_self (hv 115 (by decide))] at hW
    exact hW
  obtain ⟨o_9, ho9⟩ : ∃ z, z = up1 o_8 115 nOp := ⟨_, rfl⟩
  rw [← ho9] at hW
  have hFr : Fr [111, 112, 113, 114, 115] 101 ad_9 ad o_9 o := by rw [had9, ho9]; exact hFr.new rfl
  have hF : FO [(101, 1, 111), (101, 2, 112), (101, 3, 113), (101, 4, 114)] ad_9 o_9 := by rw [had9, ho9]; exact hF.new (by decide)
  have e0 : a0 = ad_9 101 := e0.trans (by rw [had9]; exact (upA_n (by decide)).symm)
  obtain ⟨a_9, e_9⟩ : ∃ z, z = ad_9 115 := ⟨_, rfl⟩
  rw [← e_9]
  refine q_putFA hx hb hts hown hW hS (r := 101) (List.mem_append_left _ hr9) rfl k_7 5 (by decide) rfl t_877 rfl hin rfl (t := .array .int) (by decide +kernel) rfl rfl e0 dX6_init_41 (fun H locs hW hS => ?_)
  obtain ⟨o_10, ho10⟩ : ∃ z, z = up2 o_9 101 5 (some a_9) := ⟨_, rfl⟩
  rw [← ho10] at hW
  have hFr : Fr [111, 112, 113, 114, 115] 101 ad_9 ad o_10 o := by rw [ho10]; exact hFr.put (by decide)
  have hF : FO [(101, 1, 111), (101, 2, 112), (101, 3, 113), (101, 4, 114), (101, 5, 115)] ad_9 o_10 := by rw [ho10]; exact hF.put (by decide) (by rw [e_9]) rfl
  refine lv_aload_n hx hb dX6_init_44 rfl (lv_at hl 0 rfl) ?_
  refine lv_bipush (v := 84) hx hb dX6_init_45 (by decide) ?_
  refine q_newa hx hb hts t_136 h0 hW hS 117 (nm_new hL (by decide) (by decide)) rfl rfl (by decide) (by first | decide | omega | (dsimp only; omega)) (by first | decide | omega | (dsimp only; omega)) dX6_init_47 (fun ad_11 H q_11 had11 hW hS => ?_)
  have hW : WD G (L ++ [111, 112, 113, 114, 115, 117]) ad_11 v (up1 o_10 117 nOp) w s H := by
    rw [List.append_assoc, up1_self (hv 117 (by decide))] at hW
    exact hW
  obtain ⟨o_11, ho11⟩ : ∃ z, z = up1 o_10 117 nOp := ⟨_, rfl⟩
  rw [← ho11] at hW
  have hFr : Fr [111, 112, 113, 114, 115, 117] 101 ad_11 ad o_11 o := by rw [had11, ho11]; exact hFr.new rfl
  have hF : FO [(101, 1, 111), (101, 2, 112), (101, 3, 113), (101, 4, 114), (101, 5, 115)] ad_11 o_11 := by rw [had11, ho11]; exact hF.new (by decide)
  have e0 : a0 = ad_11 101 := e0.trans (by rw [had11]; exact (upA_n (by decide)).symm)
  obtain ⟨a_11, e_11⟩ : ∃ z, z = ad_11 117 := ⟨_, rfl⟩
  rw [← e_11]
  refine q_putFA hx hb hts hown hW hS (r := 101) (List.mem_append_left _ hr9) rfl k_7 7 (by decide) rfl t_881 rfl hin rfl (t := .array .int) (by decide +kernel) rfl rfl e0 dX6_init_49 (fun H locs hW hS => ?_)
  obtain ⟨o_12, ho12⟩ : ∃ z, z = up2 o_11 101 7 (some a_11) := ⟨_, rfl⟩
  rw [← ho12] at hW
  have hFr : Fr [111, 112, 113, 114, 115, 117] 101 ad_11 ad o_12 o := by rw [ho12]; exact hFr.put (by decide)
  have hF : FO [(101, 1, 111), (101, 2, 112), (101, 3, 113), (101, 4, 114), (101, 5, 115), (101, 7, 117)] ad_11 o_12 := by rw [ho12]; exact hF.put (by decide) (by rw [e_11]) rfl
  refine lv_aload_n hx hb dX6_init_52 rfl (lv_at hl 0 rfl) ?_
  refine lv_bipush (v := 12) hx hb dX6_init_53 (by decide) ?_
  refine q_newaz hx hb hts t_942 h0 hW hS 118 (nm_new hL (by decide) (by decide)) rfl rfl (by decide) (by first | decide | omega | (dsimp only; omega)) (by first | decide | omega | (dsimp only; omega)) dX6_init_55 (fun ad_13 H q_13 had13 hW hS => ?_)
  have hW : WD G (L ++ [111, 112, 113, 114, 115, 117, 118]) ad_13 v (up1 o_12 118 nOp) w s H := by
    rw [List.append_assoc, up1_self (hv 118 (by decide))] at hW
    exact hW
  obtain ⟨o_13, ho13⟩ : ∃ z, z = up1 o_12 118 nOp := ⟨_, rfl⟩
  rw [← ho13] at hW
  have hFr : Fr [111, 112, 113, 114, 115, 117, 118] 101 ad_13 ad o_13 o := by rw [had13, ho13]; exact hFr.new rfl
  have hF : FO [(101, 1, 111), (101, 2, 112), (101, 3, 113), (101, 4, 114), (101, 5, 115), (101, 7, 117)] ad_13 o_13 := by rw [had13, ho13]; exact hF.new (by decide)
  have e0 : a0 = ad_13 101 := e0.trans (by rw [had13]; exact (upA_n (by decide)).symm)
  obtain ⟨a_13, e_13⟩ : ∃ z, z = ad_13 118 := ⟨_, rfl⟩
  rw [← e_13]
  refine q_putFA hx hb hts hown hW hS (r := 101) (List.mem_append_left _ hr9) rfl k_7 8 (by decide) rfl t_883 rfl hin rfl (t := .array .boolean) (by decide +kernel) rfl rfl e0 dX6_init_57 (fun H locs hW hS => ?_)
  obtain ⟨o_14, ho14⟩ : ∃ z, z = up2 o_13 101 8 (some a_13) := ⟨_, rfl⟩
  rw [← ho14] at hW
  have hFr : Fr [111, 112, 113, 114, 115, 117, 118] 101 ad_13 ad o_14 o := by rw [ho14]; exact hFr.put (by decide)
  have hF : FO [(101, 1, 111), (101, 2, 112), (101, 3, 113), (101, 4, 114), (101, 5, 115), (101, 7, 117), (101, 8, 118)] ad_13 o_14 := by rw [ho14]; exact hF.put (by decide) (by rw [e_13]) rfl
  refine lv_aload_n hx hb dX6_init_60 rfl (lv_at hl 0 rfl) ?_
  refine lv_sipush (v := 432) hx hb dX6_init_61 (by decide) ?_
  refine q_newa hx hb hts t_136 h0 hW hS 119 (nm_new hL (by decide) (by decide)) rfl rfl (by decide) (by first | decide | omega | (dsimp only; omega)) (by first | decide | omega | (dsimp only; omega)) dX6_init_64 (fun ad_15 H q_15 had15 hW hS => ?_)
  have hW : WD G (L ++ [111, 112, 113, 114, 115, 117, 118, 119]) ad_15 v (up1 o_14 119 nOp) w s H := by
    rw [List.append_assoc, up1_self (hv 119 (by decide))] at hW
    exact hW
  obtain ⟨o_15, ho15⟩ : ∃ z, z = up1 o_14 119 nOp := ⟨_, rfl⟩
  rw [← ho15] at hW
  have hFr : Fr [111, 112, 113, 114, 115, 117, 118, 119] 101 ad_15 ad o_15 o := by rw [had15, ho15]; exact hFr.new rfl
  have hF : FO [(101, 1, 111), (101, 2, 112), (101, 3, 113), (101, 4, 114), (101, 5, 115), (101, 7, 117), (101, 8, 118)] ad_15 o_15 := by rw [had15, ho15]; exact hF.new (by decide)
  have e0 : a0 = ad_15 101 := e0.trans (by rw [had15]; exact (upA_n (by decide)).symm)
  obtain ⟨a_15, e_15⟩ : ∃ z, z = ad_15 119 := ⟨_, rfl⟩
  rw [← e_15]
  refine q_putFA hx hb hts hown hW hS (r := 101) (List.mem_append_left _ hr9) rfl k_7 9 (by decide) rfl t_885 rfl hin rfl (t := .array .int) (by decide +kernel) rfl rfl e0 dX6_init_66 (fun H locs hW hS => ?_)
  obtain ⟨o_16, ho16⟩ : ∃ z, z = up2 o_15 101 9 (some a_15) := ⟨_, rfl⟩
  rw [← ho16] at hW
  have hFr : Fr [111, 112, 113, 114, 115, 117, 118, 119] 101 ad_15 ad o_16 o := by rw [ho16]; exact hFr.put (by decide)
  have hF : FO [(101, 1, 111), (101, 2, 112), (101, 3, 113), (101, 4, 114), (101, 5, 115), (101, 7, 117), (101, 8, 118), (101, 9, 119)] ad_15 o_16 := by rw [ho16]; exact hF.put (by decide) (by rw [e_15]) rfl
  refine lv_aload_n hx hb dX6_init_69 rfl (lv_at hl 0 rfl) ?_
  refine lv_bipush (v := 30) hx hb dX6_init_70 (by decide) ?_
  refine q_newa hx hb hts t_136 h0 hW hS 122 (nm_new hL (by decide) (by decide)) rfl rfl (by decide) (by first | decide | omega | (dsimp only; omega)) (by first | decide | omega | (dsimp only; omega)) dX6_init_72 (fun ad_17 H q_17 had17 hW hS => ?_)
  have hW : WD G (L ++ [111, 112, 113, 114, 115, 117, 118, 119, 122]) ad_17 v (up1 o_16 122 nOp) w s H := by
    rw [List.append_assoc, up1_self (hv 122 (by decide))] at hW
    exact hW
  obtain ⟨o_17, ho17⟩ : ∃ z, z = up1 o_16 122 nOp := ⟨_, rfl⟩
  rw [← ho17] at hW
  have hFr : Fr [111, 112, 113, 114, 115, 117, 118, 119, 122] 101 ad_17 ad o_17 o := by rw [had17, ho17]; exact hFr.new rfl
  have hF : FO [(101, 1, 111), (101, 2, 112), (101, 3, 113), (101, 4, 114), (101, 5, 115), (101, 7, 117), (101, 8, 118), (101, 9, 119)] ad_17 o_17 := by rw [had17, ho17]; exact hF.new (by decide)
  have e0 : a0 = ad_17 101 := e0.trans (by rw [had17]; exact (upA_n (by decide)).symm)
  obtain ⟨a_17, e_17⟩ : ∃ z, z = ad_17 122 := ⟨_, rfl⟩
  rw [← e_17]
  refine q_putFA hx hb hts hown hW hS (r := 101) (List.mem_append_left _ hr9) rfl k_7 12 (by decide) rfl t_891 rfl hin rfl (t := .array .int) (by decide +kernel) rfl rfl e0 dX6_init_74 (fun H locs hW hS => ?_)
  obtain ⟨o_18, ho18⟩ : ∃ z, z = up2 o_17 101 12 (some a_17) := ⟨_, rfl⟩
  rw [← ho18] at hW
  have hFr : Fr [111, 112, 113, 114, 115, 117, 118, 119, 122] 101 ad_17 ad o_18 o := by rw [ho18]; exact hFr.put (by decide)
  have hF : FO [(101, 1, 111), (101, 2, 112), (101, 3, 113), (101, 4, 114), (101, 5, 115), (101, 7, 117), (101, 8, 118), (101, 9, 119), (101, 12, 122)] ad_17 o_18 := by rw [ho18]; exact hF.put (by decide) (by rw [e_17]) rfl
  refine lv_aload_n hx hb dX6_init_77 rfl (lv_at hl 0 rfl) ?_
  refine lv_sipush (v := 180) hx hb dX6_init_78 (by decide) ?_
  refine q_newa hx hb hts t_136 h0 hW hS 124 (nm_new hL (by decide) (by decide)) rfl rfl (by decide) (by first | decide | omega | (dsimp only; omega)) (by first | decide | omega | (dsimp only; omega)) dX6_init_81 (fun ad_19 H q_19 had19 hW hS => ?_)
  have hW : WD G (L ++ [111, 112, 113, 114, 115, 117, 118, 119, 122, 124]) ad_19 v (up1 o_18 124 nOp) w s H := by
    rw [List.append_assoc, up1_self (hv 124 (by decide))] at hW
    exact hW
  obtain ⟨o_19, ho19⟩ : ∃ z, z = up1 o_18 124 nOp := ⟨_, rfl⟩
  rw [← ho19] at hW
  have hFr : Fr [111, 112, 113, 114, 115, 117, 118, 119, 122, 124] 101 ad_19 ad o_19 o := by rw [had19, ho19]; exact hFr.new rfl
  have hF : FO [(101, 1, 111), (101, 2, 112), (101, 3, 113), (101, 4, 114), (101, 5, 115), (101, 7, 117), (101, 8, 118), (101, 9, 119), (101, 12, 122)] ad_19 o_19 := by rw [had19, ho19]; exact hF.new (by decide)
  have e0 : a0 = ad_19 101 := e0.trans (by rw [had19]; exact (upA_n (by decide)).symm)
  obtain ⟨a_19, e_19⟩ : ∃ z, z = ad_19 124 := ⟨_, rfl⟩
  rw [← e_19]
  refine q_putFA hx hb hts hown hW hS (r := 101) (List.mem_append_left _ hr9) rfl k_7 14 (by decide) rfl t_895 rfl hin rfl (t := .array .int) (by decide +kernel) rfl rfl e0 dX6_init_83 (fun H locs hW hS => ?_)
  obtain ⟨o_20, ho20⟩ : ∃ z, z = up2 o_19 101 14 (some a_19) := ⟨_, rfl⟩
  rw [← ho20] at hW
  have hFr : Fr [111, 112, 113, 114, 115, 117, 118, 119, 122, 124] 101 ad_19 ad o_20 o := by rw [ho20]; exact hFr.put (by decide)
  have hF : FO [(101, 1, 111), (101, 2, 112), (101, 3, 113), (101, 4, 114), (101, 5, 115), (101, 7, 117), (101, 8, 118), (101, 9, 119), (101, 12, 122), (101, 14, 124)] ad_19 o_20 := by rw [ho20]; exact hF.put (by decide) (by rw [e_19]) rfl
  refine lv_aload_n hx hb dX6_init_86 rfl (lv_at hl 0 rfl) ?_
  refine lv_bipush (v := 6) hx hb dX6_init_87 (by decide) ?_
  refine q_newa hx hb hts t_136 h0 hW hS 126 (nm_new hL (by decide) (by decide)) rfl rfl (by decide) (by first | decide | omega | (dsimp only; omega)) (by first | decide | omega | (dsimp only; omega)) dX6_init_89 (fun ad_21 H q_21 had21 hW hS => ?_)
  have hW : WD G (L ++ [111, 112, 113, 114, 115, 117, 118, 119, 122, 124, 126]) ad_21 v (up1 o_20 126 nOp) w s H := by
    rw [List.append_assoc, up1_self (hv 126 (by decide))] at hW
    exact hW
  obtain ⟨o_21, ho21⟩ : ∃ z, z = up1 o_20 126 nOp := ⟨_, rfl⟩
  rw [← ho21] at hW
  have hFr : Fr [111, 112, 113, 114, 115, 117, 118, 119, 122, 124, 126] 101 ad_21 ad o_21 o := by rw [had21, ho21]; exact hFr.new rfl
  have hF : FO [(101, 1, 111), (101, 2, 112), (101, 3, 113), (101, 4, 114), (101, 5, 115), (101, 7, 117), (101, 8, 118), (101, 9, 119), (101, 12, 122), (101, 14, 124)] ad_21 o_21 := by rw [had21, ho21]; exact hF.new (by decide)
  have e0 : a0 = ad_21 101 := e0.trans (by rw [had21]; exact (upA_n (by decide)).symm)
  obtain ⟨a_21, e_21⟩ : ∃ z, z = ad_21 126 := ⟨_, rfl⟩
  rw [← e_21]
  refine q_putFA hx hb hts hown hW hS (r := 101) (List.mem_append_left _ hr9) rfl k_7 16 (by decide) rfl t_899 rfl hin rfl (t := .array .int) (by decide +kernel) rfl rfl e0 dX6_init_91 (fun H locs hW hS => ?_)
  obtain ⟨o_22, ho22⟩ : ∃ z, z = up2 o_21 101 16 (some a_21) := ⟨_, rfl⟩
  rw [← ho22] at hW
  have hFr : Fr [111, 112, 113, 114, 115, 117, 118, 119, 122, 124, 126] 101 ad_21 ad o_22 o := by rw [ho22]; exact hFr.put (by decide)
  have hF : FO [(101, 1, 111), (101, 2, 112), (101, 3, 113), (101, 4, 114), (101, 5, 115), (101, 7, 117), (101, 8, 118), (101, 9, 119), (101, 12, 122), (101, 14, 124), (101, 16, 126)] ad_21 o_22 := by rw [ho22]; exact hF.put (by decide) (by rw [e_21]) rfl
  refine lv_aload_n hx hb dX6_init_94 rfl (lv_at hl 0 rfl) ?_
  refine lv_bipush (v := 6) hx hb dX6_init_95 (by decide) ?_
  refine q_newa hx hb hts t_136 h0 hW hS 127 (nm_new hL (by decide) (by decide)) rfl rfl (by decide) (by first | decide | omega | (dsimp only; omega)) (by first | decide | omega | (dsimp only; omega)) dX6_init_97 (fun ad_23 H q_23 had23 hW hS => ?_)
  have hW : WD G (L ++ [111, 112, 113, 114, 115, 117, 118, 119, 122, 124, 126, 127]) ad_23 v (up1 o_22 127 nOp) w s H := by
    rw [List.append_assoc, up1_self (hv 127 (by decide))] at hW
    exact hW
  obtain ⟨o_23, ho23⟩ : ∃ z, z = up1 o_22 127 nOp := ⟨_, rfl⟩
  rw [← ho23] at hW
  have hFr : Fr [111, 112, 113, 114, 115, 117, 118, 119, 122, 124, 126, 127] 101 ad_23 ad o_23 o := by rw [had23, ho23]; exact hFr.new rfl
  have hF : FO [(101, 1, 111), (101, 2, 112), (101, 3, 113), (101, 4, 114), (101, 5, 115), (101, 7, 117), (101, 8, 118), (101, 9, 119), (101, 12, 122), (101, 14, 124), (101, 16, 126)] ad_23 o_23 := by rw [had23, ho23]; exact hF.new (by decide)
  have e0 : a0 = ad_23 101 := e0.trans (by rw [had23]; exact (upA_n (by decide)).symm)
  obtain ⟨a_23, e_23⟩ : ∃ z, z = ad_23 127 := ⟨_, rfl⟩
  rw [← e_23]
  refine q_putFA hx hb hts hown hW hS (r := 101) (List.mem_append_left _ hr9) rfl k_7 17 (by decide) rfl t_901 rfl hin rfl (t := .array .int) (by decide +kernel) rfl rfl e0 dX6_init_99 (fun H locs hW hS => ?_)
  obtain ⟨o_24, ho24⟩ : ∃ z, z = up2 o_23 101 17 (some a_23) := ⟨_, rfl⟩
  rw [← ho24] at hW
  have hFr : Fr [111, 112, 113, 114, 115, 117, 118, 119, 122, 124, 126, 127] 101 ad_23 ad o_24 o := by rw [ho24]; exact hFr.put (by decide)
  have hF : FO [(101, 1, 111), (101, 2, 112), (101, 3, 113), (101, 4, 114), (101, 5, 115), (101, 7, 117), (101, 8, 118), (101, 9, 119), (101, 12, 122), (101, 14, 124), (101, 16, 126), (101, 17, 127)] ad_23 o_24 := by rw [ho24]; exact hF.put (by decide) (by rw [e_23]) rfl
  refine lv_aload_n hx hb dX6_init_102 rfl (lv_at hl 0 rfl) ?_
  refine lv_bipush (v := 6) hx hb dX6_init_103 (by decide) ?_
  refine q_newa hx hb hts t_136 h0 hW hS 128 (nm_new hL (by decide) (by decide)) rfl rfl (by decide) (by first | decide | omega | (dsimp only; omega)) (by first | decide | omega | (dsimp only; omega)) dX6_init_105 (fun ad_25 H q_25 had25 hW hS => ?_)
  have hW : WD G (L ++ [111, 112, 113, 114, 115, 117, 118, 119, 122, 124, 126, 127, 128]) ad_25 v (up1 o_24 128 nOp) w s H := by
    rw [List.append_assoc, up1_self (hv 128 (by decide))] at hW
    exact hW
  obtain ⟨o_25, ho25⟩ : ∃ z, z = up1 o_24 128 nOp := ⟨_, rfl⟩
  rw [← ho25] at hW
  have hFr : Fr [111, 112, 113, 114, 115, 117, 118, 119, 122, 124, 126, 127, 128] 101 ad_25 ad o_25 o := by rw [had25, ho25]; exact hFr.new rfl
  have hF : FO [(101, 1, 111), (101, 2, 112), (101, 3, 113), (101, 4, 114), (101, 5, 115), (101, 7, 117), (101, 8, 118), (101, 9, 119), (101, 12, 122), (101, 14, 124), (101, 16, 126), (101, 17, 127)] ad_25 o_25 := by rw [had25, ho25]; exact hF.new (by decide)
  have e0 : a0 = ad_25 101 := e0.trans (by rw [had25]; exact (upA_n (by decide)).symm)
  obtain ⟨a_25, e_25⟩ : ∃ z, z = ad_25 128 := ⟨_, rfl⟩
  rw [← e_25]
  refine q_putFA hx hb hts hown hW hS (r := 101) (List.mem_append_left _ hr9) rfl k_7 18 (by decide) rfl t_902 rfl hin rfl (t := .array .int) (by decide +kernel) rfl rfl e0 dX6_init_107 (fun H locs hW hS => ?_)
  obtain ⟨o_26, ho26⟩ : ∃ z, z = up2 o_25 101 18 (some a_25) := ⟨_, rfl⟩
  rw [← ho26] at hW
  have hFr : Fr [111, 112, 113, 114, 115, 117, 118, 119, 122, 124, 126, 127, 128] 101 ad_25 ad o_26 o := by rw [ho26]; exact hFr.put (by decide)
  have hF : FO [(101, 1, 111), (101, 2, 112), (101, 3, 113), (101, 4, 114), (101, 5, 115), (101, 7, 117), (101, 8, 118), (101, 9, 119), (101, 12, 122), (101, 14, 124), (101, 16, 126), (101, 17, 127), (101, 18, 128)] ad_25 o_26 := by rw [ho26]; exact hF.put (by decide) (by rw [e_25]) rfl
  exact q_vretw hx hb hr hlocks hW hS (by first | decide | omega | (dsimp only; omega)) (by first | decide | omega | (dsimp only; omega)) dX6_init_110 ⟨_, _, rfl, hFr, hF⟩

set_option maxHeartbeats 8000000 in
set_option maxRecDepth 100000 in
theorem c_X6_init2 (l : Launch) {G : GG} {L : List Nat} {ad : Nat → Nat} {v : Nat → Nat → Int32} {o : Nat → Nat → Option Nat} {w : Nat → Int64} (hr9 : 102 ∈ L) (hL : ∀ x, x ∈ [141, 142, 143, 144, 145, 147, 148, 149, 152, 154, 156, 157, 158] → x ∉ L) (hv : ∀ x, x ∈ [141, 142, 143, 144, 145, 147, 148, 149, 152, 154, 156, 157, 158] → v x = z32) : CtVw l G L ad v o w yX6_init cX6_init 1 ({ frames := 1, cells := 13, slots := 798, locals := 12 }) [.ref (ad 102)] (fun P => ∃ ad1 o1, P = (L ++ [141, 142, 143, 144, 145, 147, 148, 149, 152, 154, 156, 157, 158], ad1, v, o1) ∧ Fr [141, 142, 143, 144, 145, 147, 148, 149, 152, 154, 156, 157, 158] 102 ad1 ad o1 o ∧ FO [(102, 1, 141), (102, 2, 142), (102, 3, 143), (102, 4, 144), (102, 5, 145), (102, 7, 147), (102, 8, 148), (102, 9, 149), (102, 12, 152), (102, 14, 154), (102, 16, 156), (102, 17, 157), (102, 18, 158)] ad1 o1) := by
  obtain ⟨a0, e0⟩ : ∃ z, z = ad 102 := ⟨_, rfl⟩
  rw [← e0]
  refine Met.ofW (cc := cX6_init) (maxL := 1) (ret := none) (by decide) rfl ?_
  intro p e s m args below meth c s₁ B hml hv9
  obtain ⟨rfl, hE, h0, hW⟩ := hv9
  have hx := B.exec; have hb := B.bytes; have hr := B.returns; have hts := hE.hts (args := ([.ref a0] : List Value).toArray); have hown : s.vm.findClass RX6 = some m.cls := findClass_of_methodNamed B.named; have hlocks := B.notSynchronized; have hin := (name_of_methodNamed B.named B.method).1
  have hl := lv_entry ([.ref a0] : List Value) (n := 1) (Nat.le_of_ble_eq_true rfl)
  rw [lg_entry_eq]
  generalize (lg_sl ([.ref a0] : List Value) ++ List.replicate (1 - (lg_sl ([.ref a0] : List Value)).length) Slot.unset).toArray = ls at hl ⊢
  generalize hH : s.heap = H at hW ⊢
  have hS : va_S (Ab G.2.2.1) s.heap H [] := hH ▸ va_S.rf
  obtain ⟨locs, hlc⟩ : ∃ z : List Loc, z = [] := ⟨_, rfl⟩
  rw [← hlc] at hS ⊢
  have hl : lv_has ls 1 [(0, .ref a0)] := hl
  have hFr : Fr [] 102 ad ad o o := Fr.rf
  have hF : FO [] ad o := FO.nil
  refine lv_aload_n hx hb dX6_init_0 rfl (lv_at hl 0 rfl) ?_
  refine q_oinit hx hb hml hl.1 hts hown t_866 t_75 t_76 dX6_init_1 (Nat.le_of_ble_eq_true rfl) (Nat.le_of_ble_eq_true rfl) ?_
  refine lv_aload_n hx hb dX6_init_4 rfl (lv_at hl 0 rfl) ?_
  refine lv_bipush (v := 6) hx hb dX6_init_5 (by decide) ?_
  refine q_newa hx hb hts t_136 h0 hW hS 141 (hL _ (by decide)) rfl rfl (by decide) (by first | decide | omega | (dsimp only; omega)) (by first | decide | omega | (dsimp only; omega)) dX6_init_7 (fun ad_1 H q_1 had1 hW hS => ?_)
  have hW : WD G (L ++ [141]) ad_1 v (up1 o 141 nOp) w s H := by
    rw [up1_self (hv 141 (by decide))] at hW
    exact hW
  obtain ⟨o_1, ho1⟩ : ∃ z, z = up1 o 141 nOp := ⟨_, rfl⟩
  rw [← ho1] at hW
  have hFr : Fr [141] 102 ad_1 ad o_1 o := by rw [had1, ho1]; exact hFr.new rfl
  have hF : FO [] ad_1 o_1 := by rw [had1, ho1]; exact hF.new (by decide)
  have e0 : a0 = ad_1 102 := e0.trans (by rw [had1]; exact (upA_n (by decide)).symm)
  obtain ⟨a_1, e_1⟩ : ∃ z, z = ad_1 141 := ⟨_, rfl⟩
  rw [← e_1]
  refine q_putFA hx hb hts hown hW hS (r := 102) (List.mem_append_left _ hr9) rfl k_7 1 (by decide) rfl t_869 rfl hin rfl (t := .array .int) (by decide +kernel) rfl rfl e0 dX6_init_9 (fun H locs hW hS => ?_)
  obtain ⟨o_2, ho2⟩ : ∃ z, z = up2 o_1 102 1 (some a_1) := ⟨_, rfl⟩
  rw [← ho2] at hW
  have hFr : Fr [141] 102 ad_1 ad o_2 o := by rw [ho2]; exact hFr.put (by decide)
  have hF : FO [(102, 1, 141)] ad_1 o_2 := by rw [ho2]; exact hF.put (by decide) (by rw [e_1]) rfl
  refine lv_aload_n hx hb dX6_init_12 rfl (lv_at hl 0 rfl) ?_
  refine lv_bipush (v := 18) hx hb dX6_init_13 (by decide) ?_
  refine q_newa hx hb hts t_136 h0 hW hS 142 (nm_new hL (by decide) (by decide)) rfl rfl (by decide) (by first | decide | omega | (dsimp only; omega)) (by first | decide | omega | (dsimp only; omega)) dX6_init_15 (fun ad_3 H q_3 had3 hW hS => ?_)
  have hW : WD G (L ++ [141, 142]) ad_3 v (up1 o_2 142 nOp) w s H := by
    rw [List.append_assoc, up1_self (hv 142 (by decide))] at hW
    exact hW
  obtain ⟨o_3, ho3⟩ : ∃ z, z = up1 o_2 142 nOp := ⟨_, rfl⟩
  rw [← ho3] at hW
  have hFr : Fr [141, 142] 102 ad_3 ad o_3 o := by rw [had3, ho3]; exact hFr.new rfl
  have hF : FO [(102, 1, 141)] ad_3 o_3 := by rw [had3, ho3]; exact hF.new (by decide)
  have e0 : a0 = ad_3 102 := e0.trans (by rw [had3]; exact (upA_n (by decide)).symm)
  obtain ⟨a_3, e_3⟩ : ∃ z, z = ad_3 142 := ⟨_, rfl⟩
  rw [← e_3]
  refine q_putFA hx hb hts hown hW hS (r := 102) (List.mem_append_left _ hr9) rfl k_7 2 (by decide) rfl t_871 rfl hin rfl (t := .array .int) (by decide +kernel) rfl rfl e0 dX6_init_17 (fun H locs hW hS => ?_)
  obtain ⟨o_4, ho4⟩ : ∃ z, z = up2 o_3 102 2 (some a_3) := ⟨_, rfl⟩
  rw [← ho4] at hW
  have hFr : Fr [141, 142] 102 ad_3 ad o_4 o := by rw [ho4]; exact hFr.put (by decide)
  have hF : FO [(102, 1, 141), (102, 2, 142)] ad_3 o_4 := by rw [ho4]; exact hF.put (by decide) (by rw [e_3]) rfl
  refine lv_aload_n hx hb dX6_init_20 rfl (lv_at hl 0 rfl) ?_
  refine lv_bipush (v := 6) hx hb dX6_init_21 (by decide) ?_
  refine q_newa hx hb hts t_136 h0 hW hS 143 (nm_new hL (by decide) (by decide)) rfl rfl (by decide) (by first | decide | omega | (dsimp only; omega)) (by first | decide | omega | (dsimp only; omega)) dX6_init_23 (fun ad_5 H q_5 had5 hW hS => ?_)
  have hW : WD G (L ++ [141, 142, 143]) ad_5 v (up1 o_4 143 nOp) w s H := by
    rw [List.append_assoc, up1_self (hv 143 (by decide))] at hW
    exact hW
  obtain ⟨o_5, ho5⟩ : ∃ z, z = up1 o_4 143 nOp := ⟨_, rfl⟩
  rw [← ho5] at hW
  have hFr : Fr [141, 142, 143] 102 ad_5 ad o_5 o := by rw [had5, ho5]; exact hFr.new rfl
  have hF : FO [(102, 1, 141), (102, 2, 142)] ad_5 o_5 := by rw [had5, ho5]; exact hF.new (by decide)
  have e0 : a0 = ad_5 102 := e0.trans (by rw [had5]; exact (upA_n (by decide)).symm)
  obtain ⟨a_5, e_5⟩ : ∃ z, z = ad_5 143 := ⟨_, rfl⟩
  rw [← e_5]
  refine q_putFA hx hb hts hown hW hS (r := 102) (List.mem_append_left _ hr9) rfl k_7 3 (by decide) rfl t_873 rfl hin rfl (t := .array .int) (by decide +kernel) rfl rfl e0 dX6_init_25 (fun H locs hW hS => ?_)
  obtain ⟨o_6, ho6⟩ : ∃ z, z = up2 o_5 102 3 (some a_5) := ⟨_, rfl⟩
  rw [← ho6] at hW
  have hFr : Fr [141, 142, 143] 102 ad_5 ad o_6 o := by rw [ho6]; exact hFr.put (by decide)
  have hF : FO [(102, 1, 141), (102, 2, 142), (102, 3, 143)] ad_5 o_6 := by rw [ho6]; exact hF.put (by decide) (by rw [e_5]) rfl
  refine lv_aload_n hx hb dX6_init_28 rfl (lv_at hl 0 rfl) ?_
  refine lv_bipush (v := 6) hx hb dX6_init_29 (by decide) ?_
  refine q_newa hx hb hts t_136 h0 hW hS 144 (nm_new hL (by decide) (by decide)) rfl rfl (by decide) (by first | decide | omega | (dsimp only; omega)) (by first | decide | omega | (dsimp only; omega)) dX6_init_31 (fun ad_7 H q_7 had7 hW hS => ?_)
  have hW : WD G (L ++ [141, 142, 143, 144]) ad_7 v (up1 o_6 144 nOp) w s H := by
    rw [List.append_assoc, up1_self (hv 144 (by decide))] at hW
    exact hW
  obtain ⟨o_7, ho7⟩ : ∃ z, z = up1 o_6 144 nOp := ⟨_, rfl⟩
  rw [← ho7] at hW
  have hFr : Fr [141, 142, 143, 144] 102 ad_7 ad o_7 o := by rw [had7, ho7]; exact hFr.new rfl
  have hF : FO [(102, 1, 141), (102, 2, 142), (102, 3, 143)] ad_7 o_7 := by rw [had7, ho7]; exact hF.new (by decide)
  have e0 : a0 = ad_7 102 := e0.trans (by rw [had7]; exact (upA_n (by decide)).symm)
  obtain ⟨a_7, e_7⟩ : ∃ z, z = ad_7 144 := ⟨_, rfl⟩
  rw [← e_7]
  refine q_putFA hx hb hts hown hW hS (r := 102) (List.mem_append_left _ hr9) rfl k_7 4 (by decide) rfl t_875 rfl hin rfl (t := .array .int) (by decide +kernel) rfl rfl e0 dX6_init_33 (fun H locs hW hS => ?_)
  obtain ⟨o_8, ho8⟩ : ∃ z, z = up2 o_7 102 4 (some a_7) := ⟨_, rfl⟩
  rw [← ho8] at hW
  have hFr : Fr [141, 142, 143, 144] 102 ad_7 ad o_8 o := by rw [ho8]; exact hFr.put (by decide)
  have hF : FO [(102, 1, 141), (102, 2, 142), (102, 3, 143), (102, 4, 144)] ad_7 o_8 := by rw [ho8]; exact hF.put (by decide) (by rw [e_7]) rfl
  refine lv_aload_n hx hb dX6_init_36 rfl (lv_at hl 0 rfl) ?_
  refine lv_bipush (v := 6) hx hb dX6_init_37 (by decide) ?_
  refine q_newa hx hb hts t_136 h0 hW hS 145 (nm_new hL (by decide) (by decide)) rfl rfl (by decide) (by first | decide | omega | (dsimp only; omega)) (by first | decide | omega | (dsimp only; omega)) dX6_init_39 (fun ad_9 H q_9 had9 hW hS => ?_)
  have hW : WD G (L ++ [141, 142, 143, 144, 145]) ad_9 v (up1 o_8 145 nOp) w s H := by
    rw [List.append_assoc, up1_self (hv 145 (by decide))] at hW
    exact hW
  obtain ⟨o_9, ho9⟩ : ∃ z, z = up1 o_8 145 nOp := ⟨_, rfl⟩
  rw [← ho9] at hW
  have hFr : Fr [141, 142, 143, 144, 145] 102 ad_9 ad o_9 o := by rw [had9, ho9]; exact hFr.new rfl
  have hF : FO [(102, 1, 141), (102, 2, 142), (102, 3, 143), (102, 4, 144)] ad_9 o_9 := by rw [had9, ho9]; exact hF.new (by decide)
  have e0 : a0 = ad_9 102 := e0.trans (by rw [had9]; exact (upA_n (by decide)).symm)
  obtain ⟨a_9, e_9⟩ : ∃ z, z = ad_9 145 := ⟨_, rfl⟩
  rw [← e_9]
  refine q_putFA hx hb hts hown hW hS (r := 102) (List.mem_append_left _ hr9) rfl k_7 5 (by decide) rfl t_877 rfl hin rfl (t := .array .int) (by decide +kernel) rfl rfl e0 dX6_init_41 (fun H locs hW hS => ?_)
  obtain ⟨o_10, ho10⟩ : ∃ z, z = up2 o_9 102 5 (some a_9) := ⟨_, rfl⟩
  rw [← ho10] at hW
  have hFr : Fr [141, 142, 143, 144, 145] 102 ad_9 ad o_10 o := by rw [ho10]; exact hFr.put (by decide)
  have hF : FO [(102, 1, 141), (102, 2, 142), (102, 3, 143), (102, 4, 144), (102, 5, 145)] ad_9 o_10 := by rw [ho10]; exact hF.put (by decide) (by rw [e_9]) rfl
  refine lv_aload_n hx hb dX6_init_44 rfl (lv_at hl 0 rfl) ?_
  refine lv_bipush (v := 84) hx hb dX6_init_45 (by decide) ?_
  refine q_newa hx hb hts t_136 h0 hW hS 147 (nm_new hL (by decide) (by decide)) rfl rfl (by decide) (by first | decide | omega | (dsimp only; omega)) (by first | decide | omega | (dsimp only; omega)) dX6_init_47 (fun ad_11 H q_11 had11 hW hS => ?_)
  have hW : WD G (L ++ [141, 142, 143, 144, 145, 147]) ad_11 v (up1 o_10 147 nOp) w s H := by
    rw [List.append_assoc, up1_self (hv 147 (by decide))] at hW
    exact hW
  obtain ⟨o_11, ho11⟩ : ∃ z, z = up1 o_10 147 nOp := ⟨_, rfl⟩
  rw [← ho11] at hW
  have hFr : Fr [141, 142, 143, 144, 145, 147] 102 ad_11 ad o_11 o := by rw [had11, ho11]; exact hFr.new rfl
  have hF : FO [(102, 1, 141), (102, 2, 142), (102, 3, 143), (102, 4, 144), (102, 5, 145)] ad_11 o_11 := by rw [had11, ho11]; exact hF.new (by decide)
  have e0 : a0 = ad_11 102 := e0.trans (by rw [had11]; exact (upA_n (by decide)).symm)
  obtain ⟨a_11, e_11⟩ : ∃ z, z = ad_11 147 := ⟨_, rfl⟩
  rw [← e_11]
  refine q_putFA hx hb hts hown hW hS (r := 102) (List.mem_append_left _ hr9) rfl k_7 7 (by decide) rfl t_881 rfl hin rfl (t := .array .int) (by decide +kernel) rfl rfl e0 dX6_init_49 (fun H locs hW hS => ?_)
  obtain ⟨o_12, ho12⟩ : ∃ z, z = up2 o_11 102 7 (some a_11) := ⟨_, rfl⟩
  rw [← ho12] at hW
  have hFr : Fr [141, 142, 143, 144, 145, 147] 102 ad_11 ad o_12 o := by rw [ho12]; exact hFr.put (by decide)
  have hF : FO [(102, 1, 141), (102, 2, 142), (102, 3, 143), (102, 4, 144), (102, 5, 145), (102, 7, 147)] ad_11 o_12 := by rw [ho12]; exact hF.put (by decide) (by rw [e_11]) rfl
  refine lv_aload_n hx hb dX6_init_52 rfl (lv_at hl 0 rfl) ?_
  refine lv_bipush (v := 12) hx hb dX6_init_53 (by decide) ?_
  refine q_newaz hx hb hts t_942 h0 hW hS 148 (nm_new hL (by decide) (by decide)) rfl rfl (by decide) (by first | decide | omega | (dsimp only; omega)) (by first | decide | omega | (dsimp only; omega)) dX6_init_55 (fun ad_13 H q_13 had13 hW hS => ?_)
  have hW : WD G (L ++ [141, 142, 143, 144, 145, 147, 148]) ad_13 v (up1 o_12 148 nOp) w s H := by
    rw [List.append_assoc, up1_self (hv 148 (by decide))] at hW
    exact hW
  obtain ⟨o_13, ho13⟩ : ∃ z, z = up1 o_12 148 nOp := ⟨_, rfl⟩
  rw [← ho13] at hW
  have hFr : Fr [141, 142, 143, 144, 145, 147, 148] 102 ad_13 ad o_13 o := by rw [had13, ho13]; exact hFr.new rfl
  have hF : FO [(102, 1, 141), (102, 2, 142), (102, 3, 143), (102, 4, 144), (102, 5, 145), (102, 7, 147)] ad_13 o_13 := by rw [had13, ho13]; exact hF.new (by decide)
  have e0 : a0 = ad_13 102 := e0.trans (by rw [had13]; exact (upA_n (by decide)).symm)
  obtain ⟨a_13, e_13⟩ : ∃ z, z = ad_13 148 := ⟨_, rfl⟩
  rw [← e_13]
  refine q_putFA hx hb hts hown hW hS (r := 102) (List.mem_append_left _ hr9) rfl k_7 8 (by decide) rfl t_883 rfl hin rfl (t := .array .boolean) (by decide +kernel) rfl rfl e0 dX6_init_57 (fun H locs hW hS => ?_)
  obtain ⟨o_14, ho14⟩ : ∃ z, z = up2 o_13 102 8 (some a_13) := ⟨_, rfl⟩
  rw [← ho14] at hW
  have hFr : Fr [141, 142, 143, 144, 145, 147, 148] 102 ad_13 ad o_14 o := by rw [ho14]; exact hFr.put (by decide)
  have hF : FO [(102, 1, 141), (102, 2, 142), (102, 3, 143), (102, 4, 144), (102, 5, 145), (102, 7, 147), (102, 8, 148)] ad_13 o_14 := by rw [ho14]; exact hF.put (by decide) (by rw [e_13]) rfl
  refine lv_aload_n hx hb dX6_init_60 rfl (lv_at hl 0 rfl) ?_
  refine lv_sipush (v := 432) hx hb dX6_init_61 (by decide) ?_
  refine q_newa hx hb hts t_136 h0 hW hS 149 (nm_new hL (by decide) (by decide)) rfl rfl (by decide) (by first | decide | omega | (dsimp only; omega)) (by first | decide | omega | (dsimp only; omega)) dX6_init_64 (fun ad_15 H q_15 had15 hW hS => ?_)
  have hW : WD G (L ++ [141, 142, 143, 144, 145, 147, 148, 149]) ad_15 v (up1 o_14 149 nOp) w s H := by
    rw [List.append_assoc, up1_self (hv 149 (by decide))] at hW
    exact hW
  obtain ⟨o_15, ho15⟩ : ∃ z, z = up1 o_14 149 nOp := ⟨_, rfl⟩
  rw [← ho15] at hW
  have hFr : Fr [141, 142, 143, 144, 145, 147, 148, 149] 102 ad_15 ad o_15 o := by rw [had15, ho15]; exact hFr.new rfl
  have hF : FO [(102, 1, 141), (102, 2, 142), (102, 3, 143), (102, 4, 144), (102, 5, 145), (102, 7, 147), (102, 8, 148)] ad_15 o_15 := by rw [had15, ho15]; exact hF.new (by decide)
  have e0 : a0 = ad_15 102 := e0.trans (by rw [had15]; exact (upA_n (by decide)).symm)
  obtain ⟨a_15, e_15⟩ : ∃ z, z = ad_15 149 := ⟨_, rfl⟩
  rw [← e_15]
  refine q_putFA hx hb hts hown hW hS (r := 102) (List.mem_append_left _ hr9) rfl k_7 9 (by decide) rfl t_885 rfl hin rfl (t := .array .int) (by decide +kernel) rfl rfl e0 dX6_init_66 (fun H locs hW hS => ?_)
  obtain ⟨o_16, ho16⟩ : ∃ z, z = up2 o_15 102 9 (some a_15) := ⟨_, rfl⟩
  rw [← ho16] at hW
  have hFr : Fr [141, 142, 143, 144, 145, 147, 148, 149] 102 ad_15 ad o_16 o := by rw [ho16]; exact hFr.put (by decide)
  have hF : FO [(102, 1, 141), (102, 2, 142), (102, 3, 143), (102, 4, 144), (102, 5, 145), (102, 7, 147), (102, 8, 148), (102, 9, 149)] ad_15 o_16 := by rw [ho16]; exact hF.put (by decide) (by rw [e_15]) rfl
  refine lv_aload_n hx hb dX6_init_69 rfl (lv_at hl 0 rfl) ?_
  refine lv_bipush (v := 30) hx hb dX6_init_70 (by decide) ?_
  refine q_newa hx hb hts t_136 h0 hW hS 152 (nm_new hL (by decide) (by decide)) rfl rfl (by decide) (by first | decide | omega | (dsimp only; omega)) (by first | decide | omega | (dsimp only; omega)) dX6_init_72 (fun ad_17 H q_17 had17 hW hS => ?_)
  have hW : WD G (L ++ [141, 142, 143, 144, 145, 147, 148, 149, 152]) ad_17 v (up1 o_16 152 nOp) w s H := by
    rw [List.append_assoc, up1_self (hv 152 (by decide))] at hW
    exact hW
  obtain ⟨o_17, ho17⟩ : ∃ z, z = up1 o_16 152 nOp := ⟨_, rfl⟩
  rw [← ho17] at hW
  have hFr : Fr [141, 142, 143, 144, 145, 147, 148, 149, 152] 102 ad_17 ad o_17 o := by rw [had17, ho17]; exact hFr.new rfl
  have hF : FO [(102, 1, 141), (102, 2, 142), (102, 3, 143), (102, 4, 144), (102, 5, 145), (102, 7, 147), (102, 8, 148), (102, 9, 149)] ad_17 o_17 := by rw [had17, ho17]; exact hF.new (by decide)
  have e0 : a0 = ad_17 102 := e0.trans (by rw [had17]; exact (upA_n (by decide)).symm)
  obtain ⟨a_17, e_17⟩ : ∃ z, z = ad_17 152 := ⟨_, rfl⟩
  rw [← e_17]
  refine q_putFA hx hb hts hown hW hS (r := 102) (List.mem_append_left _ hr9) rfl k_7 12 (by decide) rfl t_891 rfl hin rfl (t := .array .int) (by decide +kernel) rfl rfl e0 dX6_init_74 (fun H locs hW hS => ?_)
  obtain ⟨o_18, ho18⟩ : ∃ z, z = up2 o_17 102 12 (some a_17) := ⟨_, rfl⟩
  rw [← ho18] at hW
  have hFr : Fr [141, 142, 143, 144, 145, 147, 148, 149, 152] 102 ad_17 ad o_18 o := by rw [ho18]; exact hFr.put (by decide)
  have hF : FO [(102, 1, 141), (102, 2, 142), (102, 3, 143), (102, 4, 144), (102, 5, 145), (102, 7, 147), (102, 8, 148), (102, 9, 149), (102, 12, 152)] ad_17 o_18 := by rw [ho18]; exact hF.put (by decide) (by rw [e_17]) rfl
  refine lv_aload_n hx hb dX6_init_77 rfl (lv_at hl 0 rfl) ?_
  refine lv_sipush (v := 180) hx hb dX6_init_78 (by decide) ?_
  refine q_newa hx hb hts t_136 h0 hW hS 154 (nm_new hL (by decide) (by decide)) rfl rfl (by decide) (by first | decide | omega | (dsimp only; omega)) (by first | decide | omega | (dsimp only; omega)) dX6_init_81 (fun ad_19 H q_19 had19 hW hS => ?_)
  have hW : WD G (L ++ [141, 142, 143, 144, 145, 147, 148, 149, 152, 154]) ad_19 v (up1 o_18 154 nOp) w s H := by
    rw [List.append_assoc, up1_self (hv 154 (by decide))] at hW
    exact hW
  obtain ⟨o_19, ho19⟩ : ∃ z, z = up1 o_18 154 nOp := ⟨_, rfl⟩
  rw [← ho19] at hW
  have hFr : Fr [141, 142, 143, 144, 145, 147, 148, 149, 152, 154] 102 ad_19 ad o_19 o := by rw [had19, ho19]; exact hFr.new rfl
  have hF : FO [(102, 1, 141), (102, 2, 142), (102, 3, 143), (102, 4, 144), (102, 5, 145), (102, 7, 147), (102, 8, 148), (102, 9, 149), (102, 12, 152)] ad_19 o_19 := by rw [had19, ho19]; exact hF.new (by decide)
  have e0 : a0 = ad_19 102 := e0.trans (by rw [had19]; exact (upA_n (by decide)).symm)
  obtain ⟨a_19, e_19⟩ : ∃ z, z = ad_19 154 := ⟨_, rfl⟩
  rw [← e_19]
  refine q_putFA hx hb hts hown hW hS (r := 102) (List.mem_append_left _ hr9) rfl k_7 14 (by decide) rfl t_895 rfl hin rfl (t := .array .int) (by decide +kernel) rfl rfl e0 dX6_init_83 (fun H locs hW hS => ?_)
  obtain ⟨o_20, ho20⟩ : ∃ z, z = up2 o_19 102 14 (some a_19) := ⟨_, rfl⟩
  rw [← ho20] at hW
  have hFr : Fr [141, 142, 143, 144, 145, 147, 148, 149, 152, 154] 102 ad_19 ad o_20 o := by rw [ho20]; exact hFr.put (by decide)
  have hF : FO [(102, 1, 141), (102, 2, 142), (102, 3, 143), (102, 4, 144), (102, 5, 145), (102, 7, 147), (102, 8, 148), (102, 9, 149), (102, 12, 152), (102, 14, 154)] ad_19 o_20 := by rw [ho20]; exact hF.put (by decide) (by rw [e_19]) rfl
  refine lv_aload_n hx hb dX6_init_86 rfl (lv_at hl 0 rfl) ?_
  refine lv_bipush (v := 6) hx hb dX6_init_87 (by decide) ?_
  refine q_newa hx hb hts t_136 h0 hW hS 156 (nm_new hL (by decide) (by decide)) rfl rfl (by decide) (by first | decide | omega | (dsimp only; omega)) (by first | decide | omega | (dsimp only; omega)) dX6_init_89 (fun ad_21 H q_21 had21 hW hS => ?_)
  have hW : WD G (L ++ [141, 142, 143, 144, 145, 147, 148, 149, 152, 154, 156]) ad_21 v (up1 o_20 156 nOp) w s H := by
    rw [List.append_assoc, up1_self (hv 156 (by decide))] at hW
    exact hW
  obtain ⟨o_21, ho21⟩ : ∃ z, z = up1 o_20 156 nOp := ⟨_, rfl⟩
  rw [← ho21] at hW
  have hFr : Fr [141, 142, 143, 144, 145, 147, 148, 149, 152, 154, 156] 102 ad_21 ad o_21 o := by rw [had21, ho21]; exact hFr.new rfl
  have hF : FO [(102, 1, 141), (102, 2, 142), (102, 3, 143), (102, 4, 144), (102, 5, 145), (102, 7, 147), (102, 8, 148), (102, 9, 149), (102, 12, 152), (102, 14, 154)] ad_21 o_21 := by rw [had21, ho21]; exact hF.new (by decide)
  have e0 : a0 = ad_21 102 := e0.trans (by rw [had21]; exact (upA_n (by decide)).symm)
  obtain ⟨a_21, e_21⟩ : ∃ z, z = ad_21 156 := ⟨_, rfl⟩
  rw [← e_21]
  refine q_putFA hx hb hts hown hW hS (r := 102) (List.mem_append_left _ hr9) rfl k_7 16 (by decide) rfl t_899 rfl hin rfl (t := .array .int) (by decide +kernel) rfl rfl e0 dX6_init_91 (fun H locs hW hS => ?_)
  obtain ⟨o_22, ho22⟩ : ∃ z, z = up2 o_21 102 16 (some a_21) := ⟨_, rfl⟩
  rw [← ho22] at hW
  have hFr : Fr [141, 142, 143, 144, 145, 147, 148, 149, 152, 154, 156] 102 ad_21 ad o_22 o := by rw [ho22]; exact hFr.put (by decide)
  have hF : FO [(102, 1, 141), (102, 2, 142), (102, 3, 143), (102, 4, 144), (102, 5, 145), (102, 7, 147), (102, 8, 148), (102, 9, 149), (102, 12, 152), (102, 14, 154), (102, 16, 156)] ad_21 o_22 := by rw [ho22]; exact hF.put (by decide) (by rw [e_21]) rfl
  refine lv_aload_n hx hb dX6_init_94 rfl (lv_at hl 0 rfl) ?_
  refine lv_bipush (v := 6) hx hb dX6_init_95 (by decide) ?_
  refine q_newa hx hb hts t_136 h0 hW hS 157 (nm_new hL (by decide) (by decide)) rfl rfl (by decide) (by first | decide | omega | (dsimp only; omega)) (by first | decide | omega | (dsimp only; omega)) dX6_init_97 (fun ad_23 H q_23 had23 hW hS => ?_)
  have hW : WD G (L ++ [141, 142, 143, 144, 145, 147, 148, 149, 152, 154, 156, 157]) ad_23 v (up1 o_22 157 nOp) w s H := by
    rw [List.append_assoc, up1_self (hv 157 (by decide))] at hW
    exact hW
  obtain ⟨o_23, ho23⟩ : ∃ z, z = up1 o_22 157 nOp := ⟨_, rfl⟩
  rw [← ho23] at hW
  have hFr : Fr [141, 142, 143, 144, 145, 147, 148, 149, 152, 154, 156, 157] 102 ad_23 ad o_23 o := by rw [had23, ho23]; exact hFr.new rfl
  have hF : FO [(102, 1, 141), (102, 2, 142), (102, 3, 143), (102, 4, 144), (102, 5, 145), (102, 7, 147), (102, 8, 148), (102, 9, 149), (102, 12, 152), (102, 14, 154), (102, 16, 156)] ad_23 o_23 := by rw [had23, ho23]; exact hF.new (by decide)
  have e0 : a0 = ad_23 102 := e0.trans (by rw [had23]; exact (upA_n (by decide)).symm)
  obtain ⟨a_23, e_23⟩ : ∃ z, z = ad_23 157 := ⟨_, rfl⟩
  rw [← e_23]
  refine q_putFA hx hb hts hown hW hS (r := 102) (List.mem_append_left _ hr9) rfl k_7 17 (by decide) rfl t_901 rfl hin rfl (t := .array .int) (by decide +kernel) rfl rfl e0 dX6_init_99 (fun H locs hW hS => ?_)
  obtain ⟨o_24, ho24⟩ : ∃ z, z = up2 o_23 102 17 (some a_23) := ⟨_, rfl⟩
  rw [← ho24] at hW
  have hFr : Fr [141, 142, 143, 144, 145, 147, 148, 149, 152, 154, 156, 157] 102 ad_23 ad o_24 o := by rw [ho24]; exact hFr.put (by decide)
  have hF : FO [(102, 1, 141), (102, 2, 142), (102, 3, 143), (102, 4, 144), (102, 5, 145), (102, 7, 147), (102, 8, 148), (102, 9, 149), (102, 12, 152), (102, 14, 154), (102, 16, 156), (102, 17, 157)] ad_23 o_24 := by rw [ho24]; exact hF.put (by decide) (by rw [e_23]) rfl
  refine lv_aload_n hx hb dX6_init_102 rfl (lv_at hl 0 rfl) ?_
  refine lv_bipush (v := 6) hx hb dX6_init_103 (by decide) ?_
  refine q_newa hx hb hts t_136 h0 hW hS 158 (nm_new hL (by decide) (by decide)) rfl rfl (by decide) (by first | decide | omega | (dsimp only; omega)) (by first | decide | omega | (dsimp only; omega)) dX6_init_105 (fun ad_25 H q_25 had25 hW hS => ?_)
  have hW : WD G (L ++ [141, 142, 143, 144, 145, 147, 148, 149, 152, 154, 156, 157, 158]) ad_25 v (up1 o_24 158 nOp) w s H := by
    rw [List.append_assoc, up1_self (hv 158 (by decide))] at hW
    exact hW
  obtain ⟨o_25, ho25⟩ : ∃ z, z = up1 o_24 158 nOp := ⟨_, rfl⟩
  rw [← ho25] at hW
  have hFr : Fr [141, 142, 143, 144, 145, 147, 148, 149, 152, 154, 156, 157, 158] 102 ad_25 ad o_25 o := by rw [had25, ho25]; exact hFr.new rfl
  have hF : FO [(102, 1, 141), (102, 2, 142), (102, 3, 143), (102, 4, 144), (102, 5, 145), (102, 7, 147), (102, 8, 148), (102, 9, 149), (102, 12, 152), (102, 14, 154), (102, 16, 156), (102, 17, 157)] ad_25 o_25 := by rw [had25, ho25]; exact hF.new (by decide)
  have e0 : a0 = ad_25 102 := e0.trans (by rw [had25]; exact (upA_n (by decide)).symm)
  obtain ⟨a_25, e_25⟩ : ∃ z, z = ad_25 158 := ⟨_, rfl⟩
  rw [← e_25]
  refine q_putFA hx hb hts hown hW hS (r := 102) (List.mem_append_left _ hr9) rfl k_7 18 (by decide) rfl t_902 rfl hin rfl (t := .array .int) (by decide +kernel) rfl rfl e0 dX6_init_107 (fun H locs hW hS => ?_)
  obtain ⟨o_26, ho26⟩ : ∃ z, z = up2 o_25 102 18 (some a_25) := ⟨_, rfl⟩
  rw [← ho26] at hW
  have hFr : Fr [141, 142, 143, 144, 145, 147, 148, 149, 152, 154, 156, 157, 158] 102 ad_25 ad o_26 o := by rw [ho26]; exact hFr.put (by decide)
  have hF : FO [(102, 1, 141), (102, 2, 142), (102, 3, 143), (102, 4, 144), (102, 5, 145), (102, 7, 147), (102, 8, 148), (102, 9, 149), (102, 12, 152), (102, 14, 154), (102, 16, 156), (102, 17, 157), (102, 18, 158)] ad_25 o_26 := by rw [ho26]; exact hF.put (by decide) (by rw [e_25]) rfl
  exact q_vretw hx hb hr hlocks hW hS (by first | decide | omega | (dsimp only; omega)) (by first | decide | omega | (dsimp only; omega)) dX6_init_110 ⟨_, _, rfl, hFr, hF⟩

set_option maxHeartbeats 8000000 in
set_option maxRecDepth 100000 in
theorem c_X7_init (l : Launch) {G : GG} {L : List Nat} {ad : Nat → Nat} {v : Nat → Nat → Int32} {o : Nat → Nat → Option Nat} {w : Nat → Int64} (hr9 : 100 ∈ L) (hL : ∀ x, x ∈ [101, 111, 112, 113, 114, 115, 117, 118, 119, 122, 124, 126, 127, 128, 102, 141, 142, 143, 144, 145, 147, 148, 149, 152, 154, 156, 157, 158] → x ∉ L) (hv : ∀ x, x ∈ [101, 111, 112, 113, 114, 115, 117, 118, 119, 122, 124, 126, 127, 128, 102, 141, 142, 143, 144, 145, 147, 148, 149, 152, 154, 156, 157, 158] → v x = z32) : CtVw l G L ad v o w yX7_init cX7_init 1 ({ frames := 2, cells := 28, slots := 1634, locals := 32 }) [.ref (ad 100)] (fun P => ∃ ad1 o1, P = (L ++ ((([101] ++ [111, 112, 113, 114, 115, 117, 118, 119, 122, 124, 126, 127, 128]) ++ [102]) ++ [141, 142, 143, 144, 145, 147, 148, 149, 152, 154, 156, 157, 158]), ad1, v, o1) ∧ Fr ((([101] ++ [111, 112, 113, 114, 115, 117, 118, 119, 122, 124, 126, 127, 128]) ++ [102]) ++ [141, 142, 143, 144, 145, 147, 148, 149, 152, 154, 156, 157, 158]) 100 ad1 ad o1 o ∧ FO [(101, 1, 111), (101, 2, 112), (101, 3, 113), (101, 4, 114), (101, 5, 115), (101, 7, 117), (101, 8, 118), (101, 9, 119), (101, 12, 122), (101, 14, 124), (101, 16, 126), (101, 17, 127), (101, 18, 128), (100, 1, 101), (102, 1, 141), (102, 2, 142), (102, 3, 143), (102, 4, 144), (102, 5, 145), (102, 7, 147), (102, 8, 148), (102, 9, 149), (102, 12, 152), (102, 14, 154), (102, 16, 156), (102, 17, 157), (102, 18, 158), (100, 2, 102)] ad1 o1) := by
  obtain ⟨a0, e0⟩ : ∃ z, z = ad 100 := ⟨_, rfl⟩
  rw [← e0]
  refine Met.ofW (cc := cX7_init) (maxL := 1) (ret := none) (by decide) rfl ?_
  intro p e s m args below meth c s₁ B hml hv9
  obtain ⟨rfl, hE, h0, hW⟩ := hv9
  have hx := B.exec; have hb := B.bytes; have hr := B.returns; have hts := hE.hts (args := ([.ref a0] : List Value).toArray); have hown : s.vm.findClass RX7 = some m.cls := findClass_of_methodNamed B.named; have hlocks := B.notSynchronized; have hin := (name_of_methodNamed B.named B.method).1
  have hl := lv_entry ([.ref a0] : List Value) (n := 1) (Nat.le_of_ble_eq_true rfl)
  rw [lg_entry_eq]
  generalize (lg_sl ([.ref a0] : List Value) ++ List.replicate (1 - (lg_sl ([.ref a0] : List Value)).length) Slot.unset).toArray = ls at hl ⊢
  generalize hH : s.heap = H at hW ⊢
  have hS : va_S (Ab G.2.2.1) s.heap H [] := hH ▸ va_S.rf
  obtain ⟨locs, hlc⟩ : ∃ z : List Loc, z = [] := ⟨_, rfl⟩
  rw [← hlc] at hS ⊢
  have hl : lv_has ls 1 [(0, .ref a0)] := hl
  have hFr : Fr [] 100 ad ad o o := Fr.rf
  have hF : FO [] ad o := FO.nil
  refine lv_aload_n hx hb dX7_init_0 rfl (lv_at hl 0 rfl) ?_
  refine q_oinit hx hb hml hl.1 hts hown t_860 t_75 t_76 dX7_init_1 (Nat.le_of_ble_eq_true rfl) (Nat.le_of_ble_eq_true rfl) ?_
  refine lv_aload_n hx hb dX7_init_4 rfl (lv_at hl 0 rfl) ?_
  refine q_new hx hb hts hown h0 hW hS 101 (hL _ (by decide)) rfl k_7 t_861 t_862 t_52 (by intro j hj; match j, hj with | 0, _ => rfl | 1, _ => rfl | 2, _ => rfl | 3, _ => rfl | 4, _ => rfl | 5, _ => rfl | 6, _ => rfl | 7, _ => rfl | 8, _ => rfl | 9, _ => rfl | 10, _ => rfl | 11, _ => rfl | 12, _ => rfl | 13, _ => rfl | 14, _ => rfl | 15, _ => rfl | 16, _ => rfl | 17, _ => rfl | 18, _ => rfl | n9 + 19, h9 => exact absurd h9 (by omega)) (by first | decide | omega | (dsimp only; omega)) (by first | decide | omega | (dsimp only; omega)) dX7_init_5 (fun ad_1 H q_1 had1 hW hS => ?_)
  have hW : WD G (L ++ [101]) ad_1 v (up1 o 101 nOp) w s H := by
    rw [up1_self (hv 101 (by decide))] at hW
    exact hW
  obtain ⟨o_1, ho1⟩ : ∃ z, z = up1 o 101 nOp := ⟨_, rfl⟩
  rw [← ho1] at hW
  have hFr : Fr [101] 100 ad_1 ad o_1 o := by rw [had1, ho1]; exact hFr.new rfl
  have hF : FO [] ad_1 o_1 := by rw [had1, ho1]; exact hF.new (by decide)
  have e0 : a0 = ad_1 100 := e0.trans (by rw [had1]; exact (upA_n (by decide)).symm)
  obtain ⟨a_1, e_1⟩ : ∃ z, z = ad_1 101 := ⟨_, rfl⟩
  rw [← e_1]
  refine lv_dup hx hb dX7_init_8 rfl ?_
  refine q_cINA hx hb hml hts hown hE h0 hW hS (c_X6_init1 l (List.mem_append_right _ (by decide)) (fun x hx9 => nm_new hL (sub_dec (by decide +kernel) hx9) (sub_decn (by decide +kernel) hx9)) (fun x hx9 => hv x (sub_dec (by decide +kernel) hx9))) mw_X6_init t_863 ⟨Nat.le_of_ble_eq_true rfl, Nat.le_of_ble_eq_true rfl⟩ hl.1 (Nat.le_of_ble_eq_true rfl) e_1 dX7_init_9 ⟨(by first | decide | omega | (dsimp only; omega)), (by first | decide | omega | (dsimp only; omega))⟩ (fun P H locs hp hW hS => ?_)
  obtain ⟨ad_2, o_2, rfl, hFr2, hF2⟩ := hp
  have hW : WD G (L ++ ([101] ++ [111, 112, 113, 114, 115, 117, 118, 119, 122, 124, 126, 127, 128])) ad_2 v o_2 w s H := by rw [← List.append_assoc L [101]]; exact hW
  have hFr : Fr ([101] ++ [111, 112, 113, 114, 115, 117, 118, 119, 122, 124, 126, 127, 128]) 100 ad_2 ad o_2 o := hFr.tr hFr2 (by decide +kernel) rfl
  have hF : FO [(101, 1, 111), (101, 2, 112), (101, 3, 113), (101, 4, 114), (101, 5, 115), (101, 7, 117), (101, 8, 118), (101, 9, 119), (101, 12, 122), (101, 14, 124), (101, 16, 126), (101, 17, 127), (101, 18, 128)] ad_2 o_2 := (hF.far hFr2 (by decide +kernel)).app hF2 rfl
  have e0 : a0 = ad_2 100 := e0.trans (hFr2.1 _ (by decide)).symm
  have e_1 : a_1 = ad_2 101 := e_1.trans (hFr2.1 _ (by decide)).symm
  refine q_putFA hx hb hts hown hW hS (r := 100) (List.mem_append_left _ hr9) rfl k_8 1 (by decide) rfl t_944 rfl hin rfl (t := .object "HailPoolModel$State") (by decide +kernel) rfl rfl e0 dX7_init_12 (fun H locs hW hS => ?_)
  obtain ⟨o_3, ho3⟩ : ∃ z, z = up2 o_2 100 1 (some a_1) := ⟨_, rfl⟩
  rw [← ho3] at hW
  have hFr : Fr ([101] ++ [111, 112, 113, 114, 115, 117, 118, 119, 122, 124, 126, 127, 128]) 100 ad_2 ad o_3 o := by rw [ho3]; exact hFr.put (by decide)
  have hF : FO [(101, 1, 111), (101, 2, 112), (101, 3, 113), (101, 4, 114), (101, 5, 115), (101, 7, 117), (101, 8, 118), (101, 9, 119), (101, 12, 122), (101, 14, 124), (101, 16, 126), (101, 17, 127), (101, 18, 128), (100, 1, 101)] ad_2 o_3 := by rw [ho3]; exact hF.put (by decide) (by rw [e_1]) rfl
  refine lv_aload_n hx hb dX7_init_15 rfl (lv_at hl 0 rfl) ?_
  refine q_new hx hb hts hown h0 hW hS 102 (nm_new hL (by decide) (by decide)) rfl k_7 t_861 t_862 t_52 (by intro j hj; match j, hj with | 0, _ => rfl | 1, _ => rfl | 2, _ => rfl | 3, _ => rfl | 4, _ => rfl | 5, _ => rfl | 6, _ => rfl | 7, _ => rfl | 8, _ => rfl | 9, _ => rfl | 10, _ => rfl | 11, _ => rfl | 12, _ => rfl | 13, _ => rfl | 14, _ => rfl | 15, _ => rfl | 16, _ => rfl | 17, _ => rfl | 18, _ => rfl | n9 + 19, h9 => exact absurd h9 (by omega)) (by first | decide | omega | (dsimp only; omega)) (by first | decide | omega | (dsimp only; omega)) dX7_init_16 (fun ad_4 H q_4 had4 hW hS => ?_)
  have hW : WD G (L ++ (([101] ++ [111, 112, 113, 114, 115, 117, 118, 119, 122, 124, 126, 127, 128]) ++ [102])) ad_4 v (up1 o_3 102 nOp) w s H := by
    rw [List.append_assoc, up1_self (hv 102 (by decide))] at hW
    exact hW
  obtain ⟨o_4, ho4⟩ : ∃ z, z = up1 o_3 102 nOp := ⟨_, rfl⟩
  rw [← ho4] at hW
  have hFr : Fr (([101] ++ [111, 112, 113, 114, 115, 117, 118, 119, 122, 124, 126, 127, 128]) ++ [102]) 100 ad_4 ad o_4 o := by rw [had4, ho4]; exact hFr.new rfl
  have hF : FO [(101, 1, 111), (101, 2, 112), (101, 3, 113), (101, 4, 114), (101, 5, 115), (101, 7, 117), (101, 8, 118), (101, 9, 119), (101, 12, 122), (101, 14, 124), (101, 16, 126), (101, 17, 127), (101, 18, 128), (100, 1, 101)] ad_4 o_4 := by rw [had4, ho4]; exact hF.new (by decide)
  have e0 : a0 = ad_4 100 := e0.trans (by rw [had4]; exact (upA_n (by decide)).symm)
  obtain ⟨a_4, e_4⟩ : ∃ z, z = ad_4 102 := ⟨_, rfl⟩
  rw [← e_4]
  refine lv_dup hx hb dX7_init_19 rfl ?_
  refine q_cINA hx hb hml hts hown hE h0 hW hS (c_X6_init2 l (List.mem_append_right _ (by decide)) (fun x hx9 => nm_new hL (sub_dec (by decide +kernel) hx9) (sub_decn (by decide +kernel) hx9)) (fun x hx9 => hv x (sub_dec (by decide +kernel) hx9))) mw_X6_init t_863 ⟨Nat.le_of_ble_eq_true rfl, Nat.le_of_ble_eq_true rfl⟩ hl.1 (Nat.le_of_ble_eq_true rfl) e_4 dX7_init_20 ⟨(by first | decide | omega | (dsimp only; omega)), (by first | decide | omega | (dsimp only; omega))⟩ (fun P H locs hp hW hS => ?_)
  obtain ⟨ad_5, o_5, rfl, hFr2, hF2⟩ := hp
  have hW : WD G (L ++ ((([101] ++ [111, 112, 113, 114, 115, 117, 118, 119, 122, 124, 126, 127, 128]) ++ [102]) ++ [141, 142, 143, 144, 145, 147, 148, 149, 152, 154, 156, 157, 158])) ad_5 v o_5 w s H := by rw [← List.append_assoc L (([101] ++ [111, 112, 113, 114, 115, 117, 118, 119, 122, 124, 126, 127, 128]) ++ [102])]; exact hW
  have hFr : Fr ((([101] ++ [111, 112, 113, 114, 115, 117, 118, 119, 122, 124, 126, 127, 128]) ++ [102]) ++ [141, 142, 143, 144, 145, 147, 148, 149, 152, 154, 156, 157, 158]) 100 ad_5 ad o_5 o := hFr.tr hFr2 (by decide +kernel) rfl
  have hF : FO [(101, 1, 111), (101, 2, 112), (101, 3, 113), (101, 4, 114), (101, 5, 115), (101, 7, 117), (101, 8, 118), (101, 9, 119), (101, 12, 122), (101, 14, 124), (101, 16, 126), (101, 17, 127), (101, 18, 128), (100, 1, 101), (102, 1, 141), (102, 2, 142), (102, 3, 143), (102, 4, 144), (102, 5, 145), (102, 7, 147), (102, 8, 148), (102, 9, 149), (102, 12, 152), (102, 14, 154), (102, 16, 156), (102, 17, 157), (102, 18, 158)] ad_5 o_5 := (hF.far hFr2 (by decide +kernel)).app hF2 rfl
  have e0 : a0 = ad_5 100 := e0.trans (hFr2.1 _ (by decide)).symm
  have e_4 : a_4 = ad_5 102 := e_4.trans (hFr2.1 _ (by decide)).symm
  refine q_putFA hx hb hts hown hW hS (r := 100) (List.mem_append_left _ hr9) rfl k_8 2 (by decide) rfl t_945 rfl hin rfl (t := .object "HailPoolModel$State") (by decide +kernel) rfl rfl e0 dX7_init_23 (fun H locs hW hS => ?_)
  obtain ⟨o_6, ho6⟩ : ∃ z, z = up2 o_5 100 2 (some a_4) := ⟨_, rfl⟩
  rw [← ho6] at hW
  have hFr : Fr ((([101] ++ [111, 112, 113, 114, 115, 117, 118, 119, 122, 124, 126, 127, 128]) ++ [102]) ++ [141, 142, 143, 144, 145, 147, 148, 149, 152, 154, 156, 157, 158]) 100 ad_5 ad o_6 o := by rw [ho6]; exact hFr.put (by decide)
  have hF : FO [(101, 1, 111), (101, 2, 112), (101, 3, 113), (101, 4, 114), (101, 5, 115), (101, 7, 117), (101, 8, 118), (101, 9, 119), (101, 12, 122), (101, 14, 124), (101, 16, 126), (101, 17, 127), (101, 18, 128), (100, 1, 101), (102, 1, 141), (102, 2, 142), (102, 3, 143), (102, 4, 144), (102, 5, 145), (102, 7, 147), (102, 8, 148), (102, 9, 149), (102, 12, 152), (102, 14, 154), (102, 16, 156), (102, 17, 157), (102, 18, 158), (100, 2, 102)] ad_5 o_6 := by rw [ho6]; exact hF.put (by decide) (by rw [e_4]) rfl
  exact q_vretw hx hb hr hlocks hW hS (by first | decide | omega | (dsimp only; omega)) (by first | decide | omega | (dsimp only; omega)) dX7_init_26 ⟨_, _, rfl, hFr, hF⟩

theorem le_nI400 {i : Nat} (h : (400 : Int32) ≤ nI i) (hi : i < 2 ^ 31) : 400 ≤ i := (nI_leI (a := 400) (by decide) hi).mp h
section LP5
variable {p : Program} {l : Launch} {e : Env} {R : Room} {s : State} {m : MethodId} {args : Array Value} {below : List Frame} {meth : Method} {c : Code} {cells slots : Nat} {Q : State → Prop}
variable {G : GG} {L : List Nat} {ad : Nat → Nat} {v : Nat → Nat → Int32} {o : Nat → Nat → Option Nat} {w : Nat → Int64}
set_option maxHeartbeats 4000000 in
set_option maxRecDepth 100000 in
theorem c_X5_loop (hx : p.tables.exec = Jvm.exec) (hb : c.code = cX5_init) (hts : ∀ w ∈ wT, w.before args s = true) (hown : s.vm.findClass RX5 = some m.cls) (m0 : 0 ∈ L) (m4 : 4 ∈ L) (h04 : o 0 3 = some (ad 4))
    (kk : ∀ (H : Heap) (locs : List Loc) (ls : Array Slot), WD G L ad (itr (fun k u => up2 u 4 k (-1)) 400 v) o w s H → va_S (Ab G.2.2.1) s.heap H locs → W p l e R s m args below meth c H locs cells slots Q (F0 m 91 ls [])) : ∀ (n i : Nat), i + n = 400 → ∀ (H : Heap) (locs : List Loc) (ls : Array Slot), WD G L ad (itr (fun k u => up2 u 4 k (-1)) i v) o w s H → va_S (Ab G.2.2.1) s.heap H locs → lv_has ls 2 [(1, .int (nI i)), (0, .ref (ad 0))] → W p l e R s m args below meth c H locs cells slots Q (F0 m 71 ls []) := by
  intro n
  induction n with
  | zero =>
    intro i hi H locs ls hW hS hl
    obtain rfl : i = 400 := by omega
    refine lv_iload_n hx hb dX5_init_71 rfl (lv_at hl 0 rfl) ?_
    refine lv_sipush (v := 400) hx hb dX5_init_72 (by decide) ?_
    refine lv_icmp_ge (tgt := 91) hx hb dX5_init_75 (by decide) (fun _ => ?_) (fun q => absurd (show (400 : Int32) ≤ nI 400 by decide) q)
    exact kk H locs ls hW hS
  | succ n ih =>
    intro i hi H locs ls hW hS hl
    refine lv_iload_n hx hb dX5_init_71 rfl (lv_at hl 0 rfl) ?_
    refine lv_sipush (v := 400) hx hb dX5_init_72 (by decide) ?_
    refine lv_icmp_ge (tgt := 91) hx hb dX5_init_75 (by decide) (fun q => absurd (le_nI400 q (by omega)) (by omega)) (fun _ => ?_)
    refine lv_aload_n hx hb dX5_init_78 rfl (lv_at hl 1 rfl) ?_
    refine q_getr hx hb hts hown hW (r := 0) m0 rfl k_6 3 (by decide) rfl t_140 h04 dX5_init_79 ?_
    refine lv_iload_n hx hb dX5_init_82 rfl (lv_at hl 0 rfl) ?_
    refine lv_iconst (v := -1) hx hb dX5_init_83 (by decide) ?_
    refine q_iast hx hb hW hS (r := 4) m4 rfl i rfl (show i < 400 by omega) (by decide) dX5_init_84 (fun H locs hW hS => ?_)
    refine lv_iinc (v := (nI (i + 1))) (lv' := [(1, .int (nI (i + 1))), (0, .ref (ad 0))]) hx hb dX5_init_85 hl (k := 0) rfl (inc_nI _) (by decide) rfl (fun ls hl => ?_)
    refine lv_goto (tgt := 71) hx hb dX5_init_88 (by decide) ?_
    exact ih (i + 1) (by omega) H locs ls hW hS hl
end LP5

set_option maxHeartbeats 8000000 in
set_option maxRecDepth 100000 in
theorem c_X5_init (l : Launch) {G : GG} {L : List Nat} {ad : Nat → Nat} {v : Nat → Nat → Int32} {o : Nat → Nat → Option Nat} {w : Nat → Int64} (hr9 : 0 ∈ L) (hL : ∀ x, x ∈ ([1, 2, 3, 4] ++ ([5] ++ rw30) ++ [6] ++ [7, 8, 9, 10, 11, 12]) → x ∉ L) (hv : ∀ x, x ∈ ([1, 2, 3, 4] ++ ([5] ++ rw30) ++ [6] ++ [7, 8, 9, 10, 11, 12]) → v x = z32) (htd : ad 9999 = G.2.2.2) : Met l yX5_init [Cond.code yX5_init cX5_init 2 none] ({ frames := 4, cells := 42, slots := 1055, locals := 72 }) (va_Pc [.ref (ad 0)] (fun U => CX G L ad v o w U ∧ va_AOA .int U)) (va_Qv (fun P => ∃ ad1 o1, P = (L ++ ((([1, 2, 3, 4] ++ ([5] ++ rw30)) ++ [6]) ++ [7, 8, 9, 10, 11, 12]), ad1, (itr (fun k u => up2 u 4 k (-1)) 400 v), o1) ∧ Fr ((([1, 2, 3, 4] ++ ([5] ++ rw30)) ++ [6]) ++ [7, 8, 9, 10, 11, 12]) 0 ad1 ad o1 o ∧ FO [(1, 1, 9999), (0, 0, 1), (2, 1, 9999), (0, 1, 2), (3, 1, 9999), (0, 2, 3), (0, 3, 4), (5, 0, 20), (5, 1, 21), (5, 2, 22), (5, 3, 23), (5, 4, 24), (5, 5, 25), (5, 6, 26), (5, 7, 27), (5, 8, 28), (5, 9, 29), (5, 10, 30), (5, 11, 31), (5, 12, 32), (5, 13, 33), (5, 14, 34), (5, 15, 35), (5, 16, 36), (5, 17, 37), (5, 18, 38), (5, 19, 39), (5, 20, 40), (5, 21, 41), (5, 22, 42), (5, 23, 43), (5, 24, 44), (5, 25, 45), (5, 26, 46), (5, 27, 47), (5, 28, 48), (5, 29, 49), (0, 4, 5), (6, 0, 7), (6, 1, 8), (6, 2, 9), (6, 3, 10), (6, 4, 11), (6, 5, 12), (0, 5, 6)] ad1 o1) (fun P t => WDp G P w t t.heap) (Ab G.2.2.1)) ({ frames := 4, cells := 42, slots := 1055, locals := 72 } : Room).cells ({ frames := 4, cells := 42, slots := 1055, locals := 72 } : Room).slots (Ab G.2.2.1) := by
  obtain ⟨a0, e0⟩ : ∃ z, z = ad 0 := ⟨_, rfl⟩
  rw [← e0]
  refine Met.ofW (cc := cX5_init) (maxL := 2) (ret := none) (by decide) rfl ?_
  intro p e s m args below meth c s₁ B hml hv9
  obtain ⟨rfl, ⟨hE, h0, hW⟩, h9⟩ := hv9
  have hx := B.exec; have hb := B.bytes; have hr := B.returns; have hts := hE.hts (args := ([.ref a0] : List Value).toArray); have hown : s.vm.findClass RX5 = some m.cls := findClass_of_methodNamed B.named; have hlocks := B.notSynchronized; have hin := (name_of_methodNamed B.named B.method).1
  have hl := lv_entry ([.ref a0] : List Value) (n := 2) (Nat.le_of_ble_eq_true rfl)
  rw [lg_entry_eq]
  generalize (lg_sl ([.ref a0] : List Value) ++ List.replicate (2 - (lg_sl ([.ref a0] : List Value)).length) Slot.unset).toArray = ls at hl ⊢
  generalize hH : s.heap = H at hW ⊢
  have hS : va_S (Ab G.2.2.1) s.heap H [] := hH ▸ va_S.rf
  obtain ⟨locs, hlc⟩ : ∃ z : List Loc, z = [] := ⟨_, rfl⟩
  rw [← hlc] at hS ⊢
  have hl : lv_has ls 2 [(0, .ref a0)] := hl
  have hFr : Fr [] 0 ad ad o o := Fr.rf
  have hF : FO [] ad o := FO.nil
  refine lv_aload_n hx hb dX5_init_0 rfl (lv_at hl 0 rfl) ?_
  refine q_oinit hx hb hml hl.1 hts hown t_74 t_75 t_76 dX5_init_1 (Nat.le_of_ble_eq_true rfl) (Nat.le_of_ble_eq_true rfl) ?_
  refine lv_aload_n hx hb dX5_init_4 rfl (lv_at hl 0 rfl) ?_
  refine q_new hx hb hts hown h0 hW hS 1 (hL _ (by decide)) rfl k_0 t_77 t_78 t_49 (by intro j hj; match j, hj with | 0, _ => rfl | 1, _ => rfl | 2, _ => rfl) (by first | decide | omega | (dsimp only; omega)) (by first | decide | omega | (dsimp only; omega)) dX5_init_5 (fun ad_1 H q_1 had1 hW hS => ?_)
  have hW : WD G (L ++ [1]) ad_1 v (up1 o 1 nOp) w s H := by
    rw [up1_self (hv 1 (by decide))] at hW
    exact hW
  obtain ⟨o_1, ho1⟩ : ∃ z, z = up1 o 1 nOp := ⟨_, rfl⟩
  rw [← ho1] at hW
  have hFr : Fr [1] 0 ad_1 ad o_1 o := by rw [had1, ho1]; exact hFr.new rfl
  have hF : FO [] ad_1 o_1 := by rw [had1, ho1]; exact hF.new (by decide)
  have e0 : a0 = ad_1 0 := e0.trans (by rw [had1]; exact (upA_n (by decide)).symm)
  obtain ⟨a_1, e_1⟩ : ∃ z, z = ad_1 1 := ⟨_, rfl⟩
  rw [← e_1]
  refine lv_dup hx hb dX5_init_8 rfl ?_
  refine q_cIA hx hb hml hts hown hE h0 hW hS (c_AL_init l (List.mem_append_right _ (by decide)) rfl (by rw [hv 1 (by decide)])) mw_Jx4a65c_init_da8c8 t_79 ⟨Nat.le_of_ble_eq_true rfl, Nat.le_of_ble_eq_true rfl⟩ hl.1 (Nat.le_of_ble_eq_true rfl) e_1 dX5_init_9 ⟨(by first | decide | omega | (dsimp only; omega)), (by first | decide | omega | (dsimp only; omega))⟩ (fun P H locs hp hW hS => ?_)
  obtain rfl := hp
  have hW : WD G (L ++ [1]) ad_1 v (up2 o_1 1 1 (some G.2.2.2)) w s H := hW
  obtain ⟨o_2, ho2⟩ : ∃ z, z = up2 o_1 1 1 (some G.2.2.2) := ⟨_, rfl⟩
  rw [← ho2] at hW
  have hFr : Fr [1] 0 ad_1 ad o_2 o := by rw [ho2]; exact hFr.put (by decide)
  have hF : FO [(1, 1, 9999)] ad_1 o_2 := by rw [ho2]; exact hF.put (by decide) (by rw [hFr.1 9999 (by decide +kernel), htd]) rfl
  refine q_putFA hx hb hts hown hW hS (r := 0) (List.mem_append_left _ hr9) rfl k_6 0 (by decide) rfl t_137 rfl hin rfl (t := .object "java/util/List") (by decide +kernel) rfl rfl e0 dX5_init_12 (fun H locs hW hS => ?_)
  obtain ⟨o_3, ho3⟩ : ∃ z, z = up2 o_2 0 0 (some a_1) := ⟨_, rfl⟩
  rw [← ho3] at hW
  have hFr : Fr [1] 0 ad_1 ad o_3 o := by rw [ho3]; exact hFr.put (by decide)
  have hF : FO [(1, 1, 9999), (0, 0, 1)] ad_1 o_3 := by rw [ho3]; exact hF.put (by decide) (by rw [e_1]) rfl
  refine lv_aload_n hx hb dX5_init_15 rfl (lv_at hl 0 rfl) ?_
  refine q_new hx hb hts hown h0 hW hS 2 (nm_new hL (by decide) (by decide)) rfl k_0 t_77 t_78 t_49 (by intro j hj; match j, hj with | 0, _ => rfl | 1, _ => rfl | 2, _ => rfl) (by first | decide | omega | (dsimp only; omega)) (by first | decide | omega | (dsimp only; omega)) dX5_init_16 (fun ad_4 H q_4 had4 hW hS => ?_)
  have hW : WD G (L ++ [1, 2]) ad_4 v (up1 o_3 2 nOp) w s H := by
    rw [List.append_assoc, up1_self (hv 2 (by decide))] at hW
    exact hW
  obtain ⟨o_4, ho4⟩ : ∃ z, z = up1 o_3 2 nOp := ⟨_, rfl⟩
  rw [← ho4] at hW
  have hFr : Fr [1, 2] 0 ad_4 ad o_4 o := by rw [had4, ho4]; exact hFr.new rfl
  have hF : FO [(1, 1, 9999), (0, 0, 1)] ad_4 o_4 := by rw [had4, ho4]; exact hF.new (by decide)
  have e0 : a0 = ad_4 0 := e0.trans (by rw [had4]; exact (upA_n (by decide)).symm)
  obtain ⟨a_4, e_4⟩ : ∃ z, z = ad_4 2 := ⟨_, rfl⟩
  rw [← e_4]
  refine lv_dup hx hb dX5_init_19 rfl ?_
  refine q_cIA hx hb hml hts hown hE h0 hW hS (c_AL_init l (List.mem_append_right _ (by decide)) rfl (by rw [hv 2 (by decide)])) mw_Jx4a65c_init_da8c8 t_79 ⟨Nat.le_of_ble_eq_true rfl, Nat.le_of_ble_eq_true rfl⟩ hl.1 (Nat.le_of_ble_eq_true rfl) e_4 dX5_init_20 ⟨(by first | decide | omega | (dsimp only; omega)), (by first | decide | omega | (dsimp only; omega))⟩ (fun P H locs hp hW hS => ?_)
  obtain rfl := hp
  have hW : WD G (L ++ [1, 2]) ad_4 v (up2 o_4 2 1 (some G.2.2.2)) w s H := hW
  obtain ⟨o_5, ho5⟩ : ∃ z, z = up2 o_4 2 1 (some G.2.2.2) := ⟨_, rfl⟩
  rw [← ho5] at hW
  have hFr : Fr [1, 2] 0 ad_4 ad o_5 o := by rw [ho5]; exact hFr.put (by decide)
  have hF : FO [(1, 1, 9999), (0, 0, 1), (2, 1, 9999)] ad_4 o_5 := by rw [ho5]; exact hF.put (by decide) (by rw [hFr.1 9999 (by decide +kernel), htd]) rfl
  refine q_putFA hx hb hts hown hW hS (r := 0) (List.mem_append_left _ hr9) rfl k_6 1 (by decide) rfl t_138 rfl hin rfl (t := .object "java/util/List") (by decide +kernel) rfl rfl e0 dX5_init_23 (fun H locs hW hS => ?_)
  obtain ⟨o_6, ho6⟩ : ∃ z, z = up2 o_5 0 1 (some a_4) := ⟨_, rfl⟩
  rw [← ho6] at hW
  have hFr : Fr [1, 2] 0 ad_4 ad o_6 o := by rw [ho6]; exact hFr.put (by decide)
  have hF : FO [(1, 1, 9999), (0, 0, 1), (2, 1, 9999), (0, 1, 2)] ad_4 o_6 := by rw [ho6]; exact hF.put (by decide) (by rw [e_4]) rfl
  refine lv_aload_n hx hb dX5_init_26 rfl (lv_at hl 0 rfl) ?_
  refine q_new hx hb hts hown h0 hW hS 3 (nm_new hL (by decide) (by decide)) rfl k_0 t_77 t_78 t_49 (by intro j hj; match j, hj with | 0, _ => rfl | 1, _ => rfl | 2, _ => rfl) (by first | decide | omega | (dsimp only; omega)) (by first | decide | omega | (dsimp only; omega)) dX5_init_27 (fun ad_7 H q_7 had7 hW hS => ?_)
  have hW : WD G (L ++ [1, 2, 3]) ad_7 v (up1 o_6 3 nOp) w s H := by
    rw [List.append_assoc, up1_self (hv 3 (by decide))] at hW
    exact hW
  obtain ⟨o_7, ho7⟩ : ∃ z, z = up1 o_6 3 nOp := ⟨_, rfl⟩
  rw [← ho7] at hW
  have hFr : Fr [1, 2, 3] 0 ad_7 ad o_7 o := by rw [had7, ho7]; exact hFr.new rfl
  have hF : FO [(1, 1, 9999), (0, 0, 1), (2, 1, 9999), (0, 1, 2)] ad_7 o_7 := by rw [had7, ho7]; exact hF.new (by decide)
  have e0 : a0 = ad_7 0 := e0.trans (by rw [had7]; exact (upA_n (by decide)).symm)
  obtain ⟨a_7, e_7⟩ : ∃ z, z = ad_7 3 := ⟨_, rfl⟩
  rw [← e_7]
  refine lv_dup hx hb dX5_init_30 rfl ?_
  refine q_cIA hx hb hml hts hown hE h0 hW hS (c_AL_init l (List.mem_append_right _ (by decide)) rfl (by rw [hv 3 (by decide)])) mw_Jx4a65c_init_da8c8 t_79 ⟨Nat.le_of_ble_eq_true rfl, Nat.le_of_ble_eq_true rfl⟩ hl.1 (Nat.le_of_ble_eq_true rfl) e_7 dX5_init_31 ⟨(by first | decide | omega | (dsimp only; omega)), (by first | decide | omega | (dsimp only; omega))⟩ (fun P H locs hp hW hS => ?_)
  obtain rfl := hp
  have hW : WD G (L ++ [1, 2, 3]) ad_7 v (up2 o_7 3 1 (some G.2.2.2)) w s H := hW
  obtain ⟨o_8, ho8⟩ : ∃ z, z = up2 o_7 3 1 (some G.2.2.2) := ⟨_, rfl⟩
  rw [← ho8] at hW
  have hFr : Fr [1, 2, 3] 0 ad_7 ad o_8 o := by rw [ho8]; exact hFr.put (by decide)
  have hF : FO [(1, 1, 9999), (0, 0, 1), (2, 1, 9999), (0, 1, 2), (3, 1, 9999)] ad_7 o_8 := by rw [ho8]; exact hF.put (by decide) (by rw [hFr.1 9999 (by decide +kernel), htd]) rfl
  refine q_putFA hx hb hts hown hW hS (r := 0) (List.mem_append_left _ hr9) rfl k_6 2 (by decide) rfl t_139 rfl hin rfl (t := .object "java/util/List") (by decide +kernel) rfl rfl e0 dX5_init_34 (fun H locs hW hS => ?_)
  obtain ⟨o_9, ho9⟩ : ∃ z, z = up2 o_8 0 2 (some a_7) := ⟨_, rfl⟩
  rw [← ho9] at hW
  have hFr : Fr [1, 2, 3] 0 ad_7 ad o_9 o := by rw [ho9]; exact hFr.put (by decide)
  have hF : FO [(1, 1, 9999), (0, 0, 1), (2, 1, 9999), (0, 1, 2), (3, 1, 9999), (0, 2, 3)] ad_7 o_9 := by rw [ho9]; exact hF.put (by decide) (by rw [e_7]) rfl
  refine lv_aload_n hx hb dX5_init_37 rfl (lv_at hl 0 rfl) ?_
  refine lv_sipush (v := 400) hx hb dX5_init_38 (by decide) ?_
  refine q_newa hx hb hts t_136 h0 hW hS 4 (nm_new hL (by decide) (by decide)) rfl rfl (by decide) (by first | decide | omega | (dsimp only; omega)) (by first | decide | omega | (dsimp only; omega)) dX5_init_41 (fun ad_10 H q_10 had10 hW hS => ?_)
  have hW : WD G (L ++ [1, 2, 3, 4]) ad_10 v (up1 o_9 4 nOp) w s H := by
    rw [List.append_assoc, up1_self (hv 4 (by decide))] at hW
    exact hW
  obtain ⟨o_10, ho10⟩ : ∃ z, z = up1 o_9 4 nOp := ⟨_, rfl⟩
  rw [← ho10] at hW
  have hFr : Fr [1, 2, 3, 4] 0 ad_10 ad o_10 o := by rw [had10, ho10]; exact hFr.new rfl
  have hF : FO [(1, 1, 9999), (0, 0, 1), (2, 1, 9999), (0, 1, 2), (3, 1, 9999), (0, 2, 3)] ad_10 o_10 := by rw [had10, ho10]; exact hF.new (by decide)
  have e0 : a0 = ad_10 0 := e0.trans (by rw [had10]; exact (upA_n (by decide)).symm)
  obtain ⟨a_10, e_10⟩ : ∃ z, z = ad_10 4 := ⟨_, rfl⟩
  rw [← e_10]
  refine q_putFA hx hb hts hown hW hS (r := 0) (List.mem_append_left _ hr9) rfl k_6 3 (by decide) rfl t_140 rfl hin rfl (t := .array .int) (by decide +kernel) rfl rfl e0 dX5_init_43 (fun H locs hW hS => ?_)
  obtain ⟨o_11, ho11⟩ : ∃ z, z = up2 o_10 0 3 (some a_10) := ⟨_, rfl⟩
  rw [← ho11] at hW
  have hFr : Fr [1, 2, 3, 4] 0 ad_10 ad o_11 o := by rw [ho11]; exact hFr.put (by decide)
  have hF : FO [(1, 1, 9999), (0, 0, 1), (2, 1, 9999), (0, 1, 2), (3, 1, 9999), (0, 2, 3), (0, 3, 4)] ad_10 o_11 := by rw [ho11]; exact hF.put (by decide) (by rw [e_10]) rfl
  refine lv_aload_n hx hb dX5_init_46 rfl (lv_at hl 0 rfl) ?_
  refine lv_bipush (v := 30) hx hb dX5_init_47 (by decide) ?_
  refine lv_bipush (v := 6) hx hb dX5_init_49 (by decide) ?_
  refine q_mna hx hb hts hown h0 hW hS h9 t_103 (nm_new hL (by decide) (by decide)) (fun x hx9 => nm_new hL (List.mem_of_elem_eq_true (List.all_eq_true.mp (show rw30.all (fun x => ([1, 2, 3, 4] ++ ([5] ++ rw30) ++ [6] ++ [7, 8, 9, 10, 11, 12]).elem x) = true by decide +kernel) x hx9)) (fun g => absurd (List.all_eq_true.mp (show rw30.all (fun x => !([1, 2, 3, 4].elem x)) = true by decide +kernel) x hx9) (by rw [List.elem_eq_true_of_mem g]; decide))) (fun x hx9 => hv x (List.mem_of_elem_eq_true (List.all_eq_true.mp (show rw30.all (fun x => ([1, 2, 3, 4] ++ ([5] ++ rw30) ++ [6] ++ [7, 8, 9, 10, 11, 12]).elem x) = true by decide +kernel) x hx9))) (by first | decide | omega | (dsimp only; omega)) (by first | decide | omega | (dsimp only; omega)) dX5_init_51 (fun q9 f9 H hW hS => ?_)
  obtain ⟨ad_12, had12⟩ : ∃ z, z = adR ad_10 q9 f9 := ⟨_, rfl⟩
  obtain ⟨o_12, ho12⟩ : ∃ z, z = oR o_11 f9 := ⟨_, rfl⟩
  have hW : WD G (L ++ ([1, 2, 3, 4] ++ ([5] ++ rw30))) ad_12 v o_12 w s H := by rw [had12, ho12, ← List.append_assoc L [1, 2, 3, 4]]; exact hW
  obtain ⟨hM1, hM2⟩ := mna_facts (ad := ad_10) (o := o_11) (q := q9) (f := f9) had12 ho12
  have hFr : Fr ([1, 2, 3, 4] ++ ([5] ++ rw30)) 0 ad_12 ad o_12 o := ⟨fun x hx9 => (hM1.1 x (fun g => hx9 (List.mem_append_right _ g))).trans (hFr.1 x (fun g => hx9 (List.mem_append_left _ g))), fun x hx8 hx9 => (hM1.2 x (fun g => hx9 (List.mem_append_right _ (List.mem_append_left _ (List.mem_singleton.mpr g)))) (fun g => hx9 (List.mem_append_right _ g))).trans (hFr.2 x hx8 (fun g => hx9 (List.mem_append_left _ g)))⟩
  have hF : FO [(1, 1, 9999), (0, 0, 1), (2, 1, 9999), (0, 1, 2), (3, 1, 9999), (0, 2, 3), (0, 3, 4), (5, 0, 20), (5, 1, 21), (5, 2, 22), (5, 3, 23), (5, 4, 24), (5, 5, 25), (5, 6, 26), (5, 7, 27), (5, 8, 28), (5, 9, 29), (5, 10, 30), (5, 11, 31), (5, 12, 32), (5, 13, 33), (5, 14, 34), (5, 15, 35), (5, 16, 36), (5, 17, 37), (5, 18, 38), (5, 19, 39), (5, 20, 40), (5, 21, 41), (5, 22, 42), (5, 23, 43), (5, 24, 44), (5, 25, 45), (5, 26, 46), (5, 27, 47), (5, 28, 48), (5, 29, 49)] ad_12 o_12 := (hF.far hM1 (by decide +kernel)).app hM2 rfl
  have e0 : a0 = ad_12 0 := e0.trans (by rw [had12]; rfl)
  obtain ⟨a_12, e_12⟩ : ∃ z, z = ad_12 5 := ⟨_, rfl⟩
  have e9 : q9 = ad_12 5 := by rw [had12]; rfl
  rw [e9, ← e_12]
  refine q_putFA hx hb hts hown hW hS (r := 0) (List.mem_append_left _ hr9) rfl k_6 4 (by decide) rfl t_141 rfl hin rfl (t := .array (.array .int)) (by decide +kernel) rfl rfl e0 dX5_init_55 (fun H locs hW hS => ?_)
  obtain ⟨o_13, ho13⟩ : ∃ z, z = up2 o_12 0 4 (some a_12) := ⟨_, rfl⟩
  rw [← ho13] at hW
  have hFr : Fr ([1, 2, 3, 4] ++ ([5] ++ rw30)) 0 ad_12 ad o_13 o := by rw [ho13]; exact hFr.put (by decide)
  have hF : FO [(1, 1, 9999), (0, 0, 1), (2, 1, 9999), (0, 1, 2), (3, 1, 9999), (0, 2, 3), (0, 3, 4), (5, 0, 20), (5, 1, 21), (5, 2, 22), (5, 3, 23), (5, 4, 24), (5, 5, 25), (5, 6, 26), (5, 7, 27), (5, 8, 28), (5, 9, 29), (5, 10, 30), (5, 11, 31), (5, 12, 32), (5, 13, 33), (5, 14, 34), (5, 15, 35), (5, 16, 36), (5, 17, 37), (5, 18, 38), (5, 19, 39), (5, 20, 40), (5, 21, 41), (5, 22, 42), (5, 23, 43), (5, 24, 44), (5, 25, 45), (5, 26, 46), (5, 27, 47), (5, 28, 48), (5, 29, 49), (0, 4, 5)] ad_12 o_13 := by rw [ho13]; exact hF.put (by decide) (by rw [e_12]) rfl
  refine lv_aload_n hx hb dX5_init_58 rfl (lv_at hl 0 rfl) ?_
  refine q_new hx hb hts hown h0 hW hS 6 (nm_new hL (by decide) (by decide)) rfl k_5 t_105 t_106 t_50 (by intro j hj; match j, hj with | 0, _ => rfl | 1, _ => rfl | 2, _ => rfl | 3, _ => rfl | 4, _ => rfl | 5, _ => rfl) (by first | decide | omega | (dsimp only; omega)) (by first | decide | omega | (dsimp only; omega)) dX5_init_59 (fun ad_14 H q_14 had14 hW hS => ?_)
  have hW : WD G (L ++ (([1, 2, 3, 4] ++ ([5] ++ rw30)) ++ [6])) ad_14 v (up1 o_13 6 nOp) w s H := by
    rw [List.append_assoc, up1_self (hv 6 (by decide))] at hW
    exact hW
  obtain ⟨o_14, ho14⟩ : ∃ z, z = up1 o_13 6 nOp := ⟨_, rfl⟩
  rw [← ho14] at hW
  have hFr : Fr (([1, 2, 3, 4] ++ ([5] ++ rw30)) ++ [6]) 0 ad_14 ad o_14 o := by rw [had14, ho14]; exact hFr.new rfl
  have hF : FO [(1, 1, 9999), (0, 0, 1), (2, 1, 9999), (0, 1, 2), (3, 1, 9999), (0, 2, 3), (0, 3, 4), (5, 0, 20), (5, 1, 21), (5, 2, 22), (5, 3, 23), (5, 4, 24), (5, 5, 25), (5, 6, 26), (5, 7, 27), (5, 8, 28), (5, 9, 29), (5, 10, 30), (5, 11, 31), (5, 12, 32), (5, 13, 33), (5, 14, 34), (5, 15, 35), (5, 16, 36), (5, 17, 37), (5, 18, 38), (5, 19, 39), (5, 20, 40), (5, 21, 41), (5, 22, 42), (5, 23, 43), (5, 24, 44), (5, 25, 45), (5, 26, 46), (5, 27, 47), (5, 28, 48), (5, 29, 49), (0, 4, 5)] ad_14 o_14 := by rw [had14, ho14]; exact hF.new (by decide)
  have e0 : a0 = ad_14 0 := e0.trans (by rw [had14]; exact (upA_n (by decide)).symm)
  obtain ⟨a_14, e_14⟩ : ∃ z, z = ad_14 6 := ⟨_, rfl⟩
  rw [← e_14]
  refine lv_dup hx hb dX5_init_62 rfl ?_
  refine q_cINA hx hb hml hts hown hE h0 hW hS (c_X4_init l (List.mem_append_right _ (by decide)) (fun x hx9 => nm_new hL (sub_dec (by decide +kernel) hx9) (sub_decn (by decide +kernel) hx9)) (fun x hx9 => hv x (sub_dec (by decide +kernel) hx9))) mw_X4_init t_107 ⟨Nat.le_of_ble_eq_true rfl, Nat.le_of_ble_eq_true rfl⟩ hl.1 (Nat.le_of_ble_eq_true rfl) e_14 dX5_init_63 ⟨(by first | decide | omega | (dsimp only; omega)), (by first | decide | omega | (dsimp only; omega))⟩ (fun P H locs hp hW hS => ?_)
  obtain ⟨ad_15, o_15, rfl, hFr2, hF2⟩ := hp
  have hW : WD G (L ++ ((([1, 2, 3, 4] ++ ([5] ++ rw30)) ++ [6]) ++ [7, 8, 9, 10, 11, 12])) ad_15 v o_15 w s H := by rw [← List.append_assoc L (([1, 2, 3, 4] ++ ([5] ++ rw30)) ++ [6])]; exact hW
  have hFr : Fr ((([1, 2, 3, 4] ++ ([5] ++ rw30)) ++ [6]) ++ [7, 8, 9, 10, 11, 12]) 0 ad_15 ad o_15 o := hFr.tr hFr2 (by decide +kernel) rfl
  have hF : FO [(1, 1, 9999), (0, 0, 1), (2, 1, 9999), (0, 1, 2), (3, 1, 9999), (0, 2, 3), (0, 3, 4), (5, 0, 20), (5, 1, 21), (5, 2, 22), (5, 3, 23), (5, 4, 24), (5, 5, 25), (5, 6, 26), (5, 7, 27), (5, 8, 28), (5, 9, 29), (5, 10, 30), (5, 11, 31), (5, 12, 32), (5, 13, 33), (5, 14, 34), (5, 15, 35), (5, 16, 36), (5, 17, 37), (5, 18, 38), (5, 19, 39), (5, 20, 40), (5, 21, 41), (5, 22, 42), (5, 23, 43), (5, 24, 44), (5, 25, 45), (5, 26, 46), (5, 27, 47), (5, 28, 48), (5, 29, 49), (0, 4, 5), (6, 0, 7), (6, 1, 8), (6, 2, 9), (6, 3, 10), (6, 4, 11), (6, 5, 12)] ad_15 o_15 := (hF.far hFr2 (by decide +kernel)).app hF2 rfl
  have e0 : a0 = ad_15 0 := e0.trans (hFr2.1 _ (by decide)).symm
  have e_14 : a_14 = ad_15 6 := e_14.trans (hFr2.1 _ (by decide)).symm
  refine q_putFA hx hb hts hown hW hS (r := 0) (List.mem_append_left _ hr9) rfl k_6 5 (by decide) rfl t_142 rfl hin rfl (t := .object "HailPool$Trial") (by decide +kernel) rfl rfl e0 dX5_init_66 (fun H locs hW hS => ?_)
  obtain ⟨o_16, ho16⟩ : ∃ z, z = up2 o_15 0 5 (some a_14) := ⟨_, rfl⟩
  rw [← ho16] at hW
  have hFr : Fr ((([1, 2, 3, 4] ++ ([5] ++ rw30)) ++ [6]) ++ [7, 8, 9, 10, 11, 12]) 0 ad_15 ad o_16 o := by rw [ho16]; exact hFr.put (by decide)
  have hF : FO [(1, 1, 9999), (0, 0, 1), (2, 1, 9999), (0, 1, 2), (3, 1, 9999), (0, 2, 3), (0, 3, 4), (5, 0, 20), (5, 1, 21), (5, 2, 22), (5, 3, 23), (5, 4, 24), (5, 5, 25), (5, 6, 26), (5, 7, 27), (5, 8, 28), (5, 9, 29), (5, 10, 30), (5, 11, 31), (5, 12, 32), (5, 13, 33), (5, 14, 34), (5, 15, 35), (5, 16, 36), (5, 17, 37), (5, 18, 38), (5, 19, 39), (5, 20, 40), (5, 21, 41), (5, 22, 42), (5, 23, 43), (5, 24, 44), (5, 25, 45), (5, 26, 46), (5, 27, 47), (5, 28, 48), (5, 29, 49), (0, 4, 5), (6, 0, 7), (6, 1, 8), (6, 2, 9), (6, 3, 10), (6, 4, 11), (6, 5, 12), (0, 5, 6)] ad_15 o_16 := by rw [ho16]; exact hF.put (by decide) (by rw [e_14]) rfl
  have h04 : o_16 0 3 = some (ad_15 4) := hF (0, 3, 4) (by decide)
  refine lv_iconst (v := 0) hx hb dX5_init_69 (by decide) ?_
  refine lv_istore_n (lv' := [(1, .int 0), (0, .ref a0)]) hx hb dX5_init_70 rfl hl (by decide) rfl (fun ls hl => ?_)
  have hl : lv_has ls 2 [(1, .int (nI 0)), (0, .ref (ad_15 0))] := by rw [← e0]; exact hl
  refine c_X5_loop hx hb hts hown (List.mem_append_left _ hr9) (List.mem_append_right _ (by decide)) h04 (fun H locs ls hW hS => ?_) 400 0 rfl H locs ls hW hS hl
  exact q_vretw hx hb hr hlocks hW hS (by first | decide | omega | (dsimp only; omega)) (by first | decide | omega | (dsimp only; omega)) dX5_init_91 ⟨_, _, rfl, hFr, hF⟩
