/-! THE CLAIM OUT OF ONE WALK OF THE LAW'S BODY. Your part is whole_start (and what it stands on); all else here is the same for every law, but numbers. -/
def R_law : String := "HailPoolLaw"
def lw_P (b : Addr) (xs : List Int32) (args : Array Value) (s : State) : Prop := args = #[.ref b] ∧ s.IntsAt b xs ∧ xs.length ≤ 4608 ∧ (Jvm.Cond.and given_1 narrow_1).before args s = true
/-- what a walk over the start with the record d0 says of its end, said of the start itself -/
theorem lw_closed {s t : State} {o : Outcome} {d0 : Drawn} {L : List Loc} {k n : Nat} (hd0 : s.drawn.sameBut d0 lw_cs) (hv : ∃ v, o = .returned v) (hW : (s.setDrawn d0).WarmedH t.vm) (hs : (s.setDrawn d0).sameButNew ({ t with vm := s.vm } : State) L k n) : State.butDraws s t lw_cs (fun t1 => Framed s o t1 L k n) := by
  have h2 : t.drawn = d0 := congrArg State.drawn hs.1
  refine ⟨⟨hv, hW, State.sameButNew.setDrawn hs s.drawn⟩, ?_, by decide⟩
  rw [h2]
  exact hd0
def lw_Q (_ : Array Value) (s : State) (o : Outcome) (t : State) : Prop := o = .returned (some (.int 1)) ∧ State.butDraws s t lw_cs (fun t1 => Framed s o t1 [] 601024 7293034)
def lw_Z (below : List Frame) (a : Array Value) (s : State) : State → Prop := fun t => ∃ o, t.status = .running ∧ Ended t below o ∧ lw_Q a s o t
/-- the law's own end, with 1 on the stack, nothing written that was there before, its room as the claim has it; d0: the record of draws at this point (at the entry s.drawn: begin with 'refine W.base ?_' and 'have hd0 := Drawn.sameBut.refl s.drawn lw_cs') -/
theorem lw_ret {p : Program} {l : Launch} {e : Env} {s : State} {m : MethodId} {below : List Frame} {meth : Method} {c : Code} {b : Nat} {d0 : Drawn} (hd0 : s.drawn.sameBut d0 lw_cs) (hx : p.tables.exec = Jvm.exec) (hb : c.code = code) (hr : meth.sig.returnType = ret) (hlocks : meth.locks = false) {pc : Nat} {H : Heap} {ls : Array Slot} (hdg : decode code pc = .ok (.ireturn, 1)) : W p l e room_1 (s.setDrawn d0) m #[Value.ref b] below meth c H [] 601024 7293034 (lw_Z below #[Value.ref b] s) (F0 m pc ls [.int 1]) := by
  intro T hT X
  obtain ⟨fs, hret, hrun, hended, hW, hframe⟩ := X.leave (v := some (.int 1)) (hlocks := hlocks) (fun h => by rw [hr] at h; cases h)
  have hmeth' : T.vm.method? m = some meth := X.method'
  refine ⟨T.setFrames fs, ?_, .returned (some (.int 1)), hrun, hended, rfl, lw_closed hd0 ⟨_, rfl⟩ hW hframe⟩
  jvm_step X.here [X.here.top, hx, hb, hdg, hmeth', hr, ret, narrow_b1]
  (try refine ⟨rfl, ?_⟩); (try refine ⟨rfl, ?_⟩)
  first | (intro acts; rw [hret _ acts rfl rfl rfl]) | rw [hret _ _ rfl rfl rfl]
  exact Steps.refl _
/-- what holds at the law's entry: the machine, the code, the tables' words (any of lw_tbl by 'hts w (by decide +kernel)'), the script of L ints xs at the cell b, what the Statement gives of the start (any of its parts by flat_of_before) -/
def lw_At (p : Program) (s : State) (m : MethodId) (meth : Method) (c : Code) (b L : Nat) (xs : Nat → Int32) : Prop :=
  p.tables.exec = Jvm.exec ∧ c.code = code ∧ meth.sig.returnType = ret ∧ c.maxLocals = 9 ∧ s.vm.findClass R_law = some m.cls ∧ (∀ w ∈ lw_tbl, w.before #[Value.ref b] s = true) ∧ va_X b L xs s s.heap ∧ b < s.heap.size ∧ meth.locks = false ∧ (Jvm.Cond.and given_1 narrow_1).before #[Value.ref b] s = true
set_option maxHeartbeats 4000000 in
set_option maxRecDepth 100000 in
theorem whole_start {p : Program} {e : Env} {s : State} {m : MethodId} {below : List Frame} {meth : Method} {c : Code} (l : Launch) (hflags : l.flags = flags0) {b L : Nat} {xs : Nat → Int32} (hL : L ≤ 4608) (C0 : lw_At p s m meth c b L xs) : W p l e room_1 s m #[Value.ref b] below meth c s.heap [] 0 0 (lw_Z below #[Value.ref b] s) (entryFrame m ([Value.ref b] : List Value).toArray 9) := by
  obtain ⟨hx, hb, hr, hml, hown, hts0, hX, hbl, hlocks, hgv⟩ := id C0
  obtain ⟨G, hE, h0e, hNC, hAO, hK⟩ := law_EV hts0 hgv
  have hts : ∀ w ∈ wT, w.before #[Value.ref b] s = true := fun w h => hts0 w (List.mem_filter.mp h).1
  have hst9 : l.stackTraces = false := by
    unfold Launch.stackTraces
    rw [hflags]
    decide
  have h0 : G.2.2.1 ≤ s.heap.size := Nat.le_of_eq h0e
  have hb : c.code = cL_law := hb
  have hown : s.vm.findClass RL = some m.cls := hown
  have CL : LAt p s m meth c b L xs G := ⟨hx, hb, hr, hml, hown, hts, hX, hbl, hlocks, hE, h0e, hNC⟩
  have hl := lv_entry ([.ref b]) (n := 9) (Nat.le_of_ble_eq_true rfl)
  rw [lg_entry_eq]
  generalize (lg_sl ([.ref b]) ++ List.replicate (9 - (lg_sl ([.ref b])).length) Slot.unset).toArray = ls at hl ⊢
  have hl : lv_has ls 9 [(0, .ref b)] := hl
  have hS : va_S (Ab G.2.2.1) s.heap s.heap [] := va_S.rf
  have hW : WD G [] (fun _ => G.2.2.2) (fun _ => z32) (fun _ => nOp) (fun _ => 0) s s.heap := ⟨fun k q h => by simp [wl] at h, ⟨fun i j p q h => by simp [wl] at h, fun k q h => by simp [wl] at h⟩, List.nodup_nil, hK⟩
  -- the class's object
  refine q_new hx hb hts hown h0 hW hS 0 (by simp) rfl k_6 t_69 t_70 t_46 (by intro j hj; match j, hj with | 0, _ => rfl | 1, _ => rfl | 2, _ => rfl | 3, _ => rfl | 4, _ => rfl | 5, _ => rfl | 6, _ => rfl | 7, _ => rfl | 8, _ => rfl) (by show 0 + 1 ≤ 601024; omega) (by show 0 + 9 ≤ 7293034; omega) dL_law_0 (fun ad1 H q1 had1 hW hS => ?_)
  rw [up1_self (v := fun _ => z32) rfl] at hW
  have t1 : ad1 9999 = G.2.2.2 := by rw [had1]; exact upA_n (by decide)
  refine lv_dup hx hb dL_law_3 rfl ?_
  refine q_cIO (As := []) (rest := [.ref (ad1 0)]) (r := 0) hx hb hml hts hown hE h0 hAO hW hS (c_X5_init l (by decide) (by decide +kernel) (fun _ _ => rfl) t1) mw_X5_init t_71 ⟨Nat.le_of_ble_eq_true rfl, Nat.le_of_ble_eq_true rfl⟩ rfl hl.1 (Nat.le_of_ble_eq_true rfl) dL_law_4 ⟨by show 0 + 1 + 42 ≤ 601024; omega, by show 0 + 9 + 1055 ≤ 7293034; omega⟩ (fun P H locs hP hW hS => ?_)
  obtain ⟨ad2, o2, rfl, F1, O1⟩ := hP
  obtain ⟨vS, hvS⟩ : ∃ u, u = itr (fun k u => up2 u 4 k (-1)) 400 (fun _ => z32) := ⟨_, rfl⟩
  have hW : WD G LF2 ad2 vS o2 (fun _ => 0) s H := by rw [hvS]; exact hW
  have v0 : ∀ r, r ≠ 4 → vS r = z32 := fun r hr => by
    funext k
    rw [hvS, pane0, if_neg (by omega)]
  have v4 : ∀ c, c < 400 → vS 4 c = -1 := fun c hc => by rw [hvS, pane0, if_pos ⟨rfl, hc⟩]
  refine lv_astore_n (lv' := [(1, .ref (ad1 0)), (0, .ref b)]) hx hb dL_law_7 rfl hl (by decide) rfl (fun ls hl => ?_)
  -- the reference
  refine q_new hx hb hts hown h0 hW hS 100 (by decide +kernel) rfl k_8 t_855 t_856 t_51 (by intro j hj; match j, hj with | 0, _ => rfl | 1, _ => rfl | 2, _ => rfl) (by show 0 + 1 + 42 + 1 ≤ 601024; omega) (by show 0 + 9 + 1055 + 3 ≤ 7293034; omega) dL_law_8 (fun ad3 H q3 had3 hW hS => ?_)
  rw [up1_self (v0 100 (by decide))] at hW
  refine lv_dup hx hb dL_law_11 rfl ?_
  refine q_cIw (As := []) (rest := [.ref (ad3 100)]) (r := 100) hx hb hml hts hown hE h0 hW hS (c_X7_init l (by decide +kernel) (by decide +kernel) (fun x hx => v0 x (by rintro rfl; exact absurd hx (by decide)))) mw_X7_init t_857 ⟨Nat.le_of_ble_eq_true rfl, Nat.le_of_ble_eq_true rfl⟩ rfl hl.1 (Nat.le_of_ble_eq_true rfl) dL_law_12 ⟨by show 0 + 1 + 42 + 1 + 28 ≤ 601024; omega, by show 0 + 9 + 1055 + 3 + 1634 ≤ 7293034; omega⟩ (fun P H locs hP hW hS => ?_)
  obtain ⟨ad4, o4, rfl, F2, O2⟩ := hP
  have hW : WD G LF4 ad4 vS o4 (fun _ => 0) s H := hW
  refine lv_astore_n (lv' := [(2, .ref (ad3 100)), (1, .ref (ad1 0)), (0, .ref b)]) hx hb dL_law_15 rfl hl (by decide) rfl (fun ls hl => ?_)
  refine lv_iconst (v := 1) hx hb dL_law_16 (by decide) ?_
  refine q_newal hx hb hts t_1136 h0 hW hS (by decide +kernel) rfl (by show 0 + 1 + 42 + 1 + 28 + 1 ≤ 601024; omega) (by show 0 + 9 + 1055 + 3 + 1634 + 1 ≤ 7293034; omega) dL_law_17 (fun ad5 H q5 had5 hW hS => ?_)
  rw [up1_self (v0 170 (by decide))] at hW
  refine lv_astore_n (lv' := [(3, .ref (ad5 170)), (2, .ref (ad3 100)), (1, .ref (ad1 0)), (0, .ref b)]) hx hb dL_law_19 rfl hl (by decide) rfl (fun ls hl => ?_)
  refine lv_iconst (v := 0) hx hb dL_law_20 (by decide) ?_
  refine lv_istore (lv' := [(4, .int 0), (3, .ref (ad5 170)), (2, .ref (ad3 100)), (1, .ref (ad1 0)), (0, .ref b)]) hx hb dL_law_21 hl (by decide) rfl (fun ls hl => ?_)
  -- where things lie
  have n54 : ∀ x, x ≠ 170 → ad5 x = ad4 x := fun x h => by rw [had5]; exact upA_n h
  have n43 : ∀ x, x < 101 ∨ 158 < x → ad4 x = ad3 x := fun x h => F2.1 x (fun q => by
    have := (by decide : ∀ y, y ∈ ((([101] ++ [111, 112, 113, 114, 115, 117, 118, 119, 122, 124, 126, 127, 128]) ++ [102]) ++ [141, 142, 143, 144, 145, 147, 148, 149, 152, 154, 156, 157, 158]) → 101 ≤ y ∧ y ≤ 158) x q
    omega)
  have n32 : ∀ x, x ≠ 100 → ad3 x = ad2 x := fun x h => by rw [had3]; exact upA_n h
  have n21 : ∀ x, x < 1 ∨ 49 < x → ad2 x = ad1 x := fun x h => F1.1 x (fun q => by
    have := (by decide +kernel : ∀ y, y ∈ ((([1, 2, 3, 4] ++ ([5] ++ rw30)) ++ [6]) ++ [7, 8, 9, 10, 11, 12]) → 1 ≤ y ∧ y ≤ 49) x q
    omega)
  have e0 : ad5 0 = ad1 0 := (n54 0 (by omega)).trans ((n43 0 (by omega)).trans ((n32 0 (by omega)).trans (n21 0 (by omega))))
  have e100 : ad5 100 = ad3 100 := (n54 100 (by omega)).trans (n43 100 (by omega))
  have e9 : ad5 9999 = G.2.2.2 := (n54 _ (by omega)).trans ((n43 _ (by omega)).trans ((n32 _ (by omega)).trans ((n21 _ (by omega)).trans t1)))
  have X1 : FO foX ad2 o2 := O1.sub (by decide +kernel)
  have X3 : FO foX ad3 (up1 o2 100 nOp) := by rw [had3]; exact X1.new (by decide +kernel)
  have X4 : FO foX ad4 o4 := X3.far F2 (by decide +kernel)
  have X5 : FO foX ad5 (up1 o4 170 nOp) := by rw [had5]; exact X4.new (by decide +kernel)
  have Y4 : FO foY ad4 o4 := O2
  have Y5 : FO foY ad5 (up1 o4 170 nOp) := by rw [had5]; exact Y4.new (by decide +kernel)
  rw [← e0, ← e100] at hl
  have hI : INVe G.2.2.2 ((0 : Nat) : Int) LF5 ad5 vS (up1 o4 170 nOp) := ⟨0, 0, 0, 0, id, id, id, id, id, start_INV LF_13 LF_20 X5 e9 ⟨LF_m.1, LF_m.2.1, LF_m.2.2.1, fun k hk => (LF_a k (arr_lt k hk) hk).1, fun k hk => (LF_a k (arr_lt k hk) hk).2⟩ Y5 (fun r k h => by rw [v0 r h]) v4 LF_x⟩
  refine W.widen (k := 200 + 200 * 0) (n := 20000 + 2000 * 0) (Nat.le_of_ble_eq_true rfl) (Nat.le_of_ble_eq_true rfl) ?_
  exact law_loop hst9 CL hL (fun H locs ls hS => by
    refine lv_iconst (v := 1) hx hb dL_law_1595 (by decide) ?_
    refine va_forget (fun q hq => by have := hS.2.2 q hq; rw [← h0e]; exact this) ?_
    refine W.base ?_
    exact lw_ret (Drawn.sameBut.refl s.drawn lw_cs) hx hb hr hlocks dL_law_1596) (L + 1) 0 LF5 ad5 vS (up1 o4 170 nOp) (fun _ => 0) H _ ls (by omega) (by omega) hI hW hS (lv_sub hl [4, 3, 2, 1, 0] rfl)
-- ===== YOUR PART ENDS =====
set_option maxHeartbeats 4000000 in
theorem lw_walk (l : Launch) (hflags : l.flags = flags0) (b : Addr) (xs : List Int32) : MetFree l x (headSpec (Jvm.Cond.code x code maxLocals ret :: tables_1) room_1) (lw_P b xs) (fun _ _ _ _ _ => True) lw_Q := by
  refine MetFree.of_bodyS (code := code) (maxLocals := maxLocals) (ret := ret) (by decide) ?_ ?_
  · intro args s m h hn
    obtain ⟨meth, c, h1, h2, h3, h4, h5, h6, -, -⟩ := Cond.code_spec hn (atoms_spec (ws := Jvm.Cond.code x code maxLocals ret :: tables_1) h _ List.mem_cons_self)
    exact ⟨meth, c, h1, h2, h3, h4, h5, h6⟩
  · intro p e s m args below meth c s₁ B hml0 hP _
    obtain ⟨rfl, hx, hbd, hgv⟩ := hP
    obtain ⟨scr, harrAt, hlist, hof, hsmall⟩ := hx
    obtain ⟨hcb, hkn, -, -⟩ := State.arrayAt?_spec harrAt
    have hown : s.vm.findClass R_law = some m.cls := findClass_of_methodNamed B.named
    have hts0 : ∀ c ∈ (Jvm.Cond.code x code maxLocals ret :: tables_1), c.before #[Value.ref b] s = true := atoms_spec (ws := Jvm.Cond.code x code maxLocals ret :: tables_1) B.pre
    have hts : ∀ w ∈ lw_tbl, w.before #[Value.ref b] s = true := k2_hts_sels lw_privs (fun w hw => hts0 w (List.mem_cons_of_mem _ hw)) lw_privs_ok
    have hml : c.maxLocals = 9 := B.maxLocals_eq (hts0 _ List.mem_cons_self)
    have X₀ : Stand p l e room_1 s m #[Value.ref b] below meth c s₁ [] 0 0 := Stand.of_body B
    have hh0 : s₁.heap = s.heap := by rw [B.state]; rfl
    have hsz : scr.slots.size = xs.length := by rw [← Array.length_toList, hlist, List.length_map]
    have hval : ∀ j : Nat, j < xs.length → scr.slots[j]? = some (.int (xs.getD j 0)) := fun j hj => by
      rw [← Array.getElem?_toList, hlist]
      simp [hj]
    have hbl : b < s.heap.size := (Array.getElem?_eq_some_iff.mp hcb).1
    have hX : va_X b xs.length (fun j => xs.getD j 0) s s.heap := ⟨scr, hcb, hof, hkn, hsz, hval⟩
    have K : W p l e room_1 s m #[Value.ref b] below meth c s₁.heap [] 0 0 (lw_Z below #[Value.ref b] s) (entryFrame m ([Value.ref b] : List Value).toArray 9) := by
      rw [hh0]
      exact whole_start l hflags hbd ⟨B.exec, B.bytes, B.returns, hml, hown, hts, hX, hbl, B.notSynchronized, hgv⟩
    obtain ⟨t, a1, o, b1, b2, b3⟩ := K s₁ rfl X₀
    exact ⟨t, o, a1, b1, b2, b3⟩
theorem lw_pre_spec {args : Array Value} {s : State} (h : (Jvm.Cond.and given_1 narrow_1).before args s = true) (hr : rest_1_c.before args s = true) : ∃ (b : Addr) (xs : List Int32), lw_P b xs args s := by
  have hs := flat_of_before _ h
  have hq := flat_of_before _ hr
  have hc : (Cond.count 1).before args s = true := hs _ (by decide +kernel)
  have harr : (Cond.arrayOf (.arg 0) .int).before args s = true := hs _ (by decide +kernel)
  have hle : (Cond.le (.length (.arg 0)) (.int 4608)).before args s = true := hs _ (by decide +kernel)
  have hlen : (Cond.isInt (.length (.arg 0))).before args s = true := hq _ (by decide +kernel)
  have hall : (Cond.all (.arg 0) (.isInt (.elem (.arg 0) (.index 0)))).before args s = true := hq _ (by decide +kernel)
  obtain ⟨b, xs, hb, hx⟩ := State.ints_of_pre rfl harr hlen hall
  have hsm : xs.length < 2 ^ 31 := hx.choose_spec.2.2.2
  have hev : (Term.length (.arg 0)).eval args s none [] s = some (.int xs.length.toInt32) := hx.length_eval hb
  have hv := Cond.le_ints hev (show (Term.int 4608).eval args s none [] s = some (.int 4608) from rfl)
  have hd : xs.length.toInt32 ≤ 4608 := by
    simpa [Cond.before, Cond.holds, hv] using hle
  have hN : xs.length ≤ 4608 := (Int32.ofNat_le_ofNat hsm (by decide)).mp (show Int32.ofNat xs.length ≤ Int32.ofNat 4608 from hd)
  exact ⟨b, xs, Cond.one_arg hc (show args[0]? = some (.ref b) from hb), hx, hN, h⟩
theorem lw_comes (l : Launch) (hflags : l.flags = flags0) : Comes l x (Jvm.Cond.code x code maxLocals ret :: tables_1) room_1 (fun tb e args s => Calls_1 tb e args s ∧ rest_1 tb e args s ∧ Pre_1 tb e args s)
    (fun _ _ args s o t => lw_Q args s o t) := by
  intro p e ha hc hk s m args below hf hfit hheap happ hpre
  obtain ⟨b, xs, hP⟩ := lw_pre_spec hpre.2.2 hpre.2.1
  obtain ⟨k, o, h1, h2, h3, hQ⟩ := lw_walk l hflags b xs p e ha hc hk s m args below hf ((Spec.applies_iff_loose hf).mp happ).1 hP trivial
  exact ⟨k, o, h1, h2, h3, hQ⟩
theorem lw_frame {s t : State} {o : Outcome} {args : Array Value} (h : State.butDraws s t lw_cs (fun t1 => Framed s o t1 [] 601024 7293034)) :
    State.butDraws s t [Jvm.Choice.named "NaN.bits"] (fun t1 => Framed s o t1 (fieldLocs frame_1_writes args s ++ arrayLocs frame_1_arrays args s ++ staticLocs frame_1_statics s) 601024 7293034) := h
theorem lw_limb (L : Cond) (hL : ∀ (args : Array Value) (s t : State), L.after args s (.returned (some (.int 1))) t = true) :
    ArmFor flags0 classFile x code maxLocals ret World_1 tables_1 room_1 Calls_1 rest_1 Pre_1
      (fun tb e a s o t => postC L tb e a s o t ∧ State.butDraws s t [Jvm.Choice.named "NaN.bits"] (fun t1 => Framed s o t1 (fieldLocs frame_1_writes a s ++ arrayLocs frame_1_arrays a s ++ staticLocs frame_1_statics s) 601024 7293034)) := by
  intro l hflags _ _ p e ha hc hk s m args below hf hfit hheap happ hpre
  obtain ⟨k, o, h1, h2, h3, rfl, hF⟩ := lw_comes l hflags p e ha hc hk s m args below hf hfit hheap happ hpre
  exact ⟨k, _, h1, h2, h3, hL args s _, lw_frame hF⟩
theorem i_vc : Claimed_1_1 ∧ Claimed_1_2 := ⟨lw_limb limb_1_1 (fun args s t => by simp [limb_1_1, Cond.after, Cond.holds, Cond.value]), lw_limb limb_1_2 (fun args s t => Cond.after_iff.mpr (by
  first | (rw [show limb_1_2 = Cond.eq .result (.int 1) from rfl, Cond.eq_ints (x := 1) (y := 1) rfl rfl]; simp; done) | (simp [limb_1_2, Cond.value, Term.eval]; done)))⟩
