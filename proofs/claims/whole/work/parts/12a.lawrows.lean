/-! THE LAW: rows for its walk -/
section QL
variable {p : Program} {l : Launch} {e : Env} {R : Room} {s : State} {m : MethodId} {args : Array Value} {below : List Frame} {meth : Method} {c : Code} {H : Heap} {locs : List Loc} {cells slots : Nat} {Q : State → Prop}
variable {cc : ByteArray} {pc : Nat} {ls : Array Slot} {rest : List Value} {G : GG} {L : List Nat} {ad : Nat → Nat} {v : Nat → Nat → Int32} {o : Nat → Nat → Option Nat} {w : Nat → Int64}
variable {own : String} {index : Nat} {ci : Nat} {C : String} {T : u_T} {N : Nat} {ty : Nat → FieldType} {r nL n maxL : Nat} {y : MethodName} {b : ByteArray} {rm : Room} {As : List Value}
/-- the law's helper is called -/
theorem q_cH {hh : List (Nat × Nat × Nat × Nat)} {post : Int32 → PL → Prop} (hx : p.tables.exec = Jvm.exec) (hb : c.code = cc) (hml : c.maxLocals = nL) (hts : ∀ w ∈ wT, w.before args s = true) (hown : s.vm.findClass own = some m.cls) (hE : EV G.2.2 s s.heap) (h0 : G.2.2.1 ≤ s.heap.size) (hNC : NC s) (hW : WD G L ad v o w s H) (hS : va_S (Ab G.2.2.1) s.heap H locs) (hM : CtH l G L ad v o w y b maxL hh rm As post)
    (m1 : Cond.codeWith y b maxL (some .int) hh ∈ wT) (m2 : Cond.static y ∈ wT) (m4 : Cond.initialized y.cls ∈ wT) (m6 : y.cls ≠ "java/lang/invoke/MethodHandle" ∧ y.cls ≠ "java/lang/invoke/VarHandle") (m7 : (parseMethodDescriptor y.desc).map (fun d => d.parameters.length) = some n) (hl : Cond.methodLink own index y ∈ wT) (hR : rm.frames + 1 ≤ R.frames ∧ 8 + (maxL + 11) + rm.locals ≤ R.locals) (hn : As.length = n) (hls : ls.size = nL) (h8 : (rest.map fun v => v.category).sum ≤ 8) (hdg : decode cc pc = .ok (.invokestatic index, 3)) (hf : cells + rm.cells ≤ R.cells ∧ slots + rm.slots ≤ R.slots)
    (kk : ∀ (r : Int32) (P : PL) (H1 : Heap) (locs1 : List Loc), post r P → WDp G P.1 P.2 s H1 → va_S (Ab G.2.2.1) s.heap H1 locs1 → W p l e R s m args below meth c H1 locs1 (cells + rm.cells) (slots + rm.slots) Q (F0 m (pc + 3) ls (.int r :: rest))) : W p l e R s m args below meth c H locs cells slots Q (F0 m pc ls (As.reverse ++ rest)) :=
  va_calli (vx_runSW ⟨hx, hb, hml, hown, hts⟩ hM ⟨⟨rfl, rfl, hR.1, hR.2, q_pay m1 hts, List.mem_singleton.mpr rfl⟩, hts _ m1, hts _ m4, m6, q_len m7, hts _ hl, hts _ m2⟩ ⟨fun _ U _ _ q => ⟨q.1, q.2.1.calling, NC.moved (u := U) (Vm.Alike.refl U.vm) q.2.2⟩, fun U hU hA => ⟨rfl, CX.to hE h0 hW hS hU hA, hNC.moved hA.alike⟩⟩ rfl hn hls rfl (lv_room h8) hdg hf) hS (fun _ _ h => h) (fun _ h => h) (fun r P t H1 locs1 ht hvm hw hB hz1 hk1 hS1 => kk r P H1 locs1 hw (WD.back hB ht hvm) hS1)
/-- a call that answers a double -/
theorem q_cVd {post : UInt64 → (Nat → Nat → Int32) → Prop} (hx : p.tables.exec = Jvm.exec) (hb : c.code = cc) (hml : c.maxLocals = nL) (hts : ∀ w ∈ wT, w.before args s = true) (hown : s.vm.findClass own = some m.cls) (hE : EV G.2.2 s s.heap) (h0 : G.2.2.1 ≤ s.heap.size) (hW : WD G L ad v o w s H) (hS : va_S (Ab G.2.2.1) s.heap H locs) (hM : CtD l G L ad v o w y b maxL rm (.ref (ad r) :: As) post) (mw : MWv C y b maxL (some .double) n) (hm : r ∈ L) (hk : kd r = ci) (K : KC ci C T N ty) (hl : Cond.methodLink own index y ∈ wT) (hR : rm.frames + 1 ≤ R.frames ∧ 8 + (maxL + 11) + rm.locals ≤ R.locals) (hn : As.length = n) (hls : ls.size = nL) (h8 : (rest.map fun v => v.category).sum ≤ 8) (hdg : decode cc pc = .ok (.invokevirtual index, 3)) (hf : cells + rm.cells ≤ R.cells ∧ slots + rm.slots ≤ R.slots)
    (kk : ∀ (r : UInt64) (u : Nat → Nat → Int32) (H1 : Heap) (locs1 : List Loc), post r u → WD G L ad u o w s H1 → va_S (Ab G.2.2.1) s.heap H1 locs1 → W p l e R s m args below meth c H1 locs1 (cells + rm.cells) (slots + rm.slots) Q (F0 m (pc + 3) ls (.double r :: rest))) : W p l e R s m args below meth c H locs cells slots Q (F0 m pc ls (As.reverse ++ .ref (ad r) :: rest)) := by
  obtain ⟨m1, m2, m3, m4, m5, m6, m7⟩ := mw
  exact va_calld (va_runV (C := C) ⟨hx, hb, hml, hown, hts⟩ hM ⟨q_cb hts m1 m4 m6 m7 hl hR, hts _ m2, hts _ m3⟩ ⟨CX.blind, hW.recv hm hk K, fun U hU hA => ⟨rfl, CX.to hE h0 hW hS hU hA⟩⟩ rfl hn hls rfl (lv_room h8) hdg hf) hS (fun _ _ h => h) (fun _ h => h) (fun r u t H1 locs1 ht hvm hw hB hz1 hk1 hS1 => kk r u H1 locs1 hw (hB.back ht hvm) hS1)
/-- the helper's answer is read -/
theorem q_lald (hx : p.tables.exec = Jvm.exec) (hb : c.code = cc) (hW : WD G L ad v o w s H) (hm : 170 ∈ L) (hdg : decode cc pc = .ok (.laload, 1))
    (kk : W p l e R s m args below meth c H locs cells slots Q (F0 m (pc + 1) ls (.long (w 0) :: rest))) : W p l e R s m args below meth c H locs cells slots Q (F0 m pc ls (.int 0 :: .ref (ad 170) :: rest)) := by
  obtain ⟨q0, h1, h2⟩ := hW.atl hm rfl
  exact va_lald hx hb hW.2.2.2 hW.1 q0 4 h2 rfl (vp_cl (i := 0) (n := ln 170) (j := 0) rfl (by decide) (by decide)).1 hdg kk
/-- newarray long, for the answer -/
theorem q_newal (hx : p.tables.exec = Jvm.exec) (hb : c.code = cc) (hts : ∀ w ∈ wT, w.before args s = true) (ha : Cond.arrayClass FieldType.long ∈ wT) (h0 : G.2.2.1 ≤ s.heap.size) (hW : WD G L ad v o w s H) (hS : va_S (Ab G.2.2.1) s.heap H locs) (hr : 170 ∉ L) (hw : w = fun _ => 0) (hc : cells + 1 ≤ R.cells) (hs : slots + 1 ≤ R.slots) (hdg : decode cc pc = .ok (.newarray .long, 2))
    (kk : ∀ (ad1 : Nat → Nat) (H1 : Heap) (q : Nat), ad1 = upA ad 170 q → WD G (L ++ [170]) ad1 (up1 v 170 z32) (up1 o 170 nOp) w s H1 → va_S (Ab G.2.2.1) s.heap H1 locs → W p l e R s m args below meth c H1 locs (cells + 1) (slots + 1) Q (F0 m (pc + 2) ls (.ref (ad1 170) :: rest))) : W p l e R s m args below meth c H locs cells slots Q (F0 m pc ls (.int 1 :: rest)) := by
  refine va_newaK hx hb (atype := .long) (hts _ ha) rfl hdg rfl (by decide) (show (1 : Int32).toNatClampNeg = 1 from rfl) (by show 1 * 8 ≤ 536870912; omega) hc hs rfl fun H1 cA e1 z1 o1 hAr hNm => ?_
  have hcA : cA = G.2.1 4 := Option.some.inj (hNm.symm.trans (hW.2.2.2.2 4 _ rfl).2)
  have hkp : ∀ (k : Nat) (x : Nat × va_E), (wl G.2.1 L ad v o w)[k]? = some x → H1[x.1]? = H[x.1]? := fun k x hx => o1 x.1 ((hW.1 k x hx).lt)
  have hA : Ab G.2.2.1 H.size := Nat.le_trans h0 hS.1
  have := kk (upA ad 170 H.size) H1 H.size rfl (hW.push hr (q := H.size) ((hW.1.kept hkp).app (fun k x hx => ?_)) (hW.2.1.push hW.1 rfl hA)) ⟨Nat.le_trans hS.1 (by omega), fun x h1 h2 => (o1 x (Nat.lt_of_lt_of_le h1 hS.1)).trans (hS.2.1 x h1 h2), hS.2.2⟩
  · rw [upA_s] at this; exact this
  · have hz : k < 1 := (List.getElem?_eq_some_iff.mp hx).1
    rw [show k = 0 by omega] at hx
    cases hx
    show H1[H.size]? = _
    rw [e1, hcA, hw]; rfl
variable {B : Nat} {Ls : Nat} {xs : Nat → Int32} {A : Nat → Prop} {i0 j : Nat} {c0 : Int32}
/-- a cell of the script -/
theorem q_sld (hx : p.tables.exec = Jvm.exec) (hb : c.code = cc) (hX : va_X B Ls xs s s.heap) (hbl : B < s.heap.size) (hbA : ¬ A B) (hS : va_S A s.heap H locs) (hL : Ls ≤ 4608) (hi : i0 + 8 < Ls) (hj : c0 = nI j) (hj8 : j ≤ 8) (hdg : decode cc pc = .ok (.iaload, 1))
    (kk : W p l e R s m args below meth c H locs cells slots Q (F0 m (pc + 1) ls (.int (xs (i0 + j)) :: rest))) : W p l e R s m args below meth c H locs cells slots Q (F0 m pc ls (.int (nI i0 + c0) :: .ref B :: rest)) := by
  subst hj
  rw [nI_add]
  exact va_sld hx hb hX hbl hbA hS (vp_in_nI (by omega) (by omega)) hdg (by rw [nI_clamp (by omega)]; exact kk)
theorem q_sld0 (hx : p.tables.exec = Jvm.exec) (hb : c.code = cc) (hX : va_X B Ls xs s s.heap) (hbl : B < s.heap.size) (hbA : ¬ A B) (hS : va_S A s.heap H locs) (hL : Ls ≤ 4608) (hi : i0 + 8 < Ls) (hdg : decode cc pc = .ok (.iaload, 1))
    (kk : W p l e R s m args below meth c H locs cells slots Q (F0 m (pc + 1) ls (.int (xs i0) :: rest))) : W p l e R s m args below meth c H locs cells slots Q (F0 m pc ls (.int (nI i0) :: .ref B :: rest)) :=
  va_sld hx hb hX hbl hbA hS (vp_in_nI (by omega) (by omega)) hdg (by rw [nI_clamp (by omega)]; exact kk)
end QL
/-- what holds at the law's entry and stays -/
def LAt (p : Program) (s : State) (m : MethodId) (meth : Method) (c : Code) (B Ls : Nat) (xs : Nat → Int32) (G : GG) : Prop :=
  p.tables.exec = Jvm.exec ∧ c.code = cL_law ∧ meth.sig.returnType = some .boolean ∧ c.maxLocals = 9 ∧ s.vm.findClass RL = some m.cls ∧ (∀ w ∈ wT, w.before #[Value.ref B] s = true) ∧ va_X B Ls xs s s.heap ∧ B < s.heap.size ∧ meth.locks = false ∧ EV G.2.2 s s.heap ∧ G.2.2.1 = s.heap.size ∧ NC s
/-- behind a call of the law -/
def LK (p : Program) (l : Launch) (e : Env) (s : State) (m : MethodId) (below : List Frame) (meth : Method) (c : Code) (Q : State → Prop) (G : GG) (B i0 cells slots : Nat) (n : Int) (a0 a1 a2 : Nat) : Prop :=
  ∀ (L : List Nat) (ad : Nat → Nat) (v : Nat → Nat → Int32) (o : Nat → Nat → Option Nat) (w : Nat → Int64) (H : Heap) (locs : List Loc) (ls : Array Slot), ad 0 = a0 → ad 100 = a1 → ad 170 = a2 → INVe G.2.2.2 (n + 1) L ad v o → WD G L ad v o w s H → va_S (Ab G.2.2.1) s.heap H locs → lv_has ls 9 [(0, .ref B), (1, .ref a0), (2, .ref a1), (3, .ref a2), (4, .int (nI i0))] → W p l e room_1 s m #[Value.ref B] below meth c H locs cells slots Q (F0 m 1589 ls [])
theorem lcmp_eq {x y : Int64} (h : x = y) : lg_cmp x y = 0 := by
  subst h
  unfold lg_cmp
  rw [if_neg Int64.lt_irrefl, if_pos rfl]
