/-! the law's helpers: the class called, what it throws caught -/
abbrev xIA : String := "java/lang/IllegalArgumentException"
abbrev xIS : String := "java/lang/IllegalStateException"
abbrev xIO : String := "java/lang/IndexOutOfBoundsException"
def NC (U : State) : Prop := va_Nc xIS xIA U ∧ va_Nc xIA xIO U ∧ va_Nc xIS xIO U ∧ va_Nc xIO xIA U
theorem NC.moved {u U : State} (hvm : u.vm.Alike U.vm) (h : NC u) : NC U := ⟨h.1.moved hvm, h.2.1.moved hvm, h.2.2.1.moved hvm, h.2.2.2.moved hvm⟩
theorem Met.weak {l : Launch} {y : MethodName} {ws : List Cond} {rm : Room} {Pc Pc' : Array Value → State → Prop} {Qc Qc' : Array Value → State → Outcome → State → Prop} {mc ms : Nat} {free : Addr → Prop} (h : Met l y ws rm Pc Qc mc ms free) (hP : ∀ a s, Pc' a s → Pc a s) (hQ : ∀ a s o t, Qc a s o t → Qc' a s o t) : Met l y ws rm Pc' Qc' mc ms free := by
  intro p e ha hc hk s m args below hf happ hP0 hK
  obtain ⟨n, o, h1, h2, h3, h4, L, h5, h6⟩ := h p e ha hc hk s m args below hf happ (hP _ _ hP0) hK
  exact ⟨n, o, h1, h2, h3, hQ _ _ _ _ h4, L, h5, h6⟩
theorem Met.ofWH {l : Launch} {y : MethodName} {ws ws' : List Cond} {rm : Room} {Pc : Array Value → State → Prop} {Qc : Array Value → State → Outcome → State → Prop} {mc ms : Nat} {free : Addr → Prop} {cc : ByteArray} {maxL : Nat} {ret : Option FieldType} {hh : List (Nat × Nat × Nat × Nat)}
    (hy : plainName y.cls = true) (hw : ws = Cond.codeWith y cc maxL ret hh :: ws')
    (body : ∀ p e s m args below meth c s₁, BodyLoose p l y (headSpec ws rm) cc maxL ret e s m args below meth c s₁ → c.maxLocals = maxL → Pc args s →
      W p l e (headSpec ws rm).room s m args below meth c s.heap [] 0 0 (MQ below Qc args s mc ms free) (entryFrame m args maxL)) : Met l y ws rm Pc Qc mc ms free := by
  refine MetFree.of_bodyS (code := cc) (maxLocals := maxL) (ret := ret) hy ?_ ?_
  · intro args s m h hn
    obtain ⟨m9, meth, c, hn9, h1, h2, h3, h4, -, h5, h6, -⟩ := Cond.codeWith_spec (atoms_spec (ws := ws) h _ (by rw [hw]; exact List.mem_cons_self))
    cases hn.symm.trans hn9
    exact ⟨meth, c, h1, h2, h3, h4, h5, h6⟩
  · intro p e s m args below meth c s₁ B hml hP _
    have hh0 : s₁.heap = s.heap := by rw [B.state]; rfl
    obtain ⟨t, a1, o, b1, b2, b3⟩ := body p e s m args below meth c s₁ B hml hP s₁ hh0 (Stand.of_body B)
    exact ⟨t, o, a1, b1, b2, ⟨b3.1, b3.2⟩⟩
abbrev PL : Type := PW × (Nat → Int64)
abbrev CtH (l : Launch) (G : GG) (L : List Nat) (ad : Nat → Nat) (v : Nat → Nat → Int32) (o : Nat → Nat → Option Nat) (w : Nat → Int64) (y : MethodName) (b : ByteArray) (maxL : Nat) (hh : List (Nat × Nat × Nat × Nat)) (rm : Room) (As : List Value) (post : Int32 → PL → Prop) : Prop :=
  Met l y [Cond.codeWith y b maxL (some .int) hh] rm (va_Pc As (fun U => CX G L ad v o w U ∧ NC U)) (va_Qi post (fun P t => WDp G P.1 P.2 t t.heap) (Ab G.2.2.1)) rm.cells rm.slots (Ab G.2.2.1)
theorem CtI.w {l : Launch} {G : GG} {L : List Nat} {ad : Nat → Nat} {v : Nat → Nat → Int32} {o : Nat → Nat → Option Nat} {w : Nat → Int64} {y : MethodName} {b : ByteArray} {maxL : Nat} {rt : FieldType} {rm : Room} {As : List Value} {post : Int32 → (Nat → Nat → Int32) → Prop} (h : CtI l G L ad v o w y b maxL rt rm As post) : CtIw l G L ad v o w y b maxL rt rm As (fun r P => ∃ u, P = (L, ad, u, o) ∧ post r u) :=
  Met.weak h (fun _ _ q => q) (fun a s oc t q => by
    obtain ⟨⟨r, u, h1, h2, h3⟩, h4⟩ := q
    exact ⟨⟨r, (L, ad, u, o), h1, ⟨u, rfl, h2⟩, h3⟩, h4⟩)
/-- a helper's room, out of that of the method that it calls -/
abbrev hRm (rm : Room) (n : Nat) : Room := { frames := rm.frames + 1, cells := rm.cells, slots := rm.slots, locals := 8 + (n + 11) + rm.locals }
set_option maxRecDepth 100000 in
theorem kd13 {r : Nat} (h : kd r = 13) : r = 170 := by
  rcases Nat.lt_or_ge r 182 with g | g
  · have := (by decide : ∀ r, r < 182 → kd r = 13 → r = 170)
    exact this r g h
  · unfold kd at h
    repeat rw [if_neg (by omega)] at h
    exact absurd h (by decide)
section QH
variable {p : Program} {l : Launch} {e : Env} {R : Room} {s : State} {m : MethodId} {args : Array Value} {below : List Frame} {meth : Method} {c : Code} {H : Heap} {locs : List Loc} {cells slots : Nat} {Q : State → Prop}
variable {cc : ByteArray} {pc : Nat} {ls : Array Slot} {rest : List Value} {G : GG} {L : List Nat} {ad : Nat → Nat} {v : Nat → Nat → Int32} {o : Nat → Nat → Option Nat} {w : Nat → Int64}
variable {own : String} {index : Nat} {ci : Nat} {C : String} {T : u_T} {N : Nat} {ty : Nat → FieldType} {r nL n maxL : Nat} {y : MethodName} {b : ByteArray} {ret : Option FieldType} {rm : Room} {As : List Value}
theorem q_last (hx : p.tables.exec = Jvm.exec) (hb : c.code = cc) (hW : WD G L ad v o w s H) (hS : va_S (Ab G.2.2.1) s.heap H locs) (hm : 170 ∈ L) {x : Int64} {a9 : Nat} (h9 : a9 = ad 170) (hdg : decode cc pc = .ok (.lastore, 1))
    (kk : ∀ (H1 : Heap) (locs1 : List Loc), WD G L ad v o (vp_updL w 0 x) s H1 → va_S (Ab G.2.2.1) s.heap H1 locs1 → W p l e R s m args below meth c H1 locs1 cells slots Q (F0 m (pc + 1) ls rest)) : W p l e R s m args below meth c H locs cells slots Q (F0 m pc ls (.long x :: .int 0 :: .ref a9 :: rest)) := by
  subst h9
  obtain ⟨q0, h1, h2⟩ := hW.atl hm rfl
  refine va_last hx hb hW.2.2.2 hW.1 hW.2.1 hS q0 4 h2 rfl (vp_cl (i := 0) (n := ln 170) (j := 0) rfl (by decide) (by decide)).1 hdg (fun H1 l1 hP hD hS1 => kk H1 l1 (hW.mk' hP hD (wl_set hW.2.2.1 h1 rfl (fun r' _ hn => ?_))) hS1)
  unfold gE
  have h13 : ¬ kd r' = 13 := fun q => hn (kd13 q)
  simp only [if_neg h13]
/-- a call that throws, caught here -/
theorem q_xVc {rt : FieldType} {E name : String} (hx : p.tables.exec = Jvm.exec) (hb : c.code = cc) (hml : c.maxLocals = nL) (hts : ∀ w ∈ wT, w.before args s = true) (hown : s.vm.findClass own = some m.cls) (hE : EV G.2.2 s s.heap) (h0 : G.2.2.1 ≤ s.heap.size) (hW : WD G L ad v o w s H) (hS : va_S (Ab G.2.2.1) s.heap H locs) (hM : CtXi l G L ad v o w y b maxL rt rm (.ref (ad r) :: As) E) (mw : MWv C y b maxL (some rt) n) (hm : r ∈ L) (hk : kd r = ci) (K : KC ci C T N ty) (hl : Cond.methodLink own index y ∈ wT) (hR : rm.frames + 1 ≤ R.frames ∧ 8 + (maxL + 11) + rm.locals ≤ R.locals) (hn : As.length = n) (hls : ls.size = nL) (h8 : (rest.map fun v => v.category).sum ≤ 8) (hdg : decode cc pc = .ok (.invokevirtual index, 3)) (hf : cells + rm.cells ≤ R.cells ∧ slots + rm.slots ≤ R.slots)
    (pre : List ExceptionTableEntry) (x : ExceptionTableEntry) (suf : List ExceptionTableEntry) (hsplit : c.exceptionTable.toList = pre ++ x :: suf) (hpass : ∀ z ∈ pre, covers z pc = false ∨ (z.catchType ≠ 0 ∧ ∃ nm : String, (Cond.classLink own z.catchType nm).before args s = true ∧ va_Nc E nm s)) (hxc : covers x pc = true) (hx0 : x.catchType ≠ 0) (hlink : Cond.classLink own x.catchType name ∈ wT) (hcast : Cond.castable E name ∈ wT)
    (kk : ∀ (H1 : Heap) (locs1 : List Loc) (q9 : Nat), WD G L ad v o w s H1 → va_S (Ab G.2.2.1) s.heap H1 locs1 → W p l e R s m args below meth c H1 locs1 (cells + rm.cells) (slots + rm.slots) Q (F0 m x.handlerPc ls [.ref q9])) : W p l e R s m args below meth c H locs cells slots Q (F0 m pc ls (As.reverse ++ .ref (ad r) :: rest)) := by
  obtain ⟨m1, m2, m3, m4, m5, m6, m7⟩ := mw
  exact vx_calli (vx_runV (C := C) ⟨hx, hb, hml, hown, hts⟩ hM ⟨q_cb hts m1 m4 m6 m7 hl hR, hts _ m2, hts _ m3⟩ ⟨CX.blind, hW.recv hm hk K, fun U hU hA => ⟨rfl, CX.to hE h0 hW hS hU hA⟩⟩ rfl hn hls rfl (lv_room h8) hdg hf) hS (fun _ _ h => h) (fun _ h => h) (fun _ _ h => h) (fun E1 ce q9 u t H1 locs1 ht hvm hpx hBX hz hkp hS1 hce hcv1 hcl => by
    obtain ⟨rfl, hB⟩ := hBX
    exact vx_catch hown pre x suf hsplit hpass hxc hx0 (hts _ hlink) (hts _ hcast) hce hcv1 hcl (kk H1 locs1 q9 (WD.back hB ht hvm) hS1)) (fun r u t H1 locs1 ht hvm hw hB hz1 hk1 hS1 => hw.elim)
theorem q_hret {post : Int32 → PL → Prop} {x : Int32} (hx : p.tables.exec = Jvm.exec) (hb : c.code = cc) (hr : meth.sig.returnType = some .int) (hlocks : meth.locks = false) {P : PL} (hW : WDp G P.1 P.2 s H) (hS : va_S (Ab G.2.2.1) s.heap H locs) (hc : cells ≤ rm.cells) (hs : slots ≤ rm.slots) (hdg : decode cc pc = .ok (.ireturn, 1)) (hp : post x P) :
    W p l e R s m args below meth c H locs cells slots (MQ below (va_Qi post (fun P t => WDp G P.1 P.2 t t.heap) (Ab G.2.2.1)) args s rm.cells rm.slots (Ab G.2.2.1)) (F0 m pc ls [.int x]) := by
  refine W.widen hc hs ?_
  exact W.iret hx hb hr (fun t ht hA => ⟨⟨x, P, rfl, hp, WD.fwd hW ht hA.alike⟩, hS.F ht⟩) hS.2.2 hdg
end QH
