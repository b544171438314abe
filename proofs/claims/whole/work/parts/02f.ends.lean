/-! a method's start and its ends -/
theorem WD.fwd {G : GG} {L : List Nat} {ad : Nat → Nat} {v : Nat → Nat → Int32} {o : Nat → Nat → Option Nat} {w : Nat → Int64} {s t : State} {H : Heap} (h : WD G L ad v o w s H) (ht : t.heap = H) (hA : s.vm.Alike t.vm) : WD G L ad v o w t t.heap := by
  obtain ⟨h3, h4, h5, h6⟩ := h
  exact ⟨by rw [ht]; exact h3, h4, h5, va_K.moved hA h6⟩
section QE
variable {l : Launch} {G : GG} {L : List Nat} {ad : Nat → Nat} {v : Nat → Nat → Int32} {o : Nat → Nat → Option Nat} {w : Nat → Int64} {y : MethodName} {b : ByteArray} {maxL : Nat} {rt : FieldType} {rm : Room} {As : List Value}
theorem q_ofI {post : Int32 → (Nat → Nat → Int32) → Prop} (hy : plainName y.cls = true) (hA : (lg_sl As).length ≤ maxL)
    (body : ∀ (p : Program) (e : Env) (s : State) (m : MethodId) (below : List Frame) (meth : Method) (c : Code), p.tables.exec = Jvm.exec → c.code = b → meth.sig.returnType = some rt → c.maxLocals = maxL → (∀ w ∈ wT, w.before As.toArray s = true) → s.vm.findClass y.cls = some m.cls → meth.locks = false → EV G.2.2 s s.heap → G.2.2.1 ≤ s.heap.size → WD G L ad v o w s s.heap → va_S (Ab G.2.2.1) s.heap s.heap [] → ∀ (ls : Array Slot), lv_has ls maxL (lv_args 0 As) →
      W p l e rm s m As.toArray below meth c s.heap [] 0 0 (MQ below (va_Qi post (fun u t => WD G L ad u o w t t.heap) (Ab G.2.2.1)) As.toArray s rm.cells rm.slots (Ab G.2.2.1)) (F0 m 0 ls [])) : CtI l G L ad v o w y b maxL rt rm As post := by
  refine Met.ofW (cc := b) (maxL := maxL) (ret := some rt) hy rfl ?_
  intro p e s m args below meth c s₁ B hml hv
  obtain ⟨rfl, hE, h0, hW⟩ := hv
  have hl := lv_entry As (n := maxL) hA
  rw [lg_entry_eq]
  exact body p e s m below meth c B.exec B.bytes B.returns hml hE.hts (findClass_of_methodNamed B.named) B.notSynchronized hE h0 hW va_S.rf _ hl
theorem q_ofR {a : Nat} (hy : plainName y.cls = true) (hA : (lg_sl As).length ≤ maxL)
    (body : ∀ (p : Program) (e : Env) (s : State) (m : MethodId) (below : List Frame) (meth : Method) (c : Code), p.tables.exec = Jvm.exec → c.code = b → meth.sig.returnType = some rt → c.maxLocals = maxL → (∀ w ∈ wT, w.before As.toArray s = true) → s.vm.findClass y.cls = some m.cls → meth.locks = false → EV G.2.2 s s.heap → G.2.2.1 ≤ s.heap.size → WD G L ad v o w s s.heap → va_S (Ab G.2.2.1) s.heap s.heap [] → ∀ (ls : Array Slot), lv_has ls maxL (lv_args 0 As) →
      W p l e rm s m As.toArray below meth c s.heap [] 0 0 (MQ below (va_Qr (fun _ : Unit => True) (fun _ ra t => ra = a ∧ WD G L ad v o w t t.heap) (Ab G.2.2.1)) As.toArray s rm.cells rm.slots (Ab G.2.2.1)) (F0 m 0 ls [])) : CtR l G L ad v o w y b maxL rt rm As a := by
  refine Met.ofW (cc := b) (maxL := maxL) (ret := some rt) hy rfl ?_
  intro p e s m args below meth c s₁ B hml hv
  obtain ⟨rfl, hE, h0, hW⟩ := hv
  have hl := lv_entry As (n := maxL) hA
  rw [lg_entry_eq]
  exact body p e s m below meth c B.exec B.bytes B.returns hml hE.hts (findClass_of_methodNamed B.named) B.notSynchronized hE h0 hW va_S.rf _ hl
theorem q_ofL {post : Int64 → (Nat → Nat → Int32) → Prop} (hy : plainName y.cls = true) (hA : (lg_sl As).length ≤ maxL)
    (body : ∀ (p : Program) (e : Env) (s : State) (m : MethodId) (below : List Frame) (meth : Method) (c : Code), p.tables.exec = Jvm.exec → c.code = b → meth.sig.returnType = some .long → c.maxLocals = maxL → (∀ w ∈ wT, w.before As.toArray s = true) → s.vm.findClass y.cls = some m.cls → meth.locks = false → EV G.2.2 s s.heap → G.2.2.1 ≤ s.heap.size → WD G L ad v o w s s.heap → va_S (Ab G.2.2.1) s.heap s.heap [] → ∀ (ls : Array Slot), lv_has ls maxL (lv_args 0 As) →
      W p l e rm s m As.toArray below meth c s.heap [] 0 0 (MQ below (va_Ql post (fun u t => WD G L ad u o w t t.heap) (Ab G.2.2.1)) As.toArray s rm.cells rm.slots (Ab G.2.2.1)) (F0 m 0 ls [])) : CtL l G L ad v o w y b maxL rm As post := by
  refine Met.ofW (cc := b) (maxL := maxL) (ret := some .long) hy rfl ?_
  intro p e s m args below meth c s₁ B hml hv
  obtain ⟨rfl, hE, h0, hW⟩ := hv
  have hl := lv_entry As (n := maxL) hA
  rw [lg_entry_eq]
  exact body p e s m below meth c B.exec B.bytes B.returns hml hE.hts (findClass_of_methodNamed B.named) B.notSynchronized hE h0 hW va_S.rf _ hl
theorem q_ofV {post : (Nat → Nat → Int32) → Prop} (hy : plainName y.cls = true) (hA : (lg_sl As).length ≤ maxL)
    (body : ∀ (p : Program) (e : Env) (s : State) (m : MethodId) (below : List Frame) (meth : Method) (c : Code), p.tables.exec = Jvm.exec → c.code = b → meth.sig.returnType = none → c.maxLocals = maxL → (∀ w ∈ wT, w.before As.toArray s = true) → s.vm.findClass y.cls = some m.cls → meth.locks = false → EV G.2.2 s s.heap → G.2.2.1 ≤ s.heap.size → WD G L ad v o w s s.heap → va_S (Ab G.2.2.1) s.heap s.heap [] → meth.name = y.name → ∀ (ls : Array Slot), lv_has ls maxL (lv_args 0 As) →
      W p l e rm s m As.toArray below meth c s.heap [] 0 0 (MQ below (va_Qv post (fun u t => WD G L ad u o w t t.heap) (Ab G.2.2.1)) As.toArray s rm.cells rm.slots (Ab G.2.2.1)) (F0 m 0 ls [])) : CtV l G L ad v o w y b maxL rm As post := by
  refine Met.ofW (cc := b) (maxL := maxL) (ret := none) hy rfl ?_
  intro p e s m args below meth c s₁ B hml hv
  obtain ⟨rfl, hE, h0, hW⟩ := hv
  have hl := lv_entry As (n := maxL) hA
  rw [lg_entry_eq]
  exact body p e s m below meth c B.exec B.bytes B.returns hml hE.hts (findClass_of_methodNamed B.named) B.notSynchronized hE h0 hW va_S.rf (name_of_methodNamed B.named B.method).1 _ hl
section QEnd
variable {p : Program} {e : Env} {R : Room} {s : State} {m : MethodId} {args : Array Value} {below : List Frame} {meth : Method} {c : Code} {H : Heap} {locs : List Loc} {cells slots : Nat} {cc : ByteArray} {pc : Nat} {ls : Array Slot} {v0 : Nat → Nat → Int32}
theorem q_iret {post : Int32 → (Nat → Nat → Int32) → Prop} {x : Int32} (hx : p.tables.exec = Jvm.exec) (hb : c.code = cc) (hr : meth.sig.returnType = some .int) (hlocks : meth.locks = false) (hW : WD G L ad v o w s H) (hS : va_S (Ab G.2.2.1) s.heap H locs) (hc : cells ≤ rm.cells) (hs : slots ≤ rm.slots) (hdg : decode cc pc = .ok (.ireturn, 1)) (hp : post x v) :
    W p l e R s m args below meth c H locs cells slots (MQ below (va_Qi post (fun u t => WD G L ad u o w t t.heap) (Ab G.2.2.1)) args s rm.cells rm.slots (Ab G.2.2.1)) (F0 m pc ls [.int x]) := by
  refine W.widen hc hs ?_
  exact W.iret hx hb hr (fun t ht hA => ⟨⟨x, v, rfl, hp, hW.fwd ht hA.alike⟩, hS.F ht⟩) hS.2.2 hdg
theorem q_zret {post : Int32 → (Nat → Nat → Int32) → Prop} {x : Int32} (hx : p.tables.exec = Jvm.exec) (hb : c.code = cc) (hr : meth.sig.returnType = some .boolean) (hlocks : meth.locks = false) (hW : WD G L ad v o w s H) (hS : va_S (Ab G.2.2.1) s.heap H locs) (hc : cells ≤ rm.cells) (hs : slots ≤ rm.slots) (h01 : x = 0 ∨ x = 1) (hdg : decode cc pc = .ok (.ireturn, 1)) (hp : post x v) :
    W p l e R s m args below meth c H locs cells slots (MQ below (va_Qi post (fun u t => WD G L ad u o w t t.heap) (Ab G.2.2.1)) args s rm.cells rm.slots (Ab G.2.2.1)) (F0 m pc ls [.int x]) := by
  refine W.widen hc hs ?_
  exact W.zret hx hb hr (by rcases h01 with rfl | rfl <;> rfl) (fun t ht hA => ⟨⟨x, v, rfl, hp, hW.fwd ht hA.alike⟩, hS.F ht⟩) hS.2.2 hdg
theorem q_lret {post : Int64 → (Nat → Nat → Int32) → Prop} {x : Int64} (hx : p.tables.exec = Jvm.exec) (hb : c.code = cc) (hr : meth.sig.returnType = some .long) (hlocks : meth.locks = false) (hW : WD G L ad v o w s H) (hS : va_S (Ab G.2.2.1) s.heap H locs) (hc : cells ≤ rm.cells) (hs : slots ≤ rm.slots) (hdg : decode cc pc = .ok (.lreturn, 1)) (hp : post x v) :
    W p l e R s m args below meth c H locs cells slots (MQ below (va_Ql post (fun u t => WD G L ad u o w t t.heap) (Ab G.2.2.1)) args s rm.cells rm.slots (Ab G.2.2.1)) (F0 m pc ls [.long x]) := by
  refine W.widen hc hs ?_
  exact W.lret hx hb hr (fun t ht hA => ⟨⟨x, v, rfl, hp, hW.fwd ht hA.alike⟩, hS.F ht⟩) hS.2.2 hdg
theorem q_vret {post : (Nat → Nat → Int32) → Prop} (hx : p.tables.exec = Jvm.exec) (hb : c.code = cc) (hr : meth.sig.returnType = none) (hlocks : meth.locks = false) (hW : WD G L ad v o w s H) (hS : va_S (Ab G.2.2.1) s.heap H locs) (hc : cells ≤ rm.cells) (hs : slots ≤ rm.slots) (hdg : decode cc pc = .ok (.return_, 1)) (hp : post v) :
    W p l e R s m args below meth c H locs cells slots (MQ below (va_Qv post (fun u t => WD G L ad u o w t t.heap) (Ab G.2.2.1)) args s rm.cells rm.slots (Ab G.2.2.1)) (F0 m pc ls []) := by
  refine W.widen hc hs ?_
  exact W.vret hx hb hr (fun t ht hA => ⟨⟨v, rfl, hp, hW.fwd ht hA.alike⟩, hS.F ht⟩) hS.2.2 hdg
theorem q_aret {a : Nat} (hx : p.tables.exec = Jvm.exec) (hb : c.code = cc) (hr : meth.sig.returnType = some rt) (hrt : (∃ n, rt = .object n) ∨ ∃ t, rt = .array t) (hlocks : meth.locks = false) (hW : WD G L ad v o w s H) (hS : va_S (Ab G.2.2.1) s.heap H locs) (hc : cells ≤ rm.cells) (hs : slots ≤ rm.slots) (hdg : decode cc pc = .ok (.areturn, 1)) :
    W p l e R s m args below meth c H locs cells slots (MQ below (va_Qr (fun _ : Unit => True) (fun _ ra t => ra = a ∧ WD G L ad v o w t t.heap) (Ab G.2.2.1)) args s rm.cells rm.slots (Ab G.2.2.1)) (F0 m pc ls [.ref a]) := by
  refine W.widen hc hs ?_
  exact W.aret hx hb hr hrt (Or.inr ⟨a, rfl⟩) (fun t ht hA => ⟨⟨(), a, rfl, trivial, rfl, hW.fwd ht hA.alike⟩, hS.F ht⟩) hS.2.2 hdg
variable {rest : List Value} {own : String} {index : Nat} {Q : State → Prop} {nL : Nat}
theorem q_max (hx : p.tables.exec = Jvm.exec) (hb : c.code = cc) (hml : c.maxLocals = nL) (hls : ls.size = nL) (hts : ∀ w ∈ wT, w.before args s = true) (hown : s.vm.findClass own = some m.cls) (hM : MMax) (hl : Cond.methodLink own index Lib.Math.max.name ∈ wT) (hf : 1 ≤ R.frames) (hlo : (rest.map fun v => v.category).sum + 13 ≤ R.locals) (hc : cells ≤ R.cells) (hs : slots ≤ R.slots) {x y : Int32} (hdg : decode cc pc = .ok (.invokestatic index, 3))
    (kk : W p l e R s m args below meth c H locs cells slots Q (F0 m (pc + 3) ls (.int (if x < y then y else x) :: rest))) : W p l e R s m args below meth c H locs cells slots Q (F0 m pc ls (.int y :: .int x :: rest)) :=
  va_mmax hx hb (hml.trans hls.symm) hown (hts _ hl) (hts _ hM.1) (hts _ hM.2.1) (hts _ hM.2.2) hf hlo hc hs hdg kk
theorem q_min (hx : p.tables.exec = Jvm.exec) (hb : c.code = cc) (hml : c.maxLocals = nL) (hls : ls.size = nL) (hts : ∀ w ∈ wT, w.before args s = true) (hown : s.vm.findClass own = some m.cls) (hM : MMin) (hl : Cond.methodLink own index Lib.Math.min.name ∈ wT) (hf : 1 ≤ R.frames) (hlo : (rest.map fun v => v.category).sum + 13 ≤ R.locals) (hc : cells ≤ R.cells) (hs : slots ≤ R.slots) {x y : Int32} (hdg : decode cc pc = .ok (.invokestatic index, 3))
    (kk : W p l e R s m args below meth c H locs cells slots Q (F0 m (pc + 3) ls (.int (if y < x then y else x) :: rest))) : W p l e R s m args below meth c H locs cells slots Q (F0 m pc ls (.int y :: .int x :: rest)) :=
  va_mmin hx hb (hml.trans hls.symm) hown (hts _ hl) (hts _ hM.1) (hts _ hM.2.1) (hts _ hM.2.2) hf hlo hc hs hdg kk
theorem q_abs (hx : p.tables.exec = Jvm.exec) (hb : c.code = cc) (hml : c.maxLocals = nL) (hls : ls.size = nL) (hts : ∀ w ∈ wT, w.before args s = true) (hown : s.vm.findClass own = some m.cls) (hM : MAbs) (hl : Cond.methodLink own index Lib.Math.abs.name ∈ wT) (hf : 1 ≤ R.frames) (hlo : (rest.map fun v => v.category).sum + 13 ≤ R.locals) (hc : cells ≤ R.cells) (hs : slots ≤ R.slots) {x : Int32} (hdg : decode cc pc = .ok (.invokestatic index, 3))
    (kk : W p l e R s m args below meth c H locs cells slots Q (F0 m (pc + 3) ls (.int (if 0 ≤ x then x else 0 - x) :: rest))) : W p l e R s m args below meth c H locs cells slots Q (F0 m pc ls (.int x :: rest)) :=
  va_mabs hx hb (hml.trans hls.symm) hown (hts _ hl) (hts _ hM.1) (hts _ hM.2.1) (hts _ hM.2.2) hf hlo hc hs hdg kk
def cpy2 (v : Nat → Nat → Int32) (r0 r1 sp dp n : Nat) : Nat → Nat → Int32 := fun r k => if r = r1 then va_cpy (v r0) (v r1) sp dp n k else v r k
theorem WD.cpy {r0 r1 q1 sp dp n : Nat} {z : va_E} {H1 : Heap} (hW : WD G L ad v o w s H) (hq : L[q1]? = some r1) (hz : z = gE G.2.1 (kd r1) (ln r1) (va_cpy (v r0) (v r1) sp dp n) (o r1) w) (hP : va_P G.1 vwCl ((wl G.2.1 L ad v o w).set q1 (ad r1, z)) H1) (hD : va_D (Ab G.2.2.1) ((wl G.2.1 L ad v o w).set q1 (ad r1, z))) : WD G L ad (cpy2 v r0 r1 sp dp n) o w s H1 :=
  hW.mk' hP hD (wl_set hW.2.2.1 hq (by rw [hz]; congr 1; funext k; simp [cpy2]) (fun r' _ hn => by congr 1; funext k; simp [cpy2, hn]))
theorem q_copy (hx : p.tables.exec = Jvm.exec) (hb : c.code = cc) (hml : c.maxLocals = nL) (hls : ls.size = nL) (hts : ∀ w ∈ wT, w.before args s = true) (hown : s.vm.findClass own = some m.cls) (hM : MCopy) (hl : Cond.methodLink own index arraycopyName ∈ wT) (hW : WD G L ad v o w s H) (hS : va_S (Ab G.2.2.1) s.heap H locs) {r0 r1 : Nat} (hm0 : r0 ∈ L) (hm1 : r1 ∈ L) (hk0 : kd r0 = 9) (hk1 : kd r1 = 9) {x0 x1 x2 : Int32} (sp dp n : Nat) (e0 : x0 = nI sp) (e1 : x1 = nI dp) (e2 : x2 = nI n) (h4 : sp + n ≤ ln r0) (h5 : dp + n ≤ ln r1) (h6 : ln r0 < 2 ^ 31) (h7 : ln r1 < 2 ^ 31)
    (hf : 1 ≤ R.frames) (hlo : (rest.map fun v => v.category).sum + 30 ≤ R.locals) (hdg : decode cc pc = .ok (.invokestatic index, 3))
    (kk : ∀ (H1 : Heap) (locs1 : List Loc), WD G L ad (cpy2 v r0 r1 sp dp n) o w s H1 → va_S (Ab G.2.2.1) s.heap H1 locs1 → W p l e R s m args below meth c H1 locs1 cells slots Q (F0 m (pc + 3) ls rest)) : W p l e R s m args below meth c H locs cells slots Q (F0 m pc ls (.int x2 :: .int x1 :: .ref (ad r1) :: .int x0 :: .ref (ad r0) :: rest)) := by
  obtain ⟨q0, g1, g2⟩ := hW.ati hm0 hk0
  obtain ⟨q1, g3, g4⟩ := hW.ati hm1 hk1
  have c0 : x0.toNatClampNeg = sp := by rw [e0]; exact nI_clamp (by omega)
  have c1 : x1.toNatClampNeg = dp := by rw [e1]; exact nI_clamp (by omega)
  have c2 : x2.toNatClampNeg = n := by rw [e2]; exact nI_clamp (by omega)
  refine va_copyi hx hb (hml.trans hls.symm) hown (hts _ hl) (hts _ hM.1) (hts _ hM.2.1) (hts _ hM.2.2) hW.2.2.2 hW.1 hW.2.1 hS q0 q1 0 0 g2 g4 rfl rfl rfl (by rw [e0]; exact nI_pos (by omega)) (by rw [e1]; exact nI_pos (by omega)) (by rw [e2]; exact nI_pos (by omega)) (by rw [c0, c2]; exact h4) (by rw [c1, c2]; exact h5) (fun _ _ => rfl) hf (Nat.le_trans (Nat.add_le_add_left (by decide +kernel) _) hlo) hdg (fun H1 l1 hP hD hS1 => kk H1 l1 (hW.cpy (r0 := r0) (sp := sp) (dp := dp) (n := n) g3 ?_ hP hD) hS1)
  rw [hk1, c0, c1, c2]; rfl
/-- arraylength -/
theorem q_alen {r : Nat} (hx : p.tables.exec = Jvm.exec) (hb : c.code = cc) (hW : WD G L ad v o w s H) (hm : r ∈ L) (hk : kd r = 9) {x : Int32} (hv : Int32.ofNat (ln r) = x) (hdg : decode cc pc = .ok (.arraylength, 1))
    (kk : W p l e R s m args below meth c H locs cells slots Q (F0 m (pc + 1) ls (.int x :: rest))) : W p l e R s m args below meth c H locs cells slots Q (F0 m pc ls (.ref (ad r) :: rest)) := by
  obtain ⟨q0, g1, g2⟩ := hW.ati hm hk
  exact va_alen hx hb hW.2.2.2 hW.1 q0 0 g2 rfl hv hdg kk
end QEnd
end QE
