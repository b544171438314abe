/-! doubles: the quotient of two whole numbers, the second not 0, is a number -/
theorem fp_and (a : UInt64) : (a &&& 0x7fffffffffffffff).toNat = a.toNat % 2 ^ 63 := by
  rw [UInt64.toNat_and]
  exact Nat.and_two_pow_sub_one_eq_mod a.toNat 63
theorem fp_ok {s : Bool} {e t : Nat} (ht : t < 2 ^ 52) (he : e < 2047 ∨ (e = 2047 ∧ t = 0)) : vf_n64 (.ofNat (FP.Core.assemble FP.Core.b64 s e t)) := by
  unfold vf_n64
  rw [UInt64.le_iff_toNat_le, fp_and]
  have h2 : FP.Core.assemble FP.Core.b64 s e t = (s.toNat * 2048 + e) * 2 ^ 52 + t := rfl
  have hs : s.toNat ≤ 1 := by cases s <;> decide
  rw [h2, UInt64.toNat_ofNat']
  show _ ≤ 9218868437227405312
  have : s.toNat = 0 ∨ s.toNat = 1 := by omega
  rcases this with q | q <;> rw [q] <;> omega
def fp_fit : FP.Core.Datum → Prop
  | .nan => False
  | .inf _ => True
  | .fin _ c q => c < 2 ^ 53 ∧ q ≤ FP.Core.b64.qmax
theorem fp_enc {d : FP.Core.Datum} (h : fp_fit d) : vf_n64 (.ofNat (FP.Core.encode FP.Core.b64 d)) := by
  match d, h with
  | .inf s, _ => exact fp_ok (by decide) (Or.inr ⟨rfl, rfl⟩)
  | .fin s c q, ⟨h1, h2⟩ =>
    have hq : q ≤ 971 := h2
    have e9 : FP.Core.encode FP.Core.b64 (.fin s c q) = if c < 2 ^ 52 then FP.Core.assemble FP.Core.b64 s 0 c else FP.Core.assemble FP.Core.b64 s ((q - (-1074)).toNat + 1) (c - 2 ^ 52) := rfl
    rw [e9]
    by_cases hc : c < 2 ^ 52
    · rw [if_pos hc]
      exact fp_ok hc (Or.inl (by decide))
    · rw [if_neg hc]
      exact fp_ok (by omega) (Or.inl (by omega))
theorem fp_bound {s : Bool} {c : Nat} {q : Int} (h : c < 2 ^ 53) : fp_fit (FP.Core.bound FP.Core.b64 s c q) := by
  unfold FP.Core.bound
  split
  · rename_i g
    exact ⟨h, g⟩
  · trivial
theorem fp_settle {s : Bool} {c : Nat} {q : Int} : fp_fit (FP.Core.settle FP.Core.b64 s c q) := by
  unfold FP.Core.settle
  split
  · rename_i g
    exact fp_bound g
  · exact fp_bound (by decide)
theorem fp_ratio {s : Bool} {a b : Nat} {e : Int} : fp_fit (FP.Core.roundRatio FP.Core.b64 s a b e) := by
  unfold FP.Core.roundRatio
  split
  · exact ⟨by decide, by decide⟩
  · exact fp_settle
theorem fp_log {n : Nat} (h : n ≠ 0) (h1 : n ≤ 2 ^ 31) : 2 ^ 52 ≤ n * 2 ^ (52 - n.log2) ∧ n * 2 ^ (52 - n.log2) < 2 ^ 53 ∧ n.log2 ≤ 31 := by
  have a := Nat.log2_self_le h
  have b := Nat.lt_log2_self (n := n)
  have c : n.log2 ≤ 31 := by
    rcases Nat.lt_or_ge 31 n.log2 with g | g
    · have := Nat.pow_le_pow_right (n := 2) (by decide) (show 32 ≤ n.log2 from g)
      omega
    · exact g
  have d : 2 ^ 52 = 2 ^ n.log2 * 2 ^ (52 - n.log2) := by rw [← Nat.pow_add, show n.log2 + (52 - n.log2) = 52 by omega]
  have f : 2 ^ 53 = 2 ^ (n.log2 + 1) * 2 ^ (52 - n.log2) := by rw [← Nat.pow_add, show n.log2 + 1 + (52 - n.log2) = 53 by omega]
  refine ⟨?_, ?_, c⟩
  · rw [d]
    exact Nat.mul_le_mul_right _ a
  · rw [f]
    exact Nat.mul_lt_mul_of_pos_right b (Nat.two_pow_pos _)
/-- what an int's double stands for -/
theorem fp_int (i : Int) (h : i ≠ 0) (h1 : i.natAbs ≤ 2 ^ 31) : FP.Core.round FP.Core.b64 (FP.Core.ofInt i) = .fin (decide (i < 0)) (i.natAbs * 2 ^ (52 - i.natAbs.log2)) ((i.natAbs.log2 : Int) - 52) := by
  have h0 : i.natAbs ≠ 0 := by omega
  obtain ⟨g1, g2, g3⟩ := fp_log h0 h1
  show FP.Core.roundRatio FP.Core.b64 _ i.natAbs 1 0 = _
  unfold FP.Core.roundRatio
  rw [if_neg h0]
  have hL : FP.Core.leading i.natAbs 1 = (i.natAbs.log2 : Int) := by
    unfold FP.Core.leading
    dsimp only
    rw [show Nat.log2 1 = 0 from by decide]
    have e1 : ((i.natAbs.log2 : Int) - ((0 : Nat) : Int)).toNat = i.natAbs.log2 := by omega
    have e2 : (-((i.natAbs.log2 : Int) - ((0 : Nat) : Int))).toNat = 0 := by omega
    rw [e1, e2, if_pos (by have := Nat.log2_self_le h0; omega)]
    omega
  have hQ : FP.Core.quantum FP.Core.b64 i.natAbs 1 0 = (i.natAbs.log2 : Int) - 52 := by
    unfold FP.Core.quantum
    rw [hL]
    show max (-1074 : Int) ((i.natAbs.log2 : Int) + 0 - (53 - 1)) = _
    omega
  rw [hQ]
  unfold FP.Core.roundAt
  have hn : FP.Core.unitsNum i.natAbs 0 ((i.natAbs.log2 : Int) - 52) = i.natAbs * 2 ^ (52 - i.natAbs.log2) := by
    unfold FP.Core.unitsNum
    rw [show (0 - ((i.natAbs.log2 : Int) - 52)).toNat = 52 - i.natAbs.log2 by omega]
  have hd : FP.Core.unitsDen 1 0 ((i.natAbs.log2 : Int) - 52) = 1 := by
    unfold FP.Core.unitsDen
    rw [show (((i.natAbs.log2 : Int) - 52) - 0).toNat = 0 by omega]
  rw [hn, hd]
  have hne : ∀ x : Nat, FP.Core.nearest x 1 = x := fun x => by
    unfold FP.Core.nearest
    rw [if_pos (by omega)]
    omega
  rw [hne]
  unfold FP.Core.settle
  rw [if_pos (show i.natAbs * 2 ^ (52 - i.natAbs.log2) < 2 ^ FP.Core.b64.p from g2)]
  unfold FP.Core.bound
  rw [if_pos (show (i.natAbs.log2 : Int) - 52 ≤ FP.Core.b64.qmax from (show _ ≤ (971 : Int) by omega))]
theorem fp_dm {a M t : Nat} (h : t < M) : (a * M + t) / M = a ∧ (a * M + t) % M = t := by
  refine ⟨?_, ?_⟩
  · rw [Nat.mul_comm, Nat.mul_add_div (by omega), Nat.div_eq_of_lt h, Nat.add_zero]
  · rw [Nat.mul_comm, Nat.mul_add_mod, Nat.mod_eq_of_lt h]
theorem fp_fE {a t : Nat} (h : t < 2 ^ 52) : FP.Core.fieldE FP.Core.b64 (a * 2 ^ 52 + t) = a % 2048 := by
  unfold FP.Core.fieldE
  rw [show FP.Core.b64.tails = 2 ^ 52 from rfl, (fp_dm h).1]
  rfl
theorem fp_fT {a t : Nat} (h : t < 2 ^ 52) : FP.Core.fieldT FP.Core.b64 (a * 2 ^ 52 + t) = t := by
  unfold FP.Core.fieldT
  rw [show FP.Core.b64.tails = 2 ^ 52 from rfl, (fp_dm h).2]
theorem fp_d0 {n e t : Nat} (hE : FP.Core.fieldE FP.Core.b64 n = e) (hT : FP.Core.fieldT FP.Core.b64 n = t) (h0 : e ≠ 0) (he : e ≠ 2047) : FP.Core.decode FP.Core.b64 n = .fin (FP.Core.fieldS FP.Core.b64 n) (FP.Core.b64.tails + t) (FP.Core.b64.qmin + ((e : Int) - 1)) := by
  unfold FP.Core.decode
  rw [hE, hT, show FP.Core.b64.exps - 1 = 2047 from rfl, if_neg he, if_neg h0]
theorem fp_sm {a e : Nat} (h : e < 2048) : (a * 2048 + e) % 2048 = e := (fp_dm h).2
theorem fp_lt {s : Bool} {e t : Nat} (ht : t < 2 ^ 52) (he : e < 2047) : (s.toNat * 2048 + e) * 2 ^ 52 + t < 2 ^ 64 := by
  have hs : s.toNat ≤ 1 := by cases s <;> decide
  have : s.toNat = 0 ∨ s.toNat = 1 := by omega
  rcases this with q | q <;> rw [q] <;> omega
theorem fp_dec {s : Bool} {e t : Nat} (ht : t < 2 ^ 52) (h0 : 0 < e) (he : e < 2047) : ∃ u q, FP.Core.decode FP.Core.b64 (UInt64.ofNat (FP.Core.assemble FP.Core.b64 s e t)).toNat = .fin u (FP.Core.b64.tails + t) q := by
  have h2 : FP.Core.assemble FP.Core.b64 s e t = (s.toNat * 2048 + e) * 2 ^ 52 + t := rfl
  rw [h2, UInt64.toNat_ofNat', Nat.mod_eq_of_lt (fp_lt ht he)]
  exact ⟨_, _, fp_d0 ((fp_fE ht).trans (fp_sm (by omega))) (fp_fT ht) (by omega) (by omega)⟩
theorem fp_i2d (x : Int32) : ∃ s c q, FP.Core.decode FP.Core.b64 (FP.i2d x).toNat = .fin s c q ∧ (x ≠ 0 → c ≠ 0) := by
  by_cases hx : x = 0
  · subst hx
    exact ⟨false, 0, -1074, by decide, fun h => absurd rfl h⟩
  · have h0 : x.toInt ≠ 0 := fun h => hx (Int32.toInt_inj.mp h)
    have h1 : x.toInt.natAbs ≤ 2 ^ 31 := by
      have a := Int32.le_toInt x
      have b := Int32.toInt_lt x
      omega
    obtain ⟨g1, g2, g3⟩ := fp_log (n := x.toInt.natAbs) (by omega) h1
    have e1 : FP.i2d x = .ofNat (FP.Core.encode FP.Core.b64 (FP.Core.round FP.Core.b64 (FP.Core.ofInt x.toInt))) := rfl
    rw [e1, fp_int _ h0 h1]
    have e9 : FP.Core.encode FP.Core.b64 (.fin (decide (x.toInt < 0)) (x.toInt.natAbs * 2 ^ (52 - x.toInt.natAbs.log2)) ((x.toInt.natAbs.log2 : Int) - 52)) = if (x.toInt.natAbs * 2 ^ (52 - x.toInt.natAbs.log2)) < 2 ^ 52 then FP.Core.assemble FP.Core.b64 (decide (x.toInt < 0)) 0 (x.toInt.natAbs * 2 ^ (52 - x.toInt.natAbs.log2)) else FP.Core.assemble FP.Core.b64 (decide (x.toInt < 0)) ((((x.toInt.natAbs.log2 : Int) - 52) - (-1074)).toNat + 1) ((x.toInt.natAbs * 2 ^ (52 - x.toInt.natAbs.log2)) - 2 ^ 52) := rfl
    rw [e9, if_neg (by omega)]
    obtain ⟨u, q, h9⟩ := fp_dec (s := decide (x.toInt < 0)) (e := (((x.toInt.natAbs.log2 : Int) - 52) - (-1074)).toNat + 1) (t := (x.toInt.natAbs * 2 ^ (52 - x.toInt.natAbs.log2)) - 2 ^ 52) (by omega) (by omega) (by omega)
    exact ⟨_, _, _, h9, fun _ h => by have : FP.Core.b64.tails = 2 ^ 52 := rfl; omega⟩
theorem fp_div (x y : Int32) (h : y ≠ 0) : vf_n64 (FP.ddiv (FP.i2d x) (FP.i2d y)) := by
  obtain ⟨s, c, q, hx, -⟩ := fp_i2d x
  obtain ⟨t, d, r, hy, hd⟩ := fp_i2d y
  have e1 : FP.ddiv (FP.i2d x) (FP.i2d y) = .ofNat (FP.Core.encode FP.Core.b64 (FP.Core.quotient FP.Core.b64 (FP.Core.decode FP.Core.b64 (FP.i2d x).toNat) (FP.Core.decode FP.Core.b64 (FP.i2d y).toNat))) := rfl
  rw [e1, hx, hy]
  refine fp_enc ?_
  show fp_fit (if d = 0 then (if c = 0 then .nan else .inf (s != t)) else FP.Core.roundRatio FP.Core.b64 (s != t) c d (q - r))
  rw [if_neg (hd h)]
  exact fp_ratio
/-! an answer that is a double -/
abbrev CtD (l : Launch) (G : GG) (L : List Nat) (ad : Nat → Nat) (v : Nat → Nat → Int32) (o : Nat → Nat → Option Nat) (w : Nat → Int64) (y : MethodName) (b : ByteArray) (maxL : Nat) (rm : Room) (As : List Value) (post : UInt64 → (Nat → Nat → Int32) → Prop) : Prop :=
  Met l y [Cond.code y b maxL (some .double)] rm (va_Pc As (CX G L ad v o w)) (va_Qd post (fun u t => WD G L ad u o w t t.heap) (Ab G.2.2.1)) rm.cells rm.slots (Ab G.2.2.1)
section QD
variable {l : Launch} {G : GG} {L : List Nat} {ad : Nat → Nat} {v : Nat → Nat → Int32} {o : Nat → Nat → Option Nat} {w : Nat → Int64} {y : MethodName} {b : ByteArray} {maxL : Nat} {rm : Room} {As : List Value}
theorem q_ofD {post : UInt64 → (Nat → Nat → Int32) → Prop} (hy : plainName y.cls = true) (hA : (lg_sl As).length ≤ maxL)
    (body : ∀ (p : Program) (e : Env) (s : State) (m : MethodId) (below : List Frame) (meth : Method) (c : Code), p.tables.exec = Jvm.exec → c.code = b → meth.sig.returnType = some .double → c.maxLocals = maxL → (∀ w ∈ wT, w.before As.toArray s = true) → s.vm.findClass y.cls = some m.cls → meth.locks = false → EV G.2.2 s s.heap → G.2.2.1 ≤ s.heap.size → WD G L ad v o w s s.heap → va_S (Ab G.2.2.1) s.heap s.heap [] → ∀ (ls : Array Slot), lv_has ls maxL (lv_args 0 As) →
      W p l e rm s m As.toArray below meth c s.heap [] 0 0 (MQ below (va_Qd post (fun u t => WD G L ad u o w t t.heap) (Ab G.2.2.1)) As.toArray s rm.cells rm.slots (Ab G.2.2.1)) (F0 m 0 ls [])) : CtD l G L ad v o w y b maxL rm As post := by
  refine Met.ofW (cc := b) (maxL := maxL) (ret := some .double) hy rfl ?_
  intro p e s m args below meth c s₁ B hml hv
  obtain ⟨rfl, hE, h0, hW⟩ := hv
  have hl := lv_entry As (n := maxL) hA
  rw [lg_entry_eq]
  exact body p e s m below meth c B.exec B.bytes B.returns hml hE.hts (findClass_of_methodNamed B.named) B.notSynchronized hE h0 hW va_S.rf _ hl
variable {p : Program} {e : Env} {R : Room} {s : State} {m : MethodId} {args : Array Value} {below : List Frame} {meth : Method} {c : Code} {H : Heap} {locs : List Loc} {cells slots : Nat} {cc : ByteArray} {pc : Nat} {ls : Array Slot}
theorem q_dret {post : UInt64 → (Nat → Nat → Int32) → Prop} {x : UInt64} (hx : p.tables.exec = Jvm.exec) (hb : c.code = cc) (hr : meth.sig.returnType = some .double) (hlocks : meth.locks = false) (hW : WD G L ad v o w s H) (hS : va_S (Ab G.2.2.1) s.heap H locs) (hc : cells ≤ rm.cells) (hs : slots ≤ rm.slots) (hdg : decode cc pc = .ok (.dreturn, 1)) (hp : post x v) :
    W p l e R s m args below meth c H locs cells slots (MQ below (va_Qd post (fun u t => WD G L ad u o w t t.heap) (Ab G.2.2.1)) args s rm.cells rm.slots (Ab G.2.2.1)) (F0 m pc ls [.double x]) := by
  refine W.widen hc hs ?_
  exact W.dret hx hb hr (fun t ht hA => ⟨⟨x, v, rfl, hp, hW.fwd ht hA.alike⟩, hS.F ht⟩) hS.2.2 hdg
end QD
