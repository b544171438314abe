/-! the law's first steps: rows -/
/-- what is said of an array type reads the tables alone, and no note in them -/
theorem va_AOA.moved {t : FieldType} {u U : State} (hvm : u.vm.Alike U.vm) (h : va_AOA t u) : va_AOA t U := by
  have e : (Cond.arrayOver (.array t)).before #[] U = (Cond.arrayOver (.array t)).before #[] (u.setVm U.vm) := by
    simp only [Cond.before, Cond.holds, Cond.value, State.vm_setVm]
    rfl
  exact e.trans ((Cond.arrayOver_setVmC hvm (.array t)).trans h)
section QF
variable {p : Program} {l : Launch} {e : Env} {R : Room} {s : State} {m : MethodId} {args : Array Value} {below : List Frame} {meth : Method} {c : Code} {H : Heap} {locs : List Loc} {cells slots : Nat} {Q : State → Prop}
variable {cc : ByteArray} {pc : Nat} {ls : Array Slot} {rest : List Value} {G : GG} {L : List Nat} {ad : Nat → Nat} {v : Nat → Nat → Int32} {o : Nat → Nat → Option Nat} {w : Nat → Int64}
variable {own : String} {index : Nat} {r nL n maxL : Nat} {y : MethodName} {b : ByteArray} {rm : Room} {As : List Value}
/-- a constructor that makes rows of rows -/
theorem q_cIO {post : PW → Prop} (hx : p.tables.exec = Jvm.exec) (hb : c.code = cc) (hml : c.maxLocals = nL) (hts : ∀ w ∈ wT, w.before args s = true) (hown : s.vm.findClass own = some m.cls) (hE : EV G.2.2 s s.heap) (h0 : G.2.2.1 ≤ s.heap.size) (hAO : va_AOA .int s) (hW : WD G L ad v o w s H) (hS : va_S (Ab G.2.2.1) s.heap H locs) (hM : Met l y [Cond.code y b maxL none] rm (va_Pc (.ref (ad r) :: As) (fun U => CX G L ad v o w U ∧ va_AOA .int U)) (va_Qv post (fun P t => WDp G P w t t.heap) (Ab G.2.2.1)) rm.cells rm.slots (Ab G.2.2.1)) (mw : MWi y b maxL n) (hl : Cond.methodLink own index y ∈ wT) (hR : rm.frames + 1 ≤ R.frames ∧ 8 + (maxL + 11) + rm.locals ≤ R.locals) (hn : As.length = n) (hls : ls.size = nL) (h8 : (rest.map fun v => v.category).sum ≤ 8) (hdg : decode cc pc = .ok (.invokespecial index, 3)) (hf : cells + rm.cells ≤ R.cells ∧ slots + rm.slots ≤ R.slots)
    (kk : ∀ (u : PW) (H1 : Heap) (locs1 : List Loc), post u → WDp G u w s H1 → va_S (Ab G.2.2.1) s.heap H1 locs1 → W p l e R s m args below meth c H1 locs1 (cells + rm.cells) (slots + rm.slots) Q (F0 m (pc + 3) ls rest)) : W p l e R s m args below meth c H locs cells slots Q (F0 m pc ls (As.reverse ++ .ref (ad r) :: rest)) := by
  obtain ⟨m1, m2, m4, m5, m6, m7⟩ := mw
  exact va_callv (va_runI ⟨hx, hb, hml, hown, hts⟩ hM ⟨q_cb hts m1 m4 m6 m7 hl hR, m5, hts _ m2⟩ ⟨fun _ U _ _ q => ⟨q.1, q.2.1.calling, va_AOA.moved (u := U) (Vm.Alike.refl U.vm) q.2.2⟩, fun U hU hA => ⟨rfl, CX.to hE h0 hW hS hU hA, hAO.moved hA.alike⟩⟩ rfl hn hls rfl (lv_room h8) hdg hf) hS (fun _ _ h => h) (fun _ h => h) (fun u t H1 locs1 ht hvm hw hB hz1 hk1 hS1 => kk u H1 locs1 hw (WD.back hB ht hvm) hS1)
end QF
theorem pane0 {v : Nat → Nat → Int32} : ∀ {n r k : Nat}, itr (fun k u => up2 u 4 k (-1)) n v r k = if r = 4 ∧ k < n then -1 else v r k
  | 0, r, k => by rw [if_neg (by omega)]; rfl
  | n + 1, r, k => by
    rw [itr_s, up2_at]
    by_cases c : r = 4 ∧ k = n
    · rw [if_pos c, if_pos (by omega)]
    · rw [if_neg c, pane0 (n := n)]
      by_cases d : r = 4 ∧ k < n
      · rw [if_pos d, if_pos (by omega)]
      · rw [if_neg d, if_neg (by omega)]
/-- the roles behind the law's first steps -/
abbrev LF1 : List Nat := [] ++ [0]
abbrev LF2 : List Nat := LF1 ++ ((([1, 2, 3, 4] ++ ([5] ++ rw30)) ++ [6]) ++ [7, 8, 9, 10, 11, 12])
abbrev LF3 : List Nat := LF2 ++ [100]
abbrev LF4 : List Nat := LF3 ++ ((([101] ++ [111, 112, 113, 114, 115, 117, 118, 119, 122, 124, 126, 127, 128]) ++ [102]) ++ [141, 142, 143, 144, 145, 147, 148, 149, 152, 154, 156, 157, 158])
abbrev LF5 : List Nat := LF4 ++ [170]
theorem LF_13 : ∀ r, r < 13 → r ∈ LF5 := by decide +kernel
theorem LF_20 : ∀ i, i < 30 → 20 + i ∈ LF5 := by decide +kernel
theorem LF_m : 100 ∈ LF5 ∧ 101 ∈ LF5 ∧ 102 ∈ LF5 ∧ 170 ∈ LF5 := by decide +kernel
theorem LF_a : ∀ k, k < 19 → arrF k = true → 110 + k ∈ LF5 ∧ 140 + k ∈ LF5 := by decide +kernel
theorem LF_hi : ∀ r, r ∈ LF5 → r < 180 := by decide +kernel
theorem LF_n : (∀ i, i < 6 → 50 + i ∉ LF5) ∧ (∀ i, i < 12 → 60 + i ∉ LF5) ∧ (∀ i, i < 6 → 80 + i ∉ LF5) ∧ 13 ∉ LF5 ∧ 14 ∉ LF5 ∧ 15 ∉ LF5 ∧ 16 ∉ LF5 := by decide +kernel
theorem LF_x : LX LF5 0 0 0 := by
  obtain ⟨n1, n2, n3, n4, n5, n6, n7⟩ := LF_n
  exact ⟨fun i _ h => n1 i h, fun i _ h => n2 i h, fun i _ h => n3 i h, fun _ => n4, fun _ => n5, fun _ => n6, fun _ => n7, LF_m.2.2.2, fun r h q => absurd (LF_hi r q) (by omega)⟩
