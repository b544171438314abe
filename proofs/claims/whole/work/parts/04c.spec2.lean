/-! loops as folds; the checksum; two more rows -/
def itr {α : Type} (f : Nat → α → α) : Nat → α → α
  | 0, a => a
  | n + 1, a => f n (itr f n a)
def dig (f : Nat → Int32) (d : Int64) (n : Nat) : Int64 := itr (fun k d => d * 31 + (f k).toInt64) n d
theorem ln_row {i : Nat} (h : i < 30) : ln (20 + i) = 6 := by
  unfold ln
  rw [if_neg (by omega), if_neg (by omega), if_neg (by omega), if_neg (by omega), if_neg (by omega), if_neg (by omega), if_pos (by omega)]
section SD
variable (v : Nat → Nat → Int32) (gx gy gw gd : Nat → Nat)
def dHouse (h : Nat) (d : Int64) : Int64 := itr (fun i d => dig (fun j => v 4 ((gy h + i) * 20 + (gx h + j))) d (gw h)) (gd h) (dig (tHo v gx gy gw gd h) d 11)
def dAll (ng nh nl ns : Nat) : Int64 := itr (fun k d => dig (v (20 + k)) d 6) ns (itr (fun k d => dig (tLa v k) d 5) nl (itr (fun h d => dHouse v gx gy gw gd h d) nh (itr (fun g d => dig (tGr v gx gy gw gd nh g) d 10) ng (dig (tCo v gx gy gw gd ng nh nl) 541 11))))
end SD
section QX
variable {p : Program} {l : Launch} {e : Env} {R : Room} {s : State} {m : MethodId} {args : Array Value} {below : List Frame} {meth : Method} {c : Code} {H : Heap} {locs : List Loc} {cells slots : Nat} {Q : State → Prop}
variable {cc : ByteArray} {pc : Nat} {ls : Array Slot} {rest : List Value} {G : GG} {L : List Nat} {ad : Nat → Nat} {v : Nat → Nat → Int32} {o : Nat → Nat → Option Nat} {w : Nat → Int64}
variable {own : String} {index : Nat} {ci : Nat} {C : String} {T : u_T} {N : Nat} {ty : Nat → FieldType} {r : Nat}
theorem q_castS (hx : p.tables.exec = Jvm.exec) (hb : c.code = cc) (hts : ∀ w ∈ wT, w.before args s = true) (hown : s.vm.findClass own = some m.cls) (hW : WD G L ad v o w s H) (hm : r ∈ L) (hk : kd r = ci) (K : KC ci C T N ty) (hl : Cond.classLink own index C ∈ wT) (hdg : decode cc pc = .ok (.checkcast index, 3))
    (kk : W p l e R s m args below meth c H locs cells slots Q (F0 m (pc + 3) ls (.ref (ad r) :: rest))) : W p l e R s m args below meth c H locs cells slots Q (F0 m pc ls (.ref (ad r) :: rest)) :=
  va_castS hx hb hown (hts _ hl) (hW.2.2.2.1 ci _ K.1).2 (hW.recv hm hk K) hdg kk
/-- aaload out of the array of rows -/
theorem q_gald (hx : p.tables.exec = Jvm.exec) (hb : c.code = cc) (hW : WD G L ad v o w s H) (hm : r ∈ L) (hk : kd r = 12) {i : Int32} {a : Nat} (j : Nat) (ej : i = nI j) (hj : j < ln r) (hn : ln r < 2 ^ 31) (hv : o r j = some a) (hdg : decode cc pc = .ok (.aaload, 1))
    (kk : W p l e R s m args below meth c H locs cells slots Q (F0 m (pc + 1) ls (.ref a :: rest))) : W p l e R s m args below meth c H locs cells slots Q (F0 m pc ls (.int i :: .ref (ad r) :: rest)) := by
  obtain ⟨q0, h1, h2⟩ := hW.atg hm hk
  obtain ⟨g1, g2⟩ := vp_cl ej hj hn
  have hlt : i.toNatClampNeg < ln r := by rw [g2]; exact hj
  exact W.aald (v := va_rf (o r i.toNatClampNeg)) (ty := .array .int) hx hb (hW.1 q0 _ h2) ((hW.2.2.2.2 3 _ rfl).1 (ln r) (fun j => va_rf (o r j))) rfl (fun q => by cases q) (by show ¬ (i < 0 ∨ (arrV _ _ _).slots.size ≤ _); rw [arrV_size]; exact g1) (by show (arrV _ _ _).slots[_]? = _; rw [arrV_read _ _ hlt]) rfl rfl hdg (by rw [g2, hv]; exact kk)
end QX
theorem itr_0 {α : Type} {f : Nat → α → α} {a : α} : itr f 0 a = a := rfl
theorem itr_s {α : Type} {f : Nat → α → α} {a : α} {n : Nat} : itr f (n + 1) a = f n (itr f n a) := rfl
theorem dig_0 {f : Nat → Int32} {d : Int64} : dig f d 0 = d := rfl
theorem dig_s {f : Nat → Int32} {d : Int64} {n : Nat} : dig f d (n + 1) = dig f d n * 31 + (f n).toInt64 := rfl
theorem sumI_0 {f : Nat → Int32} : sumI f 0 = 0 := rfl
theorem sumI_s {f : Nat → Int32} {n : Nat} : sumI f (n + 1) = sumI f n + f n := rfl
