/-! ONE ROW AN INSTRUCTION over the world by roles -/
section QR
variable {p : Program} {l : Launch} {e : Env} {R : Room} {s : State} {m : MethodId} {args : Array Value} {below : List Frame} {meth : Method} {c : Code} {H : Heap} {locs : List Loc} {cells slots : Nat} {Q : State → Prop}
variable {cc : ByteArray} {pc : Nat} {ls : Array Slot} {rest : List Value} {G : GG} {L : List Nat} {ad : Nat → Nat} {v : Nat → Nat → Int32} {o : Nat → Nat → Option Nat} {w : Nat → Int64}
variable {own : String} {index : Nat} {ci : Nat} {C : String} {T : u_T} {N : Nat} {ty : Nat → FieldType} {r k : Nat}
theorem WD.at (hW : WD G L ad v o w s H) (hm : r ∈ L) (hk : kd r = ci) (h9 : ci < 9) : ∃ q0 : Nat, L[q0]? = some r ∧ (wl G.2.1 L ad v o w)[q0]? = some (ad r, .inr (ci, gF ci (v r) (o r))) := by
  obtain ⟨q0, h1, h2⟩ := wl_at (cy := G.2.1) (ad := ad) (v := v) (o := o) (w := w) hm
  exact ⟨q0, h1, by rw [h2, hk, gE_obj h9]⟩
theorem WD.mk' {w0 : va_W} {v' : Nat → Nat → Int32} {o' : Nat → Nat → Option Nat} {w' : Nat → Int64} {H1 : Heap} (hW : WD G L ad v o w s H) (hP : va_P G.1 vwCl w0 H1) (hD : va_D (Ab G.2.2.1) w0) (he : w0 = wl G.2.1 L ad v' o' w') : WD G L ad v' o' w' s H1 := ⟨by rw [← he]; exact hP, by rw [← he]; exact hD, hW.2.2.1, hW.2.2.2⟩
/-- getfield, an int -/
theorem q_get (hx : p.tables.exec = Jvm.exec) (hb : c.code = cc) (hts : ∀ w ∈ wT, w.before args s = true) (hown : s.vm.findClass own = some m.cls) (hW : WD G L ad v o w s H) (hm : r ∈ L) (hk : kd r = ci) (K : KC ci C T N ty) (k : Nat) (hkN : k < N) (hI : isI ci k = true) (hl : Cond.fieldLink own index (T k).1 (T k).2.1 (T k).2.2.1 ∈ wT) {x : Int32} (hv : v r k = x) (hdg : decode cc pc = .ok (.getfield index, 3))
    (kk : W p l e R s m args below meth c H locs cells slots Q (F0 m (pc + 3) ls (.int x :: rest))) : W p l e R s m args below meth c H locs cells slots Q (F0 m pc ls (.ref (ad r) :: rest)) := by
  obtain ⟨K1, K2, K3, K4, K5, K6⟩ := K
  obtain ⟨q0, -, h2⟩ := hW.at hm hk K5
  exact va_get hx hb hts K2 hown hW.2.2.2 hW.1 q0 h2 K1 k hkN (hts _ hl) (fun _ h => h) (by rw [gF_at (by omega), if_pos hI, hv]) hdg kk
theorem q_getN {host : String} (hx : p.tables.exec = Jvm.exec) (hb : c.code = cc) (hts : ∀ w ∈ wT, w.before args s = true) (hown : s.vm.findClass own = some m.cls) (hW : WD G L ad v o w s H) (hm : r ∈ L) (hk : kd r = ci) (K : KC ci C T N ty) (k : Nat) (hkN : k < N) (hI : isI ci k = true) (hl : Cond.fieldLinkNest own index (T k).1 (T k).2.1 (T k).2.2.1 host ∈ wT) {x : Int32} (hv : v r k = x) (hdg : decode cc pc = .ok (.getfield index, 3))
    (kk : W p l e R s m args below meth c H locs cells slots Q (F0 m (pc + 3) ls (.int x :: rest))) : W p l e R s m args below meth c H locs cells slots Q (F0 m pc ls (.ref (ad r) :: rest)) := by
  obtain ⟨K1, K2, K3, K4, K5, K6⟩ := K
  obtain ⟨q0, -, h2⟩ := hW.at hm hk K5
  exact va_getN hx hb hts K2 hown hW.2.2.2 hW.1 q0 h2 K1 k hkN (hts _ hl) (fun _ h => h) (by rw [gF_at (by omega), if_pos hI, hv]) hdg kk
/-- getfield, a reference -/
theorem q_getr (hx : p.tables.exec = Jvm.exec) (hb : c.code = cc) (hts : ∀ w ∈ wT, w.before args s = true) (hown : s.vm.findClass own = some m.cls) (hW : WD G L ad v o w s H) (hm : r ∈ L) (hk : kd r = ci) (K : KC ci C T N ty) (k : Nat) (hkN : k < N) (hI : isI ci k = false) (hl : Cond.fieldLink own index (T k).1 (T k).2.1 (T k).2.2.1 ∈ wT) {a : Nat} (hv : o r k = some a) (hdg : decode cc pc = .ok (.getfield index, 3))
    (kk : W p l e R s m args below meth c H locs cells slots Q (F0 m (pc + 3) ls (.ref a :: rest))) : W p l e R s m args below meth c H locs cells slots Q (F0 m pc ls (.ref (ad r) :: rest)) := by
  obtain ⟨K1, K2, K3, K4, K5, K6⟩ := K
  obtain ⟨q0, -, h2⟩ := hW.at hm hk K5
  exact va_get hx hb hts K2 hown hW.2.2.2 hW.1 q0 h2 K1 k hkN (hts _ hl) (fun _ h => h) (by rw [gF_at (by omega), if_neg (by rw [hI]; decide), hv]; rfl) hdg kk
theorem q_getrN {host : String} (hx : p.tables.exec = Jvm.exec) (hb : c.code = cc) (hts : ∀ w ∈ wT, w.before args s = true) (hown : s.vm.findClass own = some m.cls) (hW : WD G L ad v o w s H) (hm : r ∈ L) (hk : kd r = ci) (K : KC ci C T N ty) (k : Nat) (hkN : k < N) (hI : isI ci k = false) (hl : Cond.fieldLinkNest own index (T k).1 (T k).2.1 (T k).2.2.1 host ∈ wT) {a : Nat} (hv : o r k = some a) (hdg : decode cc pc = .ok (.getfield index, 3))
    (kk : W p l e R s m args below meth c H locs cells slots Q (F0 m (pc + 3) ls (.ref a :: rest))) : W p l e R s m args below meth c H locs cells slots Q (F0 m pc ls (.ref (ad r) :: rest)) := by
  obtain ⟨K1, K2, K3, K4, K5, K6⟩ := K
  obtain ⟨q0, -, h2⟩ := hW.at hm hk K5
  exact va_getN hx hb hts K2 hown hW.2.2.2 hW.1 q0 h2 K1 k hkN (hts _ hl) (fun _ h => h) (by rw [gF_at (by omega), if_neg (by rw [hI]; decide), hv]; rfl) hdg kk
theorem WD.puti {q0 : Nat} {x : Int32} {H1 : Heap} (hW : WD G L ad v o w s H) (hq : L[q0]? = some r) (hk : kd r = ci) (h9 : ci < 9) (hI : isI ci k = true) (hP : va_P G.1 vwCl ((wl G.2.1 L ad v o w).set q0 (ad r, .inr (ci, (gF ci (v r) (o r)).set k (.int x)))) H1) (hD : va_D (Ab G.2.2.1) ((wl G.2.1 L ad v o w).set q0 (ad r, .inr (ci, (gF ci (v r) (o r)).set k (.int x))))) : WD G L ad (up2 v r k x) o w s H1 :=
  hW.mk' hP hD (wl_set hW.2.2.1 hq (by rw [hk, gE_obj h9, gF_set_i hI, up2_upd]) (fun r' _ hn => by rw [up2_other hn]))
theorem WD.putr {q0 : Nat} {x : Option Nat} {H1 : Heap} (hW : WD G L ad v o w s H) (hq : L[q0]? = some r) (hk : kd r = ci) (h9 : ci < 9) (hI : isI ci k = false) (hP : va_P G.1 vwCl ((wl G.2.1 L ad v o w).set q0 (ad r, .inr (ci, (gF ci (v r) (o r)).set k (va_rf x)))) H1) (hD : va_D (Ab G.2.2.1) ((wl G.2.1 L ad v o w).set q0 (ad r, .inr (ci, (gF ci (v r) (o r)).set k (va_rf x))))) : WD G L ad v (up2 o r k x) w s H1 :=
  hW.mk' hP hD (wl_set hW.2.2.1 hq (by rw [hk, gE_obj h9, gF_set_r hI, up2_vaup]) (fun r' _ hn => by rw [up2_other hn]))
/-- putfield, an int, not final -/
theorem q_put (hx : p.tables.exec = Jvm.exec) (hb : c.code = cc) (hts : ∀ w ∈ wT, w.before args s = true) (hown : s.vm.findClass own = some m.cls) (hW : WD G L ad v o w s H) (hS : va_S (Ab G.2.2.1) s.heap H locs) (hm : r ∈ L) (hk : kd r = ci) (K : KC ci C T N ty) (k : Nat) (hkN : k < N) (hI : isI ci k = true) (hl : Cond.fieldLink own index (T k).1 (T k).2.1 (T k).2.2.1 ∈ wT) (hf : (T k).2.2.2 = false) {x : Int32} {t : FieldType} (ht : parseFieldDescriptor (T k).2.2.1 = some t) (hn : narrow t (.int x) = .int x) (hfit : fits t (.int x) = true) (hdg : decode cc pc = .ok (.putfield index, 3))
    (kk : ∀ (H1 : Heap) (locs1 : List Loc), WD G L ad (up2 v r k x) o w s H1 → va_S (Ab G.2.2.1) s.heap H1 locs1 → W p l e R s m args below meth c H1 locs1 cells slots Q (F0 m (pc + 3) ls rest)) : W p l e R s m args below meth c H locs cells slots Q (F0 m pc ls (.int x :: .ref (ad r) :: rest)) := by
  obtain ⟨K1, K2, K3, K4, K5, K6⟩ := K
  obtain ⟨q0, h1, h2⟩ := hW.at hm hk K5
  exact va_put hx hb hts K2 ty K3 K4 hown hW.2.2.2 hW.1 hW.2.1 hS q0 h2 K1 k hkN (hts _ hl) (fun _ h => h) hf ht hn hfit (by rw [gF_len]; omega) hdg (fun H1 l1 hP hD hS1 => kk H1 l1 (hW.puti h1 hk K5 hI hP hD) hS1)
theorem q_putN {host : String} (hx : p.tables.exec = Jvm.exec) (hb : c.code = cc) (hts : ∀ w ∈ wT, w.before args s = true) (hown : s.vm.findClass own = some m.cls) (hW : WD G L ad v o w s H) (hS : va_S (Ab G.2.2.1) s.heap H locs) (hm : r ∈ L) (hk : kd r = ci) (K : KC ci C T N ty) (k : Nat) (hkN : k < N) (hI : isI ci k = true) (hl : Cond.fieldLinkNest own index (T k).1 (T k).2.1 (T k).2.2.1 host ∈ wT) (hf : (T k).2.2.2 = false) {x : Int32} {t : FieldType} (ht : parseFieldDescriptor (T k).2.2.1 = some t) (hn : narrow t (.int x) = .int x) (hfit : fits t (.int x) = true) (hdg : decode cc pc = .ok (.putfield index, 3))
    (kk : ∀ (H1 : Heap) (locs1 : List Loc), WD G L ad (up2 v r k x) o w s H1 → va_S (Ab G.2.2.1) s.heap H1 locs1 → W p l e R s m args below meth c H1 locs1 cells slots Q (F0 m (pc + 3) ls rest)) : W p l e R s m args below meth c H locs cells slots Q (F0 m pc ls (.int x :: .ref (ad r) :: rest)) := by
  obtain ⟨K1, K2, K3, K4, K5, K6⟩ := K
  obtain ⟨q0, h1, h2⟩ := hW.at hm hk K5
  exact va_putN hx hb hts K2 ty K3 K4 hown hW.2.2.2 hW.1 hW.2.1 hS q0 h2 K1 k hkN (hts _ hl) (fun _ h => h) hf ht hn hfit (by rw [gF_len]; omega) hdg (fun H1 l1 hP hD hS1 => kk H1 l1 (hW.puti h1 hk K5 hI hP hD) hS1)
/-- putfield, an int, final, in a constructor -/
theorem q_putF (hx : p.tables.exec = Jvm.exec) (hb : c.code = cc) (hts : ∀ w ∈ wT, w.before args s = true) (hown : s.vm.findClass own = some m.cls) (hW : WD G L ad v o w s H) (hS : va_S (Ab G.2.2.1) s.heap H locs) (hm : r ∈ L) (hk : kd r = ci) (K : KC ci C T N ty) (k : Nat) (hkN : k < N) (hI : isI ci k = true) (hl : Cond.fieldLink own index (T k).1 (T k).2.1 (T k).2.2.1 ∈ wT) (hf : (T k).2.2.2 = true) (hin : meth.name = "<init>") (hdc : (T k).1 = own) {x : Int32} {t : FieldType} (ht : parseFieldDescriptor (T k).2.2.1 = some t) (hn : narrow t (.int x) = .int x) (hfit : fits t (.int x) = true) (hdg : decode cc pc = .ok (.putfield index, 3))
    (kk : ∀ (H1 : Heap) (locs1 : List Loc), WD G L ad (up2 v r k x) o w s H1 → va_S (Ab G.2.2.1) s.heap H1 locs1 → W p l e R s m args below meth c H1 locs1 cells slots Q (F0 m (pc + 3) ls rest)) : W p l e R s m args below meth c H locs cells slots Q (F0 m pc ls (.int x :: .ref (ad r) :: rest)) := by
  obtain ⟨K1, K2, K3, K4, K5, K6⟩ := K
  obtain ⟨q0, h1, h2⟩ := hW.at hm hk K5
  exact va_putF hx hb hts K2 ty K3 K4 hown hW.2.2.2 hW.1 hW.2.1 hS q0 h2 K1 k hkN (hts _ hl) (fun _ h => h) hf hin hdc ht hn hfit (by rw [gF_len]; omega) hdg (fun H1 l1 hP hD hS1 => kk H1 l1 (hW.puti h1 hk K5 hI hP hD) hS1)
/-- putfield, a reference -/
theorem q_putr (hx : p.tables.exec = Jvm.exec) (hb : c.code = cc) (hts : ∀ w ∈ wT, w.before args s = true) (hown : s.vm.findClass own = some m.cls) (hW : WD G L ad v o w s H) (hS : va_S (Ab G.2.2.1) s.heap H locs) (hm : r ∈ L) (hk : kd r = ci) (K : KC ci C T N ty) (k : Nat) (hkN : k < N) (hI : isI ci k = false) (hl : Cond.fieldLink own index (T k).1 (T k).2.1 (T k).2.2.1 ∈ wT) (hf : (T k).2.2.2 = false) {a : Nat} {t : FieldType} (ht : parseFieldDescriptor (T k).2.2.1 = some t) (hn : narrow t (.ref a) = .ref a) (hfit : fits t (.ref a) = true) (hdg : decode cc pc = .ok (.putfield index, 3))
    (kk : ∀ (H1 : Heap) (locs1 : List Loc), WD G L ad v (up2 o r k (some a)) w s H1 → va_S (Ab G.2.2.1) s.heap H1 locs1 → W p l e R s m args below meth c H1 locs1 cells slots Q (F0 m (pc + 3) ls rest)) : W p l e R s m args below meth c H locs cells slots Q (F0 m pc ls (.ref a :: .ref (ad r) :: rest)) := by
  obtain ⟨K1, K2, K3, K4, K5, K6⟩ := K
  obtain ⟨q0, h1, h2⟩ := hW.at hm hk K5
  exact va_put hx hb hts K2 ty K3 K4 hown hW.2.2.2 hW.1 hW.2.1 hS q0 h2 K1 k hkN (hts _ hl) (fun _ h => h) hf ht hn hfit (by rw [gF_len]; omega) hdg (fun H1 l1 hP hD hS1 => kk H1 l1 (hW.putr (x := some a) h1 hk K5 hI hP hD) hS1)
theorem q_putrF (hx : p.tables.exec = Jvm.exec) (hb : c.code = cc) (hts : ∀ w ∈ wT, w.before args s = true) (hown : s.vm.findClass own = some m.cls) (hW : WD G L ad v o w s H) (hS : va_S (Ab G.2.2.1) s.heap H locs) (hm : r ∈ L) (hk : kd r = ci) (K : KC ci C T N ty) (k : Nat) (hkN : k < N) (hI : isI ci k = false) (hl : Cond.fieldLink own index (T k).1 (T k).2.1 (T k).2.2.1 ∈ wT) (hf : (T k).2.2.2 = true) (hin : meth.name = "<init>") (hdc : (T k).1 = own) {a : Nat} {t : FieldType} (ht : parseFieldDescriptor (T k).2.2.1 = some t) (hn : narrow t (.ref a) = .ref a) (hfit : fits t (.ref a) = true) (hdg : decode cc pc = .ok (.putfield index, 3))
    (kk : ∀ (H1 : Heap) (locs1 : List Loc), WD G L ad v (up2 o r k (some a)) w s H1 → va_S (Ab G.2.2.1) s.heap H1 locs1 → W p l e R s m args below meth c H1 locs1 cells slots Q (F0 m (pc + 3) ls rest)) : W p l e R s m args below meth c H locs cells slots Q (F0 m pc ls (.ref a :: .ref (ad r) :: rest)) := by
  obtain ⟨K1, K2, K3, K4, K5, K6⟩ := K
  obtain ⟨q0, h1, h2⟩ := hW.at hm hk K5
  exact va_putF hx hb hts K2 ty K3 K4 hown hW.2.2.2 hW.1 hW.2.1 hS q0 h2 K1 k hkN (hts _ hl) (fun _ h => h) hf hin hdc ht hn hfit (by rw [gF_len]; omega) hdg (fun H1 l1 hP hD hS1 => kk H1 l1 (hW.putr (x := some a) h1 hk K5 hI hP hD) hS1)
/-! arrays of ints -/
theorem WD.ati (hW : WD G L ad v o w s H) (hm : r ∈ L) (hk : kd r = 9) : ∃ q0 : Nat, L[q0]? = some r ∧ (wl G.2.1 L ad v o w)[q0]? = some (ad r, .inl (G.2.1 0, ln r, .inl (v r))) := by
  obtain ⟨q0, h1, h2⟩ := wl_at (cy := G.2.1) (ad := ad) (v := v) (o := o) (w := w) hm
  exact ⟨q0, h1, by rw [h2, hk]; rfl⟩
theorem WD.atz (hW : WD G L ad v o w s H) (hm : r ∈ L) (hk : kd r = 10) : ∃ q0 : Nat, L[q0]? = some r ∧ (wl G.2.1 L ad v o w)[q0]? = some (ad r, .inl (G.2.1 1, ln r, .inl (v r))) := by
  obtain ⟨q0, h1, h2⟩ := wl_at (cy := G.2.1) (ad := ad) (v := v) (o := o) (w := w) hm
  exact ⟨q0, h1, by rw [h2, hk]; rfl⟩
theorem WD.ato (hW : WD G L ad v o w s H) (hm : r ∈ L) (hk : kd r = 11) : ∃ q0 : Nat, L[q0]? = some r ∧ (wl G.2.1 L ad v o w)[q0]? = some (ad r, .inl (G.2.1 2, ln r, .inr (.inr (.inr (.inr (o r)))))) := by
  obtain ⟨q0, h1, h2⟩ := wl_at (cy := G.2.1) (ad := ad) (v := v) (o := o) (w := w) hm
  exact ⟨q0, h1, by rw [h2, hk]; rfl⟩
theorem WD.atg (hW : WD G L ad v o w s H) (hm : r ∈ L) (hk : kd r = 12) : ∃ q0 : Nat, L[q0]? = some r ∧ (wl G.2.1 L ad v o w)[q0]? = some (ad r, .inl (G.2.1 3, ln r, .inr (.inr (.inr (.inr (o r)))))) := by
  obtain ⟨q0, h1, h2⟩ := wl_at (cy := G.2.1) (ad := ad) (v := v) (o := o) (w := w) hm
  exact ⟨q0, h1, by rw [h2, hk]; rfl⟩
theorem WD.atl (hW : WD G L ad v o w s H) (hm : r ∈ L) (hk : kd r = 13) : ∃ q0 : Nat, L[q0]? = some r ∧ (wl G.2.1 L ad v o w)[q0]? = some (ad r, .inl (G.2.1 4, ln r, .inr (.inl w))) := by
  obtain ⟨q0, h1, h2⟩ := wl_at (cy := G.2.1) (ad := ad) (v := v) (o := o) (w := w) hm
  exact ⟨q0, h1, by rw [h2, hk]; rfl⟩
theorem vp_cl {i : Int32} {n j : Nat} (e : i = nI j) (hj : j < n) (hn : n < 2 ^ 31) : vp_in i n ∧ i.toNatClampNeg = j := by
  subst e
  exact ⟨vp_in_nI hj hn, nI_clamp (by omega)⟩
/-- iaload at the place j -/
theorem q_iald (hx : p.tables.exec = Jvm.exec) (hb : c.code = cc) (hW : WD G L ad v o w s H) (hm : r ∈ L) (hk : kd r = 9) {i x : Int32} (j : Nat) (ej : i = nI j) (hj : j < ln r) (hn : ln r < 2 ^ 31) (hv : v r j = x) (hdg : decode cc pc = .ok (.iaload, 1))
    (kk : W p l e R s m args below meth c H locs cells slots Q (F0 m (pc + 1) ls (.int x :: rest))) : W p l e R s m args below meth c H locs cells slots Q (F0 m pc ls (.int i :: .ref (ad r) :: rest)) := by
  obtain ⟨q0, h1, h2⟩ := hW.ati hm hk
  obtain ⟨g1, g2⟩ := vp_cl ej hj hn
  exact va_iald hx hb hW.2.2.2 hW.1 q0 0 h2 rfl g1 hdg (by rw [g2, hv]; exact kk)
theorem q_zald (hx : p.tables.exec = Jvm.exec) (hb : c.code = cc) (hW : WD G L ad v o w s H) (hm : r ∈ L) (hk : kd r = 10) {i x : Int32} (j : Nat) (ej : i = nI j) (hj : j < ln r) (hn : ln r < 2 ^ 31) (hv : v r j = x) (hdg : decode cc pc = .ok (.baload, 1))
    (kk : W p l e R s m args below meth c H locs cells slots Q (F0 m (pc + 1) ls (.int x :: rest))) : W p l e R s m args below meth c H locs cells slots Q (F0 m pc ls (.int i :: .ref (ad r) :: rest)) := by
  obtain ⟨q0, h1, h2⟩ := hW.atz hm hk
  obtain ⟨g1, g2⟩ := vp_cl ej hj hn
  exact va_zald hx hb hW.2.2.2 hW.1 q0 1 h2 rfl g1 hdg (by rw [g2, hv]; exact kk)
theorem q_oald (hx : p.tables.exec = Jvm.exec) (hb : c.code = cc) (hW : WD G L ad v o w s H) (hm : r ∈ L) (hk : kd r = 11) {i : Int32} {a : Nat} (j : Nat) (ej : i = nI j) (hj : j < ln r) (hn : ln r < 2 ^ 31) (hv : o r j = some a) (hdg : decode cc pc = .ok (.aaload, 1))
    (kk : W p l e R s m args below meth c H locs cells slots Q (F0 m (pc + 1) ls (.ref a :: rest))) : W p l e R s m args below meth c H locs cells slots Q (F0 m pc ls (.int i :: .ref (ad r) :: rest)) := by
  obtain ⟨q0, h1, h2⟩ := hW.ato hm hk
  obtain ⟨g1, g2⟩ := vp_cl ej hj hn
  exact va_aldq hx hb hW.2.2.2 hW.1 q0 2 h2 rfl g1 hdg (by rw [g2, hv]; exact kk)
theorem q_iast (hx : p.tables.exec = Jvm.exec) (hb : c.code = cc) (hW : WD G L ad v o w s H) (hS : va_S (Ab G.2.2.1) s.heap H locs) (hm : r ∈ L) (hk : kd r = 9) {i x : Int32} (j : Nat) (ej : i = nI j) (hj : j < ln r) (hn : ln r < 2 ^ 31) (hdg : decode cc pc = .ok (.iastore, 1))
    (kk : ∀ (H1 : Heap) (locs1 : List Loc), WD G L ad (up2 v r j x) o w s H1 → va_S (Ab G.2.2.1) s.heap H1 locs1 → W p l e R s m args below meth c H1 locs1 cells slots Q (F0 m (pc + 1) ls rest)) : W p l e R s m args below meth c H locs cells slots Q (F0 m pc ls (.int x :: .int i :: .ref (ad r) :: rest)) := by
  obtain ⟨q0, h1, h2⟩ := hW.ati hm hk
  obtain ⟨g1, g2⟩ := vp_cl ej hj hn
  refine va_iast hx hb hW.2.2.2 hW.1 hW.2.1 hS q0 0 h2 rfl g1 hdg (fun H1 l1 hP hD hS1 => kk H1 l1 (hW.mk' hP hD (wl_set hW.2.2.1 h1 ?_ (fun r' _ hn => by rw [up2_other hn]))) hS1)
  rw [hk, g2, up2_upd]; rfl
theorem q_zast (hx : p.tables.exec = Jvm.exec) (hb : c.code = cc) (hW : WD G L ad v o w s H) (hS : va_S (Ab G.2.2.1) s.heap H locs) (hm : r ∈ L) (hk : kd r = 10) {i x : Int32} (j : Nat) (ej : i = nI j) (hj : j < ln r) (hn : ln r < 2 ^ 31) (h01 : x = 0 ∨ x = 1) (hdg : decode cc pc = .ok (.bastore, 1))
    (kk : ∀ (H1 : Heap) (locs1 : List Loc), WD G L ad (up2 v r j x) o w s H1 → va_S (Ab G.2.2.1) s.heap H1 locs1 → W p l e R s m args below meth c H1 locs1 cells slots Q (F0 m (pc + 1) ls rest)) : W p l e R s m args below meth c H locs cells slots Q (F0 m pc ls (.int x :: .int i :: .ref (ad r) :: rest)) := by
  obtain ⟨q0, h1, h2⟩ := hW.atz hm hk
  obtain ⟨g1, g2⟩ := vp_cl ej hj hn
  have hx1 : vp_nar .boolean x = x := by rcases h01 with rfl | rfl <;> rfl
  refine va_zast hx hb hW.2.2.2 hW.1 hW.2.1 hS q0 1 h2 rfl g1 hdg (fun H1 l1 hP hD hS1 => kk H1 l1 (hW.mk' hP hD (wl_set hW.2.2.1 h1 ?_ (fun r' _ hn => by rw [up2_other hn]))) hS1)
  rw [hk, g2, up2_upd, hx1]; rfl
end QR
