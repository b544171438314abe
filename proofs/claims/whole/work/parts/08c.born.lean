/-! the world at its making: what is new, what lies where -/
def FO (l : List (Nat × Nat × Nat)) (ad : Nat → Nat) (o : Nat → Nat → Option Nat) : Prop := ∀ x, x ∈ l → o x.1 x.2.1 = some (ad x.2.2)
def Fr (N : List Nat) (r : Nat) (ad1 ad : Nat → Nat) (o1 o : Nat → Nat → Option Nat) : Prop := (∀ x, x ∉ N → ad1 x = ad x) ∧ (∀ x, x ≠ r → x ∉ N → o1 x = o x)
theorem Fr.rf {r : Nat} {ad : Nat → Nat} {o : Nat → Nat → Option Nat} : Fr [] r ad ad o o := ⟨fun _ _ => rfl, fun _ _ _ => rfl⟩
section FF
variable {N N2 : List Nat} {r r2 q a k t : Nat} {ad1 ad ad2 : Nat → Nat} {o1 o o2 : Nat → Nat → Option Nat} {b : Nat → Option Nat} {c : Option Nat} {l l2 : List (Nat × Nat × Nat)} {M : List Nat}
theorem Fr.new (h : Fr N r ad1 ad o1 o) (hM : M = N ++ [q]) : Fr M r (upA ad1 q a) ad (up1 o1 q b) o := by
  subst hM
  refine ⟨fun x hx => ?_, fun x h1 hx => ?_⟩
  · have h2 : x ∉ N := fun g => hx (List.mem_append_left _ g)
    have h3 : x ≠ q := fun g => hx (List.mem_append_right _ (List.mem_singleton.mpr g))
    rw [upA_n h3]
    exact h.1 x h2
  · have h2 : x ∉ N := fun g => hx (List.mem_append_left _ g)
    have h3 : x ≠ q := fun g => hx (List.mem_append_right _ (List.mem_singleton.mpr g))
    rw [up1_n h3]
    exact h.2 x h1 h2
theorem Fr.put (h : Fr N r ad1 ad o1 o) (hx : r2 = r ∨ r2 ∈ N) : Fr N r ad1 ad (up2 o1 r2 k c) o := ⟨h.1, fun x h1 h2 => by
  have h3 : x ≠ r2 := fun e => hx.elim (fun g => h1 (e.trans g)) (fun g => h2 (e ▸ g))
  rw [up2_other h3]
  exact h.2 x h1 h2⟩
theorem Fr.tr (h : Fr N r ad1 ad o1 o) (g : Fr N2 r2 ad2 ad1 o2 o1) (hr : r2 ∈ N) (hM : M = N ++ N2) : Fr M r ad2 ad o2 o := by
  subst hM
  refine ⟨fun x hx => ?_, fun x h1 hx => ?_⟩
  · exact (g.1 x (fun q => hx (List.mem_append_right _ q))).trans (h.1 x (fun q => hx (List.mem_append_left _ q)))
  · have h2 : x ∉ N := fun g => hx (List.mem_append_left _ g)
    exact (g.2 x (fun q => h2 (q ▸ hr)) (fun q => hx (List.mem_append_right _ q))).trans (h.2 x h1 h2)
theorem FO.nil : FO [] ad o := fun x hx => by cases hx
theorem FO.new (h : FO l ad1 o1) (hn : l.all (fun x => x.1 != q && x.2.2 != q) = true) : FO l (upA ad1 q a) (up1 o1 q b) := fun x hx => by
  have := List.all_eq_true.mp hn x hx
  simp only [Bool.and_eq_true, bne_iff_ne, ne_eq] at this
  rw [up1_n this.1, upA_n this.2]
  exact h x hx
theorem FO.put (h : FO l ad1 o1) (hn : l.all (fun x => !(x.1 == r && x.2.1 == k)) = true) (hc : c = some (ad1 t)) (hM : l2 = l ++ [(r, k, t)]) : FO l2 ad1 (up2 o1 r k c) := by
  subst hM hc
  intro x hx
  rcases List.mem_append.mp hx with g | g
  · have h9 := List.all_eq_true.mp hn x g
    simp only [Bool.not_eq_true', Bool.and_eq_false_iff, beq_eq_false_iff_ne, ne_eq] at h9
    rcases h9 with h9 | h9
    · rw [up2_r h9]; exact h x g
    · rw [up2_k h9]; exact h x g
  · rw [List.mem_singleton.mp g]
    exact up2_s
theorem FO.far (h : FO l ad1 o1) (g : Fr N r ad2 ad1 o2 o1) (hn : l.all (fun x => x.1 != r && !(N.contains x.1) && !(N.contains x.2.2)) = true) : FO l ad2 o2 := fun x hx => by
  have := List.all_eq_true.mp hn x hx
  simp only [Bool.and_eq_true, bne_iff_ne, ne_eq, Bool.not_eq_true', List.contains_eq_mem, decide_eq_false_iff_not] at this
  obtain ⟨⟨h1, h2⟩, h3⟩ := this
  rw [g.2 _ h1 h2, g.1 _ h3]
  exact h x hx
theorem FO.app (h : FO l ad1 o1) (g : FO l2 ad1 o1) {l3 : List (Nat × Nat × Nat)} (hM : l3 = l ++ l2) : FO l3 ad1 o1 := by
  subst hM
  exact fun x hx => (List.mem_append.mp hx).elim (h x) (g x)
theorem FO.sub (h : FO l ad1 o1) (hs : l2.all (fun x => l.contains x) = true) : FO l2 ad1 o1 := fun x hx => h x (by
  have := List.all_eq_true.mp hs x hx
  simpa using this)
theorem nm_new {L : List Nat} (hL : ∀ x, x ∈ M → x ∉ L) (h1 : q ∈ M) (h2 : q ∉ N) : q ∉ L ++ N := fun g => (List.mem_append.mp g).elim (hL q h1) h2
theorem up1_self {v : Nat → Nat → Int32} (h : v r = z32) : up1 v r z32 = v := by
  funext x
  unfold up1
  split
  · rename_i e
    rw [e, h]
  · rfl
theorem up2_self {v : Nat → Nat → Int32} (h : v r k = 0) : up2 v r k 0 = v := by
  funext x y
  unfold up2
  split
  · rename_i e
    rw [e.1, e.2, h]
  · rfl
end FF
section QB
variable {p : Program} {l : Launch} {e : Env} {R : Room} {s : State} {m : MethodId} {args : Array Value} {below : List Frame} {meth : Method} {c : Code} {H : Heap} {locs : List Loc} {cells slots : Nat} {Q : State → Prop}
variable {cc : ByteArray} {pc : Nat} {ls : Array Slot} {rest : List Value} {G : GG} {L : List Nat} {ad : Nat → Nat} {v : Nat → Nat → Int32} {o : Nat → Nat → Option Nat} {w : Nat → Int64}
variable {own : String} {index : Nat} {ci : Nat} {C : String} {T : u_T} {N : Nat} {ty : Nat → FieldType} {r nL n maxL : Nat} {y : MethodName} {b : ByteArray} {ret : Option FieldType} {rm : Room} {As : List Value}
theorem q_putA (hx : p.tables.exec = Jvm.exec) (hb : c.code = cc) (hts : ∀ w ∈ wT, w.before args s = true) (hown : s.vm.findClass own = some m.cls) (hW : WD G L ad v o w s H) (hS : va_S (Ab G.2.2.1) s.heap H locs) (hm : r ∈ L) (hk : kd r = ci) (K : KC ci C T N ty) (k : Nat) (hkN : k < N) (hI : isI ci k = false) (hl : Cond.fieldLink own index (T k).1 (T k).2.1 (T k).2.2.1 ∈ wT) (hf : (T k).2.2.2 = false) {a : Nat} {t : FieldType} (ht : parseFieldDescriptor (T k).2.2.1 = some t) (hn : narrow t (.ref a) = .ref a) (hfit : fits t (.ref a) = true) {a9 : Nat} (h9 : a9 = ad r) (hdg : decode cc pc = .ok (.putfield index, 3))
    (kk : ∀ (H1 : Heap) (locs1 : List Loc), WD G L ad v (up2 o r k (some a)) w s H1 → va_S (Ab G.2.2.1) s.heap H1 locs1 → W p l e R s m args below meth c H1 locs1 cells slots Q (F0 m (pc + 3) ls rest)) : W p l e R s m args below meth c H locs cells slots Q (F0 m pc ls (.ref a :: .ref a9 :: rest)) := by
  rw [h9]
  exact q_putr hx hb hts hown hW hS hm hk K k hkN hI hl hf ht hn hfit hdg kk
theorem q_putFA (hx : p.tables.exec = Jvm.exec) (hb : c.code = cc) (hts : ∀ w ∈ wT, w.before args s = true) (hown : s.vm.findClass own = some m.cls) (hW : WD G L ad v o w s H) (hS : va_S (Ab G.2.2.1) s.heap H locs) (hm : r ∈ L) (hk : kd r = ci) (K : KC ci C T N ty) (k : Nat) (hkN : k < N) (hI : isI ci k = false) (hl : Cond.fieldLink own index (T k).1 (T k).2.1 (T k).2.2.1 ∈ wT) (hf : (T k).2.2.2 = true) (hin : meth.name = "<init>") (hdc : (T k).1 = own) {a : Nat} {t : FieldType} (ht : parseFieldDescriptor (T k).2.2.1 = some t) (hn : narrow t (.ref a) = .ref a) (hfit : fits t (.ref a) = true) {a9 : Nat} (h9 : a9 = ad r) (hdg : decode cc pc = .ok (.putfield index, 3))
    (kk : ∀ (H1 : Heap) (locs1 : List Loc), WD G L ad v (up2 o r k (some a)) w s H1 → va_S (Ab G.2.2.1) s.heap H1 locs1 → W p l e R s m args below meth c H1 locs1 cells slots Q (F0 m (pc + 3) ls rest)) : W p l e R s m args below meth c H locs cells slots Q (F0 m pc ls (.ref a :: .ref a9 :: rest)) := by
  rw [h9]
  exact q_putrF hx hb hts hown hW hS hm hk K k hkN hI hl hf hin hdc ht hn hfit hdg kk
theorem q_cIA {post : PW → Prop} (hx : p.tables.exec = Jvm.exec) (hb : c.code = cc) (hml : c.maxLocals = nL) (hts : ∀ w ∈ wT, w.before args s = true) (hown : s.vm.findClass own = some m.cls) (hE : EV G.2.2 s s.heap) (h0 : G.2.2.1 ≤ s.heap.size) (hW : WD G L ad v o w s H) (hS : va_S (Ab G.2.2.1) s.heap H locs) (hM : CtVw l G L ad v o w y b maxL rm [.ref (ad r)] post) (mw : MWi y b maxL 0) (hl : Cond.methodLink own index y ∈ wT) (hR : rm.frames + 1 ≤ R.frames ∧ 8 + (maxL + 11) + rm.locals ≤ R.locals) (hls : ls.size = nL) (h8 : (rest.map fun v => v.category).sum ≤ 8) {a9 : Nat} (h9 : a9 = ad r) (hdg : decode cc pc = .ok (.invokespecial index, 3)) (hf : cells + rm.cells ≤ R.cells ∧ slots + rm.slots ≤ R.slots)
    (kk : ∀ (u : PW) (H1 : Heap) (locs1 : List Loc), post u → WDp G u w s H1 → va_S (Ab G.2.2.1) s.heap H1 locs1 → W p l e R s m args below meth c H1 locs1 (cells + rm.cells) (slots + rm.slots) Q (F0 m (pc + 3) ls rest)) : W p l e R s m args below meth c H locs cells slots Q (F0 m pc ls (.ref a9 :: rest)) := by
  rw [h9]
  exact q_cIw (As := []) (rest := rest) hx hb hml hts hown hE h0 hW hS hM mw hl hR rfl hls h8 hdg hf kk
theorem q_cINA {host : String} {post : PW → Prop} (hx : p.tables.exec = Jvm.exec) (hb : c.code = cc) (hml : c.maxLocals = nL) (hts : ∀ w ∈ wT, w.before args s = true) (hown : s.vm.findClass own = some m.cls) (hE : EV G.2.2 s s.heap) (h0 : G.2.2.1 ≤ s.heap.size) (hW : WD G L ad v o w s H) (hS : va_S (Ab G.2.2.1) s.heap H locs) (hM : CtVw l G L ad v o w y b maxL rm [.ref (ad r)] post) (mw : MWi y b maxL 0) (hl : Cond.methodLinkNest own index y host ∈ wT) (hR : rm.frames + 1 ≤ R.frames ∧ 8 + (maxL + 11) + rm.locals ≤ R.locals) (hls : ls.size = nL) (h8 : (rest.map fun v => v.category).sum ≤ 8) {a9 : Nat} (h9 : a9 = ad r) (hdg : decode cc pc = .ok (.invokespecial index, 3)) (hf : cells + rm.cells ≤ R.cells ∧ slots + rm.slots ≤ R.slots)
    (kk : ∀ (u : PW) (H1 : Heap) (locs1 : List Loc), post u → WDp G u w s H1 → va_S (Ab G.2.2.1) s.heap H1 locs1 → W p l e R s m args below meth c H1 locs1 (cells + rm.cells) (slots + rm.slots) Q (F0 m (pc + 3) ls rest)) : W p l e R s m args below meth c H locs cells slots Q (F0 m pc ls (.ref a9 :: rest)) := by
  rw [h9]
  exact q_cINw (As := []) (rest := rest) hx hb hml hts hown hE h0 hW hS hM mw hl hR rfl hls h8 hdg hf kk
/-- new int[30][6]: the reports and their rows -/
def rw30 : List Nat := (List.range 30).map (20 + ·)
def adR (ad : Nat → Nat) (q : Nat) (f : Nat → Nat) : Nat → Nat := fun x => if x = 5 then q else if 20 ≤ x ∧ x < 50 then f (x - 20) else ad x
def oR (o : Nat → Nat → Option Nat) (f : Nat → Nat) : Nat → Nat → Option Nat := fun x k => if x = 5 then (if k < 30 then some (f k) else none) else o x k
theorem wl_rows {cy : Nat → ClassId} {L : List Nat} {ad : Nat → Nat} {v : Nat → Nat → Int32} {o : Nat → Nat → Option Nat} {w : Nat → Int64} {q : Nat} {f : Nat → Nat} {g0 : Nat → va_E} (h5 : 5 ∉ L) (hr : ∀ x, x ∈ rw30 → x ∉ L) (hv : ∀ x, x ∈ rw30 → v x = z32) (hj : ∀ i j : Nat, i < 30 → j < 30 → f i = f j → i = j) :
    (wl cy L ad v o w ++ [(q, .inl (cy 3, 30, .inr (.inr (.inr (.inr (fun i => if i < 30 then some (f i) else none))))))]) ++ va_pl ([] ++ (List.range 30).map f) (vr_up g0 ((List.range 30).map f) (.inl (cy 0, (6, .inl z32)))) = wl cy (L ++ ([5] ++ rw30)) (adR ad q f) v (oR o f) w := by
  unfold wl
  rw [List.map_append, List.map_append, List.append_assoc]
  congr 1
  · apply List.map_congr_left
    intro x hx
    have h1 : x ≠ 5 := fun e => h5 (e ▸ hx)
    have h2 : ¬ (20 ≤ x ∧ x < 50) := fun e => hr x (List.mem_map.mpr ⟨x - 20, List.mem_range.mpr (by omega), by omega⟩) hx
    have e1 : adR ad q f x = ad x := by unfold adR; rw [if_neg h1, if_neg h2]
    have e2 : oR o f x = o x := by funext k; unfold oR; rw [if_neg h1]
    rw [e1, e2]
  · congr 1
    · rw [List.nil_append]
      unfold va_pl rw30
      rw [List.map_map, List.map_map]
      apply List.map_congr_left
      intro i hi
      have hi := List.mem_range.mp hi
      have e1 : adR ad q f (20 + i) = f i := by
        unfold adR
        rw [if_neg (by omega), if_pos (by omega), show 20 + i - 20 = i by omega]
      have e3 : v (20 + i) = z32 := hv _ (List.mem_map.mpr ⟨i, List.mem_range.mpr hi, rfl⟩)
      show (f i, vr_up g0 _ _ (f i)) = (adR ad q f (20 + i), gE cy (kd (20 + i)) (ln (20 + i)) (v (20 + i)) _ w)
      rw [e1, e3, kd_row hi, ln_row hi, vr_up_in (List.mem_map.mpr ⟨i, List.mem_range.mpr hi, rfl⟩)]
      rfl
theorem q_mna (hx : p.tables.exec = Jvm.exec) (hb : c.code = cc) (hts : ∀ w ∈ wT, w.before args s = true) (hown : s.vm.findClass own = some m.cls) (h0 : G.2.2.1 ≤ s.heap.size) (hW : WD G L ad v o w s H) (hS : va_S (Ab G.2.2.1) s.heap H locs) (h9 : va_AOA .int s) (hcl : Cond.classLink own index ("[" ++ (FieldType.array .int).toString) ∈ wT) (h5 : 5 ∉ L) (hr : ∀ x, x ∈ rw30 → x ∉ L) (hv : ∀ x, x ∈ rw30 → v x = z32) (hc : cells + (1 + 30) ≤ R.cells) (hs : slots + (30 + 30 * 6) ≤ R.slots) (hdg : decode cc pc = .ok (.multianewarray index 2, 4))
    (kk : ∀ (q : Nat) (f : Nat → Nat) (H1 : Heap), WD G (L ++ ([5] ++ rw30)) (adR ad q f) v (oR o f) w s H1 → va_S (Ab G.2.2.1) s.heap H1 locs → W p l e R s m args below meth c H1 locs (cells + 1 + 30) (slots + 30 + 30 * 6) Q (F0 m (pc + 4) ls (.ref q :: rest))) : W p l e R s m args below meth c H locs cells slots Q (F0 m pc ls (.int 6 :: .int 30 :: rest)) := by
  refine va_mna (X := wl G.2.1 L ad v o w) (L := []) (f := fun _ => .inl (G.2.1 0, (6, .inl z32))) (ty := .int) (cy := G.2.1 0) (z := (6, .inl z32)) (N' := 30) (K' := 6) hx hb hown (hts _ hcl) h9 (hts _ t_136) (hW.2.2.2.2 0 _ rfl).2 hW.2.2.2 (by rw [show va_pl [] _ = [] from rfl, List.append_nil]; exact hW.1) (by rw [show va_pl [] _ = [] from rfl, List.append_nil]; exact hW.2.1) hS (fun q hq => Nat.le_trans h0 hq) (by decide) (by decide) (by decide) (by decide) (by decide) (by decide) (by decide) (by decide) (by decide) hc hs (fun c => rfl) hdg (fun q f cA H1 hj hn hK hP hD hS1 => ?_)
  have hcA : cA = G.2.1 3 := Option.some.inj ((hK.2 5 _ rfl).2.symm.trans (hW.2.2.2.2 3 _ rfl).2)
  subst hcA
  rw [wl_rows h5 hr hv hj] at hP hD
  refine kk q f H1 ⟨hP, hD, ?_, hW.2.2.2⟩ hS1
  rw [List.nodup_append]
  refine ⟨hW.2.2.1, by decide, fun a ha b hb e => ?_⟩
  subst e
  rcases List.mem_append.mp hb with g | g
  · exact h5 ((List.mem_singleton.mp g) ▸ ha)
  · exact hr a g ha
end QB
