/-! NEW THINGS in the world by roles -/
def upA (ad : Nat → Nat) (r q : Nat) : Nat → Nat := fun r' => if r' = r then q else ad r'
def up1 {α : Type} (v : Nat → α) (r : Nat) (x : α) : Nat → α := fun r' => if r' = r then x else v r'
theorem upA_s {ad : Nat → Nat} {r q : Nat} : upA ad r q r = q := if_pos rfl
theorem upA_n {ad : Nat → Nat} {r q r' : Nat} (h : r' ≠ r) : upA ad r q r' = ad r' := if_neg h
theorem up1_s {α : Type} {v : Nat → α} {r : Nat} {x : α} : up1 v r x r = x := if_pos rfl
theorem up1_n {α : Type} {v : Nat → α} {r r' : Nat} {x : α} (h : r' ≠ r) : up1 v r x r' = v r' := if_neg h
abbrev z32 : Nat → Int32 := fun _ => 0
abbrev nOp : Nat → Option Nat := fun _ => none
abbrev z64 : Nat → Int64 := fun _ => 0
theorem wl_push {cy : Nat → ClassId} {L : List Nat} {ad : Nat → Nat} {v : Nat → Nat → Int32} {o : Nat → Nat → Option Nat} {w : Nat → Int64} {r q : Nat} (hr : r ∉ L) {a : Nat → Int32} {b : Nat → Option Nat} : wl cy (L ++ [r]) (upA ad r q) (up1 v r a) (up1 o r b) w = wl cy L ad v o w ++ [(q, gE cy (kd r) (ln r) a b w)] := by
  unfold wl
  rw [List.map_append]
  congr 1
  · refine List.map_congr_left (fun x hx => ?_)
    have hn : x ≠ r := fun e => hr (e ▸ hx)
    rw [upA_n hn, up1_n hn, up1_n hn]
  · simp [upA_s, up1_s]
theorem WD.push {G : GG} {L : List Nat} {ad : Nat → Nat} {v : Nat → Nat → Int32} {o : Nat → Nat → Option Nat} {w : Nat → Int64} {s : State} {H H1 : Heap} {r q : Nat} {a : Nat → Int32} {b : Nat → Option Nat} (hW : WD G L ad v o w s H) (hr : r ∉ L) (hP : va_P G.1 vwCl (wl G.2.1 L ad v o w ++ [(q, gE G.2.1 (kd r) (ln r) a b w)]) H1) (hD : va_D (Ab G.2.2.1) (wl G.2.1 L ad v o w ++ [(q, gE G.2.1 (kd r) (ln r) a b w)])) : WD G (L ++ [r]) (upA ad r q) (up1 v r a) (up1 o r b) w s H1 := by
  refine ⟨by rw [wl_push hr]; exact hP, by rw [wl_push hr]; exact hD, ?_, hW.2.2.2⟩
  refine List.nodup_append.mpr ⟨hW.2.2.1, by simp, fun x hx y hy e => ?_⟩
  rw [List.mem_singleton.mp hy] at e
  exact hr (e ▸ hx)
theorem WD.congr {G : GG} {L : List Nat} {ad ad' : Nat → Nat} {v v' : Nat → Nat → Int32} {o o' : Nat → Nat → Option Nat} {w : Nat → Int64} {s : State} {H : Heap} (hW : WD G L ad v o w s H) (h : ∀ r, r ∈ L → ad' r = ad r ∧ v' r = v r ∧ o' r = o r) : WD G L ad' v' o' w s H := by
  have e : wl G.2.1 L ad' v' o' w = wl G.2.1 L ad v o w := List.map_congr_left (fun x hx => by obtain ⟨h1, h2, h3⟩ := h x hx; rw [h1, h2, h3])
  exact ⟨by rw [e]; exact hW.1, by rw [e]; exact hW.2.1, hW.2.2.1, hW.2.2.2⟩
/-- the last thing is forgotten -/
theorem WD.drop {G : GG} {L : List Nat} {ad : Nat → Nat} {v : Nat → Nat → Int32} {o : Nat → Nat → Option Nat} {w : Nat → Int64} {s : State} {H : Heap} {r : Nat} (hW : WD G (L ++ [r]) ad v o w s H) : WD G L ad v o w s H := by
  obtain ⟨h1, h2, h3, h4⟩ := hW
  have e : wl G.2.1 (L ++ [r]) ad v o w = wl G.2.1 L ad v o w ++ [(ad r, gE G.2.1 (kd r) (ln r) (v r) (o r) w)] := by simp [wl]
  rw [e] at h1 h2
  have up : ∀ {k : Nat} {x : Nat × va_E}, (wl G.2.1 L ad v o w)[k]? = some x → (wl G.2.1 L ad v o w ++ [(ad r, gE G.2.1 (kd r) (ln r) (v r) (o r) w)])[k]? = some x := fun {k x} hk => by
    rw [List.getElem?_append_left (List.getElem?_eq_some_iff.mp hk).1]; exact hk
  exact ⟨fun k x hk => h1 k x (up hk), ⟨fun i j p q hi hj e => h2.1 i j p q (up hi) (up hj) e, fun k x hk => h2.2 k x (up hk)⟩, (List.nodup_append.mp h3).1, h4⟩
section QN
variable {p : Program} {l : Launch} {e : Env} {R : Room} {s : State} {m : MethodId} {args : Array Value} {below : List Frame} {meth : Method} {c : Code} {H : Heap} {locs : List Loc} {cells slots : Nat} {Q : State → Prop}
variable {cc : ByteArray} {pc : Nat} {ls : Array Slot} {rest : List Value} {G : GG} {L : List Nat} {ad : Nat → Nat} {v : Nat → Nat → Int32} {o : Nat → Nat → Option Nat} {w : Nat → Int64} {own : String} {index ci : Nat} {C : String} {T : u_T} {N : Nat} {ty : Nat → FieldType}
/-- newarray int, at a new role -/
theorem q_newa (hx : p.tables.exec = Jvm.exec) (hb : c.code = cc) (hts : ∀ w ∈ wT, w.before args s = true) (ha : Cond.arrayClass FieldType.int ∈ wT) (h0 : G.2.2.1 ≤ s.heap.size) (hW : WD G L ad v o w s H) (hS : va_S (Ab G.2.2.1) s.heap H locs) (r : Nat) (hr : r ∉ L) (hk : kd r = 9) {n : Int32} (hn : n = nI (ln r)) (hl : ln r < 1000) (hc : cells + 1 ≤ R.cells) (hs : slots + ln r ≤ R.slots) (hdg : decode cc pc = .ok (.newarray .int, 2))
    (kk : ∀ (ad1 : Nat → Nat) (H1 : Heap) (q : Nat), ad1 = upA ad r q → WD G (L ++ [r]) ad1 (up1 v r z32) (up1 o r nOp) w s H1 → va_S (Ab G.2.2.1) s.heap H1 locs → W p l e R s m args below meth c H1 locs (cells + 1) (slots + ln r) Q (F0 m (pc + 2) ls (.ref (ad1 r) :: rest))) : W p l e R s m args below meth c H locs cells slots Q (F0 m pc ls (.int n :: rest)) := by
  refine va_newaK hx hb (atype := .int) (hts _ ha) rfl hdg rfl (by rw [hn]; exact nI_pos (by omega)) (by rw [hn]; exact nI_clamp (by omega)) (by show ln r * 4 ≤ 536870912; omega) hc hs rfl fun H1 cA e1 z1 o1 hAr hNm => ?_
  have hcA : cA = G.2.1 0 := Option.some.inj (hNm.symm.trans (hW.2.2.2.2 0 _ rfl).2)
  have hkp : ∀ (k : Nat) (x : Nat × va_E), (wl G.2.1 L ad v o w)[k]? = some x → H1[x.1]? = H[x.1]? := fun k x hx => o1 x.1 ((hW.1 k x hx).lt)
  have hA : Ab G.2.2.1 H.size := Nat.le_trans h0 hS.1
  have := kk (upA ad r H.size) H1 H.size rfl (hW.push hr (q := H.size) ((hW.1.kept hkp).app (fun k x hx => ?_)) (hW.2.1.push hW.1 rfl hA)) ⟨Nat.le_trans hS.1 (by omega), fun x h1 h2 => (o1 x (Nat.lt_of_lt_of_le h1 hS.1)).trans (hS.2.1 x h1 h2), hS.2.2⟩
  · rw [upA_s] at this; exact this
  · have hz : k < 1 := (List.getElem?_eq_some_iff.mp hx).1
    rw [show k = 0 by omega] at hx
    cases hx
    rw [hk]
    show H1[H.size]? = _
    rw [e1, hcA]; rfl
theorem q_newaz (hx : p.tables.exec = Jvm.exec) (hb : c.code = cc) (hts : ∀ w ∈ wT, w.before args s = true) (ha : Cond.arrayClass FieldType.boolean ∈ wT) (h0 : G.2.2.1 ≤ s.heap.size) (hW : WD G L ad v o w s H) (hS : va_S (Ab G.2.2.1) s.heap H locs) (r : Nat) (hr : r ∉ L) (hk : kd r = 10) {n : Int32} (hn : n = nI (ln r)) (hl : ln r < 1000) (hc : cells + 1 ≤ R.cells) (hs : slots + ln r ≤ R.slots) (hdg : decode cc pc = .ok (.newarray .boolean, 2))
    (kk : ∀ (ad1 : Nat → Nat) (H1 : Heap) (q : Nat), ad1 = upA ad r q → WD G (L ++ [r]) ad1 (up1 v r z32) (up1 o r nOp) w s H1 → va_S (Ab G.2.2.1) s.heap H1 locs → W p l e R s m args below meth c H1 locs (cells + 1) (slots + ln r) Q (F0 m (pc + 2) ls (.ref (ad1 r) :: rest))) : W p l e R s m args below meth c H locs cells slots Q (F0 m pc ls (.int n :: rest)) := by
  refine va_newaK hx hb (atype := .boolean) (hts _ ha) rfl hdg rfl (by rw [hn]; exact nI_pos (by omega)) (by rw [hn]; exact nI_clamp (by omega)) (by show ln r * 1 ≤ 536870912; omega) hc hs rfl fun H1 cA e1 z1 o1 hAr hNm => ?_
  have hcA : cA = G.2.1 1 := Option.some.inj (hNm.symm.trans (hW.2.2.2.2 1 _ rfl).2)
  have hkp : ∀ (k : Nat) (x : Nat × va_E), (wl G.2.1 L ad v o w)[k]? = some x → H1[x.1]? = H[x.1]? := fun k x hx => o1 x.1 ((hW.1 k x hx).lt)
  have hA : Ab G.2.2.1 H.size := Nat.le_trans h0 hS.1
  have := kk (upA ad r H.size) H1 H.size rfl (hW.push hr (q := H.size) ((hW.1.kept hkp).app (fun k x hx => ?_)) (hW.2.1.push hW.1 rfl hA)) ⟨Nat.le_trans hS.1 (by omega), fun x h1 h2 => (o1 x (Nat.lt_of_lt_of_le h1 hS.1)).trans (hS.2.1 x h1 h2), hS.2.2⟩
  · rw [upA_s] at this; exact this
  · have hz : k < 1 := (List.getElem?_eq_some_iff.mp hx).1
    rw [show k = 0 by omega] at hx
    cases hx
    rw [hk]
    show H1[H.size]? = _
    rw [e1, hcA]; rfl
/-- new C, at a new role -/
theorem q_new (hx : p.tables.exec = Jvm.exec) (hb : c.code = cc) (hts : ∀ w ∈ wT, w.before args s = true) (hown : s.vm.findClass own = some m.cls) (h0 : G.2.2.1 ≤ s.heap.size) (hW : WD G L ad v o w s H) (hS : va_S (Ab G.2.2.1) s.heap H locs) (r : Nat) (hr : r ∉ L) (hk : kd r = ci) (K : KC ci C T N ty) (hcl : Cond.classLink own index C ∈ wT) (hin : Cond.instantiable C N ∈ wT) (hini : Cond.initialized C ∈ wT) (hdef : ∀ j, j < N → defaultValue (ty j) = vp_V (gF ci z32 nOp) j) (hc : cells + 1 ≤ R.cells) (hs : slots + N ≤ R.slots) (hdg : decode cc pc = .ok (.new index, 3))
    (kk : ∀ (ad1 : Nat → Nat) (H1 : Heap) (q : Nat), ad1 = upA ad r q → WD G (L ++ [r]) ad1 (up1 v r z32) (up1 o r nOp) w s H1 → va_S (Ab G.2.2.1) s.heap H1 locs → W p l e R s m args below meth c H1 locs (cells + 1) (slots + N) Q (F0 m (pc + 3) ls (.ref (ad1 r) :: rest))) : W p l e R s m args below meth c H locs cells slots Q (F0 m pc ls rest) := by
  obtain ⟨K1, K2, K3, K4, K5, K6⟩ := K
  refine va_new hx hb hts K2 ty K3 hown (hts _ hcl) (hts _ hin) (hts _ hini) hW.2.2.2 hW.1 hW.2.1 hS (fun q hq => Nat.le_trans h0 hq) K1 hdef hc hs hdg (fun q H1 hP hD hS1 => ?_)
  have e : gE G.2.1 (kd r) (ln r) z32 nOp w = .inr (ci, gF ci z32 nOp) := by rw [hk, gE_obj K5]
  have := kk (upA ad r q) H1 q rfl (hW.push hr (q := q) (a := z32) (b := nOp) (by rw [e]; exact hP) (by rw [e]; exact hD)) hS1
  rw [upA_s] at this
  exact this
end QN
section NW
variable {td : Nat} {L : List Nat} {ad ad1 : Nat → Nat} {v : Nat → Nat → Int32} {o : Nat → Nat → Option Nat} {S B ng nh nl ns r q : Nat} {ow gx gy gw gd : Nat → Nat} {a : Nat → Int32} {b : Nat → Option Nat}
theorem PI.new (h : PI td L ad v o ng nh nl ns ow gx gy gw gd) (hr : 100 ≤ r) (he : ad1 = upA ad r q) : PI td (L ++ [r]) ad1 (up1 v r a) (up1 o r b) ng nh nl ns ow gx gy gw gd := by
  subst he
  have ea : ∀ x, x < 100 → upA ad r q x = ad x := fun x hx => upA_n (by omega)
  have ev : ∀ x, x < 100 → up1 v r a x = v x := fun x hx => up1_n (by omega)
  have eo : ∀ x, x < 100 → up1 o r b x = o x := fun x hx => up1_n (by omega)
  have g6 := h.g6; have h12 := h.h12; have l6 := h.l6
  have li : ∀ {lr n A B base : Nat}, lr < 20 → A < 20 → B < 20 → base + n ≤ 100 → LI L ad v o td lr n A B base → LI (L ++ [r]) (upA ad r q) (up1 v r a) (up1 o r b) td lr n A B base := by
    intro lr n A B base h1 h2 h3 h4 hl
    obtain ⟨c1, c2, c3, c4, c5, c6, c7, c8, c9, c10, c11⟩ := hl
    refine ⟨List.mem_append_left _ c1, c2, by rw [ev _ (by omega)]; exact c3, c4, fun i hi => List.mem_append_left _ (c5 i hi), c6, c7, c8, c9, c10, ?_⟩
    rw [eo _ (by omega), eo _ (by omega), eo _ (by omega), ea _ (by omega), ea _ (by omega)]
    rcases c11 with ⟨d1, d2⟩ | ⟨d1, d2, d3, d4, d5⟩ | ⟨d1, d3, d4, d5⟩
    · exact Or.inl ⟨d1, d2⟩
    · exact Or.inr (Or.inl ⟨d1, d2, List.mem_append_left _ d3, d4, fun i hi => by rw [ea _ (by omega)]; exact d5 i hi⟩)
    · exact Or.inr (Or.inr ⟨d1, List.mem_append_left _ d3, d4, fun i hi => by rw [ea _ (by omega)]; exact d5 i hi⟩)
  obtain ⟨h1, h2, h3, h4, h5, h6, h7, h8, h9, h10, h11, hs, hs30, hh⟩ := h
  refine ⟨fun x hx => List.mem_append_left _ (h1 x hx), fun i hi => List.mem_append_left _ (h2 i hi), fun k hk => by rw [eo _ (by omega), ea _ (by omega)]; exact h3 k hk, fun k hk => by rw [eo _ (by omega), ea _ (by omega)]; exact h4 k hk, fun i hi => by rw [eo _ (by omega), ea _ (by omega)]; exact h5 i hi, li (by omega) (by omega) (by omega) (by omega) h6, li (by omega) (by omega) (by omega) (by omega) h7, li (by omega) (by omega) (by omega) (by omega) h8, h9, h10, h11, by rw [ev _ (by omega)]; exact hs, hs30, fun i hi => ?_⟩
  rw [ev _ (by omega)]
  exact hh i hi
theorem PQ.new (h : PQ L ad o S B) (hr : 170 ≤ r) (he : ad1 = upA ad r q) : PQ (L ++ [r]) ad1 (up1 o r b) S B := by
  subst he
  have hsb := h.sb
  obtain ⟨h1, h2, h3, h4⟩ := h
  refine ⟨h1, List.mem_append_left _ h2, List.mem_append_left _ h3, fun k hk => ?_⟩
  have := arr_lt k hk
  obtain ⟨c1, c2⟩ := h4 k hk
  exact ⟨List.mem_append_left _ c1, by rw [up1_n (by omega), upA_n (by omega)]; exact c2⟩
theorem PJ.new (h : PJ L ad v o S B ng nh nl ns ow gx gy gw gd) (hr : 170 ≤ r) (he : ad1 = upA ad r q) : PJ (L ++ [r]) ad1 (up1 v r a) (up1 o r b) S B ng nh nl ns ow gx gy gw gd := by
  have hsb := h.q.sb
  obtain ⟨h1, h2, h3, h4⟩ := h
  refine ⟨h1.new hr he, h2, by rw [up1_n (by omega)]; exact h3, fun i hi => ?_⟩
  rw [up1_n (by omega)]
  exact h4 i hi
end NW
