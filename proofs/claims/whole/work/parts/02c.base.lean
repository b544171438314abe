/-- the addresses that are the system's -/
def Ab (b0 : Nat) : Nat → Prop := fun q => b0 ≤ q
/-- the texts of the class's exceptions -/
def xStr : List (Nat × String) := [(45, "coins is not 0 to 1000000"), (58, "there are 6 growers"), (73, "wide or deep is not 1 to 6"), (75, "the house is not all on the land"), (77, "strength is not 1 to 9"), (79, "value is not 1 to 1000"), (85, "the house overlaps another one"), (87, "there are 12 houses"), (109, "deductible is not 0 to 10000"), (112, "limit is not 1 to 100000"), (114, "rate is not 1 to 100"), (139, "the grower does not have the coins"), (155, "x or y is not 0 to 19"), (161, "coins is not 1 to 1000000"), (167, "the pool would have more than 100000000"), (169, "attachment is not 0 to 100000"), (171, "share is not 1 to 100"), (173, "there are 6 layers"), (180, "there is no such layer"), (212, "there were 30 storms in this year"), (223, "there is no such storm"), (232, "y is not 0 to 19"), (256, "there is no such grower"), (258, "there is no such house"), (260, "what is not a number of what is told"), (266, "the storm is not within its bounds")]
/-- the constants: tables, interface facts, statics, texts -/
def EV (q0 : Nat × Nat) (U : State) (H : Heap) : Prop :=
  (∀ w ∈ wT, w.before #[] U = true) ∧
  va_Fw "java/util/ArrayList" ⟨"java/util/List", "size", "()I"⟩ yJx4a65c_size_8abf5 U ∧
  va_Fw "java/util/ArrayList" ⟨"java/util/List", "get", "(I)Ljava/lang/Object;"⟩ yJx4a65c_get_915e3 U ∧
  va_Fw "java/util/ArrayList" ⟨"java/util/List", "add", "(Ljava/lang/Object;)Z"⟩ yJx4a65c_add_9ea2d U ∧
  va_AO "java/lang/Object" U ∧
  (va_Z "java/util/ArrayList" "DEFAULTCAPACITY_EMPTY_ELEMENTDATA" "[Ljava/lang/Object;" (.ref q0.2) (Ab q0.1) U H ∧ va_T (.object "java/lang/Object") q0.2 0 (fun _ => .null) (Ab q0.1) U H) ∧
  vx_Zq Bundle.tN "UNASSIGNED_STACK" Bundle.steD (Ab q0.1) U H ∧ vx_Zq Bundle.tN "SUPPRESSED_SENTINEL" Bundle.listD (Ab q0.1) U H ∧
  (∀ q ∈ xStr, ∃ sa : Nat, vk_R "HailPool" q.1 q.2 sa U) ∧ (∃ mi : Nat, va_Mi "[Ljava/lang/Object;" mi U)
theorem EV.warm {q0 : Nat × Nat} {s U : State} {H : Heap} {locs : List Loc} (h : EV q0 s s.heap) (hS : va_S (Ab q0.1) s.heap H locs) (hU : U.heap = H) (hW : s.WarmedH U.vm) : EV q0 U U.heap := by
  obtain ⟨h1, h2, h3, h4, h5, ⟨h6, h7⟩, h8, h9, h10, mi, h11⟩ := h
  have hk : ∀ a : Nat, a < s.heap.size → ¬ Ab q0.1 a → U.heap[a]? = s.heap[a]? := fun a x y => by rw [hU]; exact hS.2.1 a x y
  refine ⟨fun w hw => tb_warm (wT_ok hw) (h1 w hw) hW, va_Fw.moved (by decide) hW.alike h2, va_Fw.moved (by decide) hW.alike h3, va_Fw.moved (by decide) hW.alike h4, va_AO.moved hW.alike h5, ⟨va_Z.kept (va_Z.moved hW.alike h6) hk, va_T.kept (va_T.moved hW.alike h7) hk⟩, vx_Zq.kept (vx_Zq.moved hW.alike h8) hk, vx_Zq.kept (vx_Zq.moved hW.alike h9) hk, fun q hq => ?_, mi, va_Mi.moved hW.alike h11⟩
  obtain ⟨sa, hs⟩ := h10 q hq
  exact ⟨sa, vk_R.warm hW hs⟩
theorem EV.hts {q0 : Nat × Nat} {s : State} {H : Heap} {args : Array Value} (h : EV q0 s H) : ∀ w ∈ wT, w.before args s = true := fun w hw => tb_args (wT_ok hw) (h.1 w hw)
/-! the world by roles -/
def kd (r : Nat) : Nat :=
  if r = 0 then 6 else if r < 4 then 0 else if r = 4 then 9 else if r = 5 then 12 else if r = 6 then 5 else if r < 13 then 9 else if r < 20 then 11 else if r < 50 then 9
  else if r < 60 then 1 else if r < 80 then 2 else if r < 100 then 3 else if r = 100 then 8 else if r < 110 then 7 else if r = 118 then 10 else if r = 148 then 10 else if r < 170 then 9 else if r = 170 then 13 else if r = 180 then 4 else 9
def ln (r : Nat) : Nat :=
  if r = 4 then 400 else if r = 5 then 30 else if r = 7 then 400 else if r < 13 then 6 else if r < 16 then 10 else if r < 20 then 15 else if r < 50 then 6
  else if r = 112 then 18 else if r = 142 then 18 else if r = 117 then 84 else if r = 147 then 84 else if r = 118 then 12 else if r = 148 then 12 else if r = 119 then 432 else if r = 149 then 432 else if r = 122 then 30 else if r = 152 then 30 else if r = 124 then 180 else if r = 154 then 180 else if r < 170 then 6
  else if r = 170 then 1 else if r = 181 then 7 else if r = 182 then 5 else if r = 183 then 10 else 11
/-- is the field an int? -/
def isI (k j : Nat) : Bool := if k = 0 then j != 1 else if k = 5 then false else if k = 6 then decide (6 ≤ j) else if k = 7 then (j == 0 || j == 6 || j == 10 || j == 11 || j == 13 || j == 15) else if k = 8 then j == 0 else true
def gF (k : Nat) (a : Nat → Int32) (b : Nat → Option Nat) : List Value := (List.range (nF k)).map (fun j => if isI k j = true then .int (a j) else va_rf (b j))
def gE (cy : Nat → ClassId) (k n : Nat) (a : Nat → Int32) (b : Nat → Option Nat) (w : Nat → Int64) : va_E :=
  if k = 9 then .inl (cy 0, n, .inl a) else if k = 10 then .inl (cy 1, n, .inl a) else if k = 11 then .inl (cy 2, n, .inr (.inr (.inr (.inr b)))) else if k = 12 then .inl (cy 3, n, .inr (.inr (.inr (.inr b)))) else if k = 13 then .inl (cy 4, n, .inr (.inl w)) else .inr (k, gF k a b)
def wl (cy : Nat → ClassId) (L : List Nat) (ad : Nat → Nat) (v : Nat → Nat → Int32) (o : Nat → Nat → Option Nat) (w : Nat → Int64) : va_W := L.map fun r => (ad r, gE cy (kd r) (ln r) (v r) (o r) w)
abbrev TY (cy : Nat → ClassId) : List (ClassId × FieldType) := [(cy 0, .int), (cy 1, .boolean), (cy 2, .object "java/lang/Object"), (cy 3, .array .int), (cy 4, .long)]
/-- what is fixed: where fields lie, the arrays' classes, the first address of the system's -/
abbrev GG : Type := va_G × (Nat → ClassId) × (Nat × Nat)
def WD (G : GG) (L : List Nat) (ad : Nat → Nat) (v : Nat → Nat → Int32) (o : Nat → Nat → Option Nat) (w : Nat → Int64) (U : State) (H : Heap) : Prop :=
  va_P G.1 vwCl (wl G.2.1 L ad v o w) H ∧ va_D (Ab G.2.2.1) (wl G.2.1 L ad v o w) ∧ L.Nodup ∧ va_K G.1 vwCl (TY G.2.1) U
abbrev CX (G : GG) (L : List Nat) (ad : Nat → Nat) (v : Nat → Nat → Int32) (o : Nat → Nat → Option Nat) (w : Nat → Int64) (U : State) : Prop := EV G.2.2 U U.heap ∧ G.2.2.1 ≤ U.heap.size ∧ WD G L ad v o w U U.heap
def up2 {α : Type} (v : Nat → Nat → α) (r k : Nat) (x : α) : Nat → Nat → α := fun r' k' => if r' = r ∧ k' = k then x else v r' k'
theorem up2_s {α : Type} {v : Nat → Nat → α} {r k : Nat} {x : α} : up2 v r k x r k = x := if_pos ⟨rfl, rfl⟩
theorem up2_r {α : Type} {v : Nat → Nat → α} {r k r' k' : Nat} {x : α} (h : r' ≠ r) : up2 v r k x r' k' = v r' k' := if_neg (fun q => h q.1)
theorem up2_k {α : Type} {v : Nat → Nat → α} {r k r' k' : Nat} {x : α} (h : k' ≠ k) : up2 v r k x r' k' = v r' k' := if_neg (fun q => h q.2)
theorem wl_at {cy : Nat → ClassId} {L : List Nat} {ad : Nat → Nat} {v : Nat → Nat → Int32} {o : Nat → Nat → Option Nat} {w : Nat → Int64} {r : Nat} (hm : r ∈ L) : ∃ q0 : Nat, L[q0]? = some r ∧ (wl cy L ad v o w)[q0]? = some (ad r, gE cy (kd r) (ln r) (v r) (o r) w) := by
  obtain ⟨i, hi⟩ := List.getElem?_of_mem hm
  exact ⟨i, hi, by simp [wl, hi]⟩
/-- one cell of the world is set -/
theorem wl_set {cy : Nat → ClassId} {L : List Nat} {ad : Nat → Nat} {v v' : Nat → Nat → Int32} {o o' : Nat → Nat → Option Nat} {w w' : Nat → Int64} {r q0 : Nat} {e : va_E} (hN : L.Nodup) (hq : L[q0]? = some r)
    (he : e = gE cy (kd r) (ln r) (v' r) (o' r) w') (ho : ∀ r' ∈ L, r' ≠ r → gE cy (kd r') (ln r') (v r') (o r') w = gE cy (kd r') (ln r') (v' r') (o' r') w') : (wl cy L ad v o w).set q0 (ad r, e) = wl cy L ad v' o' w' := by
  apply List.ext_getElem?
  intro j
  rw [List.getElem?_set]
  have hl : q0 < L.length := (List.getElem?_eq_some_iff.mp hq).1
  by_cases hj : q0 = j
  · subst hj
    have h1 : (List.map (fun r => (ad r, gE cy (kd r) (ln r) (v' r) (o' r) w')) L)[q0]? = some (ad r, gE cy (kd r) (ln r) (v' r) (o' r) w') := by rw [List.getElem?_map, hq]; rfl
    have hl2 : q0 < (wl cy L ad v o w).length := by simpa [wl] using hl
    rw [if_pos rfl, if_pos hl2, he]
    exact h1.symm
  · rw [if_neg hj]
    simp only [wl, List.getElem?_map]
    cases hr : L[j]? with
    | none => rfl
    | some r' =>
      have hne : r' ≠ r := by
        intro e1
        subst e1
        obtain ⟨h1, h2⟩ := List.getElem?_eq_some_iff.mp hq
        obtain ⟨h3, h4⟩ := List.getElem?_eq_some_iff.mp hr
        exact hj ((List.getElem_inj hN).mp (h2.trans h4.symm))
      simp only [Option.map_some]
      rw [ho r' (List.mem_of_getElem? hr) hne]
theorem gF_set_i {k j : Nat} {a : Nat → Int32} {b : Nat → Option Nat} {x : Int32} (hI : isI k j = true) : (gF k a b).set j (.int x) = gF k (upd a j x) b := by
  apply List.ext_getElem?
  intro i
  rw [List.getElem?_set]
  by_cases hj : j = i
  · subst hj
    by_cases hl : j < nF k
    · simp [gF, hl, hI, upd]
    · simp [gF, hl]
  · rw [if_neg hj]
    simp only [gF, List.getElem?_map]
    by_cases hi : i < nF k
    · simp [hi, upd, Ne.symm hj]
    · simp [hi]
theorem gF_set_r {k j : Nat} {a : Nat → Int32} {b : Nat → Option Nat} {x : Option Nat} (hI : isI k j = false) : (gF k a b).set j (va_rf x) = gF k a (va_up b j x) := by
  apply List.ext_getElem?
  intro i
  rw [List.getElem?_set]
  by_cases hj : j = i
  · subst hj
    by_cases hl : j < nF k
    · simp [gF, hl, hI, va_up]
    · simp [gF, hl]
  · rw [if_neg hj]
    simp only [gF, List.getElem?_map]
    by_cases hi : i < nF k
    · simp [hi, va_up, Ne.symm hj]
    · simp [hi]
theorem gF_at {k j : Nat} {a : Nat → Int32} {b : Nat → Option Nat} (hj : j < nF k) : (gF k a b)[j]? = some (if isI k j = true then .int (a j) else va_rf (b j)) := by simp [gF, hj]
theorem gF_len {k : Nat} {a : Nat → Int32} {b : Nat → Option Nat} : (gF k a b).length = nF k := by simp [gF]
theorem gE_obj {cy : Nat → ClassId} {k n : Nat} {a : Nat → Int32} {b : Nat → Option Nat} {w : Nat → Int64} (h : k < 9) : gE cy k n a b w = .inr (k, gF k a b) := by
  unfold gE
  rw [if_neg (by omega), if_neg (by omega), if_neg (by omega), if_neg (by omega), if_neg (by omega)]
theorem up2_self_r {α : Type} {v : Nat → Nat → α} {r k : Nat} {x : α} : up2 v r k x r = fun j => if j = k then x else v r j := by
  funext j; simp [up2]
theorem up2_upd {v : Nat → Nat → Int32} {r k : Nat} {x : Int32} : up2 v r k x r = upd (v r) k x := by
  funext j; simp [up2, upd]
theorem up2_vaup {o : Nat → Nat → Option Nat} {r k : Nat} {x : Option Nat} : up2 o r k x r = va_up (o r) k x := by
  funext j; simp [up2, va_up]
theorem up2_other {α : Type} {v : Nat → Nat → α} {r k r' : Nat} {x : α} (h : r' ≠ r) : up2 v r k x r' = v r' := by
  funext j; simp [up2, h]
