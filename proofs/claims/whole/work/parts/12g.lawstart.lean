/-! the start: what the statement gives, in the words of the world -/
theorem overA {s : State} {A : Array Value} {t : FieldType} (h : (Cond.arrayOver (.array t)).before A s = true) : ∃ comp c k, s.vm.findClass (FieldType.array t).toString = some comp ∧ (s.vm.classes.findIdx? fun x => match x.kind with | .array component _ => component == comp | _ => false) = some c ∧ s.vm.classes[c]? = some k ∧ k.kind = .array comp (.array t) ∧ s.vm.findClass ("[" ++ (FieldType.array t).toString) = some c := by
  unfold Cond.before Cond.holds at h
  simp only [Cond.value] at h
  obtain ⟨comp, e1, h⟩ := Option.bind_eq_some_iff.mp (eq_of_beq h)
  obtain ⟨c, e2, h⟩ := Option.bind_eq_some_iff.mp h
  obtain ⟨k, e3, h⟩ := Option.map_eq_some_iff.mp h
  have q := Array.of_findIdx?_eq_some e2
  rw [e3] at q
  dsimp only at q
  refine ⟨comp, c, k, e1, e2, e3, ?_⟩
  revert h q
  cases k.kind with
  | array a ty =>
    intro h q
    obtain ⟨y1, y2⟩ := Bool.and_eq_true_iff.mp h
    exact ⟨by rw [show a = comp from eq_of_beq q, show ty = FieldType.array t from of_decide_eq_true y1], of_decide_eq_true y2⟩
  | _ => intro h q; cases q
theorem ty_ok {s : State} {args : Array Value} {t : FieldType} (h : (Cond.arrayClass t).before args s = true) : ∃ c : ClassId, ArrOfT s c t ∧ s.vm.findClass ("[" ++ t.toString) = some c := by
  obtain ⟨c, k, comp, h1, h2, h3⟩ := Cond.arrayClass_spec h
  exact ⟨c, fun n z => ⟨fun k h => (by cases h), k, h2, comp, h3⟩, h1⟩
set_option maxHeartbeats 4000000 in
set_option maxRecDepth 100000 in
theorem law_EV {s : State} {B : Nat} (hts : ∀ w ∈ lw_tbl, w.before #[Value.ref B] s = true) (hgv : (Jvm.Cond.and given_1 narrow_1).before #[Value.ref B] s = true) : ∃ G : GG, EV G.2.2 s s.heap ∧ G.2.2.1 = s.heap.size ∧ NC s ∧ va_AOA .int s ∧ va_K G.1 vwCl (TY G.2.1) s := by
  have hg := flat_of_before _ hgv
  have hA : ∀ a : Nat, a < s.heap.size → ¬ Ab s.heap.size a := fun a h => Nat.not_le.mpr h
  have T : ∀ (i : Nat) (w : Cond), lw_tbl[i]? = some w → w.before #[Value.ref B] s = true := fun i w h => hts w (List.mem_of_getElem? h)
  have hw : ∀ w ∈ wT, w.before #[Value.ref B] s = true := fun w h => hts w (List.mem_filter.mp h).1
  obtain ⟨c0, i0, k0⟩ := u_known (C := RJx4a65c) (T := TJx4a65c) (N := 3) (n := 3) hw k_0.2.1 (hw _ t_78)
  obtain ⟨c1, i1, k1⟩ := u_known (C := RX0) (T := TX0) (N := 8) (n := 8) hw k_1.2.1 (hw _ t_405)
  obtain ⟨c2, i2, k2⟩ := u_known (C := RX1) (T := TX1) (N := 8) (n := 8) hw k_2.2.1 (hw _ t_544)
  obtain ⟨c3, i3, k3⟩ := u_known (C := RX2) (T := TX2) (N := 5) (n := 5) hw k_3.2.1 (hw _ t_665)
  obtain ⟨c4, i4, k4⟩ := u_known (C := RX3) (T := TX3) (N := 7) (n := 7) hw k_4.2.1 (hw _ t_713)
  obtain ⟨c5, i5, k5⟩ := u_known (C := RX4) (T := TX4) (N := 6) (n := 6) hw k_5.2.1 (hw _ t_106)
  obtain ⟨c6, i6, k6⟩ := u_known (C := RX5) (T := TX5) (N := 9) (n := 9) hw k_6.2.1 (hw _ t_70)
  obtain ⟨c7, i7, k7⟩ := u_known (C := RX6) (T := TX6) (N := 19) (n := 19) hw k_7.2.1 (hw _ t_862)
  obtain ⟨c8, i8, k8⟩ := u_known (C := RX7) (T := TX7) (N := 3) (n := 3) hw k_8.2.1 (hw _ t_856)
  obtain ⟨dC, dI, hKc⟩ : ∃ (dC : Nat → ClassId) (dI : Nat → Nat → Nat), ∀ (k : Nat) (q : vw_C), vwCl[k]? = some q → u_Kn s q.1 q.2.1 q.2.2 (dC k) (dI k) := by
    refine ⟨fun k => if k = 0 then c0 else if k = 1 then c1 else if k = 2 then c2 else if k = 3 then c3 else if k = 4 then c4 else if k = 5 then c5 else if k = 6 then c6 else if k = 7 then c7 else c8, fun k => if k = 0 then i0 else if k = 1 then i1 else if k = 2 then i2 else if k = 3 then i3 else if k = 4 then i4 else if k = 5 then i5 else if k = 6 then i6 else if k = 7 then i7 else i8, ?_⟩
    intro k q hq
    match k, hq with
    | 0, hq => cases hq; exact k0
    | 1, hq => cases hq; exact k1
    | 2, hq => cases hq; exact k2
    | 3, hq => cases hq; exact k3
    | 4, hq => cases hq; exact k4
    | 5, hq => cases hq; exact k5
    | 6, hq => cases hq; exact k6
    | 7, hq => cases hq; exact k7
    | 8, hq => cases hq; exact k8
    | k + 9, hq => simp [vwCl] at hq
  obtain ⟨a0, A0, B0⟩ := ty_ok (t := .int) (T 136 _ (by decide +kernel))
  obtain ⟨a1, A1, B1⟩ := ty_ok (t := .boolean) (T 942 _ (by decide +kernel))
  obtain ⟨a4, A4, B4⟩ := ty_ok (t := .long) (T 1136 _ (by decide +kernel))
  obtain ⟨p2, a2, q2, A2, -, B2, C2, D2⟩ := Cond.arrayOver_spec (n := "java/lang/Object") (T 494 _ (by decide +kernel))
  obtain ⟨p3, a3, q3, A3, -, B3, C3, D3⟩ := overA (t := .int) (T 104 _ (by decide +kernel))
  obtain ⟨td, hT, hTt⟩ := va_Tof (tm := (.static "java/util/ArrayList" "DEFAULTCAPACITY_EMPTY_ELEMENTDATA" "[Ljava/lang/Object;")) (ty := .object "java/lang/Object") (N := 0) (f := fun _ => .null) (A := Ab s.heap.size) (args := #[Value.ref B]) (s := s) (by decide) (hg _ (by decide +kernel)) (va_eqt (hg (.eq (.length (.static "java/util/ArrayList" "DEFAULTCAPACITY_EMPTY_ELEMENTDATA" "[Ljava/lang/Object;")) (.int 0)) (by decide +kernel))) (fun j hj => absurd hj (by omega)) hA
  have hZ := va_Zref (T 90 _ (by decide +kernel)) (T 49 _ (by decide +kernel)) hT hA
  have hfind : s.vm.findClass "HailPool" = some c6 := k6.2.1
  have hst : ∀ (k : Nat) (tx : String), (Cond.stringRef "HailPool" k tx).before #[Value.ref B] s = true → ∃ sa : Nat, vk_R "HailPool" k tx sa s := fun k tx h => by
    obtain ⟨-, -, -, sa, -, -, -, -, -, hev⟩ := Cond.stringRef_spec hfind h
    exact ⟨sa, vk_R.of h hev⟩
  refine ⟨((dC, dI), fun k => if k = 0 then a0 else if k = 1 then a1 else if k = 2 then a2 else if k = 3 then a3 else a4, (s.heap.size, td)), ⟨fun w h => tb_args (wT_ok h) (hw w h), va_Fw.of (T 172 _ (by decide +kernel)) (T 171 _ (by decide +kernel)) (T 177 _ (by decide +kernel)) (T 175 _ (by decide +kernel)) (T 173 _ (by decide +kernel)), va_Fw.of (T 186 _ (by decide +kernel)) (T 185 _ (by decide +kernel)) (T 190 _ (by decide +kernel)) (T 188 _ (by decide +kernel)) (T 173 _ (by decide +kernel)), va_Fw.of (T 445 _ (by decide +kernel)) (T 444 _ (by decide +kernel)) (T 449 _ (by decide +kernel)) (T 447 _ (by decide +kernel)) (T 173 _ (by decide +kernel)), va_AO.of (T 494 _ (by decide +kernel)), ⟨hZ, hTt⟩, ?_, ?_, ?_, ?_⟩, rfl, ⟨va_Nc.of (hg _ (by decide +kernel)), va_Nc.of (hg _ (by decide +kernel)), va_Nc.of (hg _ (by decide +kernel)), va_Nc.of (hg _ (by decide +kernel))⟩, va_AOA.of (T 104 _ (by decide +kernel)), hKc, ?_⟩
  · exact vx_Zqof (args := #[Value.ref B]) (T 348 _ (by decide +kernel)) (T 53 _ (by decide +kernel)) (hg _ (by decide +kernel)) hA
  · exact vx_Zqof (args := #[Value.ref B]) (T 350 _ (by decide +kernel)) (T 53 _ (by decide +kernel)) (hg _ (by decide +kernel)) hA
  · exact List.forall_mem_cons.mpr ⟨hst 45 "coins is not 0 to 1000000" (T 362 _ (by decide +kernel)), List.forall_mem_cons.mpr ⟨hst 58 "there are 6 growers" (T 398 _ (by decide +kernel)), List.forall_mem_cons.mpr ⟨hst 73 "wide or deep is not 1 to 6" (T 530 _ (by decide +kernel)), List.forall_mem_cons.mpr ⟨hst 75 "the house is not all on the land" (T 531 _ (by decide +kernel)), List.forall_mem_cons.mpr ⟨hst 77 "strength is not 1 to 9" (T 532 _ (by decide +kernel)), List.forall_mem_cons.mpr ⟨hst 79 "value is not 1 to 1000" (T 533 _ (by decide +kernel)), List.forall_mem_cons.mpr ⟨hst 85 "the house overlaps another one" (T 542 _ (by decide +kernel)), List.forall_mem_cons.mpr ⟨hst 87 "there are 12 houses" (T 543 _ (by decide +kernel)), List.forall_mem_cons.mpr ⟨hst 109 "deductible is not 0 to 10000" (T 607 _ (by decide +kernel)), List.forall_mem_cons.mpr ⟨hst 112 "limit is not 1 to 100000" (T 609 _ (by decide +kernel)), List.forall_mem_cons.mpr ⟨hst 114 "rate is not 1 to 100" (T 610 _ (by decide +kernel)), List.forall_mem_cons.mpr ⟨hst 139 "the grower does not have the coins" (T 618 _ (by decide +kernel)), List.forall_mem_cons.mpr ⟨hst 155 "x or y is not 0 to 19" (T 644 _ (by decide +kernel)), List.forall_mem_cons.mpr ⟨hst 161 "coins is not 1 to 1000000" (T 652 _ (by decide +kernel)), List.forall_mem_cons.mpr ⟨hst 167 "the pool would have more than 100000000" (T 654 _ (by decide +kernel)), List.forall_mem_cons.mpr ⟨hst 169 "attachment is not 0 to 100000" (T 662 _ (by decide +kernel)), List.forall_mem_cons.mpr ⟨hst 171 "share is not 1 to 100" (T 663 _ (by decide +kernel)), List.forall_mem_cons.mpr ⟨hst 173 "there are 6 layers" (T 664 _ (by decide +kernel)), List.forall_mem_cons.mpr ⟨hst 180 "there is no such layer" (T 697 _ (by decide +kernel)), List.forall_mem_cons.mpr ⟨hst 212 "there were 30 storms in this year" (T 756 _ (by decide +kernel)), List.forall_mem_cons.mpr ⟨hst 223 "there is no such storm" (T 821 _ (by decide +kernel)), List.forall_mem_cons.mpr ⟨hst 232 "y is not 0 to 19" (T 846 _ (by decide +kernel)), List.forall_mem_cons.mpr ⟨hst 256 "there is no such grower" (T 523 _ (by decide +kernel)), List.forall_mem_cons.mpr ⟨hst 258 "there is no such house" (T 599 _ (by decide +kernel)), List.forall_mem_cons.mpr ⟨hst 260 "what is not a number of what is told" (T 629 _ (by decide +kernel)), List.forall_mem_cons.mpr ⟨hst 266 "the storm is not within its bounds" (T 755 _ (by decide +kernel)), fun _ h => absurd h List.not_mem_nil⟩⟩⟩⟩⟩⟩⟩⟩⟩⟩⟩⟩⟩⟩⟩⟩⟩⟩⟩⟩⟩⟩⟩⟩⟩⟩
  · exact va_Mi.of (args := #[Value.ref B]) (hg _ (by decide +kernel))
  · intro k q hq
    match k, hq with
    | 0, hq => cases hq; exact ⟨A0, B0⟩
    | 1, hq => cases hq; exact ⟨A1, B1⟩
    | 2, hq => cases hq; exact ⟨fun n z => ⟨fun k h => (by cases h), q2, B2, p2, C2⟩, q2, p2, B2, C2, A2, D2⟩
    | 3, hq => cases hq; exact ⟨fun n z => ⟨fun k h => (by cases h), q3, B3, p3, C3⟩, D3⟩
    | 4, hq => cases hq; exact ⟨A4, B4⟩
    | k + 5, hq => simp at hq
