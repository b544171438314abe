/-! the law's loop -/
theorem and31 (x : Int32) : ∃ q : Nat, q < 32 ∧ x &&& 31 = nI q := by
  refine ⟨(x &&& 31).toBitVec.toNat, ?_, ?_⟩
  · have h : (x &&& 31).toBitVec = x.toBitVec &&& 31#32 := rfl
    rw [h, BitVec.toNat_and]
    exact Nat.lt_of_le_of_lt Nat.and_le_right (by decide)
  · apply Int32.toBitVec_inj.mp
    show _ = BitVec.ofNat 32 _
    rw [BitVec.ofNat_toNat, BitVec.setWidth_eq]
theorem guard_n {Ls i : Nat} (hL : Ls ≤ 4608) (hi : i ≤ Ls) (h : ¬ Int32.ofNat Ls - 9 < nI i) : i + 9 ≤ Ls := by
  have e : Int32.ofNat Ls - 9 = iI ((Ls : Int) - 9) := by
    show nI Ls - 9 = _
    rw [← iI_n, show (9 : Int32) = iI 9 from rfl, iI_sub]
  rw [e, ← iI_n, iI_lt (by omega) (by omega) (by omega) (by omega)] at h
  omega
set_option maxHeartbeats 4000000 in
set_option maxRecDepth 100000 in
theorem law_loop {p : Program} {l : Launch} {e : Env} {s : State} {m : MethodId} {below : List Frame} {meth : Method} {c : Code} {Q : State → Prop} {G : GG} {B Ls : Nat} {xs : Nat → Int32} (hst9 : l.stackTraces = false) (C0 : LAt p s m meth c B Ls xs G) (hL : Ls ≤ 4608) (kE : ∀ (H : Heap) (locs : List Loc) (ls : Array Slot), va_S (Ab G.2.2.1) s.heap H locs → W p l e room_1 s m #[Value.ref B] below meth c H locs 601024 7293034 Q (F0 m 1595 ls [])) : ∀ (k j : Nat) (L : List Nat) (ad : Nat → Nat) (v : Nat → Nat → Int32) (o : Nat → Nat → Option Nat) (w : Nat → Int64) (H : Heap) (locs : List Loc) (ls : Array Slot), Ls < 9 * j + k → 9 * j ≤ Ls → INVe G.2.2.2 (j : Int) L ad v o → WD G L ad v o w s H → va_S (Ab G.2.2.1) s.heap H locs → lv_has ls 9 [(0, .ref B), (1, .ref (ad 0)), (2, .ref (ad 100)), (3, .ref (ad 170)), (4, .int (nI (9 * j)))] → W p l e room_1 s m #[Value.ref B] below meth c H locs (200 + 200 * j) (20000 + 2000 * j) Q (F0 m 23 ls []) := by
  obtain ⟨hx, hb, hr, hml, hown, hts, hX, hbl, hlocks, hE, h0e, hNC⟩ := id C0
  have hbA : ¬ Ab G.2.2.1 B := by rw [h0e]; exact Nat.not_le.mpr hbl
  intro k
  induction k with
  | zero => intro j L ad v o w H locs ls h1 h2; exact absurd h1 (by omega)
  | succ k ih =>
    intro j L ad v o w H locs ls h1 h2 hI hW hS hl
    refine lv_iload hx hb dL_law_23 (lv_at hl 4 rfl) ?_
    refine lv_aload_n hx hb dL_law_25 rfl (lv_at hl 0 rfl) ?_
    refine va_slen hx hb hX hbl hbA hS dL_law_26 ?_
    refine lv_bipush (v := 9) hx hb dL_law_27 (by decide) ?_
    refine lv_isub hx hb dL_law_29 ?_
    refine lv_icmp_gt (tgt := 1595) hx hb dL_law_30 (by decide) (fun _ => ?_) (fun c1 => ?_)
    · refine W.widen (k := 601024) (n := 7293034) (by omega) (by omega) ?_
      exact kE H locs ls hS
    have hj : 9 * j + 9 ≤ Ls := guard_n hL h2 c1
    have hi : 9 * j + 8 < Ls := by omega
    have hkk : ∀ (n : Int), n = (j : Int) → LK p l e s m below meth c Q G B (9 * j) (200 + 200 * j + 200) (20000 + 2000 * j + 2000) n (ad 0) (ad 100) (ad 170) := fun n hn => by
      intro L1 ad1 v1 o1 w1 H locs ls e0 e1 e2 hI hW hS hl
      subst hn
      rw [← e0, ← e1, ← e2] at hl
      refine lv_iinc (v := nI (9 * (j + 1))) (lv' := [(4, .int (nI (9 * (j + 1)))), (0, .ref B), (1, .ref (ad1 0)), (2, .ref (ad1 100)), (3, .ref (ad1 170))]) hx hb dL_law_1589 hl (k := 4) rfl (by rw [show Int32.ofInt 9 = nI 9 from rfl, nI_add]; rfl) (by decide) rfl (fun ls hl => ?_)
      refine lv_goto (tgt := 23) hx hb dL_law_1592 (by decide) ?_
      refine W.widen (k := 200 + 200 * (j + 1)) (n := 20000 + 2000 * (j + 1)) (by omega) (by omega) ?_
      exact ih (j + 1) L1 ad1 v1 o1 w1 H locs ls (by omega) (by omega) (by rw [Int.natCast_add]; exact hI) hW hS (lv_sub hl [1, 2, 3, 4, 0] rfl)
    have hkk := hkk j rfl
    obtain ⟨ng, nh, nl, ns, ow, gx, gy, gw, gd, hN⟩ := hI
    refine lv_aload_n hx hb dL_law_33 rfl (lv_at hl 0 rfl) ?_
    refine lv_iload hx hb dL_law_34 (lv_at hl 4 rfl) ?_
    refine q_sld0 hx hb hX hbl hbA hS hL hi dL_law_36 ?_
    refine lv_bipush (v := 31) hx hb dL_law_37 (by decide) ?_
    refine lv_iand hx hb dL_law_39 ?_
    obtain ⟨q, hq, eq⟩ := and31 (xs (9 * j))
    rw [eq]
    rcases Nat.lt_or_ge q 20 with h20 | h20
    · rcases (show q = 0 ∨ q = 1 ∨ q = 2 ∨ q = 3 ∨ q = 4 ∨ q = 5 ∨ q = 6 ∨ q = 7 ∨ q = 8 ∨ q = 9 ∨ q = 10 ∨ q = 11 ∨ q = 12 ∨ q = 13 ∨ q = 14 ∨ q = 15 ∨ q = 16 ∨ q = 17 ∨ q = 18 ∨ q = 19 by omega) with rfl | rfl | rfl | rfl | rfl | rfl | rfl | rfl | rfl | rfl | rfl | rfl | rfl | rfl | rfl | rfl | rfl | rfl | rfl | rfl
      · refine lv_tableIn (off := 96) (tgt := 136) hx hb dL_law_40 (by decide) (by decide) (by decide) (by decide) ?_
        exact law_addGrower hst9 C0 hL hi (by omega) (by omega) hN hW hS hl ⟨by omega, by omega⟩ hkk
      · refine lv_tableIn (off := 152) (tgt := 192) hx hb dL_law_40 (by decide) (by decide) (by decide) (by decide) ?_
        exact law_build hst9 C0 hL hi (by omega) (by omega) hN hW hS hl ⟨by omega, by omega⟩ hkk
      · refine lv_tableIn (off := 284) (tgt := 324) hx hb dL_law_40 (by decide) (by decide) (by decide) (by decide) ?_
        exact law_setNet hst9 C0 hL hi (by omega) (by omega) hN hW hS hl ⟨by omega, by omega⟩ hkk
      · refine lv_tableIn (off := 375) (tgt := 415) hx hb dL_law_40 (by decide) (by decide) (by decide) (by decide) ?_
        exact law_insure hst9 C0 hL hi (by omega) (by omega) hN hW hS hl ⟨by omega, by omega⟩ hkk
      · refine lv_tableIn (off := 467) (tgt := 507) hx hb dL_law_40 (by decide) (by decide) (by decide) (by decide) ?_
        exact law_mend hst9 C0 hL hi (by omega) (by omega) hN hW hS hl ⟨by omega, by omega⟩ hkk
      · refine lv_tableIn (off := 523) (tgt := 563) hx hb dL_law_40 (by decide) (by decide) (by decide) (by decide) ?_
        exact law_grower hst9 C0 hL hi (by omega) (by omega) hN hW hS hl ⟨by omega, by omega⟩ hkk
      · refine lv_tableIn (off := 591) (tgt := 631) hx hb dL_law_40 (by decide) (by decide) (by decide) (by decide) ?_
        exact law_house hst9 C0 hL hi (by omega) (by omega) hN hW hS hl ⟨by omega, by omega⟩ hkk
      · refine lv_tableIn (off := 659) (tgt := 699) hx hb dL_law_40 (by decide) (by decide) (by decide) (by decide) ?_
        exact law_pane hst9 C0 hL hi (by omega) (by omega) hN hW hS hl ⟨by omega, by omega⟩ hkk
      · refine lv_tableIn (off := 727) (tgt := 767) hx hb dL_law_40 (by decide) (by decide) (by decide) (by decide) ?_
        exact law_fund hst9 C0 hL hi (by omega) (by omega) hN hW hS hl ⟨by omega, by omega⟩ hkk
      · refine lv_tableIn (off := 783) (tgt := 823) hx hb dL_law_40 (by decide) (by decide) (by decide) (by decide) ?_
        exact law_addLayer hst9 C0 hL hi (by omega) (by omega) hN hW hS hl ⟨by omega, by omega⟩ hkk
      · refine lv_tableIn (off := 863) (tgt := 903) hx hb dL_law_40 (by decide) (by decide) (by decide) (by decide) ?_
        exact law_layer hst9 C0 hL hi (by omega) (by omega) hN hW hS hl ⟨by omega, by omega⟩ hkk
      · refine lv_tableIn (off := 931) (tgt := 971) hx hb dL_law_40 (by decide) (by decide) (by decide) (by decide) ?_
        exact law_count hst9 C0 hL hi (by omega) (by omega) hN hW hS hl ⟨by omega, by omega⟩ hkk
      · refine lv_tableIn (off := 987) (tgt := 1027) hx hb dL_law_40 (by decide) (by decide) (by decide) (by decide) ?_
        exact law_endYear hst9 C0 hL hi (by omega) (by omega) hN hW hS hl ⟨by omega, by omega⟩ hkk
      · refine lv_tableIn (off := 1000) (tgt := 1040) hx hb dL_law_40 (by decide) (by decide) (by decide) (by decide) ?_
        exact law_storm hst9 C0 hL hi (by omega) (by omega) hN hW hS hl ⟨by omega, by omega⟩ hkk
      · refine lv_tableIn (off := 1132) (tgt := 1172) hx hb dL_law_40 (by decide) (by decide) (by decide) (by decide) ?_
        exact law_told hst9 C0 hL hi (by omega) (by omega) hN hW hS hl ⟨by omega, by omega⟩ hkk
      · refine lv_tableIn (off := 1200) (tgt := 1240) hx hb dL_law_40 (by decide) (by decide) (by decide) (by decide) ?_
        exact law_wouldBe hst9 C0 hL hi (by omega) (by omega) hN hW hS hl ⟨by omega, by omega⟩ hkk
      · refine lv_tableIn (off := 1346) (tgt := 1386) hx hb dL_law_40 (by decide) (by decide) (by decide) (by decide) ?_
        exact law_worst hst9 C0 hL hi (by omega) (by omega) hN hW hS hl ⟨by omega, by omega⟩ hkk
      · refine lv_tableIn (off := 1414) (tgt := 1454) hx hb dL_law_40 (by decide) (by decide) (by decide) (by decide) ?_
        exact law_advise hst9 C0 hL hi (by omega) (by omega) hN hW hS hl ⟨by omega, by omega⟩ hkk
      · refine lv_tableIn (off := 1494) (tgt := 1534) hx hb dL_law_40 (by decide) (by decide) (by decide) (by decide) ?_
        exact law_loss hst9 C0 hL hi (by omega) (by omega) hN hW hS hl ⟨by omega, by omega⟩ hkk
      · refine lv_tableIn (off := 1535) (tgt := 1575) hx hb dL_law_40 (by decide) (by decide) (by decide) (by decide) ?_
        exact law_digest hst9 C0 hL hi (by omega) (by omega) hN hW hS hl ⟨by omega, by omega⟩ hkk
    · refine lv_tableOut (tgt := 1589) hx hb dL_law_40 (Or.inr (by rw [nI_ti (by omega)]; omega)) (by decide) ?_
      refine W.widen (k := 200 + 200 * j + 200) (n := 20000 + 2000 * j + 2000) (by omega) (by omega) ?_
      exact hkk L ad v o w H locs ls rfl rfl rfl (hN.more (by omega)).e hW hS hl
