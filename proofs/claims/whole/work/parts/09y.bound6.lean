/-! the bounds: mend, one more grower or layer, the start -/
section BY9
variable {ow gx gy gw gd : Nat → Nat} {ng nh nl ns : Nat} {n : Int} {x x' y : Nat → Nat → Int32}
theorem BN.start (h : ∀ r k, r ≠ 4 → x r k = 0) : BN 0 0 0 x := ⟨by rw [h _ _ (by omega), show (0 : Int32).toInt = 0 from rfl]; omega, fun g hg => absurd hg (by omega), fun l hl => absurd hl (by omega)⟩
theorem BN.addG {cn : Int32} (h : BN ng nl n x) (hg : ng < 6) (hl : nl ≤ 6) (h0 : 0 ≤ n) (c0 : 0 ≤ cn.toInt) (c1 : cn.toInt ≤ 1000000) (e1 : ∀ r k, r ≠ 1 → r ≠ 13 → r ≠ 50 + ng → x' r k = x r k) (e9 : x' (50 + ng) = iG (fun _ => z32) (50 + ng) cn (50 + ng)) : BN (ng + 1) nl (n + 1) x' := by
  obtain ⟨p, hG, hL⟩ := h.mono (show n ≤ n + 1 by omega)
  refine ⟨by rw [e1 _ _ (by omega) (by omega) (by omega)]; exact p, fun g hgl => ?_, fun l hl9 => ?_⟩
  · by_cases c : g = ng
    · subst c
      rw [e9]
      have z : (0 : Int32).toInt = 0 := rfl
      have k100 : (100 : Int32).toInt = 100 := by decide
      have f0 : iG (fun _ => z32) (50 + g) cn (50 + g) 0 = cn := by simp [iG, up2_at]
      have f5 : iG (fun _ => z32) (50 + g) cn (50 + g) 5 = 100 := by simp [iG, up2_at]
      have f : ∀ k, k ≠ 0 → k ≠ 5 → iG (fun _ => z32) (50 + g) cn (50 + g) k = 0 := fun k a b => by simp [iG, up2_at, a, b]
      unfold BG
      rw [f0, f5, f 7 (by omega) (by omega), f 6 (by omega) (by omega), f 3 (by omega) (by omega), f 4 (by omega) (by omega)]
      omega
    · rw [show x' (50 + g) = x (50 + g) from funext (fun k => e1 _ _ (by omega) (by omega) (by omega))]; exact hG g (by omega)
  · rw [show x' (80 + l) = x (80 + l) from funext (fun k => e1 _ _ (by omega) (by omega) (by omega))]; exact hL l hl9
theorem BN.addL {a b c0 : Int32} (h : BN ng nl n x) (hg : ng ≤ 6) (hl : nl < 6) (b0 : 0 ≤ b.toInt) (b1 : b.toInt ≤ 100000) (s0 : 0 ≤ c0.toInt) (s1 : c0.toInt ≤ 100) (e1 : ∀ r k, r ≠ 3 → r ≠ 15 → r ≠ 80 + nl → x' r k = x r k) (e9 : x' (80 + nl) = iL (fun _ => z32) (80 + nl) a b c0 (80 + nl)) : BN ng (nl + 1) n x' := by
  obtain ⟨p, hG, hL⟩ := h
  refine ⟨by rw [e1 _ _ (by omega) (by omega) (by omega)]; exact p, fun g hgl => ?_, fun l hl9 => ?_⟩
  · rw [show x' (50 + g) = x (50 + g) from funext (fun k => e1 _ _ (by omega) (by omega) (by omega))]; exact hG g hgl
  · by_cases c : l = nl
    · subst c
      rw [e9]
      have k2 : (2 : Int32).toInt = 2 := by decide
      have f1 : iL (fun _ => z32) (80 + l) a b c0 (80 + l) 1 = b := by simp [iL, up2_at]
      have f2 : iL (fun _ => z32) (80 + l) a b c0 (80 + l) 2 = c0 := by simp [iL, up2_at]
      have f3 : iL (fun _ => z32) (80 + l) a b c0 (80 + l) 3 = 2 * b := by simp [iL, up2_at]
      unfold BL
      rw [f1, f2, f3, ti_mul (by rw [k2]; omega) (by rw [k2]; omega), k2]
      omega
    · rw [show x' (80 + l) = x (80 + l) from funext (fun k => e1 _ _ (by omega) (by omega) (by omega))]; exact hL l (by omega)
theorem lost_b {h : Nat} (hZ : GSz ow gx gy gw gd ng nh) (hR : RVl ow gx gy gw gd ng nh nl ns 101 110 x y) (hV : VB gw gd nh x) (hh : h < nh) : 0 ≤ (hLost x gx gy gw gd h).toInt ∧ (hLost x gx gy gw gd h).toInt ≤ 36000 := by
  obtain ⟨rG, rS, rL, rP, r6, r8, rT, rO⟩ := hR
  obtain ⟨⟨m, m1, m2, e6⟩, _, _⟩ := hV h hh
  have hm := hZ.m hh
  have s6 : y (110 + 7) (7 * h + 6) = nI m := (rS h hh).2.1.symm.trans e6
  rw [hLost_eq rP rS hh]
  unfold rLost
  have tm := nI_ti (m := m) (by omega)
  have sb := sum_b (f := fun k => rVal y 110 h (y (110 + 9) (36 * h + k))) (c := 1000) (by omega) (by omega) (m := gw h * gd h) (by omega) (fun k hk => by
    show 0 ≤ (rVal y 110 h (y (110 + 9) (36 * h + k))).toInt ∧ (rVal y 110 h (y (110 + 9) (36 * h + k))).toInt ≤ 1000
    unfold rVal
    split
    · rw [show (0 : Int32).toInt = 0 from rfl]; omega
    · split
      · rw [s6, Int32.toInt_div, tm, show (2 : Int32).toInt = 2 from by decide, Int.tdiv_eq_ediv_of_nonneg (by omega), Int.bmod_eq_of_le (by omega) (by omega)]
        omega
      · rw [s6, tm]; omega)
  omega
theorem BN.mend {h : Nat} (hB : BN ng nl n x) (hZ : GSz ow gx gy gw gd ng nh) (hg : ng ≤ 6) (hl : nl ≤ 6) (hh : h < nh) (hl0 : 0 ≤ (hLost x gx gy gw gd h).toInt) (k1 : hLost x gx gy gw gd h ≤ x (50 + ow h) 0) : BN ng nl n (uMend x ow gx gy gw gd h) := by
  have how := (hZ h hh).1
  have k2 := Int32.le_iff_toInt_le.mp k1
  have e : ∀ r k, r ≠ 4 → uMend x ow gx gy gw gd h r k = if r = 50 + ow h ∧ k = 0 then x (50 + ow h) 0 - hLost x gx gy gw gd h else x r k := fun r k a => by
    unfold uMend
    rw [mkW_one, put_out (fun q => absurd q a), up2_at]
  refine hB.grower (i := ow h) hg (by rw [e _ _ (by omega), if_neg (by omega)]) (fun g k hgl hne => by rw [e _ _ (by omega), if_neg (by omega)]) (fun _ => ?_) (fun l k hl9 => by rw [e _ _ (by omega), if_neg (by omega)])
  obtain ⟨a0, a7, a07, a6, b6, a3, b3, a4, b4, a5, b5⟩ := hB.2.1 (ow h) how
  have f : ∀ k, k ≠ 0 → uMend x ow gx gy gw gd h (50 + ow h) k = x (50 + ow h) k := fun k a => by rw [e _ _ (by omega), if_neg (fun q => a q.2)]
  have f0 : (uMend x ow gx gy gw gd h (50 + ow h) 0).toInt = (x (50 + ow h) 0).toInt - (hLost x gx gy gw gd h).toInt := by
    have u9 := Int32.toInt_lt (x (50 + ow h) 0)
    rw [e _ _ (by omega), if_pos ⟨rfl, rfl⟩, ti_sub (by omega) (by omega)]
  unfold BG
  rw [f 7 (by omega), f 6 (by omega), f 3 (by omega), f 4 (by omega), f 5 (by omega), f0]
  exact ⟨by omega, a7, by omega, a6, b6, a3, b3, a4, b4, a5, b5⟩
end BY9
