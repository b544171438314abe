/-! what is told: class and reference -/
section TL
variable {ow gx gy gw gd : Nat → Nat} {ng nh nl ns : Nat} {x y : Nat → Nat → Int32}
/-- the houses' places, as both have them -/
def HXw (ow gx gy gw gd : Nat → Nat) (nh : Nat) (x y : Nat → Nat → Int32) : Prop := ∀ h, h < nh → (x (60 + h) 0 = nI (ow h) ∧ x (60 + h) 1 = nI (gx h) ∧ x (60 + h) 2 = nI (gy h) ∧ x (60 + h) 3 = nI (gw h) ∧ x (60 + h) 4 = nI (gd h)) ∧ y 117 (7 * h) = nI (ow h) ∧ y 117 (7 * h + 1) = nI (gx h) ∧ y 117 (7 * h + 2) = nI (gy h) ∧ y 117 (7 * h + 3) = nI (gw h) ∧ y 117 (7 * h + 4) = nI (gd h)
theorem sumI_one {f : Nat → Int32} {h : Nat} : ∀ {n : Nat}, h < n → sumI (fun i => if i = h then f i else 0) n = f h
  | n + 1, hh => by
    rw [sumI_s]
    by_cases e : h = n
    · subst e
      rw [sumI_zero (fun i hi => if_neg (by omega)), if_pos rfl, Int32.zero_add]
    · rw [sumI_one (n := n) (by omega), if_neg (by omega), Int32.add_zero]
theorem hCnt_eq {h : Nat} {st : Int32} (hP : PanR gx gy gw gd nh (x 4) (y (110 + 9))) (hh : h < nh) : hCnt x gx gy gw gd h st = rCnt y 110 (gw h * gd h) h st := cnt_eq hP hh
theorem rIn_one {h : Nat} {st : Int32} (hn : nh ≤ 12) (hh : h < nh) : rIn y 110 gw gd nh (nI h) st = rCnt y 110 (gw h * gd h) h st := by
  unfold rIn
  rw [sumI_congr (g := fun i => if i = h then rCnt y 110 (gw i * gd i) i st else 0) (fun i hi => by
    by_cases e : i = h
    · rw [if_pos (Or.inr (by rw [e])), if_pos e]
    · rw [if_neg (fun q => q.elim (nI_ne_m1 (by omega)) (fun q => e (nI_inj (by omega) (by omega) q))), if_neg e]), sumI_one hh]
theorem aCnt_eq {st : Int32} (hP : PanR gx gy gw gd nh (x 4) (y (110 + 9))) : aCnt x gx gy gw gd nh st = rIn y 110 gw gd nh (-1) st := by
  unfold aCnt rIn
  exact sumI_congr (fun i hi => by rw [hCnt_eq hP hi, if_pos (Or.inl rfl)])
theorem hLost_eq {h : Nat} (hP : PanR gx gy gw gd nh (x 4) (y (110 + 9))) (hS : SCo ow nh 110 x y) (hh : h < nh) : hLost x gx gy gw gd h = rLost y 110 (gw h * gd h) h := by
  unfold hLost
  rw [hCnt_eq hP hh, hCnt_eq hP hh, rLost_cnt (fun k hk => (hP h k hh hk).2), (hS h hh).2.1]
theorem gLost_eq {g : Nat} (hg : g < 6) (hP : PanR gx gy gw gd nh (x 4) (y (110 + 9))) (hS : SCo ow nh 110 x y) (hX : HXw ow gx gy gw gd nh x y) : gLost x gx gy gw gd nh (nI g) = rBy y 110 gw gd nh (nI g) := by
  unfold gLost rBy
  exact sumI_congr (fun h hh => by
    rw [hLost_eq hP hS hh, (hX h hh).1.1, (hS h hh).2.2.2]
    by_cases c : nI (ow h) = nI g
    · rw [if_pos c, if_pos (Or.inr c)]
    · rw [if_neg c, if_neg (fun q => q.elim (nI_ne_m1 (by omega)) c)])
theorem aLost_eq (hP : PanR gx gy gw gd nh (x 4) (y (110 + 9))) (hS : SCo ow nh 110 x y) : aLost x gx gy gw gd nh = rBy y 110 gw gd nh (-1) := by
  unfold aLost rBy
  exact sumI_congr (fun h hh => by rw [hLost_eq hP hS hh, if_pos (Or.inl rfl)])
theorem tGr_eq {g k : Nat} (hZ : GSz ow gx gy gw gd ng nh) (hg6 : ng ≤ 6) (hg : g < ng) (hR : RVl ow gx gy gw gd ng nh nl ns 101 110 x y) (hX : HXw ow gx gy gw gd nh x y) : tGr x gx gy gw gd nh g k = rGr y gw gd nh g k := by
  obtain ⟨rG, rS, rL, rP, r6, r8, rT, rO⟩ := hR
  obtain ⟨g0, g2, g3, g4, g5, g6, g7, g1⟩ := rG g hg
  unfold tGr rGr
  match k with
  | 0 => exact g0
  | 1 => exact g2
  | 2 => exact g3
  | 3 => exact g4
  | 4 => exact g5
  | 5 => exact g6
  | 6 => exact g7
  | 7 => unfold gHouses rHs; exact sumI_congr (fun h hh => by rw [(hX h hh).1.1, (hX h hh).2.1])
  | 8 => exact vals_eq (by omega) (fun h hh => by have := (hZ h hh).1; omega) (fun h hh => (hX h hh).1.1) rS (fun h hh => ⟨(hX h hh).1.2.2.2.1, (hX h hh).1.2.2.2.2⟩)
  | k + 9 => exact gLost_eq (by omega) rP rS hX
theorem tHo_eq {h k : Nat} (hn : nh ≤ 12) (hh : h < nh) (hk : k < 11) (hR : RVl ow gx gy gw gd ng nh nl ns 101 110 x y) (hX : HXw ow gx gy gw gd nh x y) : tHo x gx gy gw gd h k = rHo y gw gd nh h k := by
  obtain ⟨rG, rS, rL, rP, r6, r8, rT, rO⟩ := hR
  obtain ⟨⟨a0, a1, a2, a3, a4⟩, b0, b1, b2, b3, b4⟩ := hX h hh
  obtain ⟨s5, s6, s7, s0⟩ := rS h hh
  unfold tHo rHo
  match k, hk with
  | 0, _ => exact a0.trans b0.symm
  | 1, _ => exact a1.trans b1.symm
  | 2, _ => exact a2.trans b2.symm
  | 3, _ => exact a3.trans b3.symm
  | 4, _ => exact a4.trans b4.symm
  | 5, _ => exact s5
  | 6, _ => exact s6
  | 7, _ => show (if x (60 + h) 7 = 0 then (0 : Int32) else 1) = if y 118 h = 0 then 0 else 1; rw [s7]
  | 8, _ => exact (hCnt_eq rP hh).trans (rIn_one hn hh).symm
  | 9, _ => exact (hCnt_eq rP hh).trans (rIn_one hn hh).symm
  | 10, _ => exact hLost_eq rP rS hh
  | k + 11, q => exact absurd q (by omega)
theorem tLa_eq {l k : Nat} (hl : l < nl) (hk : k < 5) (hR : RVl ow gx gy gw gd ng nh nl ns 101 110 x y) : tLa x l k = y 122 (5 * l + k) := by
  have rL := hR.2.2.1 l hl
  unfold tLa
  match k, hk with
  | 0, _ => exact rL 0 (by omega)
  | 1, _ => exact rL 1 (by omega)
  | 2, _ => exact rL 2 (by omega)
  | 3, _ => exact rL 3 (by omega)
  | 4, _ => exact rL 4 (by omega)
  | k + 5, q => exact absurd q (by omega)
theorem tCo_eq {k : Nat} (h7 : x 0 7 = nI ns) (hR : RVl ow gx gy gw gd ng nh nl ns 101 110 x y) (hX : HXw ow gx gy gw gd nh x y) : tCo x gx gy gw gd ng nh nl k = rCo y gw gd ng nh nl ns k := by
  obtain ⟨rG, rS, rL, rP, r6, r8, rT, rO⟩ := hR
  unfold tCo rCo
  match k with
  | 0 => rfl
  | 1 => rfl
  | 2 => rfl
  | 3 => exact r6
  | 4 => unfold aOwed rOwed; exact sumI_congr (fun g hg => (rG g hg).2.2.2.2.2.2.1)
  | 5 => exact h7
  | 6 => exact r8
  | 7 => unfold aPanes rPanes; exact sumI_congr (fun h hh => by rw [(hX h hh).1.2.2.2.1, (hX h hh).1.2.2.2.2, pk_mul])
  | 8 => exact aCnt_eq rP
  | 9 => exact aCnt_eq rP
  | k + 10 => exact aLost_eq rP rS
theorem dig_congr {f g : Nat → Int32} {d : Int64} {n : Nat} (h : ∀ k, k < n → f k = g k) : dig f d n = dig g d n := itr_congr (fun k u hk => by rw [h k hk])
theorem dig_nest {f : Nat → Int32} {d : Int64} {m n : Nat} : itr (fun i d => dig (fun j => f (m * i + j)) d m) n d = dig f d (n * m) := by
  unfold dig
  rw [itr_nest (F := fun i j u => u * 31 + (f (m * i + j)).toInt64)]
  exact itr_congr (fun k u _ => by rw [show m * (k / m) + k % m = k from Nat.div_add_mod k m])
theorem dig_eq (hZ : GSz ow gx gy gw gd ng nh) (hg6 : ng ≤ 6) (hn : nh ≤ 12) (h7 : x 0 7 = nI ns) (hR : RVl ow gx gy gw gd ng nh nl ns 101 110 x y) (hX : HXw ow gx gy gw gd nh x y) : dAll x gx gy gw gd ng nh nl ns = rDig y gw gd ng nh nl ns := by
  unfold dAll rDig
  dsimp only
  rw [show dig (y 122) _ (5 * nl) = dig (y 122) _ (nl * 5) from by rw [Nat.mul_comm], ← dig_nest (f := y 122) (m := 5) (n := nl), show dig (y 124) _ (6 * ns) = dig (y 124) _ (ns * 6) from by rw [Nat.mul_comm], ← dig_nest (f := y 124) (m := 6) (n := ns)]
  rw [dig_congr (f := tCo x gx gy gw gd ng nh nl) (g := rCo y gw gd ng nh nl ns) (fun k _ => tCo_eq h7 hR hX)]
  rw [itr_congr (f := fun g d => dig (tGr x gx gy gw gd nh g) d 10) (g := fun g d => dig (rGr y gw gd nh g) d 10) (fun g d hg => dig_congr (fun k _ => tGr_eq hZ hg6 hg hR hX))]
  rw [itr_congr (f := fun h d => dHouse x gx gy gw gd h d) (g := fun h d => dig (fun k => y 119 (36 * h + k)) (dig (rHo y gw gd nh h) d 11) (gw h * gd h)) (fun h d hh => by
    unfold dHouse
    rw [dig_congr (f := tHo x gx gy gw gd h) (g := rHo y gw gd nh h) (fun k hk => tHo_eq hn hh hk hR hX)]
    unfold dig
    rw [itr_nest (F := fun i j u => u * 31 + (x 4 ((gy h + i) * 20 + (gx h + j))).toInt64), Nat.mul_comm (gd h)]
    exact itr_congr (fun k u hk => by rw [show x 4 ((gy h + k / gw h) * 20 + (gx h + k % gw h)) = y 119 (36 * h + k) from (hR.2.2.2.1 h k hh hk).1]))]
  rw [itr_congr (f := fun k d => dig (tLa x k) d 5) (g := fun i d => dig (fun j => y 122 (5 * i + j)) d 5) (fun l d hl => dig_congr (fun k hk => tLa_eq hl hk hR))]
  exact itr_congr (fun s d hs => dig_congr (fun k hk => hR.2.2.2.2.2.2.1 s hs k hk))
end TL
