/-! more of the model -/
def fSto (a b c d e f g : Int32) : Int32 := if fIn a (-20) 39 = 1 ∧ fIn b (-20) 39 = 1 ∧ fIn c (-3) 3 = 1 ∧ fIn d (-3) 3 = 1 ∧ fIn e 0 5 = 1 ∧ fIn f 1 20 = 1 ∧ fIn g 1 30 = 1 then 1 else 0
theorem fIn_1 {a b c : Int32} (h : ¬ fIn a b c = 0) : fIn a b c = 1 := fIn_01.resolve_left h
theorem fIn_x {a b c : Int32} (h : fIn a b c = 0) (q : fIn a b c = 1) : False := absurd (h.symm.trans q) (by decide)
theorem fSto_1 {a b c d e f g : Int32} (h1 : ¬ fIn a (-20) 39 = 0) (h2 : ¬ fIn b (-20) 39 = 0) (h3 : ¬ fIn c (-3) 3 = 0) (h4 : ¬ fIn d (-3) 3 = 0) (h5 : ¬ fIn e 0 5 = 0) (h6 : ¬ fIn f 1 20 = 0) (h7 : ¬ fIn g 1 30 = 0) : 1 = fSto a b c d e f g := (if_pos ⟨fIn_1 h1, fIn_1 h2, fIn_1 h3, fIn_1 h4, fIn_1 h5, fIn_1 h6, fIn_1 h7⟩).symm
theorem fSto_0 {a b c d e f g : Int32} (h : fIn a (-20) 39 = 0 ∨ fIn b (-20) 39 = 0 ∨ fIn c (-3) 3 = 0 ∨ fIn d (-3) 3 = 0 ∨ fIn e 0 5 = 0 ∨ fIn f 1 20 = 0 ∨ fIn g 1 30 = 0) : 0 = fSto a b c d e f g := by
  refine (if_neg ?_).symm
  rintro ⟨q1, q2, q3, q4, q5, q6, q7⟩
  rcases h with h | h | h | h | h | h | h
  · exact fIn_x h q1
  · exact fIn_x h q2
  · exact fIn_x h q3
  · exact fIn_x h q4
  · exact fIn_x h q5
  · exact fIn_x h q6
  · exact fIn_x h q7
theorem fSto_01 {a b c d e f g : Int32} : fSto a b c d e f g = 0 ∨ fSto a b c d e f g = 1 := by
  unfold fSto
  split
  · exact Or.inr rfl
  · exact Or.inl rfl
section AT
variable {gx gy gw gd : Nat → Nat} {x y f : Int32} {h : Nat}
theorem rAtF_0 (c : fIn (x - nI (gx h)) 0 (nI (gw h) - 1) = 0) : rAtF gx gy gw gd x y h f = f := if_pos c
theorem rAtF_1 (c : ¬ fIn (x - nI (gx h)) 0 (nI (gw h) - 1) = 0) (d : fIn (y - nI (gy h)) 0 (nI (gd h) - 1) = 0) : rAtF gx gy gw gd x y h f = f := (if_neg c).trans (if_pos d)
theorem rAtF_2 (c : ¬ fIn (x - nI (gx h)) 0 (nI (gw h) - 1) = 0) (d : ¬ fIn (y - nI (gy h)) 0 (nI (gd h) - 1) = 0) : rAtF gx gy gw gd x y h f = nI h := (if_neg c).trans (if_neg d)
end AT
theorem nI_m1 {n : Nat} (h : n < 2 ^ 31) : ¬ nI n = -1 := fun q => absurd (by rw [q]; decide : nI n < 0) (nI_pos h)
theorem nI_ne {n m : Nat} (h : n ≠ m) (hn : n < 2 ^ 31) (hm : m < 2 ^ 31) : ¬ nI n = nI m := fun q => h ((nI_eq hn hm).mp q)
theorem nI_sub {a b : Nat} (h : b ≤ a) : nI a - nI b = nI (a - b) := by
  obtain ⟨d, rfl⟩ := Nat.exists_eq_add_of_le h
  rw [← nI_add, Nat.add_sub_cancel_left, Int32.add_comm, Int32.add_sub_cancel]
/-- where the pane of a cell lies -/
theorem pane_ix {h x y X Y w : Nat} (hx : X ≤ x) (hy : Y ≤ y) : 36 * nI h + nI x - nI X + (nI y - nI Y) * nI w = nI (36 * h + (x - X) + (y - Y) * w) := by
  rw [nI_sub hy, pk_mul, show (36 : Int32) * nI h = nI (36 * h) from pk_mul 36 h, nI_add, nI_sub (by omega), nI_add]
  congr 1
  omega
section KB
variable {L : List Nat} {ad : Nat → Nat} {v u : Nat → Nat → Int32} {o : Nat → Nat → Option Nat} {ng nh nl ns : Nat} {ow gx gy gw gd : Nat → Nat}
/-- the copy leaves all outside itself -/
def out2 (r : Nat) : Prop := r ≠ 102 ∧ ¬ (140 ≤ r ∧ r ≤ 158)
theorem bInts_o {r : Nat} (h : r ≠ 102) : bInts v r = v r := by
  unfold bInts
  simp only [up2_other h]
theorem cpy2_o {a b c d e r : Nat} (h : r ≠ b) : cpy2 v a b c d e r = v r := by
  funext k
  exact if_neg h
theorem bRows_o {r : Nat} (h : ¬ (140 ≤ r ∧ r ≤ 158)) : bRows v r = v r := by
  unfold bRows
  simp only [cpy2_o (v := _) (show r ≠ 140 + 1 by omega), cpy2_o (v := _) (show r ≠ 140 + 2 by omega), cpy2_o (v := _) (show r ≠ 140 + 3 by omega), cpy2_o (v := _) (show r ≠ 140 + 4 by omega), cpy2_o (v := _) (show r ≠ 140 + 5 by omega), cpy2_o (v := _) (show r ≠ 140 + 7 by omega), cpy2_o (v := _) (show r ≠ 140 + 8 by omega), cpy2_o (v := _) (show r ≠ 140 + 9 by omega), cpy2_o (v := _) (show r ≠ 140 + 12 by omega), cpy2_o (v := _) (show r ≠ 140 + 14 by omega)]
theorem uBec_o {r : Nat} (h : out2 r) : uBec v r = v r := (bRows_o h.2).trans (bInts_o h.1)
theorem cpy2_h {a b k n : Nat} (hk : k < n) : cpy2 v a b 0 0 n b k = v a k := by
  unfold cpy2 va_cpy
  rw [if_pos rfl, if_pos ⟨Nat.zero_le k, by omega⟩]
  congr 1
  omega
/-- .. and has the state's numbers -/
theorem uBec_i {k : Nat} (hk : k = 0 ∨ k = 6 ∨ k = 10 ∨ k = 11 ∨ k = 13 ∨ k = 15) : uBec v 102 k = v 101 k := by
  unfold uBec
  rw [bRows_o (by omega)]
  unfold bInts
  rcases hk with rfl | rfl | rfl | rfl | rfl | rfl <;> rfl
theorem uBec_r {f n k : Nat} (hf : (f = 1 ∧ n = 6) ∨ (f = 2 ∧ n = 18) ∨ (f = 3 ∧ n = 6) ∨ (f = 4 ∧ n = 6) ∨ (f = 5 ∧ n = 6) ∨ (f = 7 ∧ n = 84) ∨ (f = 8 ∧ n = 12) ∨ (f = 9 ∧ n = 432) ∨ (f = 12 ∧ n = 30) ∨ (f = 14 ∧ n = 180)) (hk : k < n) : uBec v (140 + f) k = v (110 + f) k := by
  unfold uBec bRows
  rcases hf with ⟨rfl, rfl⟩ | ⟨rfl, rfl⟩ | ⟨rfl, rfl⟩ | ⟨rfl, rfl⟩ | ⟨rfl, rfl⟩ | ⟨rfl, rfl⟩ | ⟨rfl, rfl⟩ | ⟨rfl, rfl⟩ | ⟨rfl, rfl⟩ | ⟨rfl, rfl⟩ <;>
    simp only [cpy2_o (v := _) (a := _) (b := 140 + 1) (r := 140 + 2) (by decide), cpy2_o (v := _) (a := _) (b := 140 + 2) (r := 140 + 1) (by decide)] <;>
    repeat (first | (rw [cpy2_h hk]) | (rw [cpy2_o (by decide)]))
  all_goals first | rfl | (rw [bInts_o (by decide)])
def keepO (u v : Nat → Nat → Int32) : Prop := ∀ r k, r ≤ 180 → r ≠ 100 → out2 r → u r k = v r k
theorem keepO.rf : keepO v v := fun _ _ _ _ _ => rfl
theorem keepO.tr {x : Nat → Nat → Int32} (h : keepO u v) (g : keepO v x) : keepO u x := fun r k a b d => (h r k a b d).trans (g r k a b d)
theorem keepR.out (h : keepR 102 140 u v) : keepO u v := fun r k a b d => h r k (by unfold out2 at d; unfold depR; omega)
theorem kO_bec : keepO (uBec v) v := fun r k _ _ d => by rw [uBec_o d]
theorem kO_t {k : Nat} {x : Int32} : keepO (up2 v 100 k x) v := fun r k' _ b _ => up2_r b
theorem PJ.kp2 (h : PJ L ad v o 101 110 ng nh nl ns ow gx gy gw gd) (k : keepO u v) : PJ L ad u o 101 110 ng nh nl ns ow gx gy gw gd := by
  obtain ⟨h1, h2, ⟨a1, a2, a3, a4⟩, hh⟩ := h
  have e : ∀ r j, r ≤ 128 → r = 101 ∨ 110 ≤ r → u r j = v r j := fun r j q1 q2 => k r j (by omega) (by omega) (by unfold out2; omega)
  refine ⟨h1, h2, ⟨(e _ _ (by omega) (by omega)).trans a1, (e _ _ (by omega) (by omega)).trans a2, (e _ _ (by omega) (by omega)).trans a3, (e _ _ (by omega) (by omega)).trans a4⟩, fun i hi => ?_⟩
  obtain ⟨q1, q2, q3, q4, q5, q6⟩ := hh i hi
  exact ⟨q1, (e _ _ (by omega) (by omega)).trans q2, (e _ _ (by omega) (by omega)).trans q3, (e _ _ (by omega) (by omega)).trans q4, (e _ _ (by omega) (by omega)).trans q5, (e _ _ (by omega) (by omega)).trans q6⟩
theorem n01_kp (h : ∀ i, i < 12 → v 118 i = 0 ∨ v 118 i = 1) (k : keepO u v) : ∀ i, i < 12 → u 118 i = 0 ∨ u 118 i = 1 := fun i hi => by
  rw [k 118 i (by omega) (by omega) (by unfold out2; omega)]
  exact h i hi
theorem PJ_bec (h : PJ L ad v o 101 110 ng nh nl ns ow gx gy gw gd) (q : PQ L ad o 102 140) : PJ L ad (uBec v) o 102 140 ng nh nl ns ow gx gy gw gd := by
  obtain ⟨h1, h2, ⟨a1, a2, a3, a4⟩, hh⟩ := h
  refine ⟨q, h2, ⟨(uBec_i (by omega)).trans a1, (uBec_i (by omega)).trans a2, (uBec_i (by omega)).trans a3, (uBec_i (by omega)).trans a4⟩, fun i hi => ?_⟩
  obtain ⟨q1, q2, q3, q4, q5, q6⟩ := hh i hi
  exact ⟨q1, (uBec_r (f := 7) (n := 84) (by omega) (by omega)).trans q2, (uBec_r (f := 7) (n := 84) (by omega) (by omega)).trans q3, (uBec_r (f := 7) (n := 84) (by omega) (by omega)).trans q4, (uBec_r (f := 7) (n := 84) (by omega) (by omega)).trans q5, (uBec_r (f := 7) (n := 84) (by omega) (by omega)).trans q6⟩
theorem SB2 : SB 102 140 := Or.inr ⟨rfl, rfl⟩
theorem kO_west {nh0 nl0 ng0 y : Nat} {rad : Int} {F : Int32} : keepO (rWest v gx gy gw gd ng0 nh0 nl0 y rad F) v := (kr_rStorm SB2).out
theorem kO_dam {nh0 nl0 ng0 y : Nat} {rad : Int} {F : Int32} : keepO (rDam v gx gy gw gd ng0 nh0 nl0 y rad F) v := kO_west.tr kO_bec
theorem kO_damN {nh0 nl0 ng0 h y : Nat} {rad : Int} {F : Int32} : keepO (rDamN v gx gy gw gd ng0 nh0 nl0 h y rad F) v := kO_west.tr ((keepR.out (kr_b SB2 (by omega))).tr kO_bec)
theorem rWo_1 {y : Nat} {rad : Int} {F : Int32} {t : (Nat → Nat → Int32) × Int32 × Int32} (h : t.2.1 < rWest (uBec t.1) gx gy gw gd ng nh nl y rad F 156 3) : rWo gx gy gw gd ng nh nl rad F y t = (rWest (uBec t.1) gx gy gw gd ng nh nl y rad F, rWest (uBec t.1) gx gy gw gd ng nh nl y rad F 156 3, nI y) := if_pos h
theorem rWo_0 {y : Nat} {rad : Int} {F : Int32} {t : (Nat → Nat → Int32) × Int32 × Int32} (h : ¬ t.2.1 < rWest (uBec t.1) gx gy gw gd ng nh nl y rad F 156 3) : rWo gx gy gw gd ng nh nl rad F y t = (rWest (uBec t.1) gx gy gw gd ng nh nl y rad F, t.2) := if_neg h
theorem kO_rWo {y : Nat} {rad : Int} {F : Int32} {t : (Nat → Nat → Int32) × Int32 × Int32} : keepO (rWo gx gy gw gd ng nh nl rad F y t).1 t.1 := by
  unfold rWo
  dsimp only
  split
  · exact kO_dam
  · exact kO_dam
theorem kO_rWos {rad : Int} {F : Int32} {t : (Nat → Nat → Int32) × Int32 × Int32} : ∀ {n : Nat}, keepO (itr (rWo gx gy gw gd ng nh nl rad F) n t).1 t.1
  | 0 => keepO.rf
  | _ + 1 => kO_rWo.tr kO_rWos
theorem rAd_n {h y : Nat} {rad : Int} {F : Int32} {t : (Nat → Nat → Int32) × Int32 × Int32} (c : ¬ t.1 118 h = 0) : rAd gx gy gw gd ng nh nl y rad F h t = t := if_neg c
theorem rAd_1 {h y : Nat} {rad : Int} {F : Int32} {t : (Nat → Nat → Int32) × Int32 × Int32} (c : t.1 118 h = 0) (d : rDamN t.1 gx gy gw gd ng nh nl h y rad F 156 2 < t.2.1) : rAd gx gy gw gd ng nh nl y rad F h t = (rDamN t.1 gx gy gw gd ng nh nl h y rad F, rDamN t.1 gx gy gw gd ng nh nl h y rad F 156 2, nI h) := (if_pos c).trans (if_pos d)
theorem rAd_0 {h y : Nat} {rad : Int} {F : Int32} {t : (Nat → Nat → Int32) × Int32 × Int32} (c : t.1 118 h = 0) (d : ¬ rDamN t.1 gx gy gw gd ng nh nl h y rad F 156 2 < t.2.1) : rAd gx gy gw gd ng nh nl y rad F h t = (rDamN t.1 gx gy gw gd ng nh nl h y rad F, t.2) := (if_pos c).trans (if_neg d)
theorem kO_rAd {h y : Nat} {rad : Int} {F : Int32} {t : (Nat → Nat → Int32) × Int32 × Int32} : keepO (rAd gx gy gw gd ng nh nl y rad F h t).1 t.1 := by
  unfold rAd
  split
  · dsimp only
    split
    · exact kO_damN
    · exact kO_damN
  · exact keepO.rf
theorem kO_rAds {y : Nat} {rad : Int} {F : Int32} {t : (Nat → Nat → Int32) × Int32 × Int32} : ∀ {n : Nat}, keepO (itr (rAd gx gy gw gd ng nh nl y rad F) n t).1 t.1
  | 0 => keepO.rf
  | _ + 1 => kO_rAd.tr kO_rAds
end KB
theorem rBuild_off {U v : Nat → Nat → Int32} {own : Nat → Int32} {nh : Nat} (hF : offR 181 U (tz v)) (ho : ∀ j, j < 7 → U 181 j = own j) : offR 181 (up2 (cpy2 U 181 (110 + 7) 0 (7 * nh) 7) 101 6 (nI nh + 1)) (rBuild v nh own) := by
  intro r hr
  funext k
  have hu := hF r hr
  unfold rBuild rRow up2 cpy2 va_cpy
  by_cases h1 : r = 101 ∧ k = 6
  · rw [if_pos h1, if_pos h1, nI_1]
  · rw [if_neg h1, if_neg h1]
    by_cases h7 : r = 117
    · subst h7
      rw [if_pos rfl]
      by_cases hk : 7 * nh ≤ k ∧ k < 7 * nh + 7
      · rw [if_pos hk, Nat.zero_add]
        exact (ho _ (by omega)).trans (if_pos ⟨rfl, hk⟩).symm
      · rw [if_neg hk]
        exact (congrFun hu k).trans (if_neg (fun q => hk q.2)).symm
    · rw [if_neg h7]
      exact (congrFun hu k).trans (if_neg (fun q => h7 q.1)).symm
theorem rAddL_off {U v : Nat → Nat → Int32} {own : Nat → Int32} {nl : Nat} (hF : offR 182 U (tz v)) (ho : ∀ j, j < 5 → U 182 j = own j) : offR 182 (up2 (cpy2 U 182 (110 + 12) 0 (5 * nl) 5) 101 11 (nI nl + 1)) (rAddL v nl own) := by
  intro r hr
  funext k
  have hu := hF r hr
  unfold rAddL rRow up2 cpy2 va_cpy
  by_cases h1 : r = 101 ∧ k = 11
  · rw [if_pos h1, if_pos h1, nI_1]
  · rw [if_neg h1, if_neg h1]
    by_cases h7 : r = 122
    · subst h7
      rw [if_pos rfl]
      by_cases hk : 5 * nl ≤ k ∧ k < 5 * nl + 5
      · rw [if_pos hk, Nat.zero_add]
        exact (ho _ (by omega)).trans (if_pos ⟨rfl, hk⟩).symm
      · rw [if_neg hk]
        exact (congrFun hu k).trans (if_neg (fun q => hk q.2)).symm
    · rw [if_neg h7]
      exact (congrFun hu k).trans (if_neg (fun q => h7 q.1)).symm
theorem pane_lt {X Y w d x y : Nat} (g1 : X ≤ x) (g2 : x < X + w) (g3 : Y ≤ y) (g4 : y < Y + d) (hw : w ≤ 6) (hd : d ≤ 6) : (x - X) + (y - Y) * w < 36 := by
  have h1 : (y - Y) * w ≤ 5 * w := Nat.mul_le_mul_right w (by omega)
  omega
theorem lt_of_nge {n : Nat} (hn : n < 2 ^ 31) (c : ¬ (12 : Int32) ≤ nI n) : n < 12 := by
  rcases Nat.lt_or_ge n 12 with q | q
  · exact q
  · exact absurd (nI_le (a := 12) q hn) c
theorem nlt_of_ge {n : Nat} (hn : n < 2 ^ 31) (c : (12 : Int32) ≤ nI n) : ¬ n < 12 := fun q => absurd ((nI_leI (a := 12) (by decide) hn).mp c) (by omega)
