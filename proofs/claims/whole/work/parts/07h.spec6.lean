/-! storms, put into the world for a call -/
def sPut (v : Nat → Nat → Int32) (a b c d e f g : Int32) : Nat → Nat → Int32 := iS (up1 v 180 z32) 180 a b c d e f g
theorem sPut_o {v : Nat → Nat → Int32} {a b c d e f g : Int32} {r : Nat} (h : r ≠ 180) : sPut v a b c d e f g r = v r := off_iS off_new r h
theorem PI.put {td : Nat} {L : List Nat} {ad : Nat → Nat} {v : Nat → Nat → Int32} {o : Nat → Nat → Option Nat} {ng nh nl ns : Nat} {ow gx gy gw gd : Nat → Nat} {a b c d e f g : Int32} (h : PI td L ad (up1 v 180 z32) o ng nh nl ns ow gx gy gw gd) : PI td L ad (sPut v a b c d e f g) o ng nh nl ns ow gx gy gw gd := h.cong (fun r k q => by
  have hr : r ≠ 180 := by unfold dep at q; omega
  rw [sPut_o hr, up1_n hr])
theorem SI_put {v : Nat → Nat → Int32} {sx sy dx dy rad : Int} {F : Int32} {st : Nat} (hb : -20 ≤ sx ∧ sx ≤ 39 ∧ -20 ≤ sy ∧ sy ≤ 39 ∧ -3 ≤ dx ∧ dx ≤ 3 ∧ -3 ≤ dy ∧ dy ≤ 3 ∧ 0 ≤ rad ∧ rad ≤ 5 ∧ st ≤ 30) : SI (sPut v (iI sx) (iI sy) (iI dx) (iI dy) (iI rad) F (nI st)) sx sy dx dy rad F st := ⟨⟨rfl, rfl, rfl, rfl, rfl, rfl, rfl⟩, hb⟩
section S6
variable (ow gx gy gw gd : Nat → Nat)
def cWo (ng nh nl : Nat) (rad : Int) (F : Int32) : Nat → ((Nat → Nat → Int32) × Int32 × Int32) → ((Nat → Nat → Int32) × Int32 × Int32) := fun y t =>
  let u := uTry (up2 t.1 180 1 (nI y)) ow gx gy gw gd ng nh nl 0 (y : Int) 2 0 rad F 12
  if u 12 3 ≤ t.2.1 then (u, t.2) else (u, u 12 3, nI y)
def cAd (nh y : Nat) (rad : Int) (F : Int32) : Nat → ((Nat → Nat → Int32) × Int32 × Int32) → ((Nat → Nat → Int32) × Int32 × Int32) := fun h t =>
  if t.1 (60 + h) 7 = 0 then
    if t.2.1 ≤ dNet t.1 ow gx gy gw gd nh h 0 (y : Int) 2 0 rad F 12 then (uNet t.1 ow gx gy gw gd nh h 0 (y : Int) 2 0 rad F 12, t.2) else (uNet t.1 ow gx gy gw gd nh h 0 (y : Int) 2 0 rad F 12, dNet t.1 ow gx gy gw gd nh h 0 (y : Int) 2 0 rad F 12, nI h)
  else t
end S6
section S6b
variable {ow gx gy gw gd : Nat → Nat} {ng nh nl y h : Nat} {rad : Int} {F : Int32} {t : (Nat → Nat → Int32) × Int32 × Int32}
theorem cWo_0 (c : uTry (up2 t.1 180 1 (nI y)) ow gx gy gw gd ng nh nl 0 (y : Int) 2 0 rad F 12 12 3 ≤ t.2.1) : cWo ow gx gy gw gd ng nh nl rad F y t = (uTry (up2 t.1 180 1 (nI y)) ow gx gy gw gd ng nh nl 0 (y : Int) 2 0 rad F 12, t.2) := if_pos c
theorem cWo_1 (c : ¬ uTry (up2 t.1 180 1 (nI y)) ow gx gy gw gd ng nh nl 0 (y : Int) 2 0 rad F 12 12 3 ≤ t.2.1) : cWo ow gx gy gw gd ng nh nl rad F y t = (uTry (up2 t.1 180 1 (nI y)) ow gx gy gw gd ng nh nl 0 (y : Int) 2 0 rad F 12, uTry (up2 t.1 180 1 (nI y)) ow gx gy gw gd ng nh nl 0 (y : Int) 2 0 rad F 12 12 3, nI y) := if_neg c
theorem cAd_n (c : ¬ t.1 (60 + h) 7 = 0) : cAd ow gx gy gw gd nh y rad F h t = t := if_neg c
theorem cAd_0 (c : t.1 (60 + h) 7 = 0) (d : t.2.1 ≤ dNet t.1 ow gx gy gw gd nh h 0 (y : Int) 2 0 rad F 12) : cAd ow gx gy gw gd nh y rad F h t = (uNet t.1 ow gx gy gw gd nh h 0 (y : Int) 2 0 rad F 12, t.2) := (if_pos c).trans (if_pos d)
theorem cAd_1 (c : t.1 (60 + h) 7 = 0) (d : ¬ t.2.1 ≤ dNet t.1 ow gx gy gw gd nh h 0 (y : Int) 2 0 rad F 12) : cAd ow gx gy gw gd nh y rad F h t = (uNet t.1 ow gx gy gw gd nh h 0 (y : Int) 2 0 rad F 12, dNet t.1 ow gx gy gw gd nh h 0 (y : Int) 2 0 rad F 12, nI h) := (if_pos c).trans (if_neg d)
/-- but for the storm's y -/
def keepY (u v : Nat → Nat → Int32) : Prop := ∀ r k, depC r k → ¬ (r = 180 ∧ k = 1) → u r k = v r k
theorem keepY.tr {u v x : Nat → Nat → Int32} (h : keepY u v) (g : keepY v x) : keepY u x := fun r k d n => (h r k d n).trans (g r k d n)
theorem keepD.toY {u v : Nat → Nat → Int32} (h : keepD u v) : keepY u v := fun r k d _ => h r k d
theorem keepY_up {v : Nat → Nat → Int32} {x : Int32} : keepY (up2 v 180 1 x) v := fun r k _ n => if_neg n
theorem kY_cWo : keepY (cWo ow gx gy gw gd ng nh nl rad F y t).1 t.1 := by
  unfold cWo
  dsimp only
  split
  · exact kp_uTry.toY.tr keepY_up
  · exact kp_uTry.toY.tr keepY_up
theorem kY_cWos : ∀ {n : Nat}, keepY (itr (cWo ow gx gy gw gd ng nh nl rad F) n t).1 t.1
  | 0 => fun _ _ _ _ => rfl
  | _ + 1 => kY_cWo.tr kY_cWos
theorem kp_cAd (hh : h < 12) : keepD (cAd ow gx gy gw gd nh y rad F h t).1 t.1 := by
  unfold cAd
  split
  · split
    · exact kp_uNet hh
    · exact kp_uNet hh
  · exact keepD.rf
theorem kp_cAds : ∀ {n : Nat}, n ≤ 12 → keepD (itr (cAd ow gx gy gw gd nh y rad F) n t).1 t.1
  | 0, _ => keepD.rf
  | n + 1, hn => (kp_cAd (by omega)).tr (kp_cAds (by omega))
theorem PI.kY {td : Nat} {L : List Nat} {ad : Nat → Nat} {v u : Nat → Nat → Int32} {o : Nat → Nat → Option Nat} {ng nh nl ns : Nat} {ow gx gy gw gd : Nat → Nat} (h : PI td L ad v o ng nh nl ns ow gx gy gw gd) (k : keepY u v) : PI td L ad u o ng nh nl ns ow gx gy gw gd := h.cong (fun r k' d => k r k' (Or.inl d) (by unfold dep at d; omega))
theorem SI.kY {v u : Nat → Nat → Int32} {sx sy dx dy rad : Int} {F : Int32} {st : Nat} (h : SI v sx sy dx dy rad F st) (k : keepY u v) {y : Int} (hy : u 180 1 = iI y) (h1 : -20 ≤ y) (h2 : y ≤ 39) : SI u sx y dx dy rad F st := by
  obtain ⟨⟨a1, a2, a3, a4, a5, a6, a7⟩, b⟩ := h
  exact ⟨⟨(k _ _ (Or.inr (by omega)) (by omega)).trans a1, hy, (k _ _ (Or.inr (by omega)) (by omega)).trans a3, (k _ _ (Or.inr (by omega)) (by omega)).trans a4, (k _ _ (Or.inr (by omega)) (by omega)).trans a5, (k _ _ (Or.inr (by omega)) (by omega)).trans a6, (k _ _ (Or.inr (by omega)) (by omega)).trans a7⟩, by omega⟩
end S6b
theorem fSto_of {a b c d e f g : Int32} (h1 : fIn a (-20) 39 = 1) (h2 : fIn b (-20) 39 = 1) (h3 : fIn c (-3) 3 = 1) (h4 : fIn d (-3) 3 = 1) (h5 : fIn e 0 5 = 1) (h6 : fIn f 1 20 = 1) (h7 : fIn g 1 30 = 1) : fSto a b c d e f g = 1 := if_pos ⟨h1, h2, h3, h4, h5, h6, h7⟩
theorem fIn_y {y : Nat} (h : y < 20) : fIn (nI y) (-20) 39 = 1 := if_pos ⟨by
  rw [← iI_n, show (-20 : Int32) = iI (-20) from rfl, iI_le (by omega) (by omega) (by omega) (by omega)]; omega, by
  rw [← iI_n, show (39 : Int32) = iI 39 from rfl, iI_le (by omega) (by omega) (by omega) (by omega)]; omega⟩
