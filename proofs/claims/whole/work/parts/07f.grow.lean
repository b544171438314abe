/-! THE WORLD GROWS: a new thing in a list -/
section GR
variable {td : Nat} {L L' : List Nat} {ad ad' : Nat → Nat} {v v' : Nat → Nat → Int32} {o o' : Nat → Nat → Option Nat} {lr n A B base X : Nat}
theorem LI.mono (h : LI L ad v o td lr n A B base) (hL : ∀ r, r ∈ L → r ∈ L') (hA : ∀ r, r ∈ L → ad' r = ad r) (e2 : v' lr 2 = v lr 2) (e1 : o' lr = o lr) (eA : o' A = o A) (eB : o' B = o B) : LI L' ad' v' o' td lr n A B base := by
  obtain ⟨c1, c2, c3, c4, c5, c6, c7, c8, c9, c10, c11⟩ := h
  refine ⟨hL _ c1, c2, by rw [e2]; exact c3, c4, fun i hi => hL _ (c5 i hi), c6, c7, c8, c9, c10, ?_⟩
  rw [e1, eA, eB]
  rcases c11 with ⟨d1, d2⟩ | ⟨d1, d2, d3, d4, d5⟩ | ⟨d1, d3, d4, d5⟩
  · exact Or.inl ⟨d1, d2⟩
  · exact Or.inr (Or.inl ⟨d1, d2, hL _ d3, by rw [hA _ d3]; exact d4, fun i hi => by rw [hA _ (c5 i hi)]; exact d5 i hi⟩)
  · exact Or.inr (Or.inr ⟨d1, hL _ d3, by rw [hA _ d3]; exact d4, fun i hi => by rw [hA _ (c5 i hi)]; exact d5 i hi⟩)
theorem LI.add (h : LI L ad v o td lr n A B base) (hn : n < 15) (hL : ∀ r, r ∈ L → r ∈ L') (hel : base + n ∈ L') (hv : v' lr 2 = nI (n + 1)) (hX : (n < 10 ∧ X = A) ∨ (10 ≤ n ∧ X = B)) (hXL : X ∈ L') (ho1 : o' lr 1 = some (ad' X)) (hoi : ∀ i, i < n + 1 → o' X i = some (ad' (base + i))) : LI L' ad' v' o' td lr (n + 1) A B base := by
  obtain ⟨c1, c2, c3, c4, c5, c6, c7, c8, c9, c10, c11⟩ := h
  refine ⟨hL _ c1, c2, hv, by omega, fun i hi => ?_, c6, c7, c8, c9, c10, ?_⟩
  · rcases Nat.lt_or_ge i n with q | q
    · exact hL _ (c5 i q)
    · rw [show i = n by omega]; exact hel
  · rcases hX with ⟨q1, rfl⟩ | ⟨q1, rfl⟩
    · exact Or.inr (Or.inl ⟨by omega, by omega, hXL, ho1, hoi⟩)
    · exact Or.inr (Or.inr ⟨by omega, hXL, ho1, hoi⟩)
/-- what the object at A (B) holds so far -/
theorem LI.old (h : LI L ad v o td lr n A B base) (h0 : 0 < n) (hX : (n ≤ 10 ∧ X = A) ∨ (10 < n ∧ X = B)) : X ∈ L ∧ o lr 1 = some (ad X) ∧ ∀ i, i < n → o X i = some (ad (base + i)) := by
  obtain ⟨c1, c2, c3, c4, c5, c6, c7, c8, c9, c10, c11⟩ := h
  rcases c11 with ⟨d1, d2⟩ | ⟨d1, d2, d3, d4, d5⟩ | ⟨d1, d3, d4, d5⟩
  · omega
  · rcases hX with ⟨q1, rfl⟩ | ⟨q1, rfl⟩
    · exact ⟨d3, d4, d5⟩
    · omega
  · rcases hX with ⟨q1, rfl⟩ | ⟨q1, rfl⟩
    · omega
    · exact ⟨d3, d4, d5⟩
/-- the world L', ad', v', o' has all that L, ad, v, o has; the ints are other ones at the roles T alone -/
def Ext (L : List Nat) (ad : Nat → Nat) (v : Nat → Nat → Int32) (o : Nat → Nat → Option Nat) (P : PW) (N T : Nat → Prop) : Prop :=
  (∀ r, r ∈ L → r ∈ P.1 ∧ P.2.1 r = ad r) ∧ (∀ r, r ∈ P.1 → r ∈ L ∨ N r) ∧ (∀ r, 100 ≤ r → P.2.2.2 r = o r) ∧ (∀ r, ¬ T r → P.2.2.1 r = v r)
variable {ng nh nl ns : Nat} {ow gx gy gw gd : Nat → Nat}
theorem PI.mono (h : PI td L ad v o ng nh nl ns ow gx gy gw gd) {ng' nh' nl' : Nat} {ow' gx' gy' gw' gd' : Nat → Nat} (hL : ∀ r, r ∈ L → r ∈ L') (hA : ∀ r, r ∈ L → ad' r = ad r) (e0 : o' 0 = o 0) (e5 : o' 5 = o 5) (e6 : o' 6 = o 6) (e7 : v' 0 7 = v 0 7)
    (lg : LI L' ad' v' o' td 1 ng' 13 19 50) (lh : LI L' ad' v' o' td 2 nh' 14 16 60) (ll : LI L' ad' v' o' td 3 nl' 15 17 80) (g6 : ng' ≤ 6) (h12 : nh' ≤ 12) (l6 : nl' ≤ 6)
    (hh : ∀ h, h < nh' → (ow' h < ng' ∧ gx' h + gw' h ≤ 20 ∧ gy' h + gd' h ≤ 20 ∧ 1 ≤ gw' h ∧ gw' h ≤ 6 ∧ 1 ≤ gd' h ∧ gd' h ≤ 6) ∧ v' (60 + h) 0 = nI (ow' h) ∧ v' (60 + h) 1 = nI (gx' h) ∧ v' (60 + h) 2 = nI (gy' h) ∧ v' (60 + h) 3 = nI (gw' h) ∧ v' (60 + h) 4 = nI (gd' h)) : PI td L' ad' v' o' ng' nh' nl' ns ow' gx' gy' gw' gd' := by
  obtain ⟨h1, h2, h3, h4, h5, h6, h7, h8, h9, h10, h11, hs, hs30, hq⟩ := h
  exact ⟨fun r hr => hL _ (h1 r hr), fun i hi => hL _ (h2 i hi), fun k hk => by rw [e0, hA _ (h1 _ (by omega))]; exact h3 k hk, fun k hk => by rw [e6, hA _ (h1 _ (by omega))]; exact h4 k hk, fun i hi => by rw [e5, hA _ (h2 i hi)]; exact h5 i hi, lg, lh, ll, g6, h12, l6, e7.trans hs, hs30, hh⟩
theorem PJ.ext {S Bb : Nat} {P : PW} {N T : Nat → Prop} (h : PJ L ad v o S Bb ng nh nl ns ow gx gy gw gd) (hE : Ext L ad v o P N T) (hT : ∀ r, 100 ≤ r → ¬ T r) : PJ P.1 P.2.1 P.2.2.1 P.2.2.2 S Bb ng nh nl ns ow gx gy gw gd := by
  obtain ⟨e1, e2, e3, e4⟩ := hE
  have hsb := h.q.sb
  obtain ⟨⟨h1, h2, h3, h4⟩, b, c, d⟩ := h
  refine ⟨⟨h1, (e1 _ h2).1, (e1 _ h3).1, fun k hk => ⟨(e1 _ (h4 k hk).1).1, by rw [e3 _ (by omega), (e1 _ (h4 k hk).1).2]; exact (h4 k hk).2⟩⟩, b, by rw [e4 _ (hT _ (by omega))]; exact c, fun i hi => ?_⟩
  rw [e4 _ (hT _ (by omega))]
  exact d i hi
end GR
/-- E is new -/
def New (L : List Nat) (ad : Nat → Nat) (v : Nat → Nat → Int32) (o : Nat → Nat → Option Nat) (E : Nat) (L1 : List Nat) (ad1 : Nat → Nat) (v1 : Nat → Nat → Int32) (o1 : Nat → Nat → Option Nat) : Prop :=
  (∀ r, r ∈ L → r ∈ L1) ∧ E ∈ L1 ∧ (∀ r, r ∈ L → ad1 r = ad r) ∧ (∀ r, r ≠ E → v1 r = v r) ∧ v1 E = z32 ∧ (∀ r, r ≠ E → o1 r = o r) ∧ (∀ r, r ∈ L1 → r ∈ L ∨ r = E) ∧ E ∉ L
theorem New.of {L : List Nat} {ad : Nat → Nat} {v : Nat → Nat → Int32} {o : Nat → Nat → Option Nat} {E q : Nat} (hE : E ∉ L) : New L ad v o E (L ++ [E]) (upA ad E q) (up1 v E z32) (up1 o E nOp) :=
  ⟨fun _ h => List.mem_append_left _ h, List.mem_append_right _ (List.mem_singleton.mpr rfl), fun r h => upA_n (fun e => hE (e ▸ h)), fun _ h => up1_n h, up1_s, fun _ h => up1_n h, fun r h => (List.mem_append.mp h).imp id List.mem_singleton.mp, hE⟩
/-- what add has done to a list: its n + 1 objects are held by X -/
def Added (L : List Nat) (ad : Nat → Nat) (v : Nat → Nat → Int32) (o : Nat → Nat → Option Nat) (P : PW) (lr X n base : Nat) : Prop :=
  (∀ r, r ∈ L → r ∈ P.1 ∧ P.2.1 r = ad r) ∧ (∀ r, r ∈ P.1 → r ∈ L ∨ (r = X ∧ X ∉ L)) ∧ X ∈ P.1 ∧ (∀ r, r ≠ lr → r ≠ X → P.2.2.1 r = v r) ∧ P.2.2.1 lr 2 = nI (n + 1) ∧ (∀ r, r ≠ lr → r ≠ X → P.2.2.2 r = o r) ∧ P.2.2.2 lr 1 = some (P.2.1 X) ∧ (∀ i, i < n + 1 → P.2.2.2 X i = some (P.2.1 (base + i)))
section AD
variable {td : Nat} {L : List Nat} {ad : Nat → Nat} {v : Nat → Nat → Int32} {o : Nat → Nat → Option Nat} {lr n A B base X q : Nat}
theorem Added_0 (hX9 : X ∉ L) (hb : base ∈ L) (hlX : lr ≠ X) : Added L ad v o (L ++ [X], upA ad X q, up2 (up1 (up2 v lr 0 (v lr 0 + 1)) X z32) lr 2 (nI 0 + 1), up2 (up2 (up1 o X nOp) lr 1 (some (upA ad X q X))) X 0 (some (upA ad X q (base + 0)))) lr X 0 base := by
  refine ⟨fun r h => ⟨List.mem_append_left _ h, upA_n (fun e => hX9 (e ▸ h))⟩, fun r h => (List.mem_append.mp h).imp id (fun z => ⟨List.mem_singleton.mp z, hX9⟩), List.mem_append_right _ (List.mem_singleton.mpr rfl), fun r h1 h2 => ?_, ?_, fun r h1 h2 => ?_, ?_, fun i hi => ?_⟩
  · show up2 (up1 (up2 v lr 0 (v lr 0 + 1)) X z32) lr 2 (nI 0 + 1) r = v r
    rw [up2_other h1, up1_n h2, up2_other h1]
  · exact up2_s.trans (nI_1 0)
  · show up2 (up2 (up1 o X nOp) lr 1 (some (upA ad X q X))) X 0 (some (upA ad X q (base + 0))) r = o r
    rw [up2_other h2, up2_other h1, up1_n h2]
  · show up2 (up2 (up1 o X nOp) lr 1 (some (upA ad X q X))) X 0 (some (upA ad X q (base + 0))) lr 1 = _
    rw [up2_r hlX, up2_s]
  · show up2 (up2 (up1 o X nOp) lr 1 (some (upA ad X q X))) X 0 (some (upA ad X q (base + 0))) X i = _
    rw [show i = 0 by omega, up2_s]
theorem Added_m (h : X ∈ L ∧ o lr 1 = some (ad X) ∧ ∀ i, i < n → o X i = some (ad (base + i))) (hlX : lr ≠ X) : Added L ad v o (L, ad, up2 (up2 v lr 0 (v lr 0 + 1)) lr 2 (nI n + 1), up2 o X n (some (ad (base + n)))) lr X n base := by
  refine ⟨fun r h => ⟨h, rfl⟩, fun r h => Or.inl h, h.1, fun r h1 h2 => ?_, ?_, fun r h1 h2 => ?_, ?_, fun i hi => ?_⟩
  · show up2 (up2 v lr 0 (v lr 0 + 1)) lr 2 (nI n + 1) r = v r
    rw [up2_other h1, up2_other h1]
  · exact up2_s.trans (nI_1 n)
  · exact up2_other h2
  · exact (up2_r hlX).trans h.2.1
  · show up2 o X n (some (ad (base + n))) X i = _
    by_cases hi9 : i = n
    · rw [hi9, up2_s]
    · rw [up2_k hi9]; exact h.2.2 i (by omega)
theorem Added_g (h : A ∈ L ∧ o lr 1 = some (ad A) ∧ ∀ i, i < 10 → o A i = some (ad (base + i))) (hbL : ∀ i, i < 10 → base + i ∈ L) (hX9 : X ∉ L) (hlX : lr ≠ X) (hAX : A ≠ X) : Added L ad v o (L ++ [X], upA ad X q, up2 (up1 (up2 v lr 0 (v lr 0 + 1)) X z32) lr 2 (nI 10 + 1), up2 (up2 (fun r' k => if r' = X then (if k < 10 then up1 o X nOp A k else up1 o X nOp X k) else up1 o X nOp r' k) lr 1 (some (upA ad X q X))) X 10 (some (upA ad X q (base + 10)))) lr X 10 base := by
  refine ⟨fun r h => ⟨List.mem_append_left _ h, upA_n (fun e => hX9 (e ▸ h))⟩, fun r h => (List.mem_append.mp h).imp id (fun z => ⟨List.mem_singleton.mp z, hX9⟩), List.mem_append_right _ (List.mem_singleton.mpr rfl), fun r h1 h2 => ?_, ?_, fun r h1 h2 => ?_, ?_, fun i hi => ?_⟩
  · show up2 (up1 (up2 v lr 0 (v lr 0 + 1)) X z32) lr 2 (nI 10 + 1) r = v r
    rw [up2_other h1, up1_n h2, up2_other h1]
  · exact up2_s.trans (nI_1 10)
  · show up2 (up2 (fun r' k => if r' = X then (if k < 10 then up1 o X nOp A k else up1 o X nOp X k) else up1 o X nOp r' k) lr 1 (some (upA ad X q X))) X 10 (some (upA ad X q (base + 10))) r = o r
    rw [up2_other h2, up2_other h1]
    funext k
    simp only [if_neg h2]
    rw [up1_n h2]
  · show up2 (up2 (fun r' k => if r' = X then (if k < 10 then up1 o X nOp A k else up1 o X nOp X k) else up1 o X nOp r' k) lr 1 (some (upA ad X q X))) X 10 (some (upA ad X q (base + 10))) lr 1 = _
    rw [up2_r hlX, up2_s]
  · show up2 (up2 (fun r' k => if r' = X then (if k < 10 then up1 o X nOp A k else up1 o X nOp X k) else up1 o X nOp r' k) lr 1 (some (upA ad X q X))) X 10 (some (upA ad X q (base + 10))) X i = _
    by_cases hi9 : i = 10
    · rw [hi9, up2_s]
    · rw [up2_k hi9, up2_r (fun e => hlX e.symm)]
      simp only [if_pos (show i < 10 by omega)]
      rw [up1_n hAX]
      simp only [if_true]
      rw [h.2.2 i (by omega)]
      exact congrArg some (upA_n (ad := ad) (r := X) (q := q) (r' := base + i) (fun e => hX9 (by rw [← e]; exact hbL i (by omega)))).symm
end AD
section AP
variable {td : Nat} {L L1 : List Nat} {ad ad1 : Nat → Nat} {v v1 : Nat → Nat → Int32} {o o1 : Nat → Nat → Option Nat} {ng nh nl ns : Nat} {ow gx gy gw gd : Nat → Nat}
/-- a list that nothing was done to, behind New -/
theorem LI.new1 {lr n A B base E : Nat} (h : LI L ad v o td lr n A B base) (hN : New L ad v o E L1 ad1 v1 o1) (v2 : Nat → Nat → Int32) (hv : ∀ r, r ≠ E → v2 r = v1 r) (h1 : lr ≠ E) (hA : A ≠ E) (hB : B ≠ E) : LI L1 ad1 v2 o1 td lr n A B base := by
  obtain ⟨a1, a2, a3, a4, a5, a6, a7⟩ := hN
  exact h.mono a1 a3 (by rw [hv _ h1, a4 _ h1]) (a6 _ h1) (a6 _ hA) (a6 _ hB)
theorem PI.addG {P : PW} {v2 : Nat → Nat → Int32} (h : PI td L ad v o ng nh nl ns ow gx gy gw gd) (hN : New L ad v o (50 + ng) L1 ad1 v1 o1) (hg : ng < 6) (hv : ∀ r, r ≠ 50 + ng → v2 r = v1 r) (hAd : Added L1 ad1 v2 o1 P 1 13 ng 50) : PI td P.1 P.2.1 P.2.2.1 P.2.2.2 (ng + 1) nh nl ns ow gx gy gw gd := by
  obtain ⟨a1, a2, a3, a4, a5, a6, a7, a8⟩ := id hN
  obtain ⟨b1, b2, b3, b4, b5, b6, b7, b8⟩ := hAd
  have vv : ∀ r, r ≠ 50 + ng → r ≠ 1 → r ≠ 13 → P.2.2.1 r = v r := fun r q1 q2 q3 => by rw [b4 r q2 q3, hv r q1, a4 r q1]
  have oo : ∀ r, r ≠ 50 + ng → r ≠ 1 → r ≠ 13 → P.2.2.2 r = o r := fun r q1 q2 q3 => by rw [b6 r q2 q3, a6 r q1]
  have h12 := h.h12
  refine h.mono (fun r q => (b1 r (a1 r q)).1) (fun r q => by rw [(b1 r (a1 r q)).2, a3 r q]) (oo 0 (by omega) (by omega) (by omega)) (oo 5 (by omega) (by omega) (by omega)) (oo 6 (by omega) (by omega) (by omega)) (by rw [vv 0 (by omega) (by omega) (by omega)])
    (h.lg.new1 hN v2 hv (by omega) (by omega) (by omega) |>.add (by omega) (fun r q => (b1 r q).1) (b1 _ a2).1 b5 (Or.inl ⟨by omega, rfl⟩) b3 b7 b8)
    (h.lh.mono (fun r q => (b1 r (a1 r q)).1) (fun r q => by rw [(b1 r (a1 r q)).2, a3 r q]) (by rw [vv 2 (by omega) (by omega) (by omega)]) (oo 2 (by omega) (by omega) (by omega)) (oo 14 (by omega) (by omega) (by omega)) (oo 16 (by omega) (by omega) (by omega)))
    (h.ll.mono (fun r q => (b1 r (a1 r q)).1) (fun r q => by rw [(b1 r (a1 r q)).2, a3 r q]) (by rw [vv 3 (by omega) (by omega) (by omega)]) (oo 3 (by omega) (by omega) (by omega)) (oo 15 (by omega) (by omega) (by omega)) (oo 17 (by omega) (by omega) (by omega)))
    (by omega) h.h12 h.l6 (fun i hi => ?_)
  obtain ⟨⟨q1, q2⟩, q3⟩ := h.hs i hi
  rw [vv (60 + i) (by omega) (by omega) (by omega)]
  exact ⟨⟨by omega, q2⟩, q3⟩
theorem PI.addL {P : PW} {v2 : Nat → Nat → Int32} (h : PI td L ad v o ng nh nl ns ow gx gy gw gd) (hN : New L ad v o (80 + nl) L1 ad1 v1 o1) (hg : nl < 6) (hv : ∀ r, r ≠ 80 + nl → v2 r = v1 r) (hAd : Added L1 ad1 v2 o1 P 3 15 nl 80) : PI td P.1 P.2.1 P.2.2.1 P.2.2.2 ng nh (nl + 1) ns ow gx gy gw gd := by
  obtain ⟨a1, a2, a3, a4, a5, a6, a7, a8⟩ := id hN
  obtain ⟨b1, b2, b3, b4, b5, b6, b7, b8⟩ := hAd
  have vv : ∀ r, r ≠ 80 + nl → r ≠ 3 → r ≠ 15 → P.2.2.1 r = v r := fun r q1 q2 q3 => by rw [b4 r q2 q3, hv r q1, a4 r q1]
  have oo : ∀ r, r ≠ 80 + nl → r ≠ 3 → r ≠ 15 → P.2.2.2 r = o r := fun r q1 q2 q3 => by rw [b6 r q2 q3, a6 r q1]
  have h12 := h.h12; have h6 := h.g6
  refine h.mono (fun r q => (b1 r (a1 r q)).1) (fun r q => by rw [(b1 r (a1 r q)).2, a3 r q]) (oo 0 (by omega) (by omega) (by omega)) (oo 5 (by omega) (by omega) (by omega)) (oo 6 (by omega) (by omega) (by omega)) (by rw [vv 0 (by omega) (by omega) (by omega)])
    (h.lg.mono (fun r q => (b1 r (a1 r q)).1) (fun r q => by rw [(b1 r (a1 r q)).2, a3 r q]) (by rw [vv 1 (by omega) (by omega) (by omega)]) (oo 1 (by omega) (by omega) (by omega)) (oo 13 (by omega) (by omega) (by omega)) (oo 19 (by omega) (by omega) (by omega)))
    (h.lh.mono (fun r q => (b1 r (a1 r q)).1) (fun r q => by rw [(b1 r (a1 r q)).2, a3 r q]) (by rw [vv 2 (by omega) (by omega) (by omega)]) (oo 2 (by omega) (by omega) (by omega)) (oo 14 (by omega) (by omega) (by omega)) (oo 16 (by omega) (by omega) (by omega)))
    (h.ll.new1 hN v2 hv (by omega) (by omega) (by omega) |>.add (by omega) (fun r q => (b1 r q).1) (b1 _ a2).1 b5 (Or.inl ⟨by omega, rfl⟩) b3 b7 b8)
    h.g6 h.h12 (by omega) (fun i hi => ?_)
  have q := h.hs i hi
  rw [vv (60 + i) (by omega) (by omega) (by omega)]
  exact q
theorem PI.addH {P : PW} {v2 : Nat → Nat → Int32} {X g x y wd dp : Nat} (h : PI td L ad v o ng nh nl ns ow gx gy gw gd) (hN : New L ad v o (60 + nh) L1 ad1 v1 o1) (hn : nh < 12) (hv : ∀ r, r ≠ 60 + nh → v2 r = v1 r) (hX : (nh < 10 ∧ X = 14) ∨ (10 ≤ nh ∧ X = 16)) (hAd : Added L1 ad1 v2 o1 P 2 X nh 60)
    (hgeo : g < ng ∧ x + wd ≤ 20 ∧ y + dp ≤ 20 ∧ 1 ≤ wd ∧ wd ≤ 6 ∧ 1 ≤ dp ∧ dp ≤ 6) (hvals : v2 (60 + nh) 0 = nI g ∧ v2 (60 + nh) 1 = nI x ∧ v2 (60 + nh) 2 = nI y ∧ v2 (60 + nh) 3 = nI wd ∧ v2 (60 + nh) 4 = nI dp) : PI td P.1 P.2.1 P.2.2.1 P.2.2.2 ng (nh + 1) nl ns (up1 ow nh g) (up1 gx nh x) (up1 gy nh y) (up1 gw nh wd) (up1 gd nh dp) := by
  obtain ⟨a1, a2, a3, a4, a5, a6, a7, a8⟩ := id hN
  obtain ⟨b1, b2, b3, b4, b5, b6, b7, b8⟩ := hAd
  have h12 := h.h12; have h6 := h.g6
  have hX9 : X = 14 ∨ X = 16 := by omega
  have vv : ∀ r, r ≠ 60 + nh → r ≠ 2 → r ≠ 14 → r ≠ 16 → P.2.2.1 r = v r := fun r q1 q2 q3 q4 => by rw [b4 r q2 (by omega), hv r q1, a4 r q1]
  have oo : ∀ r, r ≠ 60 + nh → r ≠ 2 → r ≠ 14 → r ≠ 16 → P.2.2.2 r = o r := fun r q1 q2 q3 q4 => by rw [b6 r q2 (by omega), a6 r q1]
  refine h.mono (fun r q => (b1 r (a1 r q)).1) (fun r q => by rw [(b1 r (a1 r q)).2, a3 r q]) (oo 0 (by omega) (by omega) (by omega) (by omega)) (oo 5 (by omega) (by omega) (by omega) (by omega)) (oo 6 (by omega) (by omega) (by omega) (by omega)) (by rw [vv 0 (by omega) (by omega) (by omega) (by omega)])
    (h.lg.mono (fun r q => (b1 r (a1 r q)).1) (fun r q => by rw [(b1 r (a1 r q)).2, a3 r q]) (by rw [vv 1 (by omega) (by omega) (by omega) (by omega)]) (oo 1 (by omega) (by omega) (by omega) (by omega)) (oo 13 (by omega) (by omega) (by omega) (by omega)) (oo 19 (by omega) (by omega) (by omega) (by omega)))
    (h.lh.new1 hN v2 hv (by omega) (by omega) (by omega) |>.add (by omega) (fun r q => (b1 r q).1) (b1 _ a2).1 b5 hX b3 b7 b8)
    (h.ll.mono (fun r q => (b1 r (a1 r q)).1) (fun r q => by rw [(b1 r (a1 r q)).2, a3 r q]) (by rw [vv 3 (by omega) (by omega) (by omega) (by omega)]) (oo 3 (by omega) (by omega) (by omega) (by omega)) (oo 15 (by omega) (by omega) (by omega) (by omega)) (oo 17 (by omega) (by omega) (by omega) (by omega)))
    h.g6 (by omega) h.l6 (fun i hi => ?_)
  by_cases hi9 : i = nh
  · subst hi9
    rw [up1_s, up1_s, up1_s, up1_s, up1_s, b4 (60 + i) (by omega) (by omega)]
    exact ⟨hgeo, hvals⟩
  · rw [up1_n hi9, up1_n hi9, up1_n hi9, up1_n hi9, up1_n hi9, vv (60 + i) (by omega) (by omega) (by omega) (by omega)]
    exact h.hs i (by omega)
end AP
section QNN
variable {p : Program} {l : Launch} {e : Env} {R : Room} {s : State} {m : MethodId} {args : Array Value} {below : List Frame} {meth : Method} {c : Code} {H : Heap} {locs : List Loc} {cells slots : Nat} {Q : State → Prop}
variable {cc : ByteArray} {pc : Nat} {ls : Array Slot} {rest : List Value} {G : GG} {L : List Nat} {ad : Nat → Nat} {v : Nat → Nat → Int32} {o : Nat → Nat → Option Nat} {w : Nat → Int64} {own : String} {index ci : Nat} {C : String} {T : u_T} {N : Nat} {ty : Nat → FieldType}
/-- new, and what is known of the world behind it -/
theorem q_newN (hx : p.tables.exec = Jvm.exec) (hb : c.code = cc) (hts : ∀ w ∈ wT, w.before args s = true) (hown : s.vm.findClass own = some m.cls) (h0 : G.2.2.1 ≤ s.heap.size) (hW : WD G L ad v o w s H) (hS : va_S (Ab G.2.2.1) s.heap H locs) (r : Nat) (hr : r ∉ L) (hk : kd r = ci) (K : KC ci C T N ty) (hcl : Cond.classLink own index C ∈ wT) (hin : Cond.instantiable C N ∈ wT) (hini : Cond.initialized C ∈ wT) (hdef : ∀ j, j < N → defaultValue (ty j) = vp_V (gF ci z32 nOp) j) (hc : cells + 1 ≤ R.cells) (hs : slots + N ≤ R.slots) (hdg : decode cc pc = .ok (.new index, 3))
    (kk : ∀ (L1 : List Nat) (ad1 : Nat → Nat) (v1 : Nat → Nat → Int32) (o1 : Nat → Nat → Option Nat) (H1 : Heap), New L ad v o r L1 ad1 v1 o1 → WD G L1 ad1 v1 o1 w s H1 → va_S (Ab G.2.2.1) s.heap H1 locs → W p l e R s m args below meth c H1 locs (cells + 1) (slots + N) Q (F0 m (pc + 3) ls (.ref (ad1 r) :: rest))) : W p l e R s m args below meth c H locs cells slots Q (F0 m pc ls rest) :=
  q_new hx hb hts hown h0 hW hS r hr hk K hcl hin hini hdef hc hs hdg (fun ad1 H1 q had hW1 hS1 => kk _ _ _ _ H1 (by rw [had]; exact New.of hr) hW1 hS1)
end QNN
theorem def_G : ∀ j, j < 8 → defaultValue (tyX0 j) = vp_V (gF 1 z32 nOp) j := by
  intro j hj
  match j, hj with
  | 0, _ => rfl
  | 1, _ => rfl
  | 2, _ => rfl
  | 3, _ => rfl
  | 4, _ => rfl
  | 5, _ => rfl
  | 6, _ => rfl
  | 7, _ => rfl
theorem def_H : ∀ j, j < 8 → defaultValue (tyX1 j) = vp_V (gF 2 z32 nOp) j := by
  intro j hj
  match j, hj with
  | 0, _ => rfl
  | 1, _ => rfl
  | 2, _ => rfl
  | 3, _ => rfl
  | 4, _ => rfl
  | 5, _ => rfl
  | 6, _ => rfl
  | 7, _ => rfl
theorem def_L : ∀ j, j < 5 → defaultValue (tyX2 j) = vp_V (gF 3 z32 nOp) j := by
  intro j hj
  match j, hj with
  | 0, _ => rfl
  | 1, _ => rfl
  | 2, _ => rfl
  | 3, _ => rfl
  | 4, _ => rfl
theorem def_S : ∀ j, j < 7 → defaultValue (tyX3 j) = vp_V (gF 4 z32 nOp) j := by
  intro j hj
  match j, hj with
  | 0, _ => rfl
  | 1, _ => rfl
  | 2, _ => rfl
  | 3, _ => rfl
  | 4, _ => rfl
  | 5, _ => rfl
  | 6, _ => rfl
theorem itr_inv {α β : Type} {f : Nat → α → α} {p : α → β} {a : α} : ∀ {n : Nat}, (∀ i u, i < n → p (f i u) = p u) → p (itr f n a) = p a
  | 0, _ => rfl
  | n + 1, h => (h n _ (Nat.lt_succ_self n)).trans (itr_inv (n := n) (fun i u hi => h i u (by omega)))
theorem mkW_o {v : Nat → Nat → Int32} {gx gy gw gd : Nat → Nat} {h r : Nat} (hr : r ≠ 4) : mkW v gx gy gw gd h r = v r :=
  itr_inv (p := fun (u : Nat → Nat → Int32) => u r) (fun _ _ _ => itr_inv (p := fun (u : Nat → Nat → Int32) => u r) (fun _ _ _ => up2_other hr))
theorem itr_rel {α : Type} {f g : Nat → α → α} {R : α → α → Prop} {a b : α} : ∀ {n : Nat}, R a b → (∀ i u w, i < n → R u w → R (f i u) (g i w)) → R (itr f n a) (itr g n b)
  | 0, h, _ => h
  | n + 1, h, k => k n _ _ (Nat.lt_succ_self n) (itr_rel (n := n) h (fun i u w hi => k i u w (by omega)))
theorem mkW_4 {u v : Nat → Nat → Int32} {gx gy gw gd : Nat → Nat} {h : Nat} (e : u 4 = v 4) : mkW u gx gy gw gd h 4 = mkW v gx gy gw gd h 4 :=
  itr_rel (R := fun (a b : Nat → Nat → Int32) => a 4 = b 4) e (fun _ _ _ _ q => itr_rel (R := fun (a b : Nat → Nat → Int32) => a 4 = b 4) q (fun _ a b _ q => by funext k; have := congrFun q k; unfold up2; rw [this]))
