/-! mend: the relation stays -/
section MD
variable {ow gx gy gw gd : Nat → Nat} {ng nh nl ns : Nat} {x y : Nat → Nat → Int32}
theorem put_in {r : Nat} {p : Nat → Nat} {v : Nat → Nat → Int32} {k : Nat} : ∀ {n : Nat}, k < n → itr (fun k u => up2 u r (p k) 0) n v r (p k) = 0
  | n + 1, hk => by
    rw [itr_s, up2_at]
    by_cases e : p k = p n
    · rw [if_pos ⟨rfl, e⟩]
    · rw [if_neg (fun q => e q.2)]
      exact put_in (n := n) (by
        rcases Nat.lt_or_ge k n with q | q
        · exact q
        · exact absurd (by rw [show k = n by omega]) e)
theorem put_out {r r' k' : Nat} {p : Nat → Nat} {v : Nat → Nat → Int32} : ∀ {n : Nat}, (r' = r → ∀ k, k < n → p k ≠ k') → itr (fun k u => up2 u r (p k) 0) n v r' k' = v r' k'
  | 0, _ => rfl
  | n + 1, h => by
    rw [itr_s, up2_at, if_neg (fun q => h q.1 n (by omega) q.2.symm)]
    exact put_out (n := n) (fun e k hk => h e k (by omega))
theorem mkW_one {v : Nat → Nat → Int32} {h : Nat} : mkW v gx gy gw gd h = itr (fun k u => up2 u 4 (cel gx gy gw h k) 0) (gw h * gd h) v := by
  unfold mkW
  rw [itr_nest (F := fun i j u => up2 u 4 ((gy h + i) * 20 + (gx h + j)) 0), Nat.mul_comm]
  rfl
theorem RVl.mend {h : Nat} {c : Int32} (hR : RVl ow gx gy gw gd ng nh nl ns 101 110 x y) (hD : GDj gx gy gw gd nh) (hZ : GSz ow gx gy gw gd ng nh) (hg : ng ≤ 6) (hn : nh ≤ 12) (hl : nl ≤ 6) (hs : ns ≤ 30) (hh : h < nh) :
    RVl ow gx gy gw gd ng nh nl ns 101 110 (mkW (up2 x (50 + ow h) 0 c) gx gy gw gd h) (itr (fun k u => up2 u 119 (36 * h + k) 0) (gw h * gd h) (up2 y 111 (ow h) c)) := by
  obtain ⟨rG, rS, rL, rP, r6, r8, rT, rO⟩ := hR
  have how := (hZ h hh).1
  rw [mkW_one]
  have e1 : ∀ r k, r ≠ 4 → ¬ (r = 50 + ow h ∧ k = 0) → itr (fun k u => up2 u 4 (cel gx gy gw h k) 0) (gw h * gd h) (up2 x (50 + ow h) 0 c) r k = x r k := fun r k a b => by rw [put_out (fun q => absurd q a), up2_at, if_neg b]
  have e2 : ∀ r k, r ≠ 119 → ¬ (r = 111 ∧ k = ow h) → itr (fun k u => up2 u 119 (36 * h + k) 0) (gw h * gd h) (up2 y 111 (ow h) c) r k = y r k := fun r k a b => by rw [put_out (p := fun k => 36 * h + k) (fun q => absurd q a), up2_at, if_neg b]
  refine ⟨fun i hi => ?_, fun i hi => ?_, fun k hk j hj => ?_, fun a b a9 b9 => ?_, ?_, ?_, fun s hs9 k hk => ?_, fun c9 hc => ?_⟩
  · obtain ⟨g0, g2, g3, g4, g5, g6, g7, g1⟩ := rG i hi
    refine ⟨?_, ?_, ?_, ?_, ?_, ?_, ?_, ?_⟩
    · rw [put_out (fun q => absurd q (by omega)), up2_at, put_out (p := fun k => 36 * h + k) (fun q => absurd q (by omega)), up2_at]
      by_cases e : i = ow h
      · rw [if_pos ⟨by omega, rfl⟩, if_pos ⟨rfl, e⟩]
      · rw [if_neg (by omega), if_neg (fun q => e q.2)]; exact g0
    · rw [e1 _ _ (by omega) (by omega), e2 _ _ (by omega) (by omega)]; exact g2
    · rw [e1 _ _ (by omega) (by omega), e2 _ _ (by omega) (by omega)]; exact g3
    · rw [e1 _ _ (by omega) (by omega), e2 _ _ (by omega) (by omega)]; exact g4
    · rw [e1 _ _ (by omega) (by omega), e2 _ _ (by omega) (by omega)]; exact g5
    · rw [e1 _ _ (by omega) (by omega), e2 _ _ (by omega) (by omega)]; exact g6
    · rw [e1 _ _ (by omega) (by omega), e2 _ _ (by omega) (by omega)]; exact g7
    · rw [e1 _ _ (by omega) (by omega), e2 _ _ (by omega) (by omega)]; exact g1
  · rw [e1 _ _ (by omega) (by omega), e1 _ _ (by omega) (by omega), e1 _ _ (by omega) (by omega), e2 (110 + 7) _ (by omega) (by omega), e2 (110 + 7) _ (by omega) (by omega), e2 (110 + 7) _ (by omega) (by omega), e2 (110 + 8) _ (by omega) (by omega)]
    exact rS i hi
  · rw [e1 _ _ (by omega) (by omega), e2 _ _ (by omega) (by omega)]; exact rL k hk j hj
  · show itr (fun k u => up2 u 4 (cel gx gy gw h k) 0) (gw h * gd h) (up2 x (50 + ow h) 0 c) 4 (cel gx gy gw a b) = itr (fun k u => up2 u 119 (36 * h + k) 0) (gw h * gd h) (up2 y 111 (ow h) c) 119 (36 * a + b) ∧ (itr (fun k u => up2 u 119 (36 * h + k) 0) (gw h * gd h) (up2 y 111 (ow h) c) 119 (36 * a + b) = 0 ∨ itr (fun k u => up2 u 119 (36 * h + k) 0) (gw h * gd h) (up2 y 111 (ow h) c) 119 (36 * a + b) = 1 ∨ itr (fun k u => up2 u 119 (36 * h + k) 0) (gw h * gd h) (up2 y 111 (ow h) c) 119 (36 * a + b) = 2)
    have m1 := hZ.m hh
    have m2 := hZ.m a9
    by_cases e : a = h
    · subst e
      rw [put_in (p := fun k => cel gx gy gw a k) b9, put_in (p := fun k => 36 * a + k) b9]
      exact ⟨rfl, Or.inl rfl⟩
    · rw [put_out (fun _ k hk q => e (hD h k a b hh hk a9 b9 q).1.symm), put_out (p := fun k => 36 * h + k) (fun _ k hk q => by have q : 36 * h + k = 36 * a + b := q; omega), up2_at, if_neg (by omega), up2_at, if_neg (by omega)]
      exact rP a b a9 b9
  · rw [e1 _ _ (by omega) (by omega), e2 _ _ (by omega) (by omega)]; exact r6
  · rw [e1 _ _ (by omega) (by omega), e2 _ _ (by omega) (by omega)]; exact r8
  · rw [e1 _ _ (by omega) (by omega), e2 _ _ (by omega) (by omega)]; exact rT s hs9 k hk
  · rw [put_out (fun _ k hk => hc.2 h k hh hk), up2_at, if_neg (by omega)]
    exact rO c9 hc
end MD
