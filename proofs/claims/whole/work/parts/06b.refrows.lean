/-! rows for the reference's walks -/
theorem ix_add {x y : Int32} {a b : Nat} (hx : x = nI a) (hy : y = nI b) : x + y = nI (a + b) := by rw [hx, hy, nI_add]
theorem ix_mul {x y : Int32} {a b : Nat} (hx : x = nI a) (hy : y = nI b) : x * y = nI (a * b) := by rw [hx, hy, pk_mul]
theorem far2_b {x y X Y : Int} (h1 : -1000 ≤ x) (h2 : x ≤ 1000) (h3 : -1000 ≤ y) (h4 : y ≤ 1000) (h5 : -1000 ≤ X) (h6 : X ≤ 1000) (h7 : -1000 ≤ Y) (h8 : Y ≤ 1000) : 0 ≤ far2 x y X Y ∧ far2 x y X Y ≤ 2000 := by
  unfold far2 dist1
  split <;> split <;> omega
theorem hh_far2 {x y : Nat} {X Y : Int} {a b : Nat} (hx : x + b < 1000) (hy : y + a < 1000) (h1 : -1000 ≤ X) (h2 : X ≤ 1000) (h3 : -1000 ≤ Y) (h4 : Y ≤ 1000) : imax (iabs (nI x + nI b - iI X)) (iabs (nI y + nI a - iI Y)) = iI (far2 ((x : Int) + (b : Int)) ((y : Int) + (a : Int)) X Y) := by
  rw [nI_add, nI_add]
  exact hh_far hx hy h1 h2 h3 h4
theorem rIn_s {P : Prop} {a x : Int32} [Decidable P] (h : P) : a + x = a + (if P then x else 0) := by rw [if_pos h]
section QZ
variable {p : Program} {l : Launch} {e : Env} {R : Room} {s : State} {m : MethodId} {args : Array Value} {below : List Frame} {meth : Method} {c : Code} {H : Heap} {locs : List Loc} {cells slots : Nat} {Q : State → Prop}
variable {cc : ByteArray} {pc : Nat} {ls : Array Slot} {rest : List Value} {G : GG} {L : List Nat} {ad : Nat → Nat} {v : Nat → Nat → Int32} {o : Nat → Nat → Option Nat} {w : Nat → Int64} {own : String} {index nL : Nat}
theorem q_copyz (hx : p.tables.exec = Jvm.exec) (hb : c.code = cc) (hml : c.maxLocals = nL) (hls : ls.size = nL) (hts : ∀ w ∈ wT, w.before args s = true) (hown : s.vm.findClass own = some m.cls) (hM : MCopy) (hl : Cond.methodLink own index arraycopyName ∈ wT) (hW : WD G L ad v o w s H) (hS : va_S (Ab G.2.2.1) s.heap H locs) {r0 r1 : Nat} (hm0 : r0 ∈ L) (hm1 : r1 ∈ L) (hk0 : kd r0 = 10) (hk1 : kd r1 = 10) {x0 x1 x2 : Int32} (n : Nat) (e0 : x0 = nI 0) (e1 : x1 = nI 0) (e2 : x2 = nI n) (h4 : n ≤ ln r0) (h5 : n ≤ ln r1) (h6 : ln r0 < 2 ^ 31) (h7 : ln r1 < 2 ^ 31) (h01 : ∀ i, i < n → v r0 i = 0 ∨ v r0 i = 1)
    (hf : 1 ≤ R.frames) (hlo : (rest.map fun v => v.category).sum + 30 ≤ R.locals) (hdg : decode cc pc = .ok (.invokestatic index, 3))
    (kk : ∀ (H1 : Heap) (locs1 : List Loc), WD G L ad (cpy2 v r0 r1 0 0 n) o w s H1 → va_S (Ab G.2.2.1) s.heap H1 locs1 → W p l e R s m args below meth c H1 locs1 cells slots Q (F0 m (pc + 3) ls rest)) : W p l e R s m args below meth c H locs cells slots Q (F0 m pc ls (.int x2 :: .int x1 :: .ref (ad r1) :: .int x0 :: .ref (ad r0) :: rest)) := by
  obtain ⟨q0, g1, g2⟩ := hW.atz hm0 hk0
  obtain ⟨q1, g3, g4⟩ := hW.atz hm1 hk1
  have c0 : x0.toNatClampNeg = 0 := by rw [e0]; exact nI_clamp (by omega)
  have c1 : x1.toNatClampNeg = 0 := by rw [e1]; exact nI_clamp (by omega)
  have c2 : x2.toNatClampNeg = n := by rw [e2]; exact nI_clamp (by omega)
  refine va_copyi hx hb (hml.trans hls.symm) hown (hts _ hl) (hts _ hM.1) (hts _ hM.2.1) (hts _ hM.2.2) hW.2.2.2 hW.1 hW.2.1 hS q0 q1 1 1 g2 g4 rfl rfl rfl (by rw [e0]; exact nI_pos (by omega)) (by rw [e1]; exact nI_pos (by omega)) (by rw [e2]; exact nI_pos (by omega)) (by rw [c0, c2]; omega) (by rw [c1, c2]; omega) (fun i hi => by rw [c0]; rw [c2] at hi; rw [Nat.zero_add]; exact fitZ (h01 i hi)) hf (Nat.le_trans (Nat.add_le_add_left (by decide +kernel) _) hlo) hdg (fun H1 l1 hP hD hS1 => kk H1 l1 (hW.cpy (r0 := r0) (sp := 0) (dp := 0) (n := n) g3 ?_ hP hD) hS1)
  rw [hk1, c0, c1, c2]; rfl
end QZ
theorem rIn_a {F G : Nat → Int32} {a N : Nat} {P : Prop} [Decidable P] (hz : 0 < N) (h : N = 0 ∨ P) (hF : F a = if P then sumI G N else 0) : sumI F (a + 1) = sumI F a + sumI G N := by
  rw [sumI_s, hF, if_pos (h.resolve_left (by omega))]
theorem rIn_b {F G : Nat → Int32} {a N k : Nat} {P : Prop} [Decidable P] (h : k = 0 ∨ P) (hn : ¬ P) (hF : F a = if P then sumI G N else 0) : sumI F (a + 1) = sumI F a + sumI G k := by
  rw [sumI_s, hF, if_neg hn, h.resolve_right hn]
  rfl
theorem rY_0 {B nh g : Nat} {gw gd : Nat → Nat} {t : (Nat → Nat → Int32) × Int32} (h : t.1 (B + 2) (3 * g + 1) = 0) : rY B gw gd nh g t = t := if_pos h
theorem rY_1 {B nh g : Nat} {gw gd : Nat → Nat} {t : (Nat → Nat → Int32) × Int32} (h : ¬ t.1 (B + 2) (3 * g + 1) = 0) : rY B gw gd nh g t =
  (let p := imin (t.1 (B + 1) g) (rVals t.1 B gw gd nh (nI g) * t.1 (B + 2) (3 * g + 2) / 1000 * t.1 (B + 3) g / 100)
  let v1 := up2 t.1 (B + 1) g (t.1 (B + 1) g - p)
  (up2 v1 (B + 3) g (if 0 < v1 (B + 4) g then imin 200 (v1 (B + 3) g + 20) else imax 50 (v1 (B + 3) g - 10)), t.2 + p)) := if_neg h
