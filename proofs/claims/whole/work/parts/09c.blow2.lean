/-! the whole storm over the land -/
section BM
variable {ow gx gy gw gd : Nat → Nat} {ng nh B : Nat} {rad : Int} {F : Int32}
def JB (ow gx gy gw gd : Nat → Nat) (ng nh B : Nat) (x0 y0 x y : Nat → Nat → Int32) : Prop := TB ow gx gy gw gd ng nh B x y ∧ SCo ow nh B x y ∧ Fx x0 x ∧ Fy B y0 y
theorem hail_eq {F f n5 : Int32} {P : Prop} [Decidable P] : (if P then F else F - 5) - f = F - f - (if P then 0 else 5) := by
  by_cases c : P
  · rw [if_pos c, if_pos c]; grind
  · rw [if_neg c, if_neg c]; grind
theorem hail_sim {x0 y0 x y : Nat → Nat → Int32} {h k : Nat} {X Y : Int} {F' : Int32} (hD : GDj gx gy gw gd nh) (hZ : GSz ow gx gy gw gd ng nh) (hg : ng ≤ 6) (hn : nh ≤ 12) (hh : h < nh) (hk : k < gw h * gd h) (hF : F' = if y0 (B + 8) h = 0 then F else F - 5) (J : JB ow gx gy gw gd ng nh B x0 y0 x y) :
    JB ow gx gy gw gd ng nh B x0 y0 (uHail x ow gx gy rad F' h X Y (k / gw h) (k % gw h)) (rHail y B gx gy gw rad F h X Y k) := by
  obtain ⟨T, S, f1, f2⟩ := J
  unfold uHail rHail
  by_cases c : far2 ((gx h : Int) + ((k % gw h : Nat) : Int)) ((gy h : Int) + ((k / gw h : Nat) : Int)) X Y ≤ rad
  · rw [if_pos c, if_pos c, hF, f2 (B + 8) h (by omega) (by omega), ← hail_eq (n5 := 0)]
    obtain ⟨a, b, d⟩ := hit_sim (hail := (if y0 (B + 8) h = 0 then F else F - 5) - 2 * iI (far2 ((gx h : Int) + ((k % gw h : Nat) : Int)) ((gy h : Int) + ((k / gw h : Nat) : Int)) X Y)) hD hZ hg hn hh hk S T
    exact ⟨a, S.mv b d hn, f1.tr b, f2.tr d⟩
  · rw [if_neg c, if_neg c]
    exact ⟨T, S, f1, f2⟩
theorem house_sim {x0 y0 x y : Nat → Nat → Int32} {h : Nat} {X Y : Int} (hD : GDj gx gy gw gd nh) (hZ : GSz ow gx gy gw gd ng nh) (hg : ng ≤ 6) (hn : nh ≤ 12) (hh : h < nh) (J : JB ow gx gy gw gd ng nh B x0 y0 x y) :
    JB ow gx gy gw gd ng nh B x0 y0 (uHouse x ow gx gy gw gd rad F h X Y) (rHouse y B gx gy gw gd rad F h X Y) := by
  have hF : fNet x F h = if y0 (B + 8) h = 0 then F else F - 5 := by
    unfold fNet
    rw [(J.2.1 h hh).2.2.1, J.2.2.2 (B + 8) h (by omega) (by omega)]
  unfold uHouse rHouse
  rw [itr_nest (F := fun i j u => uHail u ow gx gy rad (fNet x F h) h X Y i j), Nat.mul_comm]
  exact itr_sim (fun _ a b => JB ow gx gy gw gd ng nh B x0 y0 a b) J (fun k a b hk q => hail_sim hD hZ hg hn hh hk hF q)
theorem step_sim {x0 y0 x y : Nat → Nat → Int32} {X Y : Int} (hD : GDj gx gy gw gd nh) (hZ : GSz ow gx gy gw gd ng nh) (hg : ng ≤ 6) (hn : nh ≤ 12) (J : JB ow gx gy gw gd ng nh B x0 y0 x y) :
    JB ow gx gy gw gd ng nh B x0 y0 (uStep x ow gx gy gw gd nh rad F X Y) (rStep y B gx gy gw gd nh rad F X Y) :=
  itr_sim (fun _ a b => JB ow gx gy gw gd ng nh B x0 y0 a b) J (fun h a b hh q => house_sim hD hZ hg hn hh q)
theorem up2_at {v : Nat → Nat → Int32} {r k r' k' : Nat} {x : Int32} : up2 v r k x r' k' = if r' = r ∧ k' = k then x else v r' k' := rfl
theorem itr_set {r : Nat} {c : Nat → Int32} {v : Nat → Nat → Int32} : ∀ {n : Nat} {r' k' : Nat}, itr (fun k u => up2 u r k (c k)) n v r' k' = if r' = r ∧ k' < n then c k' else v r' k'
  | 0, r', k' => by rw [if_neg (by omega)]; rfl
  | n + 1, r', k' => by
    rw [itr_s, up2_at]
    by_cases e : r' = r ∧ k' = n
    · rw [if_pos e, if_pos (by omega), e.2]
    · rw [if_neg e]
      rw [itr_set (n := n)]
      by_cases e2 : r' = r ∧ k' < n
      · rw [if_pos e2, if_pos (by omega)]
      · rw [if_neg e2, if_neg (by omega)]
theorem cpy2_hi {v : Nat → Nat → Int32} {a b k n : Nat} (hk : ¬ k < n) : cpy2 v a b 0 0 n b k = v b k := by
  unfold cpy2 va_cpy
  rw [if_pos rfl, if_neg (by omega)]
theorem rBy_congr {y y' : Nat → Nat → Int32} {g : Int32} (h7 : ∀ j, y' (B + 7) j = y (B + 7) j) (h9 : ∀ j, y' (B + 9) j = y (B + 9) j) : rBy y' B gw gd nh g = rBy y B gw gd nh g := by
  unfold rBy rLost rVal
  simp only [h7, h9]
theorem before_at {y : Nat → Nat → Int32} : ∀ {n r k : Nat}, itr (fun g u => up2 u (B + 17) g (rBy u B gw gd nh (nI g))) n y r k = if r = B + 17 ∧ k < n then rBy y B gw gd nh (nI k) else y r k
  | 0, r, k => by rw [if_neg (by omega)]; rfl
  | n + 1, r, k => by
    rw [itr_s, up2_at]
    by_cases e : r = B + 17 ∧ k = n
    · rw [if_pos e, if_pos (by omega), rBy_congr (y := y) (fun j => by rw [before_at (n := n), if_neg (by omega)]) (fun j => by rw [before_at (n := n), if_neg (by omega)]), e.2]
    · rw [if_neg e]
      rw [before_at (n := n)]
      by_cases e2 : r = B + 17 ∧ k < n
      · rw [if_pos e2, if_pos (by omega)]
      · rw [if_neg e2, if_neg (by omega)]
theorem cel_lt {h k : Nat} (hZ : GSz ow gx gy gw gd ng nh) (hh : h < nh) (hk : k < gw h * gd h) : cel gx gy gw h k < 400 := by
  obtain ⟨_, a, b, c, _, _, _⟩ := hZ h hh
  have h1 : k % gw h < gw h := Nat.mod_lt _ (by omega)
  have h2 : k / gw h < gd h := (Nat.div_lt_iff_lt_mul (by omega)).mpr (by rw [Nat.mul_comm]; exact hk)
  unfold cel
  omega
theorem sumI_zero {f : Nat → Int32} : ∀ {n : Nat}, (∀ i, i < n → f i = 0) → sumI f n = 0
  | 0, _ => rfl
  | n + 1, h => by
    rw [sumI_s, sumI_zero (n := n) (fun i hi => h i (by omega)), h n (by omega)]
    rfl
/-- what the trial begins with -/
theorem begin_at {v : Nat → Nat → Int32} {r k : Nat} : uBegin v r k = if r = 12 ∧ k < 6 then 0 else if r = 8 ∧ k < 6 then 0 else cpy2 v 4 7 0 0 400 r k := by
  unfold uBegin
  rw [itr_set (c := fun _ => 0), itr_set (c := fun _ => 0)]
theorem blow_begin {x y : Nat → Nat → Int32} (hZ : GSz ow gx gy gw gd ng nh) (hg : ng ≤ 6) (hn : nh ≤ 12) (hP : PanR gx gy gw gd nh (x 4) (y (B + 9))) (hS : SCo ow nh B x y) :
    JB ow gx gy gw gd ng nh B (uBegin x) (rBefore y B gw gd ng nh) (uBegin x) (rBefore y B gw gd ng nh) ∧ (∀ r k, r ≠ 7 → r ≠ 8 → r ≠ 12 → uBegin x r k = x r k) ∧ (∀ r k, r ≠ B + 16 → r ≠ B + 17 → rBefore y B gw gd ng nh r k = y r k) ∧ (∀ k, k < 6 → rBefore y B gw gd ng nh (B + 16) k = 0) ∧ (∀ k, k < 6 → uBegin x 12 k = 0) := by
  have hc : ∀ r k, cpy2 x 4 7 0 0 400 r k = if r = 7 ∧ k < 400 then x 4 k else x r k := fun r k => by
    by_cases e : r = 7 ∧ k < 400
    · rw [if_pos e, e.1, cpy2_h e.2]
    · rw [if_neg e]
      by_cases e2 : r = 7
      · rw [e2, cpy2_hi (by omega)]
      · rw [cpy2_o e2]
  have f1 : ∀ r k, r ≠ 7 → r ≠ 8 → r ≠ 12 → uBegin x r k = x r k := fun r k a b c => by rw [begin_at, if_neg (by omega), if_neg (by omega), hc, if_neg (by omega)]
  have f2 : ∀ r k, r ≠ B + 16 → r ≠ B + 17 → rBefore y B gw gd ng nh r k = y r k := fun r k a b => by
    unfold rBefore
    rw [before_at, if_neg (by omega), itr_set (c := fun _ => 0), if_neg (by omega)]
  have f3 : ∀ k, k < 6 → rBefore y B gw gd ng nh (B + 16) k = 0 := fun k hk => by
    unfold rBefore
    rw [before_at, if_neg (by omega), itr_set (c := fun _ => 0), if_pos (by omega)]
  have f4 : ∀ k, k < 6 → uBegin x 12 k = 0 := fun k hk => by rw [begin_at, if_pos ⟨rfl, hk⟩]
  have f5 : ∀ k, k < 6 → uBegin x 8 k = 0 := fun k hk => by rw [begin_at, if_neg (by omega), if_pos ⟨rfl, hk⟩]
  refine ⟨⟨⟨fun h k hh hk => ?_, by rw [f4 0 (by omega), f3 0 (by omega)], by rw [f4 1 (by omega), f3 1 (by omega)], fun g hgl => ?_, ?_⟩, fun h hh => ?_, Fx.rf, Fy.rf⟩, f1, f2, f3, f4⟩
  · rw [begin_at, if_neg (by omega), if_neg (by omega), hc, if_pos ⟨rfl, cel_lt hZ hh hk⟩, f2 _ _ (by omega) (by omega)]
    exact hP h k hh hk
  · rw [f5 g (by omega), rBy_congr (y := y) (fun j => f2 _ _ (by omega) (by omega)) (fun j => f2 _ _ (by omega) (by omega))]
    unfold rBefore
    rw [before_at, if_pos ⟨rfl, hgl⟩, rBy_congr (y := y) (y' := itr (fun k u => up2 u (B + 16) k 0) 6 y) (fun j => by rw [itr_set (c := fun _ => 0), if_neg (by omega)]) (fun j => by rw [itr_set (c := fun _ => 0), if_neg (by omega)])]
    grind
  · rw [f4 2 (by omega), sumI_zero (fun i hi => f5 i (by omega))]
  · obtain ⟨a, b, c, d⟩ := hS h hh
    rw [f1 _ _ (by omega) (by omega) (by omega), f1 _ _ (by omega) (by omega) (by omega), f1 _ _ (by omega) (by omega) (by omega), f2 _ _ (by omega) (by omega), f2 _ _ (by omega) (by omega), f2 _ _ (by omega) (by omega), f2 _ _ (by omega) (by omega)]
    exact ⟨a, b, c, d⟩
theorem blow_sim {x y : Nat → Nat → Int32} {sx sy dx dy : Int} {st : Nat} (hD : GDj gx gy gw gd nh) (hZ : GSz ow gx gy gw gd ng nh) (hg : ng ≤ 6) (hn : nh ≤ 12) (hP : PanR gx gy gw gd nh (x 4) (y (B + 9))) (hS : SCo ow nh B x y) :
    JB ow gx gy gw gd ng nh B (uBegin x) (rBefore y B gw gd ng nh) (uBlow x ow gx gy gw gd nh sx sy dx dy rad F st) (rBlow y B gx gy gw gd ng nh sx sy dx dy rad F st) :=
  itr_sim (fun _ a b => JB ow gx gy gw gd ng nh B (uBegin x) (rBefore y B gw gd ng nh) a b) (blow_begin hZ hg hn hP hS).1 (fun k a b _ q => step_sim hD hZ hg hn q)
end BM
