/-! THE BASE: the tables' words in one list; the world by roles; one row an instruction over it. -/
/-- words that stay true in every state that a call comes to -/
def tb_ok : Cond → Bool
  | .arrayClass _ => true
  | .fieldLinkNest .. => true
  | .methodLinkNest .. => true
  | .declares _ => true
  | .castable .. => true
  | w => w.onTables && w.keeps
def wT : List Cond := lw_tbl.filter tb_ok
theorem wT_mem {w : Cond} (i : Nat) (h : lw_tbl[i]? = some w) (g : tb_ok w = true) : w ∈ wT := List.mem_filter.mpr ⟨List.mem_of_getElem? h, g⟩
theorem wT_ok {w : Cond} (h : w ∈ wT) : tb_ok w = true := (List.mem_filter.mp h).2
theorem tb_warm {w : Cond} (h : tb_ok w = true) {args args' : Array Value} {s U : State} (hb : w.before args s = true) (hW : s.WarmedH U.vm) : w.before args' U = true := by
  cases w <;> first
    | exact word_at hW (Or.inr ⟨_, rfl⟩) hb
    | exact va_any rfl (va_Nw.warmF hW (va_any rfl hb))
    | exact va_any rfl (va_Nw.warmM hW (va_any rfl hb))
    | exact va_any rfl (va_Nw.warmD hW (va_any rfl hb))
    | exact va_any rfl (va_Nw.warmC hW (va_any rfl hb))
    | exact word_at hW (Or.inl h) hb
    | exact absurd h (by simp [tb_ok, Cond.onTables])
theorem tb_args {w : Cond} (h : tb_ok w = true) {args args' : Array Value} {s : State} (hb : w.before args s = true) : w.before args' s = true := by
  cases w <;> first
    | exact va_any rfl hb
    | exact hb
    | exact absurd h (by simp [tb_ok, Cond.onTables])
def nF (k : Nat) : Nat := if k = 0 then 3 else if k = 1 then 8 else if k = 2 then 8 else if k = 3 then 5 else if k = 4 then 7 else if k = 5 then 6 else if k = 6 then 9 else if k = 7 then 19 else 3
/-- class number ci of the worlds: its name, its fields -/
def KC (ci : Nat) (C : String) (T : u_T) (N : Nat) (ty : Nat → FieldType) : Prop := vwCl[ci]? = some (C, T, N) ∧ (∀ w ∈ u_ws C T N, w ∈ wT) ∧ (∀ k, k < N → parseFieldDescriptor (T k).2.2.1 = some (ty k)) ∧ (∀ a, a < N → ∀ b, b < N → a ≠ b → (T a).2.1 ≠ (T b).2.1) ∧ ci < 9 ∧ N = nF ci
def MWv (C : String) (y : MethodName) (b : ByteArray) (maxL : Nat) (ret : Option FieldType) (n : Nat) : Prop := Cond.code y b maxL ret ∈ wT ∧ Cond.instanceMethod y ∈ wT ∧ Cond.selects C y y ∈ wT ∧ Cond.initialized y.cls ∈ wT ∧ y.cls = C ∧ (y.cls ≠ "java/lang/invoke/MethodHandle" ∧ y.cls ≠ "java/lang/invoke/VarHandle") ∧ (parseMethodDescriptor y.desc).map (fun d => d.parameters.length) = some n
def MWs (y : MethodName) (b : ByteArray) (maxL : Nat) (ret : Option FieldType) (n : Nat) : Prop := Cond.code y b maxL ret ∈ wT ∧ Cond.static y ∈ wT ∧ Cond.initialized y.cls ∈ wT ∧ (y.cls ≠ "java/lang/invoke/MethodHandle" ∧ y.cls ≠ "java/lang/invoke/VarHandle") ∧ (parseMethodDescriptor y.desc).map (fun d => d.parameters.length) = some n
def MWi (y : MethodName) (b : ByteArray) (maxL : Nat) (n : Nat) : Prop := Cond.code y b maxL none ∈ wT ∧ Cond.instanceMethod y ∈ wT ∧ Cond.initialized y.cls ∈ wT ∧ y.name = "<init>" ∧ (y.cls ≠ "java/lang/invoke/MethodHandle" ∧ y.cls ≠ "java/lang/invoke/VarHandle") ∧ (parseMethodDescriptor y.desc).map (fun d => d.parameters.length) = some n
def MMax : Prop := Cond.static Lib.Math.max.name ∈ wT ∧ Cond.initialized "java/lang/Math" ∈ wT ∧ Cond.code Lib.Math.max.name Lib.Math.max.code 2 (some .int) ∈ wT
def MMin : Prop := Cond.static Lib.Math.min.name ∈ wT ∧ Cond.initialized "java/lang/Math" ∈ wT ∧ Cond.code Lib.Math.min.name Lib.Math.min.code 2 (some .int) ∈ wT
def MAbs : Prop := Cond.static Lib.Math.abs.name ∈ wT ∧ Cond.initialized "java/lang/Math" ∈ wT ∧ Cond.code Lib.Math.abs.name Lib.Math.abs.code 1 (some .int) ∈ wT
/-- System.arraycopy between two arrays of ints (of booleans), places given as naturals -/
def MCopy : Prop := Cond.native arraycopyName ∈ wT ∧ Cond.static arraycopyName ∈ wT ∧ Cond.initialized "java/lang/System" ∈ wT
