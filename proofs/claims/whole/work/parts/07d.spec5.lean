/-! what the constructors lay -/
section S5
variable (v : Nat → Nat → Int32) (r : Nat)
def iG (a : Int32) : Nat → Nat → Int32 := up2 (up2 v r 5 100) r 0 a
def iH (a b c d e f g : Int32) : Nat → Nat → Int32 := up2 (up2 (up2 (up2 (up2 (up2 (up2 v r 0 a) r 1 b) r 2 c) r 3 d) r 4 e) r 5 f) r 6 g
def iL (a b c : Int32) : Nat → Nat → Int32 := up2 (up2 (up2 (up2 v r 0 a) r 1 b) r 2 c) r 3 (2 * b)
def iS (a b c d e f g : Int32) : Nat → Nat → Int32 := up2 (up2 (up2 (up2 (up2 (up2 (up2 v r 0 a) r 1 b) r 2 c) r 3 d) r 4 e) r 5 f) r 6 g
end S5
theorem off_iS {u v : Nat → Nat → Int32} {r : Nat} {a b c d e f g : Int32} (h : offR r u v) : offR r (iS u r a b c d e f g) v := off_up (off_up (off_up (off_up (off_up (off_up (off_up h))))))
