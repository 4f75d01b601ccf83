/-! the class's Halving -/
def hvI (a b : Int32) : Int32 := (a + b) >>> ((1 : Int32) &&& 31)
def spZ (Z : Nat → Int32) (at_ : Nat) (a b c d : Int32) : Nat → Int32 := upd (upd (upd (upd Z at_ a) (at_ + 2) b) (at_ + 4) c) (at_ + 6) d
def halfZ (Z : Nat → Int32) (at_ : Nat) : Nat → Int32 :=
  spZ (spZ Z (at_ + 8) (Z at_) (hvI (Z at_) (Z (at_ + 2))) (hvI (hvI (Z at_) (Z (at_ + 2))) (hvI (Z (at_ + 2)) (Z (at_ + 4)))) (hvI (hvI (hvI (Z at_) (Z (at_ + 2))) (hvI (Z (at_ + 2)) (Z (at_ + 4)))) (hvI (hvI (Z (at_ + 2)) (Z (at_ + 4))) (hvI (Z (at_ + 4)) (Z (at_ + 6))))))
    at_ (hvI (hvI (hvI (Z at_) (Z (at_ + 2))) (hvI (Z (at_ + 2)) (Z (at_ + 4)))) (hvI (hvI (Z (at_ + 2)) (Z (at_ + 4))) (hvI (Z (at_ + 4)) (Z (at_ + 6))))) (hvI (hvI (Z (at_ + 2)) (Z (at_ + 4))) (hvI (Z (at_ + 4)) (Z (at_ + 6)))) (hvI (Z (at_ + 4)) (Z (at_ + 6))) (Z (at_ + 6))
def strZ (Z : Nat → Int32) (at_ : Nat) (bd : Int32) : Bool := strt (Z at_).toInt64 (Z (at_ + 2)).toInt64 (Z (at_ + 4)).toInt64 bd
def flatZ (Z : Nat → Int32) (pc_ : Nat) (bd : Int32) : Bool := (strZ Z (8 * pc_) bd && strZ Z (8 * pc_ + 2) bd) && (strZ Z (8 * pc_ + 1) bd && strZ Z (8 * pc_ + 1 + 2) bd)
/-! small rows of ints, element by element -/
def j4 (a0 a1 a2 a3 : Int32) : Nat → Int32 := fun i => match i with | 0 => a0 | 1 => a1 | 2 => a2 | 3 => a3 | _ => 0
section J4
variable {a0 a1 a2 a3 x : Int32}
theorem j4_0 : upd (j4 a0 a1 a2 a3) 0 x = j4 x a1 a2 a3 := by
  funext i
  match i with
  | 0 => rfl
  | 1 => rfl
  | 2 => rfl
  | 3 => rfl
  | n + 4 => rfl
theorem j4_1 : upd (j4 a0 a1 a2 a3) 1 x = j4 a0 x a2 a3 := by
  funext i
  match i with
  | 0 => rfl
  | 1 => rfl
  | 2 => rfl
  | 3 => rfl
  | n + 4 => rfl
theorem j4_2 : upd (j4 a0 a1 a2 a3) 2 x = j4 a0 a1 x a3 := by
  funext i
  match i with
  | 0 => rfl
  | 1 => rfl
  | 2 => rfl
  | 3 => rfl
  | n + 4 => rfl
theorem j4_3 : upd (j4 a0 a1 a2 a3) 3 x = j4 a0 a1 a2 x := by
  funext i
  match i with
  | 0 => rfl
  | 1 => rfl
  | 2 => rfl
  | 3 => rfl
  | n + 4 => rfl
theorem j4_z : (fun _ : Nat => (0 : Int32)) = j4 0 0 0 0 := by
  funext i
  match i with
  | 0 => rfl
  | 1 => rfl
  | 2 => rfl
  | 3 => rfl
  | n + 4 => rfl
end J4
/-! the class's mixing -/
def mixI (a b t : Int32) : Int32 := a + (((b - a).toInt64 * t.toInt64 + 32768) >>> ((16 : Int32).toInt64 &&& 63)).toInt32
def my2 (a b c t : Int32) : Int32 := mixI (mixI a b t) (mixI b c t) t
def my3 (a b c d t : Int32) : Int32 := mixI (my2 a b c t) (my2 b c d t) t
abbrev V4 : Type := Int32 × Int32 × Int32 × Int32
def qa4 (c : Int64) : V4 := if c = 0 then (65536, 65536, 36195, 0) else if c = 1 then (-0, -36195, -65536, -65536) else if c = 2 then (-65536, -65536, -36195, -0) else (- -0, - -36195, - -65536, - -65536)
def qb4 (c : Int64) : V4 := if c = 0 then (0, 36195, 65536, 65536) else if c = 1 then (65536, 65536, 36195, 0) else if c = 2 then (-0, -36195, -65536, -65536) else (-65536, -65536, -36195, -0)
def bef4 (u : V4) (t : Int32) : V4 := match u with | (a, b, c, d) => (a, mixI a b t, my2 a b c t, my3 a b c d t)
def beh4 (u : V4) (t : Int32) : V4 := match u with | (a, b, c, d) => (my3 a b c d t, my2 b c d t, mixI c d t, d)
def plI (q an : Int64) : Int32 := ((an - q * 5898240 + 45) / 90).toInt32
