/-! the reference's flatten -/
def absL (x : Int64) : Int64 := if 0 ≤ x then x else -x
def strt (a b c : Int64) (bd : Int32) : Bool := decide (3 * absL (a - 2 * b + c) ≤ 2 * bd.toInt64)
def hvL (a b : Int64) : Int64 := (a + b) >>> ((1 : Int32).toInt64 &&& 63)
def flatQ (ax ay bx by_ cx cy dx dy : Int64) (bd : Int32) : Bool := strt ax bx cx bd && strt ay by_ cy bd && strt bx cx dx bd && strt by_ cy dy bd
def layD (bd : Int32) : Nat → DS → Int64 → Int64 → Int64 → Int64 → Int64 → Int64 → Int64 → Int64 → DS
  | 0, d, _, _, _, _, _, _, dx, dy => addD d 1 dx dy 0 0 0 0
  | m + 1, d, ax, ay, bx, by_, cx, cy, dx, dy =>
    if flatQ ax ay bx by_ cx cy dx dy bd then addD d 1 dx dy 0 0 0 0
    else layD bd m (layD bd m d ax ay (hvL ax bx) (hvL ay by_) (hvL (hvL ax bx) (hvL bx cx)) (hvL (hvL ay by_) (hvL by_ cy)) (hvL (hvL (hvL ax bx) (hvL bx cx)) (hvL (hvL bx cx) (hvL cx dx))) (hvL (hvL (hvL ay by_) (hvL by_ cy)) (hvL (hvL by_ cy) (hvL cy dy))))
      (hvL (hvL (hvL ax bx) (hvL bx cx)) (hvL (hvL bx cx) (hvL cx dx))) (hvL (hvL (hvL ay by_) (hvL by_ cy)) (hvL (hvL by_ cy) (hvL cy dy))) (hvL (hvL bx cx) (hvL cx dx)) (hvL (hvL by_ cy) (hvL cy dy)) (hvL cx dx) (hvL cy dy) dx dy
def flD (g : Nat → Pt) (bd : Int32) (d : DS) (k : Nat) : DS :=
  if (g k).1 = 2 then layD bd 10 d (px (g (k - 1))) (py (g (k - 1))) (px1 (g k)) (py1 (g k)) (px2 (g k)) (py2 (g k)) (px (g k)) (py (g k))
  else addD d (g k).1 (px (g k)) (py (g k)) 0 0 0 0
def flP (g : Nat → Pt) (bd : Int32) : Nat → DS
  | 0 => ([], false, false)
  | k + 1 => flD g bd (flP g bd k) k
def rFlatten (ps : List Pt) (bd : Int32) : Int32 × List Pt := if bd < 1 ∨ ¬ bd ≤ 6553600 then (-1, ps) else setl ps (flP (gp ps) bd ps.length)
section FL
variable {n : Nat} {K P : Nat → Int32} {i : Nat} {d : DS} {bd : Int32}
theorem flD_y (hi : i < n) (h : K i = 2) : flD (gp (lst n K P)) bd d i = layD bd 10 d (P (6 * (i - 1) + 0)).toInt64 (P (6 * (i - 1) + 1)).toInt64 (P (6 * i + 2)).toInt64 (P (6 * i + 3)).toInt64 (P (6 * i + 4)).toInt64 (P (6 * i + 5)).toInt64 (P (6 * i + 0)).toInt64 (P (6 * i + 1)).toInt64 := by
  unfold flD
  rw [gp_l hi, gp_l (show i - 1 < n by omega)]
  exact if_pos h
theorem flD_n (hi : i < n) (h : ¬ K i = 2) : flD (gp (lst n K P)) bd d i = addD d (K i) (P (6 * i + 0)).toInt64 (P (6 * i + 1)).toInt64 0 0 0 0 := by
  unfold flD
  rw [gp_l hi]
  exact if_neg h
end FL
/-! the reference's bound -/
def bst (lo : Bool) (f v : Int32) : Int32 := if lo then (if v < f then v else f) else (if f < v then v else f)
/-- the places of a part along an axis -/
def pvs (q : Pt) (ax : Nat) : List Int32 := if q.1 = 2 then [cmp6 q ax, cmp6 q (ax + 2), cmp6 q (ax + 4)] else [cmp6 q ax]
def bnd (lo : Bool) (ax : Nat) (f : Int32) (q : Pt) : Int32 := (pvs q ax).foldl (bst lo) f
def rBound (ps : List Pt) (w : Int32) : Int32 :=
  if ps.length = 0 ∨ w < 0 ∨ ¬ w ≤ 3 then 0
  else ps.foldl (bnd (decide (w < 2)) (w.toNatClampNeg % 2)) (cmp6 (gp ps 0) (w.toNatClampNeg % 2))
