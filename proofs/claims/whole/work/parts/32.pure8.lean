/-! the reference's flatten -/
def absL (x : Int64) : Int64 := if 0 ≤ x then x else -x
def strt (a b c : Int64) (bd : Int32) : Bool := decide (3 * absL (a - 2 * b + c) ≤ 2 * bd.toInt64)
def hvL (a b : Int64) : Int64 := (a + b) >>> ((1 : Int32).toInt64 &&& 63)
def flatQ (ax ay bx by_ cx cy dx dy : Int64) (bd : Int32) : Bool := strt ax bx cx bd && strt ay by_ cy bd && strt bx cx dx bd && strt by_ cy dy bd
def layD (bd : Int32) : Nat → DS → Int64 → Int64 → Int64 → Int64 → Int64 → Int64 → Int64 → Int64 → DS
  | 0, d, _, _, _, _, _, _, dx, dy => addD d 1 dx dy 0 0 0 0
  | m + 1, d, ax, ay, bx, by_, cx, cy, dx, dy =>
    if flatQ ax ay bx by_ cx cy dx dy bd then addD d 1 dx dy 0 0 0 0
    else layD bd m (layD bd m d ax ay (hvL ax bx) (hvL ay by_) (hvL (hvL ax bx) (hvL bx cx)) (hvL (hvL ay by_) (hvL by_ cy)) (hvL (hvL (hvL ax bx) (hvL bx cx)) (hvL (hvL bx cx) (hvL cx dx))) (hvL (hvL (hvL ay by_) (hvL by_ cy)) (hvL (hvL by_ cy) (hvL cy dy))))
      (hvL (hvL (hvL ax bx) (hvL bx cx)) (hvL (hvL bx cx) (hvL cx dx))) (hvL (hvL (hvL ay by_) (hvL by_ cy)) (hvL (hvL by_ cy) (hvL cy dy))) (hvL (hvL bx cx) (hvL cx dx)) (hvL (hvL by_ cy) (hvL cy dy)) (hvL cx dx) (hvL cy dy) dx dy
def flD (g : Nat → Pt) (bd : Int32) (d : DS) (k : Nat) : DS :=
  if (g k).1 = 2 then layD bd 10 d (px (g (k - 1))) (py (g (k - 1))) (px1 (g k)) (py1 (g k)) (px2 (g k)) (py2 (g k)) (px (g k)) (py (g k))
  else addD d (g k).1 (px (g k)) (py (g k)) 0 0 0 0
def flP (g : Nat → Pt) (bd : Int32) : Nat → DS
  | 0 => ([], false, false)
  | k + 1 => flD g bd (flP g bd k) k
def rFlatten (ps : List Pt) (bd : Int32) : Int32 × List Pt := if bd < 1 ∨ ¬ bd ≤ 6553600 then (-1, ps) else setl ps (flP (gp ps) bd ps.length)
section FL
variable {n : Nat} {K P : Nat → Int32} {i : Nat} {d : DS} {bd : Int32}
theorem flD_y (hi : i < n) (h : K i = 2) : flD (gp (lst n K P)) bd d i = layD bd 10 d (P (6 * (i - 1) + 0)).toInt64 (P (6 * (i - 1) + 1)).toInt64 (P (6 * i + 2)).toInt64 (P (6 * i + 3)).toInt64 (P (6 * i + 4)).toInt64 (P (6 * i + 5)).toInt64 (P (6 * i + 0)).toInt64 (P (6 * i + 1)).toInt64 := by
  unfold flD
  rw [gp_l hi, gp_l (show i - 1 < n by omega)]
  exact if_pos h
theorem flD_n (hi : i < n) (h : ¬ K i = 2) : flD (gp (lst n K P)) bd d i = addD d (K i) (P (6 * i + 0)).toInt64 (P (6 * i + 1)).toInt64 0 0 0 0 := by
  unfold flD
  rw [gp_l hi]
  exact if_neg h
end FL
/-! the reference's bound -/
def bst (lo : Bool) (f v : Int32) : Int32 := if lo then (if v < f then v else f) else (if f < v then v else f)
/-- the places of a part along an axis, from place j on -/
def binF (lo : Bool) (q : Pt) (lim : Nat) : Nat → Nat → Int32 → Int32
  | 0, _, f => f
  | m + 1, j, f => if j < lim then binF lo q lim m (j + 2) (bst lo f (cmp6 q j)) else f
def blim (q : Pt) : Nat := if q.1 = 2 then 6 else 2
def bnd (lo : Bool) (ax : Nat) (f : Int32) (q : Pt) : Int32 := binF lo q (blim q) 4 ax f
def rBound (ps : List Pt) (w : Int32) : Int32 :=
  if ps.length = 0 ∨ w < 0 ∨ ¬ w ≤ 3 then 0
  else ps.foldl (bnd (decide (w < 2)) (w.toNatClampNeg % 2)) (cmp6 (gp ps 0) (w.toNatClampNeg % 2))
section BD
variable {n : Nat} {K P : Nat → Int32} {i j m : Nat} {f : Int32} {lo : Bool} {ax : Nat} {w : Int32}
theorem rBound_g (hw : ¬ w < 0) (h3 : w ≤ 3) (hlo : decide (w < 2) = lo) (hax : w.toNatClampNeg % 2 = ax) (hn : 0 < n) : rBound (lst n K P) w = (lst n K P).foldl (bnd lo ax) (P (6 * 0 + ax)) := by
  unfold rBound
  rw [if_neg (by
    rw [lst_len]
    rintro (q | q | q)
    · omega
    · exact hw q
    · exact q h3), hlo, hax, gp_l hn, cmp6_pt (by omega)]
theorem bin_go {lim : Nat} (h : j < lim) (hm : lim ≤ j + 2 * m) (hj : j ≤ 5) : binF lo (pt K P i) lim m j f = binF lo (pt K P i) lim (m - 1) (j + 2) (bst lo f (P (6 * i + j))) := by
  obtain ⟨m', rfl⟩ : ∃ m', m = m' + 1 := ⟨m - 1, by omega⟩
  rw [← cmp6_pt (K := K) (P := P) (j := i) hj]
  exact if_pos h
theorem bin_end {lim : Nat} (h : lim ≤ j) : binF lo (pt K P i) lim m j f = f := by
  cases m with
  | zero => rfl
  | succ m => exact if_neg (by omega)
theorem blim_y (h : K i = 2) : blim (pt K P i) = 6 := if_pos h
theorem blim_n (h : ¬ K i = 2) : blim (pt K P i) = 2 := if_neg h
theorem bnd_s {f0 : Int32} (h : f = (lst i K P).foldl (bnd lo ax) f0) {f2 : Int32} (h2 : f2 = binF lo (pt K P i) (blim (pt K P i)) 4 ax f) : f2 = (lst (i + 1) K P).foldl (bnd lo ax) f0 := by
  rw [lst_succ, List.foldl_append, ← h, h2]
  rfl
theorem bst_tt {v : Int32} (h : v < f) : bst true f v = v := if_pos h
theorem bst_tf {v : Int32} (h : ¬ v < f) : bst true f v = f := if_neg h
theorem bst_ft {v : Int32} (h : f < v) : bst false f v = v := if_pos h
theorem bst_ff {v : Int32} (h : ¬ f < v) : bst false f v = f := if_neg h
theorem w5 (wh : Int32) : wh = 0 ∨ wh = 1 ∨ wh = 2 ∨ wh = 3 ∨ (wh < 0 ∨ ¬ wh ≤ 3) := by
  by_cases h : wh < 0
  · exact Or.inr (Or.inr (Or.inr (Or.inr (Or.inl h))))
  · by_cases h3 : wh ≤ 3
    · obtain ⟨j, hj, ej⟩ := ix_le (n := 3) h (Int32.not_lt.mpr h3) (by decide)
      have : j = 0 ∨ j = 1 ∨ j = 2 ∨ j = 3 := by omega
      rcases this with q | q | q | q <;> subst q
      · exact Or.inl ej
      · exact Or.inr (Or.inl ej)
      · exact Or.inr (Or.inr (Or.inl ej))
      · exact Or.inr (Or.inr (Or.inr (Or.inl ej)))
    · exact Or.inr (Or.inr (Or.inr (Or.inr (Or.inr h3))))
end BD
