/-! the mathematical value of a path: a list of parts (kind, x, y, x1, y1, x2, y2) -/
abbrev Pt : Type := Int32 × Int32 × Int32 × Int32 × Int32 × Int32 × Int32
/-- a part out of the reference's rows -/
def pt (K P : Nat → Int32) (i : Nat) : Pt := (K i, P (6 * i), P (6 * i + 1), P (6 * i + 2), P (6 * i + 3), P (6 * i + 4), P (6 * i + 5))
def lst (n : Nat) (K P : Nat → Int32) : List Pt := (List.range n).map (pt K P)
def bz (b : Bool) : Int32 := if b then 1 else 0
theorem bz_t : bz true = 1 := rfl
theorem bz_f : bz false = 0 := rfl
theorem bz_0 {b : Bool} : bz b = 0 ↔ b = false := by cases b <;> decide
theorem bz_1 {b : Bool} : ¬ bz b = 0 ↔ b = true := by cases b <;> decide
theorem bz_nar (b : Bool) : narrow .boolean (.int (bz b)) = .int (bz b) := by cases b <;> rfl
theorem bz_fit (b : Bool) : fits .boolean (.int (bz b)) = true := by cases b <;> rfl
/-- a place that is too far away -/
def fr (v : Int64) : Bool := decide (v < -536870912) || decide (536870912 < v)
theorem lst_len (n : Nat) (K P : Nat → Int32) : (lst n K P).length = n := by simp [lst]
theorem lst_get {n : Nat} {K P : Nat → Int32} {i : Nat} (h : i < n) : (lst n K P)[i]? = some (pt K P i) := by simp [lst, h]
theorem lst_congr {n : Nat} {K P K' P' : Nat → Int32} (hK : ∀ i, i < n → K' i = K i) (hP : ∀ i, i < 6 * n → P' i = P i) : lst n K' P' = lst n K P := by
  unfold lst
  apply List.map_congr_left
  intro i hi
  have hi : i < n := List.mem_range.mp hi
  unfold pt
  rw [hK i hi, hP _ (by omega), hP _ (by omega), hP _ (by omega), hP _ (by omega), hP _ (by omega), hP _ (by omega)]
theorem lst_succ (n : Nat) (K P : Nat → Int32) : lst (n + 1) K P = lst n K P ++ [pt K P n] := by
  unfold lst
  rw [List.range_succ, List.map_append]
  rfl
theorem up_s {f : Nat → Int32} {k : Nat} {x : Int32} : upd f k x k = x := by simp [upd]
theorem up_n {f : Nat → Int32} {k j : Nat} {x : Int32} (h : j ≠ k) : upd f k x j = f j := by simp [upd, h]
theorem lst_snoc (n : Nat) (K P : Nat → Int32) (kd a b a1 b1 a2 b2 : Int32) : lst (n + 1) (upd K n kd) (upd (upd (upd (upd (upd (upd P (6 * n) a) (6 * n + 1) b) (6 * n + 2) a1) (6 * n + 3) b1) (6 * n + 4) a2) (6 * n + 5) b2) = lst n K P ++ [(kd, a, b, a1, b1, a2, b2)] := by
  rw [lst_succ]
  congr 1
  · apply lst_congr
    · intro i hi; exact up_n (by omega)
    · intro i hi
      rw [up_n (by omega), up_n (by omega), up_n (by omega), up_n (by omega), up_n (by omega), up_n (by omega)]
  · unfold pt
    simp [upd]
/-- the reference's draft: its parts, 'full', 'far' -/
abbrev DS : Type := List Pt × Bool × Bool
def addD (d : DS) (kd : Int32) (x y x1 y1 x2 y2 : Int64) : DS :=
  if d.1.length = 3000 then (d.1, true, d.2.2 || fr x || fr y || fr x1 || fr y1 || fr x2 || fr y2)
  else (d.1 ++ [(kd, x.toInt32, y.toInt32, x1.toInt32, y1.toInt32, x2.toInt32, y2.toInt32)], d.2.1, d.2.2 || fr x || fr y || fr x1 || fr y1 || fr x2 || fr y2)
def kok (k : Int32) : Prop := k = 0 ∨ k = 1 ∨ k = 2 ∨ k = 3
theorem kok_b {k : Int32} (h : kok k) : vp_nar .byte k = k := by rcases h with h | h | h | h <;> subst h <;> rfl
theorem kok_i {k : Int32} (h : kok k) : k.toInt8.toInt32 = k := by rcases h with h | h | h | h <;> subst h <;> rfl
