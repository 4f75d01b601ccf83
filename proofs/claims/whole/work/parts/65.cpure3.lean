/-! how far the points of the segments behind part f reach -/
def wk (k : Int32) : Nat := if k = 2 then 3 else 1
def sk (K : Nat → Int32) (f : Nat) : Nat → Nat
  | 0 => 0
  | m + 1 => sk K f m + wk (K (f + 1 + m))
theorem sk_le {K : Nat → Int32} {f : Nat} : ∀ {m : Nat}, sk K f m ≤ 3 * m := by
  intro m
  induction m with
  | zero => exact Nat.le_refl 0
  | succ m ih =>
    show sk K f m + wk (K (f + 1 + m)) ≤ 3 * (m + 1)
    have : wk (K (f + 1 + m)) ≤ 3 := by unfold wk; split <;> omega
    omega
theorem sk_y {K : Nat → Int32} {f i : Nat} (h : f + 1 ≤ i) (hk : K i = 2) : sk K f (i + 1 - (f + 1)) = sk K f (i - (f + 1)) + 3 := by
  rw [show i + 1 - (f + 1) = (i - (f + 1)) + 1 by omega]
  show sk K f (i - (f + 1)) + wk (K (f + 1 + (i - (f + 1)))) = _
  rw [show f + 1 + (i - (f + 1)) = i by omega, wk, if_pos hk]
theorem sk_n {K : Nat → Int32} {f i : Nat} (h : f + 1 ≤ i) (hk : ¬ K i = 2) : sk K f (i + 1 - (f + 1)) = sk K f (i - (f + 1)) + 1 := by
  rw [show i + 1 - (f + 1) = (i - (f + 1)) + 1 by omega]
  show sk K f (i - (f + 1)) + wk (K (f + 1 + (i - (f + 1)))) = _
  rw [show f + 1 + (i - (f + 1)) = i by omega, wk, if_neg hk]
