theorem lst_last {n : Nat} {K P : Nat → Int32} (h : 0 < n) : (lst n K P).getLast? = some (pt K P (n - 1)) := by
  obtain ⟨m, rfl⟩ : ∃ m, n = m + 1 := ⟨n - 1, by omega⟩
  rw [lst_succ]
  simp
theorem lst_drop {n : Nat} {K P : Nat → Int32} (h : 0 < n) : (lst n K P).dropLast = lst (n - 1) K P := by
  obtain ⟨m, rfl⟩ : ∃ m, n = m + 1 := ⟨n - 1, by omega⟩
  rw [lst_succ]
  simp
theorem lst_0 (K P : Nat → Int32) : lst 0 K P = [] := rfl
/-- the kind of the latest part; -1 when there is none -/
def lk (ps : List Pt) : Int32 := match ps.getLast? with | some q => q.1 | none => -1
theorem lk_n {n : Nat} {K P : Nat → Int32} (h : 0 < n) : lk (lst n K P) = K (n - 1) := by unfold lk; rw [lst_last h]; rfl
theorem lk_0 {K P : Nat → Int32} : lk (lst 0 K P) = -1 := rfl
/-- x and y of the latest part's point -/
def lx (ps : List Pt) : Int32 := match ps.getLast? with | some q => q.2.1 | none => 0
def ly (ps : List Pt) : Int32 := match ps.getLast? with | some q => q.2.2.1 | none => 0
theorem lx_n {n : Nat} {K P : Nat → Int32} (h : 0 < n) : lx (lst n K P) = P (6 * (n - 1)) := by unfold lx; rw [lst_last h]; rfl
theorem ly_n {n : Nat} {K P : Nat → Int32} (h : 0 < n) : ly (lst n K P) = P (6 * (n - 1) + 1) := by unfold ly; rw [lst_last h]; rfl
def openD (d : DS) : DS := if lk d.1 = 3 then addD d 0 (lx d.1).toInt64 (ly d.1).toInt64 0 0 0 0 else d
def beginD (d : DS) (x y : Int64) : DS := addD (if lk d.1 = 0 then (d.1.dropLast, d.2.1, d.2.2) else d) 0 x y 0 0 0 0
theorem kok0 : kok 0 := Or.inl rfl
theorem kok1 : kok 1 := Or.inr (Or.inl rfl)
theorem kok2 : kok 2 := Or.inr (Or.inr (Or.inl rfl))
theorem kok3 : kok 3 := Or.inr (Or.inr (Or.inr rfl))
section OB
variable {n : Nat} {K P : Nat → Int32} {fu fa : Bool} {x y : Int64}
theorem openD_0 (h : n = 0) : openD (lst n K P, fu, fa) = (lst n K P, fu, fa) := by
  subst h
  unfold openD
  rw [if_neg (by rw [lk_0]; decide)]
theorem openD_n (h : 0 < n) (h2 : ¬ K (n - 1) = 3) : openD (lst n K P, fu, fa) = (lst n K P, fu, fa) := by
  unfold openD
  rw [if_neg (by rw [lk_n h]; exact h2)]
theorem openD_y (h : 0 < n) (h2 : K (n - 1) = 3) : openD (lst n K P, fu, fa) = addD (lst n K P, fu, fa) 0 (P (6 * (n - 1) + 0)).toInt64 (P (6 * (n - 1) + 1)).toInt64 0 0 0 0 := by
  unfold openD
  rw [if_pos (by rw [lk_n h]; exact h2)]
  show addD _ _ (lx (lst n K P)).toInt64 (ly (lst n K P)).toInt64 _ _ _ _ = _
  rw [lx_n h, ly_n h]
  rfl
theorem beginD_0 (h : n = 0) : beginD (lst n K P, fu, fa) x y = addD (lst n K P, fu, fa) 0 x y 0 0 0 0 := by
  subst h
  unfold beginD
  rw [if_neg (by rw [lk_0]; decide)]
theorem beginD_n (h : 0 < n) (h2 : ¬ K (n - 1) = 0) : beginD (lst n K P, fu, fa) x y = addD (lst n K P, fu, fa) 0 x y 0 0 0 0 := by
  unfold beginD
  rw [if_neg (by rw [lk_n h]; exact h2)]
theorem beginD_y (h : 0 < n) (h2 : K (n - 1) = 0) : beginD (lst n K P, fu, fa) x y = addD (lst (n - 1) K P, fu, fa) 0 x y 0 0 0 0 := by
  unfold beginD
  rw [if_pos (by rw [lk_n h]; exact h2)]
  show addD ((lst n K P).dropLast, _, _) _ _ _ _ _ _ _ = _
  rw [lst_drop h]
end OB
