/-! what the reference answers, over lists of parts -/
def setl (ps : List Pt) (d : DS) : Int32 × List Pt := if d.2.2 then (-4, ps) else if d.2.1 then (-3, ps) else (nI d.1.length, d.1)
section SETL
variable {ps l : List Pt} {d : DS} {fu fa : Bool}
theorem setl_far (h : (l, fu, fa) = d) (h1 : fa = true) : setl ps d = (-4, ps) := by subst h; subst h1; rfl
theorem setl_full (h : (l, fu, fa) = d) (h1 : fa = false) (h2 : fu = true) : setl ps d = (-3, ps) := by subst h; subst h1; subst h2; rfl
theorem setl_ok (h : (l, fu, fa) = d) (h1 : fa = false) (h2 : fu = false) : setl ps d = (nI l.length, l) := by subst h; subst h1; subst h2; rfl
end SETL
def rMove (ps : List Pt) (x y : Int32) : Int32 × List Pt := setl ps (beginD (ps, false, false) x.toInt64 y.toInt64)
def rLine (ps : List Pt) (x y : Int32) : Int32 × List Pt := if ps.length = 0 then (-2, ps) else setl ps (addD (openD (ps, false, false)) 1 x.toInt64 y.toInt64 0 0 0 0)
def rCurve (ps : List Pt) (x1 y1 x2 y2 x3 y3 : Int32) : Int32 × List Pt := if ps.length = 0 then (-2, ps) else setl ps (addD (openD (ps, false, false)) 2 x3.toInt64 y3.toInt64 x1.toInt64 y1.toInt64 x2.toInt64 y2.toInt64)
/-- the latest beginning -/
def lb (ps : List Pt) : Pt := (ps.reverse.find? (fun q => decide (q.1 = 0))).getD (0, 0, 0, 0, 0, 0, 0)
def rClose (ps : List Pt) : Int32 × List Pt := if ps.length = 0 ∨ lk ps = 3 then (nI ps.length, ps) else setl ps (addD (ps, false, false) 3 (lb ps).2.1.toInt64 (lb ps).2.2.1.toInt64 0 0 0 0)
theorem lb_n {n : Nat} {K P : Nat → Int32} {r : Nat} (hr : r < n) (h0 : K r = 0) (hj : ∀ j, r < j → j < n → ¬ K j = 0) : lb (lst n K P) = pt K P r := by
  induction n with
  | zero => omega
  | succ n ih =>
    unfold lb
    rw [lst_succ, List.reverse_append]
    by_cases h : r = n
    · subst h
      simp [pt, h0]
    · have hn : ¬ K n = 0 := hj n (by omega) (by omega)
      have h1 := ih (by omega) (fun j h1 h2 => hj j h1 (by omega))
      unfold lb at h1
      simp only [List.reverse_singleton, List.singleton_append]
      rw [List.find?_cons_of_neg (by simp [pt, hn])]
      exact h1
def rClear (ps : List Pt) : Int32 × List Pt := (nI ps.length, [])
