/-! the reference's shift and reverse -/
def px (q : Pt) : Int64 := q.2.1.toInt64
def py (q : Pt) : Int64 := q.2.2.1.toInt64
def px1 (q : Pt) : Int64 := q.2.2.2.1.toInt64
def py1 (q : Pt) : Int64 := q.2.2.2.2.1.toInt64
def px2 (q : Pt) : Int64 := q.2.2.2.2.2.1.toInt64
def py2 (q : Pt) : Int64 := q.2.2.2.2.2.2.toInt64
def shD (dx dy : Int32) (d : DS) (q : Pt) : DS :=
  if q.1 = 2 then addD d q.1 (px q + dx.toInt64) (py q + dy.toInt64) (px1 q + dx.toInt64) (py1 q + dy.toInt64) (px2 q + dx.toInt64) (py2 q + dy.toInt64)
  else addD d q.1 (px q + dx.toInt64) (py q + dy.toInt64) 0 0 0 0
def rShift (ps : List Pt) (dx dy : Int32) : Int32 × List Pt := setl ps (ps.foldl (shD dx dy) ([], false, false))
section SH
variable {K P : Nat → Int32} {i : Nat} {dx dy : Int32} {d d2 : DS} {ini : DS}
theorem shD_y (h : K i = 2) : shD dx dy d (pt K P i) = addD d (K i) ((P (6 * i + 0)).toInt64 + dx.toInt64) ((P (6 * i + 1)).toInt64 + dy.toInt64) ((P (6 * i + 2)).toInt64 + dx.toInt64) ((P (6 * i + 3)).toInt64 + dy.toInt64) ((P (6 * i + 4)).toInt64 + dx.toInt64) ((P (6 * i + 5)).toInt64 + dy.toInt64) := if_pos h
theorem shD_n (h : ¬ K i = 2) : shD dx dy d (pt K P i) = addD d (K i) ((P (6 * i + 0)).toInt64 + dx.toInt64) ((P (6 * i + 1)).toInt64 + dy.toInt64) 0 0 0 0 := if_neg h
theorem sh_y (h : K i = 2) (hd : d = (lst i K P).foldl (shD dx dy) ini) (h2 : d2 = addD d (K i) ((P (6 * i + 0)).toInt64 + dx.toInt64) ((P (6 * i + 1)).toInt64 + dy.toInt64) ((P (6 * i + 2)).toInt64 + dx.toInt64) ((P (6 * i + 3)).toInt64 + dy.toInt64) ((P (6 * i + 4)).toInt64 + dx.toInt64) ((P (6 * i + 5)).toInt64 + dy.toInt64)) : d2 = (lst (i + 1) K P).foldl (shD dx dy) ini := by
  rw [lst_succ, List.foldl_append, ← hd, h2, ← shD_y h]
  rfl
theorem sh_n (h : ¬ K i = 2) (hd : d = (lst i K P).foldl (shD dx dy) ini) (h2 : d2 = addD d (K i) ((P (6 * i + 0)).toInt64 + dx.toInt64) ((P (6 * i + 1)).toInt64 + dy.toInt64) 0 0 0 0) : d2 = (lst (i + 1) K P).foldl (shD dx dy) ini := by
  rw [lst_succ, List.foldl_append, ← hd, h2, ← shD_n h]
  rfl
end SH
/-- part i of a list -/
def gp (ps : List Pt) (i : Nat) : Pt := ps.getD i pt0
theorem gp_l {n : Nat} {K P : Nat → Int32} {i : Nat} (h : i < n) : gp (lst n K P) i = pt K P i := lst_getD h
def tnS (g : Nat → Pt) (d : DS) (k : Nat) : DS :=
  if (g k).1 = 2 then addD d (g k).1 (px (g (k - 1))) (py (g (k - 1))) (px2 (g k)) (py2 (g k)) (px1 (g k)) (py1 (g k))
  else addD d (g k).1 (px (g (k - 1))) (py (g (k - 1))) 0 0 0 0
def tnL (g : Nat → Pt) (f : Nat) : Nat → DS → DS
  | 0, d => d
  | m + 1, d => tnL g f m (tnS g d (f + m + 1))
def tlast (g : Nat → Pt) (e : Nat) : Nat := if (g (e - 1)).1 = 3 then e - 2 else e - 1
def turnD (g : Nat → Pt) (d : DS) (f e : Nat) : DS :=
  if (g (e - 1)).1 = 3 then addD (tnL g f (tlast g e - f) (addD d 0 (px (g (tlast g e))) (py (g (tlast g e))) 0 0 0 0)) 3 (px (g (tlast g e))) (py (g (tlast g e))) 0 0 0 0
  else tnL g f (tlast g e - f) (addD d 0 (px (g (tlast g e))) (py (g (tlast g e))) 0 0 0 0)
section TN
variable {n : Nat} {K P : Nat → Int32} {i f e : Nat} {d d2 r : DS}
theorem tnL_s (h : f < i) : tnL (gp (lst n K P)) f (i - f) d = tnL (gp (lst n K P)) f (i - 1 - f) (tnS (gp (lst n K P)) d i) := by
  obtain ⟨m, hm⟩ : ∃ m, i - f = m + 1 := ⟨i - f - 1, by omega⟩
  rw [hm, show i - 1 - f = m by omega]
  show tnL _ f m (tnS _ d (f + m + 1)) = _
  rw [show f + m + 1 = i by omega]
theorem tnS_y (hi : i < n) (h : K i = 2) : tnS (gp (lst n K P)) d i = addD d (K i) (P (6 * (i - 1) + 0)).toInt64 (P (6 * (i - 1) + 1)).toInt64 (P (6 * i + 4)).toInt64 (P (6 * i + 5)).toInt64 (P (6 * i + 2)).toInt64 (P (6 * i + 3)).toInt64 := by
  unfold tnS
  rw [gp_l hi, gp_l (show i - 1 < n by omega)]
  exact if_pos h
theorem tnS_n (hi : i < n) (h : ¬ K i = 2) : tnS (gp (lst n K P)) d i = addD d (K i) (P (6 * (i - 1) + 0)).toInt64 (P (6 * (i - 1) + 1)).toInt64 0 0 0 0 := by
  unfold tnS
  rw [gp_l hi, gp_l (show i - 1 < n by omega)]
  exact if_neg h
theorem turnD_y (he : e ≤ n) (h1 : 2 ≤ e) (h : K (e - 1) = 3) : turnD (gp (lst n K P)) d f e = addD (tnL (gp (lst n K P)) f (e - 2 - f) (addD d 0 (P (6 * (e - 2) + 0)).toInt64 (P (6 * (e - 2) + 1)).toInt64 0 0 0 0)) 3 (P (6 * (e - 2) + 0)).toInt64 (P (6 * (e - 2) + 1)).toInt64 0 0 0 0 := by
  have h3 : (gp (lst n K P) (e - 1)).1 = 3 := by rw [gp_l (by omega)]; exact h
  have h4 : tlast (gp (lst n K P)) e = e - 2 := if_pos h3
  unfold turnD
  rw [if_pos h3, h4, gp_l (show e - 2 < n by omega)]
  rfl
theorem turnD_n (he : e ≤ n) (h1 : 1 ≤ e) (h : ¬ K (e - 1) = 3) : turnD (gp (lst n K P)) d f e = tnL (gp (lst n K P)) f (e - 1 - f) (addD d 0 (P (6 * (e - 1) + 0)).toInt64 (P (6 * (e - 1) + 1)).toInt64 0 0 0 0) := by
  have h3 : ¬ (gp (lst n K P) (e - 1)).1 = 3 := by rw [gp_l (by omega)]; exact h
  have h4 : tlast (gp (lst n K P)) e = e - 1 := if_neg h3
  unfold turnD
  rw [if_neg h3, h4, gp_l (show e - 1 < n by omega)]
  rfl
end TN
/-- where the subpath ends that goes on at j -/
def nxF (g : Nat → Pt) (n : Nat) : Nat → Nat → Nat
  | 0, j => j
  | m + 1, j => if j < n ∧ ¬ (g j).1 = 0 then nxF g n m (j + 1) else j
def revF (g : Nat → Pt) (n : Nat) : Nat → Nat → DS → DS
  | 0, _, d => d
  | m + 1, k, d => if k < n then revF g n m (nxF g n (n - (k + 1)) (k + 1)) (turnD g d k (nxF g n (n - (k + 1)) (k + 1))) else d
def rReverse (ps : List Pt) : Int32 × List Pt := setl ps (revF (gp ps) ps.length ps.length 0 ([], false, false))
section NX
variable {n : Nat} {K P : Nat → Int32} {j : Nat}
theorem nx_go (h : j < n) (h2 : ¬ K j = 0) : nxF (gp (lst n K P)) n (n - j) j = nxF (gp (lst n K P)) n (n - (j + 1)) (j + 1) := by
  obtain ⟨m, hm⟩ : ∃ m, n - j = m + 1 := ⟨n - j - 1, by omega⟩
  rw [hm, show n - (j + 1) = m by omega]
  exact if_pos ⟨h, by rw [gp_l h]; exact h2⟩
theorem nx_end (h : n ≤ j) : nxF (gp (lst n K P)) n (n - j) j = j := by
  rw [show n - j = 0 by omega]
  rfl
theorem nx_0 (h : j < n) (h2 : K j = 0) : nxF (gp (lst n K P)) n (n - j) j = j := by
  obtain ⟨m, hm⟩ : ∃ m, n - j = m + 1 := ⟨n - j - 1, by omega⟩
  rw [hm]
  exact if_neg (by rintro ⟨_, q⟩; apply q; rw [gp_l h]; exact h2)
theorem rev_go {g : Nat → Pt} {m k e : Nat} {d : DS} (hm : n - k ≤ m) (h : k < n) (he : nxF g n (n - (k + 1)) (k + 1) = e) : revF g n m k d = revF g n (m - 1) e (turnD g d k e) := by
  obtain ⟨m', rfl⟩ : ∃ m', m = m' + 1 := ⟨m - 1, by omega⟩
  subst he
  exact if_pos h
theorem rev_end {g : Nat → Pt} {m k : Nat} {d : DS} (h : n ≤ k) : revF g n m k d = d := by
  cases m with
  | zero => rfl
  | succ m => exact if_neg (by omega)
end NX
