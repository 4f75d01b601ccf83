/-! the reference's draft as one list that is added at once -/
abbrev Q7 : Type := Int32 × Int64 × Int64 × Int64 × Int64 × Int64 × Int64
def ad1 (d : DS) (q : Q7) : DS := addD d q.1 q.2.1 q.2.2.1 q.2.2.2.1 q.2.2.2.2.1 q.2.2.2.2.2.1 q.2.2.2.2.2.2
def addAll (d : DS) (qs : List Q7) : DS := qs.foldl ad1 d
def q7f (q : Q7) : Bool := fr q.2.1 || fr q.2.2.1 || fr q.2.2.2.1 || fr q.2.2.2.2.1 || fr q.2.2.2.2.2.1 || fr q.2.2.2.2.2.2
def q7p (q : Q7) : Pt := (q.1, q.2.1.toInt32, q.2.2.1.toInt32, q.2.2.2.1.toInt32, q.2.2.2.2.1.toInt32, q.2.2.2.2.2.1.toInt32, q.2.2.2.2.2.2.toInt32)
theorem ad1_full {ps : List Pt} {fu fa : Bool} {q : Q7} (h : ps.length = 3000) : ad1 (ps, fu, fa) q = (ps, true, fa || q7f q) := by
  unfold ad1 addD q7f
  rw [if_pos h]
  simp only [Bool.or_assoc]
theorem ad1_ok {ps : List Pt} {fu fa : Bool} {q : Q7} (h : ¬ ps.length = 3000) : ad1 (ps, fu, fa) q = (ps ++ [q7p q], fu, fa || q7f q) := by
  unfold ad1 addD q7f q7p
  rw [if_neg h]
  simp only [Bool.or_assoc]
theorem addAll_far {qs : List Q7} : ∀ {d : DS}, (addAll d qs).2.2 = (d.2.2 || qs.any q7f) := by
  induction qs with
  | nil => intro d; simp [addAll]
  | cons q qs ih =>
    intro d
    obtain ⟨ps, fu, fa⟩ := d
    show (addAll (ad1 (ps, fu, fa) q) qs).2.2 = _
    rw [ih]
    by_cases h : ps.length = 3000
    · rw [ad1_full h]; simp [Bool.or_assoc]
    · rw [ad1_ok h]; simp [Bool.or_assoc]
theorem addAll_stuck {qs : List Q7} : ∀ {ps : List Pt} {fa : Bool}, ps.length = 3000 → (addAll (ps, true, fa) qs).2.1 = true := by
  induction qs with
  | nil => intro ps fa h; rfl
  | cons q qs ih =>
    intro ps fa h
    show (addAll (ad1 (ps, true, fa) q) qs).2.1 = _
    rw [ad1_full h]
    exact ih h
theorem addAll_full {qs : List Q7} : ∀ {ps : List Pt} {fa : Bool}, ps.length ≤ 3000 → 3000 < ps.length + qs.length → (addAll (ps, false, fa) qs).2.1 = true := by
  induction qs with
  | nil => intro ps fa h1 h2; simp at h2; omega
  | cons q qs ih =>
    intro ps fa h1 h2
    show (addAll (ad1 (ps, false, fa) q) qs).2.1 = _
    simp only [List.length_cons] at h2
    by_cases h : ps.length = 3000
    · rw [ad1_full h]; exact addAll_stuck h
    · rw [ad1_ok h]; exact ih (by simp; omega) (by simp; omega)
theorem addAll_ok {qs : List Q7} : ∀ {ps : List Pt} {fu fa : Bool}, ps.length + qs.length ≤ 3000 → addAll (ps, fu, fa) qs = (ps ++ qs.map q7p, fu, fa || qs.any q7f) := by
  induction qs with
  | nil => intro ps fu fa h; simp [addAll]
  | cons q qs ih =>
    intro ps fu fa h
    simp only [List.length_cons] at h
    show addAll (ad1 (ps, fu, fa) q) qs = _
    rw [ad1_ok (by omega), ih (by simp; omega)]
    simp [Bool.or_assoc]
/-- THE REFERENCE'S ANSWER: a list of parts behind ps0, refused when one is far, then when there are too many -/
def putAll (ps ps0 : List Pt) (qs : List Q7) : Int32 × List Pt := if qs.any q7f then (-4, ps) else if 3000 < ps0.length + qs.length then (-3, ps) else (nI (ps0.length + qs.length), ps0 ++ qs.map q7p)
theorem setl_all {ps ps0 : List Pt} {qs : List Q7} (h : ps0.length ≤ 3000) : setl ps (addAll (ps0, false, false) qs) = putAll ps ps0 qs := by
  unfold putAll
  have hf := addAll_far (qs := qs) (d := (ps0, false, false))
  rw [Bool.false_or] at hf
  by_cases h1 : qs.any q7f = true
  · rw [if_pos h1]
    unfold setl
    rw [if_pos (by rw [hf]; exact h1)]
  · rw [if_neg h1]
    by_cases h2 : 3000 < ps0.length + qs.length
    · rw [if_pos h2]
      unfold setl
      rw [if_neg (by rw [hf]; exact h1), if_pos (addAll_full h h2)]
    · rw [if_neg h2, addAll_ok (by omega)]
      unfold setl
      rw [if_neg (by simpa using h1), if_neg (by simp)]
      simp
theorem addAll_app {d : DS} {q1 q2 : List Q7} : addAll d (q1 ++ q2) = addAll (addAll d q1) q2 := List.foldl_append
def q3 (k : Int32) (x y : Int64) : Q7 := (k, x, y, 0, 0, 0, 0)
theorem fr0 : fr 0 = false := by decide
theorem q3_f {k : Int32} {x y : Int64} : q7f (q3 k x y) = (fr x || fr y) := by
  unfold q7f q3
  simp [fr0]
theorem i3264 (x : Int32) : x.toInt64.toInt32 = x := Int32.toInt32_toInt64 x
theorem q3_p {k x y : Int32} : q7p (q3 k x.toInt64 y.toInt64) = (k, x, y, 0, 0, 0, 0) := by
  unfold q7p q3
  simp only [i3264]
  rfl
/-- the path that a beginning is laid behind -/
def mv0 (ps : List Pt) : List Pt := if lk ps = 0 then ps.dropLast else ps
theorem rMove_all {ps : List Pt} {x y : Int32} (h : ps.length ≤ 3000) : rMove ps x y = putAll ps (mv0 ps) [q3 0 x.toInt64 y.toInt64] := by
  have h2 : (mv0 ps).length ≤ 3000 := by
    unfold mv0
    split
    · rw [List.length_dropLast]; omega
    · exact h
  rw [← setl_all h2]
  unfold rMove beginD mv0
  by_cases hk : lk ps = 0
  · rw [if_pos hk, if_pos hk]; rfl
  · rw [if_neg hk, if_neg hk]; rfl
/-- what goes ahead of a segment behind closing -/
def opn (ps : List Pt) : List Q7 := if lk ps = 3 then [q3 0 (lx ps).toInt64 (ly ps).toInt64] else []
theorem openD_all {ps : List Pt} {fu fa : Bool} : openD (ps, fu, fa) = addAll (ps, fu, fa) (opn ps) := by
  unfold openD opn
  by_cases hk : lk ps = 3
  · rw [if_pos hk, if_pos hk]; rfl
  · rw [if_neg hk, if_neg hk]; rfl
theorem rLine_all {ps : List Pt} {x y : Int32} (h : ps.length ≤ 3000) : rLine ps x y = if ps.length = 0 then (-2, ps) else putAll ps ps (opn ps ++ [q3 1 x.toInt64 y.toInt64]) := by
  unfold rLine
  rw [openD_all, ← setl_all h, addAll_app]
  rfl
theorem rCurve_all {ps : List Pt} {x1 y1 x2 y2 x3 y3 : Int32} (h : ps.length ≤ 3000) : rCurve ps x1 y1 x2 y2 x3 y3 = if ps.length = 0 then (-2, ps) else putAll ps ps (opn ps ++ [(2, x3.toInt64, y3.toInt64, x1.toInt64, y1.toInt64, x2.toInt64, y2.toInt64)]) := by
  unfold rCurve
  rw [openD_all, ← setl_all h, addAll_app]
  rfl
theorem rClose_all {ps : List Pt} (h : ps.length ≤ 3000) : rClose ps = if ps.length = 0 ∨ lk ps = 3 then (nI ps.length, ps) else putAll ps ps [q3 3 (lb ps).2.1.toInt64 (lb ps).2.2.1.toInt64] := by
  unfold rClose
  rw [← setl_all h]
  rfl
/-- shift -/
def shQ (dx dy : Int32) (q : Pt) : Q7 := if q.1 = 2 then (q.1, px q + dx.toInt64, py q + dy.toInt64, px1 q + dx.toInt64, py1 q + dy.toInt64, px2 q + dx.toInt64, py2 q + dy.toInt64) else q3 q.1 (px q + dx.toInt64) (py q + dy.toInt64)
theorem shD_all {dx dy : Int32} {ps : List Pt} : ∀ {d : DS}, ps.foldl (shD dx dy) d = addAll d (ps.map (shQ dx dy)) := by
  induction ps with
  | nil => intro d; rfl
  | cons q ps ih =>
    intro d
    show ps.foldl (shD dx dy) (shD dx dy d q) = addAll (ad1 d (shQ dx dy q)) (ps.map (shQ dx dy))
    rw [ih]
    congr 1
    unfold shD shQ
    by_cases hk : q.1 = 2
    · rw [if_pos hk, if_pos hk]; rfl
    · rw [if_neg hk, if_neg hk]; rfl
theorem rShift_all {ps : List Pt} {dx dy : Int32} : rShift ps dx dy = putAll ps [] (ps.map (shQ dx dy)) := by
  rw [← setl_all (Nat.zero_le _)]
  unfold rShift
  rw [shD_all]
