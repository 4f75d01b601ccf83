/-! reverse and flatten as one list -/
def tnQ (g : Nat → Pt) (k : Nat) : Q7 := if (g k).1 = 2 then ((g k).1, px (g (k - 1)), py (g (k - 1)), px2 (g k), py2 (g k), px1 (g k), py1 (g k)) else q3 (g k).1 (px (g (k - 1))) (py (g (k - 1)))
theorem tnS_all {g : Nat → Pt} {d : DS} {k : Nat} : tnS g d k = ad1 d (tnQ g k) := by
  unfold tnS tnQ
  by_cases hk : (g k).1 = 2
  · rw [if_pos hk, if_pos hk]; rfl
  · rw [if_neg hk, if_neg hk]; rfl
/-- the segments of a subpath from its m-th back to its first -/
def tnLs (g : Nat → Pt) (f : Nat) : Nat → List Q7
  | 0 => []
  | m + 1 => tnQ g (f + m + 1) :: tnLs g f m
theorem tnL_all {g : Nat → Pt} {f : Nat} : ∀ {m : Nat} {d : DS}, tnL g f m d = addAll d (tnLs g f m) := by
  intro m
  induction m with
  | zero => intro d; rfl
  | succ m ih =>
    intro d
    show tnL g f m (tnS g d (f + m + 1)) = addAll (ad1 d (tnQ g (f + m + 1))) (tnLs g f m)
    rw [ih, tnS_all]
/-- a subpath turned round: parts f up to e - 1 -/
def turnQ (g : Nat → Pt) (f e : Nat) : List Q7 :=
  q3 0 (px (g (tlast g e))) (py (g (tlast g e))) :: (tnLs g f (tlast g e - f) ++ if (g (e - 1)).1 = 3 then [q3 3 (px (g (tlast g e))) (py (g (tlast g e)))] else [])
theorem turnD_all {g : Nat → Pt} {d : DS} {f e : Nat} : turnD g d f e = addAll d (turnQ g f e) := by
  unfold turnD turnQ
  by_cases hk : (g (e - 1)).1 = 3
  · rw [if_pos hk, if_pos hk, tnL_all]
    show _ = addAll (ad1 d _) _
    rw [addAll_app]
    rfl
  · rw [if_neg hk, if_neg hk, tnL_all, List.append_nil]
    rfl
def revQ (g : Nat → Pt) (n : Nat) : Nat → Nat → List Q7
  | 0, _ => []
  | m + 1, k => if k < n then turnQ g k (nxF g n (n - (k + 1)) (k + 1)) ++ revQ g n m (nxF g n (n - (k + 1)) (k + 1)) else []
theorem revF_all {g : Nat → Pt} {n : Nat} : ∀ {m k : Nat} {d : DS}, revF g n m k d = addAll d (revQ g n m k) := by
  intro m
  induction m with
  | zero => intro k d; rfl
  | succ m ih =>
    intro k d
    unfold revF revQ
    by_cases hk : k < n
    · rw [if_pos hk, if_pos hk, ih, turnD_all, addAll_app]
    · rw [if_neg hk, if_neg hk]; rfl
theorem rReverse_all {ps : List Pt} : rReverse ps = putAll ps [] (revQ (gp ps) ps.length ps.length 0) := by
  rw [← setl_all (Nat.zero_le _)]
  unfold rReverse
  rw [revF_all]
/-- the ends of the lines that a curve becomes -/
def layQ (bd : Int32) : Nat → Int64 → Int64 → Int64 → Int64 → Int64 → Int64 → Int64 → Int64 → List Q7
  | 0, _, _, _, _, _, _, dx, dy => [q3 1 dx dy]
  | m + 1, ax, ay, bx, by_, cx, cy, dx, dy =>
    if flatQ ax ay bx by_ cx cy dx dy bd then [q3 1 dx dy]
    else layQ bd m ax ay (hvL ax bx) (hvL ay by_) (hvL (hvL ax bx) (hvL bx cx)) (hvL (hvL ay by_) (hvL by_ cy)) (hvL (hvL (hvL ax bx) (hvL bx cx)) (hvL (hvL bx cx) (hvL cx dx))) (hvL (hvL (hvL ay by_) (hvL by_ cy)) (hvL (hvL by_ cy) (hvL cy dy)))
      ++ layQ bd m (hvL (hvL (hvL ax bx) (hvL bx cx)) (hvL (hvL bx cx) (hvL cx dx))) (hvL (hvL (hvL ay by_) (hvL by_ cy)) (hvL (hvL by_ cy) (hvL cy dy))) (hvL (hvL bx cx) (hvL cx dx)) (hvL (hvL by_ cy) (hvL cy dy)) (hvL cx dx) (hvL cy dy) dx dy
theorem layD_all {bd : Int32} : ∀ {m : Nat} {d : DS} {ax ay bx by_ cx cy dx dy : Int64}, layD bd m d ax ay bx by_ cx cy dx dy = addAll d (layQ bd m ax ay bx by_ cx cy dx dy) := by
  intro m
  induction m with
  | zero => intros; rfl
  | succ m ih =>
    intro d ax ay bx by_ cx cy dx dy
    unfold layD layQ
    by_cases hk : flatQ ax ay bx by_ cx cy dx dy bd = true
    · rw [if_pos hk, if_pos hk]; rfl
    · rw [if_neg hk, if_neg hk, ih, ih, addAll_app]
def flQ (g : Nat → Pt) (bd : Int32) (k : Nat) : List Q7 :=
  if (g k).1 = 2 then layQ bd 10 (px (g (k - 1))) (py (g (k - 1))) (px1 (g k)) (py1 (g k)) (px2 (g k)) (py2 (g k)) (px (g k)) (py (g k)) else [q3 (g k).1 (px (g k)) (py (g k))]
theorem flD_all {g : Nat → Pt} {bd : Int32} {d : DS} {k : Nat} : flD g bd d k = addAll d (flQ g bd k) := by
  unfold flD flQ
  by_cases hk : (g k).1 = 2
  · rw [if_pos hk, if_pos hk, layD_all]
  · rw [if_neg hk, if_neg hk]; rfl
/-- the first k parts, flattened -/
def flQs (g : Nat → Pt) (bd : Int32) : Nat → List Q7
  | 0 => []
  | k + 1 => flQs g bd k ++ flQ g bd k
theorem flP_all {g : Nat → Pt} {bd : Int32} : ∀ {k : Nat}, flP g bd k = addAll ([], false, false) (flQs g bd k) := by
  intro k
  induction k with
  | zero => rfl
  | succ k ih =>
    show flD g bd (flP g bd k) k = addAll _ (flQs g bd k ++ flQ g bd k)
    rw [addAll_app, ← ih, flD_all]
theorem rFlatten_all {ps : List Pt} {bd : Int32} : rFlatten ps bd = if bd < 1 ∨ ¬ bd ≤ 6553600 then (-1, ps) else putAll ps [] (flQs (gp ps) bd ps.length) := by
  rw [← setl_all (Nat.zero_le _)]
  unfold rFlatten
  rw [flP_all]
/-! arcs as one list -/
def bAq (ps : List Pt) (px_ py_ : Int64) : List Q7 := if ps.length = 0 then [q3 0 px_ py_] else opn ps ++ [q3 1 px_ py_]
theorem bArc_all {ps : List Pt} {fu fa : Bool} {px_ py_ : Int64} : bArc (ps, fu, fa) px_ py_ = addAll (ps, fu, fa) (bAq ps px_ py_) := by
  unfold bArc bAq
  by_cases hk : ps.length = 0
  · rw [if_pos hk, if_pos hk]
    have hp : ps = [] := List.eq_nil_of_length_eq_zero hk
    subst hp
    unfold beginD
    rw [if_neg (by show ¬ (-1 : Int32) = 0; decide)]
    rfl
  · rw [if_neg hk, if_neg hk, openD_all, addAll_app]
    rfl
def cvQ (x y : Int64) (ax : Ax4) (u : V8) (back : Bool) : Q7 := match ax, u with
  | (p, q, r, s), (u0, u1, u2, u3, u4, u5, u6, u7) =>
    if back then (2, aro x u0 u1 p r, aro y u0 u1 q s, aro x u4 u5 p r, aro y u4 u5 q s, aro x u2 u3 p r, aro y u2 u3 q s)
    else (2, aro x u6 u7 p r, aro y u6 u7 q s, aro x u2 u3 p r, aro y u2 u3 q s, aro x u4 u5 p r, aro y u4 u5 q s)
theorem cvD_all {d : DS} {x y : Int64} {ax : Ax4} {u : V8} {back : Bool} : cvD d x y ax u back = ad1 d (cvQ x y ax u back) := by
  obtain ⟨p, q, r, s⟩ := ax
  obtain ⟨u0, u1, u2, u3, u4, u5, u6, u7⟩ := u
  cases back <;> rfl
/-- where an arc begins: the first point of its first part (the last one, the other way) -/
def bgQ (x y : Int64) (ax : Ax4) (u : V8) (bk : Bool) : Int64 × Int64 := match ax, u with
  | (p, q, r, s), (u0, u1, _, _, _, _, u6, u7) => if bk then (aro x u6 u7 p r, aro y u6 u7 q s) else (aro x u0 u1 p r, aro y u0 u1 q s)
theorem bgA_all {ps : List Pt} {fu fa : Bool} {x y : Int64} {ax : Ax4} {u : V8} {bk : Bool} : bgA (ps, fu, fa) x y ax u bk = addAll (ps, fu, fa) (bAq ps (bgQ x y ax u bk).1 (bgQ x y ax u bk).2) := by
  obtain ⟨p, q, r, s⟩ := ax
  obtain ⟨u0, u1, u2, u3, u4, u5, u6, u7⟩ := u
  cases bk
  · exact bArc_all
  · exact bArc_all
/-- the parts of an arc: those quarters where it has two different places, from i on, m at most -/
def aqs (z0 z1 : Int64) (bk : Bool) (fq lq : Int64) : Nat → Int64 → List V8
  | 0, _ => []
  | m + 1, i => (if frm (if bk then fq + lq - i else i) z0 = tow (if bk then fq + lq - i else i) z1 then [] else [cut8 (qv8 (fmd (if bk then fq + lq - i else i) 4)) (frm (if bk then fq + lq - i else i) z0) (tow (if bk then fq + lq - i else i) z1)]) ++ aqs z0 z1 bk fq lq m (i + 1)
/-- what a list of parts adds -/
def drw (ps : List Pt) (x y : Int64) (ax : Ax4) (bk : Bool) : List V8 → List Q7
  | [] => []
  | u :: us => bAq ps (bgQ x y ax u bk).1 (bgQ x y ax u bk).2 ++ (u :: us).map (fun v => cvQ x y ax v bk)
theorem arcLoop_t_all {x y : Int64} {ax : Ax4} {z0 z1 : Int64} {bk : Bool} {fq lq : Int64} : ∀ {m : Nat} {i : Int64} {d : DS}, arcLoop x y ax z0 z1 bk fq lq m i (true, d) = (true, addAll d ((aqs z0 z1 bk fq lq m i).map (fun v => cvQ x y ax v bk))) := by
  intro m
  induction m with
  | zero => intros; rfl
  | succ m ih =>
    intro i d
    show arcLoop x y ax z0 z1 bk fq lq m (i + 1) (arcStep x y ax z0 z1 bk (if bk then fq + lq - i else i) (true, d)) = _
    unfold aqs
    by_cases hk : frm (if bk then fq + lq - i else i) z0 = tow (if bk then fq + lq - i else i) z1
    · rw [arcStep_0 hk, if_pos hk, ih, List.nil_append]
    · rw [if_neg hk, arcStep_1 hk rfl rfl, ih, cvD_all, List.map_append, addAll_app]
      rfl
theorem arcLoop_all {x y : Int64} {ax : Ax4} {z0 z1 : Int64} {bk : Bool} {fq lq : Int64} {ps : List Pt} {fu fa : Bool} : ∀ {m : Nat} {i : Int64}, arcLoop x y ax z0 z1 bk fq lq m i (false, (ps, fu, fa)) = (decide (aqs z0 z1 bk fq lq m i ≠ []), addAll (ps, fu, fa) (drw ps x y ax bk (aqs z0 z1 bk fq lq m i))) := by
  intro m
  induction m with
  | zero => intros; rfl
  | succ m ih =>
    intro i
    show arcLoop x y ax z0 z1 bk fq lq m (i + 1) (arcStep x y ax z0 z1 bk (if bk then fq + lq - i else i) (false, (ps, fu, fa))) = _
    unfold aqs
    by_cases hk : frm (if bk then fq + lq - i else i) z0 = tow (if bk then fq + lq - i else i) z1
    · rw [arcStep_0 hk, if_pos hk, ih, List.nil_append]
    · rw [if_neg hk, arcStep_2 hk rfl rfl rfl, arcLoop_t_all, cvD_all, bgA_all]
      simp only [List.singleton_append, drw, List.map_cons, addAll_app]
      rfl
