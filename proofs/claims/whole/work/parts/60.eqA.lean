/-! the reference's reverse over subpaths -/
abbrev Sub : Type := P2 × List Pt × Bool
def clo (p : P2) (c : Bool) : List Pt := if c then [(3, p.1, p.2, 0, 0, 0, 0)] else []
def rend (s : Sub) : List Pt := (0, s.1.1, s.1.2, 0, 0, 0, 0) :: (s.2.1 ++ clo s.1 s.2.2)
def renT (s : Sub) : List Pt := turnS s.1 s.2.1 ++ clo (lastP s.1 s.2.1) s.2.2
def nrP (p : P2) : Prop := nr9 p.1 ∧ nr9 p.2
/-- a segment of a path: near, and without control points where it is a line -/
def sgo (q : Pt) : Prop := (q.1 = 1 ∧ nrP (xy q) ∧ q.2.2.2 = (0, 0, 0, 0)) ∨ (q.1 = 2 ∧ nrP (xy q) ∧ nrP (q.2.2.2.1, q.2.2.2.2.1) ∧ nrP (q.2.2.2.2.2.1, q.2.2.2.2.2.2))
def sbo (s : Sub) : Prop := nrP s.1 ∧ ∀ q ∈ s.2.1, sgo q
theorem sgo_seg {q : Pt} (h : sgo q) : seg q := by
  rcases h with h | h
  · exact Or.inl h.1
  · exact Or.inr h.1
theorem gp_at {pre : List Pt} {q : Pt} {r : List Pt} : gp (pre ++ q :: r) pre.length = q := by
  unfold gp
  rw [List.getD_eq_getElem?_getD, List.getElem?_append_right (Nat.le_refl _)]
  simp
theorem gp_app {pre l r : List Pt} {i : Nat} {q : Pt} (h : l[i]? = some q) : gp (pre ++ (l ++ r)) (pre.length + i) = q := by
  have hi : i < l.length := by
    rcases Nat.lt_or_ge i l.length with z | z
    · exact z
    · rw [List.getElem?_eq_none z] at h; cases h
  unfold gp
  rw [List.getD_eq_getElem?_getD, List.getElem?_append_right (by omega), Nat.add_sub_cancel_left, List.getElem?_append_left hi, h]
  rfl
theorem nxF_list {ps : List Pt} : ∀ {A : List Pt} {pre B : List Pt}, ps = pre ++ (A ++ B) → (∀ q ∈ A, ¬ q.1 = 0) → (∀ q, B.head? = some q → q.1 = 0) → nxF (gp ps) ps.length (ps.length - pre.length) pre.length = pre.length + A.length := by
  intro A
  induction A with
  | nil =>
    intro pre B h _ hB
    cases B with
    | nil =>
      have : ps.length - pre.length = 0 := by rw [h]; simp
      rw [this]
      rfl
    | cons b B =>
      have hl : ps.length - pre.length = B.length + 1 := by rw [h]; simp
      rw [hl]
      refine if_neg ?_
      rintro ⟨_, z⟩
      apply z
      rw [h]
      show (gp (pre ++ b :: B) pre.length).1 = 0
      rw [gp_at]
      exact hB b rfl
  | cons q A ih =>
    intro pre B h hA hB
    have hl : ps.length - pre.length = (A.length + B.length) + 1 := by rw [h]; simp <;> omega
    have hl2 : ps.length - (pre ++ [q]).length = A.length + B.length := by rw [h]; simp; omega
    have hg : gp ps pre.length = q := by rw [h]; exact gp_at
    have h1 := ih (pre := pre ++ [q]) (B := B) (by rw [h]; simp) (fun z hz => hA z (List.mem_cons_of_mem _ hz)) hB
    rw [hl2] at h1
    rw [hl]
    show (if pre.length < ps.length ∧ ¬ (gp ps pre.length).1 = 0 then nxF (gp ps) ps.length (A.length + B.length) (pre.length + 1) else pre.length) = _
    rw [if_pos ⟨by rw [h]; simp, by rw [hg]; exact hA q List.mem_cons_self⟩]
    have h2 : (pre ++ [q]).length = pre.length + 1 := by simp
    rw [h2] at h1
    rw [h1]
    simp
    omega
theorem q7_tn {g : Nat → Pt} {k : Nat} : q7p (tnQ g k) = sw (g k) (xy (g (k - 1))) := by
  unfold tnQ sw xy
  by_cases h : (g k).1 = 2
  · rw [if_pos h, if_pos h]
    unfold q7p px py px1 py1 px2 py2
    simp only [i3264]
  · rw [if_neg h, if_neg h]
    unfold px py
    exact q3_p
theorem nrP_f {p : P2} (h : nrP p) : fr p.1.toInt64 = false ∧ fr p.2.toInt64 = false := ⟨fr_nr.mpr h.1, fr_nr.mpr h.2⟩
theorem q7_tnf {g : Nat → Pt} {k : Nat} (h1 : sgo (g k)) (h2 : nrP (xy (g (k - 1)))) : q7f (tnQ g k) = false := by
  obtain ⟨a1, a2⟩ := nrP_f h2
  unfold xy at a1 a2
  unfold tnQ
  rcases h1 with ⟨k1, _, _⟩ | ⟨k2, b1, b2, b3⟩
  · rw [if_neg (by rw [k1]; decide), q3_f]
    unfold px py
    rw [a1, a2]
    rfl
  · obtain ⟨c1, c2⟩ := nrP_f b2
    obtain ⟨d1, d2⟩ := nrP_f b3
    rw [if_pos k2]
    unfold q7f px py px1 py1 px2 py2
    simp only [a1, a2, c1, c2, d1, d2]
    rfl
theorem zs_snoc : ∀ {l : List Pt} {p : P2} {q : Pt}, zs p (l ++ [q]) = zs p l ++ [sw q (lastP p l)] := by
  intro l
  induction l with
  | nil => intros; rfl
  | cons a l ih =>
    intro p q
    show sw a p :: zs (xy a) (l ++ [q]) = _
    rw [ih]
    rfl
theorem lastP_snoc : ∀ {l : List Pt} {p : P2} {q : Pt}, lastP p (l ++ [q]) = xy q := by
  intro l
  induction l with
  | nil => intros; rfl
  | cons a l ih => intro p q; exact ih
theorem lastP_nr {l : List Pt} {p : P2} (hp : nrP p) (h : ∀ q ∈ l, sgo q) : nrP (lastP p l) := by
  induction l generalizing p with
  | nil => exact hp
  | cons a l ih =>
    refine ih (p := xy a) ?_ (fun q hq => h q (List.mem_cons_of_mem _ hq))
    rcases h a List.mem_cons_self with z | z
    · exact z.2.1
    · exact z.2.1
/-- the segments of a subpath, from its last one back -/
theorem tnLs_list {g : Nat → Pt} {f : Nat} {p : P2} (hp : nrP p) (hf : xy (g f) = p) : ∀ {segs : List Pt}, (∀ q ∈ segs, sgo q) → (∀ i q, segs[i]? = some q → g (f + 1 + i) = q) → (tnLs g f segs.length).map q7p = (zs p segs).reverse ∧ (∀ z ∈ tnLs g f segs.length, q7f z = false) ∧ xy (g (f + segs.length)) = lastP p segs := by
  intro segs
  induction h : segs.length generalizing segs with
  | zero =>
    intro _ _
    have : segs = [] := List.eq_nil_of_length_eq_zero h
    subst this
    exact ⟨rfl, fun z hz => absurd hz List.not_mem_nil, hf⟩
  | succ m ih =>
    intro hs hg
    obtain ⟨l, q, rfl⟩ : ∃ l q, segs = l ++ [q] := ⟨segs.dropLast, segs.getLast (by intro z; rw [z] at h; cases h), (List.dropLast_concat_getLast _).symm⟩
    have hl : l.length = m := by simp at h; exact h
    have hq : g (f + 1 + m) = q := hg m q (by rw [← hl]; simp)
    obtain ⟨i1, i2, i3⟩ := ih (segs := l) hl (fun z hz => hs z (List.mem_append_left _ hz)) (fun i z hz => hg i z (by
      have hi : i < l.length := by
        rcases Nat.lt_or_ge i l.length with y | y
        · exact y
        · rw [List.getElem?_eq_none y] at hz; cases hz
      rw [List.getElem?_append_left hi]; exact hz))
    have hk : f + m + 1 = f + 1 + m := by omega
    have hk1 : f + 1 + m - 1 = f + m := by omega
    refine ⟨?_, ?_, ?_⟩
    · show q7p (tnQ g (f + m + 1)) :: (tnLs g f m).map q7p = _
      rw [i1, q7_tn, hk, hk1, hq, i3, zs_snoc, List.reverse_append]
      rfl
    · intro z hz
      rcases List.mem_cons.mp hz with y | y
      · rw [y, hk]
        refine q7_tnf ?_ ?_
        · rw [hq]; exact hs q (List.mem_append_right _ List.mem_cons_self)
        · rw [hk1, i3]; exact lastP_nr hp (fun z hz => hs z (List.mem_append_left _ hz))
      · exact i2 z y
    · rw [show f + (m + 1) = f + 1 + m by omega, hq, lastP_snoc]
