/-! paths made of subpaths: what every call keeps -/
def gdp (ps : List Pt) : Prop := ∃ subs : List Sub, ps = subs.flatMap rend ∧ ∀ s ∈ subs, sbo s
theorem gdp_nil : gdp [] := ⟨[], rfl, fun _ h => absurd h (by simp)⟩
theorem gdp_snoc {A : List Pt} {s : Sub} (hA : gdp A) (hs : sbo s) : gdp (A ++ rend s) := by
  obtain ⟨u, rfl, h⟩ := hA
  refine ⟨u ++ [s], by simp, ?_⟩
  intro t ht
  rcases List.mem_append.mp ht with h1 | h1
  · exact h t h1
  · rw [List.mem_singleton.mp h1]; exact hs
theorem gdp_last {ps : List Pt} (h : gdp ps) (hn : ps ≠ []) : ∃ A s, gdp A ∧ sbo s ∧ ps = A ++ rend s := by
  obtain ⟨u, rfl, h⟩ := h
  rcases List.eq_nil_or_concat u with hu | ⟨l, s, hu⟩
  · subst hu; exact absurd rfl hn
  · have hu : u = l ++ [s] := by rw [hu]; simp
    subst hu
    exact ⟨l.flatMap rend, s, ⟨l, rfl, fun t ht => h t (List.mem_append_left _ ht)⟩, h s (List.mem_append_right _ List.mem_cons_self), by simp⟩
theorem lk_snoc {A : List Pt} {q : Pt} : lk (A ++ [q]) = q.1 := by unfold lk; rw [List.getLast?_concat]
theorem lx_snoc {A : List Pt} {q : Pt} : lx (A ++ [q]) = q.2.1 := by unfold lx; rw [List.getLast?_concat]
theorem ly_snoc {A : List Pt} {q : Pt} : ly (A ++ [q]) = q.2.2.1 := by unfold ly; rw [List.getLast?_concat]
theorem rend_t {p : P2} {segs : List Pt} : rend (p, segs, true) = ((0, p.1, p.2, 0, 0, 0, 0) :: segs) ++ [(3, p.1, p.2, 0, 0, 0, 0)] := rfl
theorem rend_f {p : P2} {segs : List Pt} : rend (p, segs, false) = (0, p.1, p.2, 0, 0, 0, 0) :: segs := by simp [rend, clo]
theorem rend_fn {p : P2} : rend (p, [], false) = [(0, p.1, p.2, 0, 0, 0, 0)] := rfl
theorem rend_fs {p : P2} {l : List Pt} {q : Pt} : rend (p, l ++ [q], false) = ((0, p.1, p.2, 0, 0, 0, 0) :: l) ++ [q] := by simp [rend, clo]
/-- the latest subpath: closed, only begun, or with a segment behind -/
theorem gdp_cases {ps : List Pt} (h : gdp ps) (hn : ps ≠ []) : (∃ A p segs, gdp A ∧ sbo (p, segs, true) ∧ ps = (A ++ ((0, p.1, p.2, 0, 0, 0, 0) :: segs)) ++ [(3, p.1, p.2, 0, 0, 0, 0)]) ∨ (∃ A p, gdp A ∧ nrP p ∧ ps = A ++ [(0, p.1, p.2, 0, 0, 0, 0)]) ∨ ∃ A p l q, gdp A ∧ sbo (p, l ++ [q], false) ∧ ps = (A ++ ((0, p.1, p.2, 0, 0, 0, 0) :: l)) ++ [q] := by
  obtain ⟨A, ⟨p, segs, c⟩, hA, hs, rfl⟩ := gdp_last h hn
  cases c with
  | true => exact Or.inl ⟨A, p, segs, hA, hs, by rw [rend_t, List.append_assoc]⟩
  | false =>
    rcases List.eq_nil_or_concat segs with hu | ⟨l, q, hu⟩
    · subst hu
      exact Or.inr (Or.inl ⟨A, p, hA, hs.1, rfl⟩)
    · have hu : segs = l ++ [q] := by rw [hu]; simp
      subst hu
      exact Or.inr (Or.inr ⟨A, p, l, q, hA, hs, by rw [rend_fs, List.append_assoc]⟩)
theorem gdp_open_last {ps : List Pt} (h : gdp ps) (hn : ps ≠ []) (hk : ¬ lk ps = 3) : ∃ A p segs, gdp A ∧ sbo (p, segs, false) ∧ ps = A ++ rend (p, segs, false) := by
  obtain ⟨A, ⟨p, segs, c⟩, hA, hs, rfl⟩ := gdp_last h hn
  cases c with
  | true =>
    exfalso
    apply hk
    rw [rend_t, ← List.append_assoc, lk_snoc]
  | false => exact ⟨A, p, segs, hA, hs, rfl⟩
theorem gdp_seg {ps : List Pt} {q : Pt} (h : gdp ps) (hn : ps ≠ []) (hk : ¬ lk ps = 3) (hq : sgo q) : gdp (ps ++ [q]) := by
  obtain ⟨A, p, segs, hA, hs, rfl⟩ := gdp_open_last h hn hk
  have h1 := gdp_snoc (s := (p, segs ++ [q], false)) hA ⟨hs.1, fun t ht => by
    rcases List.mem_append.mp ht with h1 | h1
    · exact hs.2 t h1
    · rw [List.mem_singleton.mp h1]; exact hq⟩
  rw [rend_fs] at h1
  rw [rend_f, List.append_assoc]
  exact h1
theorem find_no {segs R : List Pt} (h : ∀ q ∈ segs, ¬ q.1 = 0) : (segs.reverse ++ R).find? (fun q => decide (q.1 = 0)) = R.find? (fun q => decide (q.1 = 0)) := by
  rw [List.find?_append]
  have : segs.reverse.find? (fun q => decide (q.1 = 0)) = none := by
    rw [List.find?_eq_none]
    intro q hq
    simp [h q (List.mem_reverse.mp hq)]
  rw [this]
  rfl
theorem sgo_0 {q : Pt} (h : sgo q) : ¬ q.1 = 0 := by
  rcases h with ⟨h, -⟩ | ⟨h, -⟩ <;> rw [h] <;> decide
theorem lb_rend {A : List Pt} {p : P2} {segs : List Pt} (h : ∀ q ∈ segs, sgo q) : lb (A ++ rend (p, segs, false)) = (0, p.1, p.2, 0, 0, 0, 0) := by
  unfold lb
  rw [rend_f, List.reverse_append, List.reverse_cons, List.append_assoc, find_no (fun q hq => sgo_0 (h q hq))]
  rfl
theorem gdp_close {ps : List Pt} (h : gdp ps) (hn : ps ≠ []) (hk : ¬ lk ps = 3) : gdp (ps ++ [(3, (lb ps).2.1, (lb ps).2.2.1, 0, 0, 0, 0)]) ∧ nrP ((lb ps).2.1, (lb ps).2.2.1) := by
  obtain ⟨A, p, segs, hA, hs, rfl⟩ := gdp_open_last h hn hk
  rw [lb_rend hs.2]
  refine ⟨?_, hs.1⟩
  have h1 := gdp_snoc (s := (p, segs, true)) hA hs
  rw [rend_t] at h1
  rw [rend_f, List.append_assoc]
  exact h1
theorem gdp_begin {ps : List Pt} {p : P2} (h : gdp ps) (hp : nrP p) : gdp (ps ++ [(0, p.1, p.2, 0, 0, 0, 0)]) := gdp_snoc (s := (p, [], false)) h ⟨hp, fun _ h => absurd h (by simp)⟩
theorem gdp_lp {ps : List Pt} (h : gdp ps) (hn : ps ≠ []) : nrP (lx ps, ly ps) := by
  rcases gdp_cases h hn with ⟨A, p, segs, hA, hs, rfl⟩ | ⟨A, p, hA, hs, rfl⟩ | ⟨A, p, l, q, hA, hs, rfl⟩
  · rw [lx_snoc, ly_snoc]; exact hs.1
  · rw [lx_snoc, ly_snoc]; exact hs
  · rw [lx_snoc, ly_snoc]
    rcases hs.2 q (List.mem_append_right _ List.mem_cons_self) with ⟨_, h, -⟩ | ⟨_, h, -⟩
    · exact h
    · exact h
theorem gdp_mv {ps : List Pt} (h : gdp ps) : gdp (mv0 ps) := by
  unfold mv0
  by_cases hk : lk ps = 0
  · rw [if_pos hk]
    by_cases hn : ps = []
    · subst hn; exact gdp_nil
    · rcases gdp_cases h hn with ⟨A, p, segs, hA, hs, rfl⟩ | ⟨A, p, hA, hs, rfl⟩ | ⟨A, p, l, q, hA, hs, rfl⟩
      · rw [lk_snoc] at hk; exact absurd hk (by show ¬ (3 : Int32) = 0; decide)
      · rw [List.dropLast_concat]; exact hA
      · rw [lk_snoc] at hk; exact absurd hk (sgo_0 (hs.2 q (List.mem_append_right _ List.mem_cons_self)))
  · rw [if_neg hk]; exact h
theorem gdp_opn {ps : List Pt} (h : gdp ps) (hn : ps ≠ []) : gdp (ps ++ (opn ps).map q7p) ∧ ps ++ (opn ps).map q7p ≠ [] ∧ ¬ lk (ps ++ (opn ps).map q7p) = 3 ∧ (opn ps).any q7f = false := by
  unfold opn
  by_cases hk : lk ps = 3
  · rw [if_pos hk]
    have hl := gdp_lp h hn
    obtain ⟨f1, f2⟩ := nrP_f hl
    have e : [q3 0 (lx ps).toInt64 (ly ps).toInt64].map q7p = [(0, lx ps, ly ps, 0, 0, 0, 0)] := by simp [q3, q7p]
    rw [e]
    refine ⟨gdp_begin (p := (lx ps, ly ps)) h hl, by simp, by rw [lk_snoc]; show ¬ (0 : Int32) = 3; decide, ?_⟩
    have f1 : fr (lx ps).toInt64 = false := f1
    have f2 : fr (ly ps).toInt64 = false := f2
    simp [q3, q7f, f1, f2]
    decide
  · rw [if_neg hk]
    simp only [List.map_nil, List.append_nil]
    exact ⟨h, hn, hk, rfl⟩
