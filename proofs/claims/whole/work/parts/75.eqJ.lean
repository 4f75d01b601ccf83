/-! a path part by part; halving stays near -/
theorem lk_rf {A : List Pt} {p : P2} {segs : List Pt} (h : ∀ q ∈ segs, sgo q) : ¬ lk (A ++ rend (p, segs, false)) = 3 := by
  rcases List.eq_nil_or_concat segs with hu | ⟨l, q, hu⟩
  · subst hu
    rw [rend_fn, lk_snoc]
    show ¬ (0 : Int32) = 3
    decide
  · have hu : segs = l ++ [q] := by rw [hu]; simp
    subst hu
    rw [rend_fs, ← List.append_assoc, lk_snoc]
    rcases h q (List.mem_append_right _ List.mem_cons_self) with ⟨z, -⟩ | ⟨z, -⟩ <;> rw [z] <;> decide
theorem gdp_step {P : List Pt} {q : Pt} (h : gdp (P ++ [q])) : gdp P ∧ ((q = (0, q.2.1, q.2.2.1, 0, 0, 0, 0) ∧ nrP (xy q)) ∨ (P ≠ [] ∧ ¬ lk P = 3 ∧ sgo q) ∨ (P ≠ [] ∧ ¬ lk P = 3 ∧ q = (3, (lb P).2.1, (lb P).2.2.1, 0, 0, 0, 0) ∧ nrP (xy q))) := by
  rcases gdp_cases h (by simp) with ⟨A, p, segs, hA, hs, he⟩ | ⟨A, p, hA, hs, he⟩ | ⟨A, p, l, q', hA, hs, he⟩
  · obtain ⟨h1, h2⟩ := List.append_inj' he rfl
    obtain rfl : q = _ := (List.cons.inj h2).1
    have h1 : P = A ++ rend (p, segs, false) := by rw [h1, rend_f]
    subst h1
    refine ⟨gdp_snoc hA hs, Or.inr (Or.inr ⟨by simp [rend], lk_rf hs.2, ?_, hs.1⟩)⟩
    rw [lb_rend hs.2]
  · obtain ⟨h1, h2⟩ := List.append_inj' he rfl
    obtain rfl : q = _ := (List.cons.inj h2).1
    subst h1
    exact ⟨hA, Or.inl ⟨rfl, hs⟩⟩
  · obtain ⟨h1, h2⟩ := List.append_inj' he rfl
    obtain rfl : q = _ := (List.cons.inj h2).1
    have h1 : P = A ++ rend (p, l, false) := by rw [h1, rend_f]
    subst h1
    have hl : ∀ z ∈ l, sgo z := fun z hz => hs.2 z (List.mem_append_left _ hz)
    exact ⟨gdp_snoc hA ⟨hs.1, hl⟩, Or.inr (Or.inl ⟨by simp [rend], lk_rf hl, hs.2 q (List.mem_append_right _ List.mem_cons_self)⟩)⟩
theorem gdp_pre {a : List Pt} : ∀ {n : Nat} {b : List Pt}, b.length = n → gdp (a ++ b) → gdp a := by
  intro n
  induction n with
  | zero => intro b hb h; rw [List.eq_nil_of_length_eq_zero hb, List.append_nil] at h; exact h
  | succ n ih =>
    intro b hb h
    rcases List.eq_nil_or_concat b with hu | ⟨l, q, hu⟩
    · subst hu; cases hb
    · have hu : b = l ++ [q] := by rw [hu]; simp
      subst hu
      rw [← List.append_assoc] at h
      exact ih (by simpa using hb) (gdp_step h).1
theorem gdp_take {ps : List Pt} {k : Nat} (h : gdp ps) : gdp (ps.take k) := gdp_pre (b := ps.drop k) rfl (by rw [List.take_append_drop]; exact h)
theorem lb_snoc {A : List Pt} {q : Pt} : lb (A ++ [q]) = if q.1 = 0 then q else lb A := by
  unfold lb
  rw [List.reverse_append]
  by_cases h : q.1 = 0
  · rw [if_pos h]
    simp [h]
  · rw [if_neg h]
    simp [h]
theorem lb_segs {A B : List Pt} (h : ∀ q ∈ B, ¬ q.1 = 0) : lb (A ++ B) = lb A := by
  unfold lb
  rw [List.reverse_append, find_no h]
theorem take_snoc {ps : List Pt} {k : Nat} (h : k < ps.length) : ps.take (k + 1) = ps.take k ++ [gp ps k] := by
  rw [List.take_add_one]
  congr 1
  unfold gp
  rw [List.getD_eq_getElem?_getD, List.getElem?_eq_getElem h]
  rfl
theorem hvL_fr {a b : Int64} (ha : fr a = false) (hb : fr b = false) : fr (hvL a b) = false := by
  obtain ⟨a1, a2⟩ := fr_64 ha
  obtain ⟨b1, b2⟩ := fr_64 hb
  have h := hv_ok a1 b1
  rw [a2, b2] at h
  rw [← h.1]
  exact fr_nr.mpr h.2
theorem lay_near {bd : Int32} : ∀ {m : Nat} {ax ay bx by_ cx cy dx dy : Int64}, fr ax = false → fr ay = false → fr bx = false → fr by_ = false → fr cx = false → fr cy = false → fr dx = false → fr dy = false → (∀ q ∈ layQ bd m ax ay bx by_ cx cy dx dy, ∃ x y, q = q3 1 x y ∧ fr x = false ∧ fr y = false) ∧ ∃ l, layQ bd m ax ay bx by_ cx cy dx dy = l ++ [q3 1 dx dy] := by
  intro m
  induction m with
  | zero =>
    intro ax ay bx by_ cx cy dx dy _ _ _ _ _ _ h7 h8
    exact ⟨fun q hq => ⟨dx, dy, List.mem_singleton.mp hq, h7, h8⟩, [], rfl⟩
  | succ m ih =>
    intro ax ay bx by_ cx cy dx dy h1 h2 h3 h4 h5 h6 h7 h8
    unfold layQ
    by_cases hk : flatQ ax ay bx by_ cx cy dx dy bd = true
    · rw [if_pos hk]
      exact ⟨fun q hq => ⟨dx, dy, List.mem_singleton.mp hq, h7, h8⟩, [], rfl⟩
    · rw [if_neg hk]
      have a1 := hvL_fr h1 h3
      have a2 := hvL_fr h2 h4
      have b1 := hvL_fr h3 h5
      have b2 := hvL_fr h4 h6
      have c1 := hvL_fr h5 h7
      have c2 := hvL_fr h6 h8
      have d1 := hvL_fr a1 b1
      have d2 := hvL_fr a2 b2
      have e1 := hvL_fr b1 c1
      have e2 := hvL_fr b2 c2
      have f1 := hvL_fr d1 e1
      have f2 := hvL_fr d2 e2
      obtain ⟨u1, -⟩ := ih h1 h2 a1 a2 d1 d2 f1 f2
      obtain ⟨v1, l, v2⟩ := ih f1 f2 e1 e2 c1 c2 h7 h8
      refine ⟨fun q hq => ?_, ?_⟩
      · rcases List.mem_append.mp hq with z | z
        · exact u1 q z
        · exact v1 q z
      · rw [v2, ← List.append_assoc]
        exact ⟨_, rfl⟩
