/-! flatten and shift keep the shape -/
/-- what the flattened first parts share with the first parts -/
def FIp (P F : List Pt) : Prop := gdp F ∧ (F = [] ↔ P = []) ∧ (P ≠ [] → lx F = lx P ∧ ly F = ly P ∧ (lk F = 3 ↔ lk P = 3) ∧ lb F = lb P)
theorem sgo_xy {q : Pt} (h : sgo q) : nrP (xy q) := by
  rcases h with z | z
  · exact z.2.1
  · exact z.2.1
theorem nr_px {q : Pt} (h : nrP (xy q)) : fr (px q) = false ∧ fr (py q) = false := by
  unfold px py
  have h1 : nr9 q.2.1 := h.1
  have h2 : nr9 q.2.2.1 := h.2
  exact ⟨fr_nr.mpr h1, fr_nr.mpr h2⟩
theorem FI_step {P F : List Pt} {q : Pt} {bd : Int32} (hF : FIp P F) (h : gdp (P ++ [q])) {g : Nat → Pt} {k : Nat} (hg : g k = q) (hg1 : P ≠ [] → xy (g (k - 1)) = (lx P, ly P)) : FIp (P ++ [q]) (F ++ (flQ g bd k).map q7p) ∧ (flQ g bd k).any q7f = false := by
  obtain ⟨hP, hq⟩ := gdp_step h
  obtain ⟨f1, f2, f3⟩ := hF
  unfold flQ
  rw [hg]
  rcases hq with ⟨h1, h2⟩ | ⟨h1, h2, h3⟩ | ⟨h1, h2, h3, h4⟩
  · have hk : q.1 = 0 := by rw [h1]
    rw [if_neg (by rw [hk]; decide), hk]
    obtain ⟨a1, a2⟩ := nr_px h2
    have e : [q3 0 (px q) (py q)].map q7p = [q] := by
      show [q7p (q3 0 q.2.1.toInt64 q.2.2.1.toInt64)] = [q]
      rw [q3_p, ← h1]
    rw [e]
    refine ⟨⟨by rw [h1]; exact gdp_begin (p := xy q) f1 h2, by simp, fun _ => ⟨by rw [lx_snoc, lx_snoc], by rw [ly_snoc, ly_snoc], by rw [lk_snoc, lk_snoc], by rw [lb_snoc, lb_snoc, if_pos hk, if_pos hk]⟩⟩, ?_⟩
    simp [q3, q7f, a1, a2]
    decide
  · obtain ⟨g1, g2, g3, g4⟩ := f3 h1
    have hF0 : F ≠ [] := fun z => h1 (f2.mp z)
    have hF3 : ¬ lk F = 3 := fun z => h2 (g3.mp z)
    have hxy := sgo_xy h3
    obtain ⟨a1, a2⟩ := nr_px hxy
    have hn3 : ¬ q.1 = 3 := by rcases h3 with ⟨z, -⟩ | ⟨z, -⟩ <;> rw [z] <;> decide
    -- the lines
    have key : ∃ l : List Q7, (if q.1 = 2 then layQ bd 10 (px (g (k - 1))) (py (g (k - 1))) (px1 q) (py1 q) (px2 q) (py2 q) (px q) (py q) else [q3 q.1 (px q) (py q)]) = l ++ [q3 1 (px q) (py q)] ∧ ∀ z ∈ l ++ [q3 1 (px q) (py q)], ∃ x y, z = q3 1 x y ∧ fr x = false ∧ fr y = false := by
      rcases h3 with ⟨z, -, -⟩ | ⟨z, -, z2, z3⟩
      · refine ⟨[], ?_, fun w hw => ⟨px q, py q, List.mem_singleton.mp hw, a1, a2⟩⟩
        rw [if_neg (by rw [z]; decide), z]
        rfl
      · rw [if_pos z]
        have hl : nrP (xy (g (k - 1))) := by rw [hg1 h1]; exact gdp_lp hP h1
        obtain ⟨b1, b2⟩ := nr_px hl
        have c1 : fr (px1 q) = false := by unfold px1; exact fr_nr.mpr z2.1
        have c2 : fr (py1 q) = false := by unfold py1; exact fr_nr.mpr z2.2
        have d1 : fr (px2 q) = false := by unfold px2; exact fr_nr.mpr z3.1
        have d2 : fr (py2 q) = false := by unfold py2; exact fr_nr.mpr z3.2
        obtain ⟨e1, l, e2⟩ := lay_near (bd := bd) (m := 10) b1 b2 c1 c2 d1 d2 a1 a2
        exact ⟨l, e2, fun w hw => e1 w (by rw [← e2] at hw; exact hw)⟩
    obtain ⟨l, k1, k2⟩ := key
    rw [k1]
    have hs : ∀ z ∈ l ++ [q3 1 (px q) (py q)], sgo (q7p z) := by
      intro z hz
      obtain ⟨x, y, rfl, hx, hy⟩ := k2 z hz
      apply q3_sgo
      simp [q3, q7f, hx, hy]
      decide
    have hl : lb (F ++ (l ++ [q3 1 (px q) (py q)]).map q7p) = lb F := lb_segs (fun z hz => by
      obtain ⟨w, hw, rfl⟩ := List.mem_map.mp hz
      exact sgo_0 (hs w hw))
    refine ⟨⟨segs_gdp f1 hF0 hF3 hs, by simp, fun _ => ⟨?_, ?_, ?_, ?_⟩⟩, ?_⟩
    · rw [List.map_append, ← List.append_assoc]
      show lx (_ ++ [q7p (q3 1 q.2.1.toInt64 q.2.2.1.toInt64)]) = _
      rw [q3_p, lx_snoc, lx_snoc]
    · rw [List.map_append, ← List.append_assoc]
      show ly (_ ++ [q7p (q3 1 q.2.1.toInt64 q.2.2.1.toInt64)]) = _
      rw [q3_p, ly_snoc, ly_snoc]
    · rw [List.map_append, ← List.append_assoc]
      show lk (_ ++ [q7p (q3 1 q.2.1.toInt64 q.2.2.1.toInt64)]) = 3 ↔ _
      rw [q3_p, lk_snoc, lk_snoc]
      exact ⟨fun z => absurd z (by show ¬ (1 : Int32) = 3; decide), fun z => absurd z hn3⟩
    · rw [hl, g4, lb_snoc, if_neg (sgo_0 h3)]
    · rw [List.any_eq_false]
      intro z hz
      obtain ⟨x, y, rfl, hx, hy⟩ := k2 z hz
      simp [q3, q7f, hx, hy]
      decide
  · obtain ⟨g1, g2, g3, g4⟩ := f3 h1
    have hF0 : F ≠ [] := fun z => h1 (f2.mp z)
    have hF3 : ¬ lk F = 3 := fun z => h2 (g3.mp z)
    have hk : q.1 = 3 := by rw [h3]
    rw [if_neg (by rw [hk]; decide), hk]
    obtain ⟨a1, a2⟩ := nr_px h4
    have e : [q3 3 (px q) (py q)].map q7p = [q] := by
      show [q7p (q3 3 q.2.1.toInt64 q.2.2.1.toInt64)] = [q]
      rw [q3_p, h3]
    rw [e]
    have hc := (gdp_close f1 hF0 hF3).1
    rw [g4, ← h3] at hc
    have hk0 : ¬ q.1 = 0 := by rw [hk]; decide
    refine ⟨⟨hc, by simp, fun _ => ⟨by rw [lx_snoc, lx_snoc], by rw [ly_snoc, ly_snoc], by rw [lk_snoc, lk_snoc], by rw [lb_snoc, lb_snoc, if_neg hk0, if_neg hk0, g4]⟩⟩, ?_⟩
    simp [q3, q7f, a1, a2]
    decide
theorem FI_all {ps : List Pt} (h : gdp ps) {bd : Int32} : ∀ {k : Nat}, k ≤ ps.length → FIp (ps.take k) ((flQs (gp ps) bd k).map q7p) ∧ (flQs (gp ps) bd k).any q7f = false := by
  intro k
  induction k with
  | zero => intro _; exact ⟨⟨gdp_nil, by simp [flQs], fun z => absurd (List.take_zero) z⟩, rfl⟩
  | succ k ih =>
    intro hk
    obtain ⟨i1, i2⟩ := ih (by omega)
    have ht := take_snoc (ps := ps) (k := k) (by omega)
    have hg := gdp_take (k := k + 1) h
    rw [ht] at hg
    have hs := FI_step (bd := bd) (g := gp ps) (k := k) i1 hg rfl (fun hn => by
      cases k with
      | zero => exact absurd (List.take_zero) hn
      | succ k =>
        rw [take_snoc (ps := ps) (k := k) (by omega), lx_snoc, ly_snoc]
        rfl)
    show FIp _ ((flQs (gp ps) bd k ++ flQ (gp ps) bd k).map q7p) ∧ (flQs (gp ps) bd k ++ flQ (gp ps) bd k).any q7f = false
    rw [ht, List.map_append, List.any_append, i2, hs.2]
    exact ⟨hs.1, rfl⟩
/-- a flattened path is never far -/
theorem rFlatten_near {ps : List Pt} (h : gdp ps) {bd : Int32} : rFlatten ps bd = if bd < 1 ∨ ¬ bd ≤ 6553600 then (-1, ps) else if 3000 < (flQs (gp ps) bd ps.length).length then (-3, ps) else (nI (flQs (gp ps) bd ps.length).length, (flQs (gp ps) bd ps.length).map q7p) := by
  rw [rFlatten_all]
  unfold putAll
  rw [(FI_all h (bd := bd) (Nat.le_refl _)).2]
  simp
theorem flatten_pkp {ps : List Pt} {bd : Int32} (h : pkp ps) : pkp (rFlatten ps bd).2 := by
  rw [rFlatten_all]
  by_cases h0 : bd < 1 ∨ ¬ bd ≤ 6553600
  · rw [if_pos h0]; exact h
  · rw [if_neg h0]
    refine put_pkp h (fun _ => ?_)
    rw [List.nil_append]
    exact (FI_all h.1 (Nat.le_refl _)).1.1
