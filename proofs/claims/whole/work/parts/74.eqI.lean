/-! what every call keeps: the path is made of subpaths, and has at most 3000 parts -/
def pkp (ps : List Pt) : Prop := gdp ps ∧ ps.length ≤ 3000
theorem fr_64 {v : Int64} (h : fr v = false) : nr9 v.toInt32 ∧ v.toInt32.toInt64 = v := by
  unfold fr at h
  have e1 : (-536870912 : Int64).toInt = -536870912 := rfl
  have e2 : (536870912 : Int64).toInt = 536870912 := rfl
  rw [Bool.or_eq_false_iff, decide_eq_false_iff_not, decide_eq_false_iff_not, lt64, lt64, e1, e2] at h
  have hb : v.toInt32.toInt = v.toInt := by
    rw [Int64.toInt_toInt32]
    exact Int.bmod_eq_of_le (by omega) (by omega)
  refine ⟨?_, ?_⟩
  · unfold nr9
    rw [hb]
    omega
  · apply Int64.toInt_inj.mp
    rw [t6432, hb]
theorem put_pkp {ps ps0 : List Pt} {qs : List Q7} (h : pkp ps) (hg : qs.any q7f = false → gdp (ps0 ++ qs.map q7p)) : pkp (putAll ps ps0 qs).2 := by
  unfold putAll
  by_cases hf : qs.any q7f = true
  · rw [if_pos hf]; exact h
  · rw [if_neg hf]
    by_cases hl : 3000 < ps0.length + qs.length
    · rw [if_pos hl]; exact h
    · rw [if_neg hl]
      refine ⟨hg (by simpa using hf), ?_⟩
      show (ps0 ++ qs.map q7p).length ≤ 3000
      rw [List.length_append, List.length_map]
      omega
theorem q3_nr {k : Int32} {x y : Int64} (h : q7f (q3 k x y) = false) : fr x = false ∧ fr y = false := by
  unfold q7f q3 at h
  simp only [Bool.or_eq_false_iff] at h
  exact ⟨h.1.1.1.1.1, h.1.1.1.1.2⟩
theorem q3_sgo {x y : Int64} (h : q7f (q3 1 x y) = false) : sgo (q7p (q3 1 x y)) := by
  obtain ⟨h1, h2⟩ := q3_nr h
  exact Or.inl ⟨rfl, ⟨(fr_64 h1).1, (fr_64 h2).1⟩, rfl⟩
theorem q2_sgo {q : Q7} (hk : q.1 = 2) (h : q7f q = false) : sgo (q7p q) := by
  unfold q7f at h
  simp only [Bool.or_eq_false_iff] at h
  obtain ⟨⟨⟨⟨⟨h1, h2⟩, h3⟩, h4⟩, h5⟩, h6⟩ := h
  exact Or.inr ⟨hk, ⟨(fr_64 h1).1, (fr_64 h2).1⟩, ⟨(fr_64 h3).1, (fr_64 h4).1⟩, ⟨(fr_64 h5).1, (fr_64 h6).1⟩⟩
theorem any_app {a b : List Q7} (h : (a ++ b).any q7f = false) : a.any q7f = false ∧ b.any q7f = false := by
  rw [List.any_append, Bool.or_eq_false_iff] at h
  exact h
theorem any_1 {q : Q7} (h : [q].any q7f = false) : q7f q = false := by simpa using h
theorem move_pkp {ps : List Pt} {x y : Int32} (h : pkp ps) : pkp (rMove ps x y).2 := by
  rw [rMove_all h.2]
  refine put_pkp h (fun hf => ?_)
  obtain ⟨h1, h2⟩ := q3_nr (any_1 hf)
  exact gdp_begin (p := (x.toInt64.toInt32, y.toInt64.toInt32)) (gdp_mv h.1) ⟨(fr_64 h1).1, (fr_64 h2).1⟩
theorem len_ne {ps : List Pt} (h : ¬ ps.length = 0) : ps ≠ [] := fun z => h (by rw [z]; rfl)
theorem segs_gdp {qs : List Q7} : ∀ {ps : List Pt}, gdp ps → ps ≠ [] → ¬ lk ps = 3 → (∀ q ∈ qs, sgo (q7p q)) → gdp (ps ++ qs.map q7p) := by
  induction qs with
  | nil => intro ps h _ _ _; simpa using h
  | cons q qs ih =>
    intro ps h hn hk hq
    have h1 := hq q List.mem_cons_self
    have h2 := ih (gdp_seg h hn hk h1) (by simp) (by
      rw [lk_snoc]
      rcases h1 with ⟨z, -⟩ | ⟨z, -⟩ <;> rw [z] <;> decide) (fun z hz => hq z (List.mem_cons_of_mem _ hz))
    simpa using h2
theorem line_pkp {ps : List Pt} {x y : Int32} (h : pkp ps) : pkp (rLine ps x y).2 := by
  rw [rLine_all h.2]
  by_cases h0 : ps.length = 0
  · rw [if_pos h0]; exact h
  · rw [if_neg h0]
    refine put_pkp h (fun hf => ?_)
    obtain ⟨h1, h2, h3, -⟩ := gdp_opn h.1 (len_ne h0)
    rw [List.map_append, ← List.append_assoc]
    exact segs_gdp h1 h2 h3 (fun q hq => by rw [List.mem_singleton.mp hq]; exact q3_sgo (any_1 (any_app hf).2))
theorem curve_pkp {ps : List Pt} {x1 y1 x2 y2 x3 y3 : Int32} (h : pkp ps) : pkp (rCurve ps x1 y1 x2 y2 x3 y3).2 := by
  rw [rCurve_all h.2]
  by_cases h0 : ps.length = 0
  · rw [if_pos h0]; exact h
  · rw [if_neg h0]
    refine put_pkp h (fun hf => ?_)
    obtain ⟨h1, h2, h3, -⟩ := gdp_opn h.1 (len_ne h0)
    rw [List.map_append, ← List.append_assoc]
    exact segs_gdp h1 h2 h3 (fun q hq => by rw [List.mem_singleton.mp hq]; exact q2_sgo rfl (any_1 (any_app hf).2))
theorem close_pkp {ps : List Pt} (h : pkp ps) : pkp (rClose ps).2 := by
  rw [rClose_all h.2]
  by_cases h0 : ps.length = 0 ∨ lk ps = 3
  · rw [if_pos h0]; exact h
  · rw [if_neg h0]
    refine put_pkp h (fun _ => ?_)
    have := (gdp_close h.1 (len_ne (fun z => h0 (Or.inl z))) (fun z => h0 (Or.inr z))).1
    show gdp (ps ++ [q7p (q3 3 _ _)])
    rw [q3_p]
    exact this
theorem clear_pkp {ps : List Pt} : pkp (rClear ps).2 := ⟨gdp_nil, by show 0 ≤ 3000; omega⟩
/-- an arc -/
theorem swp_gdp {ps : List Pt} {x y : Int64} {ax : Ax4} {ls : List P2} (h : gdp ps) (hf : (swp ps x y ax ls).any q7f = false) : gdp (ps ++ (swp ps x y ax ls).map q7p) := by
  cases ls with
  | nil => simpa [swp] using h
  | cons p r =>
    unfold swp at hf ⊢
    obtain ⟨hf1, hf2⟩ := any_app hf
    have hc : ∀ q ∈ (tri r).map (cq x y ax), sgo (q7p q) := by
      intro q hq
      have h9 : q7f q = false := by
        have := List.any_eq_false.mp hf2 q hq
        simpa using this
      obtain ⟨t, -, rfl⟩ := List.mem_map.mp hq
      exact q2_sgo rfl h9
    rw [List.map_append, ← List.append_assoc]
    unfold bAq at hf1 ⊢
    by_cases h0 : ps.length = 0
    · rw [if_pos h0] at hf1 ⊢
      obtain ⟨a1, a2⟩ := q3_nr (any_1 hf1)
      refine segs_gdp (gdp_begin (p := ((tq x y ax p).1.toInt32, (tq x y ax p).2.toInt32)) h ⟨(fr_64 a1).1, (fr_64 a2).1⟩) (by simp) (by rw [show List.map q7p [q3 0 (tq x y ax p).1 (tq x y ax p).2] = [q7p (q3 0 (tq x y ax p).1 (tq x y ax p).2)] from rfl, lk_snoc]; show ¬ (0 : Int32) = 3; decide) hc
    · rw [if_neg h0] at hf1 ⊢
      obtain ⟨h1, h2, h3, -⟩ := gdp_opn h (len_ne h0)
      have h4 := q3_sgo (any_1 (any_app hf1).2)
      rw [List.map_append, ← List.append_assoc]
      exact segs_gdp (gdp_seg h1 h2 h3 h4) (by simp) (by rw [show List.map q7p [q3 1 (tq x y ax p).1 (tq x y ax p).2] = [q7p (q3 1 (tq x y ax p).1 (tq x y ax p).2)] from rfl, lk_snoc]; show ¬ (1 : Int32) = 3; decide) hc
/-- turned round -/
theorem zs_sgo : ∀ {segs : List Pt} {p : P2}, nrP p → (∀ q ∈ segs, sgo q) → ∀ q ∈ zs p segs, sgo q := by
  intro segs
  induction segs with
  | nil => intro p _ _ q hq; exact absurd hq (by simp [zs])
  | cons a r ih =>
    intro p hp h q hq
    have ha := h a List.mem_cons_self
    have hxy : nrP (xy a) := by
      rcases ha with z | z
      · exact z.2.1
      · exact z.2.1
    rcases List.mem_cons.mp hq with hq | hq
    · rw [hq]
      unfold sw
      rcases ha with ⟨k, b, c⟩ | ⟨k, b, c, d⟩
      · rw [if_neg (by rw [k]; decide)]
        exact Or.inl ⟨k, hp, rfl⟩
      · rw [if_pos k]
        exact Or.inr ⟨k, hp, d, c⟩
    · exact ih hxy (fun z hz => h z (List.mem_cons_of_mem _ hz)) q hq
theorem renT_rend {s : Sub} : renT s = rend (lastP s.1 s.2.1, (zs s.1 s.2.1).reverse, s.2.2) := rfl
theorem renT_sbo {s : Sub} (h : sbo s) : sbo (lastP s.1 s.2.1, (zs s.1 s.2.1).reverse, s.2.2) := ⟨lastP_nr h.1 h.2, fun q hq => zs_sgo h.1 h.2 q (List.mem_reverse.mp hq)⟩
theorem reverse_pkp {ps : List Pt} (h : pkp ps) : pkp (rReverse ps).2 := by
  obtain ⟨⟨u, rfl, hu⟩, hl⟩ := h
  rw [rReverse_subs hu hl]
  refine ⟨⟨u.map (fun s => (lastP s.1 s.2.1, (zs s.1 s.2.1).reverse, s.2.2)), ?_, ?_⟩, ?_⟩
  · rw [List.flatMap_map]
    rfl
  · intro s hs
    obtain ⟨t, ht, rfl⟩ := List.mem_map.mp hs
    exact renT_sbo (hu t ht)
  · have : (u.flatMap renT).length = (u.flatMap rend).length := by
      rw [List.length_flatMap, List.length_flatMap]
      congr 1
      apply List.map_congr_left
      intro s _
      exact ren_len
    show (u.flatMap renT).length ≤ 3000
    omega
