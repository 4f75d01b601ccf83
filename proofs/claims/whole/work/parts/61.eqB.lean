/-! the reference's reverse, subpath by subpath -/
theorem zs_len : ∀ {l : List Pt} {p : P2}, (zs p l).length = l.length := by
  intro l
  induction l with
  | nil => intros; rfl
  | cons a l ih => intro p; show (zs (xy a) l).length + 1 = l.length + 1; rw [ih]
theorem clo_len {p : P2} {c : Bool} : (clo p c).length = if c then 1 else 0 := by cases c <;> rfl
theorem ren_len {s : Sub} : (renT s).length = (rend s).length := by
  unfold renT rend turnS
  simp [zs_len, clo_len]
theorem q3_pp {g : Pt} {k : Int32} : q7p (q3 k (px g) (py g)) = (k, (xy g).1, (xy g).2, 0, 0, 0, 0) := q3_p
theorem sgo_k {q : Pt} (h : sgo q) : ¬ q.1 = 3 ∧ ¬ q.1 = 0 := by
  rcases h with h | h
  · rw [h.1]; decide
  · rw [h.1]; decide
theorem turnQ_sub {ps pre post : List Pt} {s : Sub} (h : ps = pre ++ (rend s ++ post)) (hs : sbo s) : (turnQ (gp ps) pre.length (pre.length + (rend s).length)).map q7p = renT s ∧ ∀ z ∈ turnQ (gp ps) pre.length (pre.length + (rend s).length), q7f z = false := by
  obtain ⟨p, segs, c⟩ := s
  obtain ⟨hp, hq⟩ := hs
  have hp : nrP p := hp
  have hq : ∀ q ∈ segs, sgo q := hq
  have h0 : gp ps pre.length = (0, p.1, p.2, 0, 0, 0, 0) := by rw [h]; exact gp_at
  have hg : ∀ i q, segs[i]? = some q → gp ps (pre.length + 1 + i) = q := by
    intro i q hi
    rw [h]
    have : pre.length + 1 + i = pre.length + (i + 1) := by omega
    rw [this]
    refine gp_app (l := rend (p, segs, c)) ?_
    show (segs ++ clo p c)[i]? = some q
    have hl : i < segs.length := by
      rcases Nat.lt_or_ge i segs.length with z | z
      · exact z
      · rw [List.getElem?_eq_none z] at hi; cases hi
    rw [List.getElem?_append_left hl]
    exact hi
  obtain ⟨t1, t2, t3⟩ := tnLs_list (g := gp ps) (f := pre.length) hp (by rw [h0]; rfl) hq hg
  have hlast : nrP (lastP p segs) := lastP_nr hp hq
  have hl3 : ¬ (gp ps (pre.length + segs.length)).1 = 3 := by
    cases hsg : segs with
    | nil => rw [List.length_nil, Nat.add_zero, h0]; show ¬ (0 : Int32) = 3; decide
    | cons a l =>
      have : (a :: l)[l.length]? = some ((a :: l).getLast (by simp)) := by
        rw [List.getLast_eq_getElem]
        simp
      have h9 := hg l.length _ (by rw [hsg]; exact this)
      have h8 : pre.length + (a :: l).length = pre.length + 1 + l.length := by simp; omega
      rw [h8, h9]
      exact (sgo_k (hq _ (by rw [hsg]; exact List.getLast_mem _))).1
  have hf3 : q7f (q3 0 (px (gp ps (pre.length + segs.length))) (py (gp ps (pre.length + segs.length)))) = false ∧ q7f (q3 3 (px (gp ps (pre.length + segs.length))) (py (gp ps (pre.length + segs.length)))) = false := by
    have hx := nrP_f (by rw [t3]; exact hlast : nrP (xy (gp ps (pre.length + segs.length))))
    unfold xy at hx
    rw [q3_f, q3_f]
    unfold px py
    rw [hx.1, hx.2]
    exact ⟨rfl, rfl⟩
  cases c with
  | false =>
    have he : pre.length + (rend (p, segs, false)).length - 1 = pre.length + segs.length := by simp [rend, clo]
    have htl : tlast (gp ps) (pre.length + (rend (p, segs, false)).length) = pre.length + segs.length := by
      unfold tlast
      rw [he, if_neg hl3]
    unfold turnQ
    rw [htl, he, if_neg hl3, Nat.add_sub_cancel_left, List.append_nil]
    refine ⟨?_, ?_⟩
    · show q7p _ :: (tnLs (gp ps) pre.length segs.length).map q7p = _
      rw [q3_pp, t1, t3]
      simp [renT, turnS, clo]
    · intro z hz
      rcases List.mem_cons.mp hz with y | y
      · rw [y]; exact hf3.1
      · exact t2 z y
  | true =>
    have he : pre.length + (rend (p, segs, true)).length - 1 = pre.length + (segs.length + 1) := by simp [rend, clo] <;> omega
    have he2 : pre.length + (rend (p, segs, true)).length - 2 = pre.length + segs.length := by omega
    have hc3 : (gp ps (pre.length + (segs.length + 1))).1 = 3 := by
      rw [h]
      rw [gp_app (l := rend (p, segs, true)) (i := segs.length + 1) (q := (3, p.1, p.2, 0, 0, 0, 0)) (by
        show (segs ++ [(3, p.1, p.2, 0, 0, 0, 0)])[segs.length]? = _
        simp)]
    have htl : tlast (gp ps) (pre.length + (rend (p, segs, true)).length) = pre.length + segs.length := by
      unfold tlast
      rw [he, if_pos hc3, he2]
    unfold turnQ
    rw [htl, he, if_pos hc3, Nat.add_sub_cancel_left]
    refine ⟨?_, ?_⟩
    · show q7p _ :: (tnLs (gp ps) pre.length segs.length ++ [_]).map q7p = _
      rw [q3_pp, List.map_append, t1, t3]
      show _ :: (_ ++ [q7p _]) = _
      rw [q3_pp, t3]
      simp [renT, turnS, clo]
    · intro z hz
      rcases List.mem_cons.mp hz with y | y
      · rw [y]; exact hf3.1
      · rcases List.mem_append.mp y with w | w
        · exact t2 z w
        · rw [List.mem_singleton.mp w]; exact hf3.2
theorem revQ_subs {ps : List Pt} : ∀ {subs : List Sub} {pre : List Pt} {m : Nat}, ps = pre ++ subs.flatMap rend → (∀ s ∈ subs, sbo s) → subs.length ≤ m → (revQ (gp ps) ps.length m pre.length).map q7p = subs.flatMap renT ∧ ∀ z ∈ revQ (gp ps) ps.length m pre.length, q7f z = false := by
  intro subs
  induction subs with
  | nil =>
    intro pre m h _ _
    have hl : ¬ pre.length < ps.length := by rw [h]; simp
    cases m with
    | zero => exact ⟨rfl, fun z hz => absurd hz List.not_mem_nil⟩
    | succ m =>
      have : revQ (gp ps) ps.length (m + 1) pre.length = [] := if_neg hl
      rw [this]
      exact ⟨rfl, fun z hz => absurd hz List.not_mem_nil⟩
  | cons s r ih =>
    intro pre m h hs hm
    obtain ⟨m, rfl⟩ : ∃ m', m = m' + 1 := ⟨m - 1, by simp at hm; omega⟩
    have h1 : ps = pre ++ (rend s ++ r.flatMap rend) := by rw [h]; rfl
    have hs1 := hs s List.mem_cons_self
    have hlt : pre.length < ps.length := by rw [h1]; simp [rend]
    have hnx : nxF (gp ps) ps.length (ps.length - (pre.length + 1)) (pre.length + 1) = pre.length + (rend s).length := by
      have h2 : ps = (pre ++ [((0, s.1.1, s.1.2, 0, 0, 0, 0) : Pt)]) ++ ((s.2.1 ++ clo s.1 s.2.2) ++ r.flatMap rend) := by rw [h1]; simp [rend]
      have h3 := nxF_list (A := s.2.1 ++ clo s.1 s.2.2) (B := r.flatMap rend) h2 (by
        intro q hq
        rcases List.mem_append.mp hq with z | z
        · exact (sgo_k (hs1.2 q z)).2
        · unfold clo at z
          split at z
          · rw [List.mem_singleton.mp z]; show ¬ (3 : Int32) = 0; decide
          · exact absurd z List.not_mem_nil) (by
        intro q hq
        cases r with
        | nil => cases hq
        | cons a r =>
          have : (0, a.1.1, a.1.2, 0, 0, 0, 0) = q := Option.some.inj hq
          rw [← this])
      have h4 : (pre ++ [((0, s.1.1, s.1.2, 0, 0, 0, 0) : Pt)]).length = pre.length + 1 := by simp
      rw [h4] at h3
      rw [h3]
      simp [rend]
      omega
    have hun : revQ (gp ps) ps.length (m + 1) pre.length = turnQ (gp ps) pre.length (pre.length + (rend s).length) ++ revQ (gp ps) ps.length m (pre.length + (rend s).length) := by
      show (if pre.length < ps.length then _ else _) = _
      rw [if_pos hlt, hnx]
    obtain ⟨a1, a2⟩ := turnQ_sub h1 hs1
    have hl5 : (pre ++ rend s).length = pre.length + (rend s).length := by simp
    obtain ⟨b1, b2⟩ := ih (pre := pre ++ rend s) (m := m) (by rw [h1]; simp) (fun z hz => hs z (List.mem_cons_of_mem _ hz)) (by simp at hm; omega)
    rw [hl5] at b1 b2
    rw [hun]
    refine ⟨?_, ?_⟩
    · rw [List.map_append, a1, b1]
      rfl
    · intro z hz
      rcases List.mem_append.mp hz with y | y
      · exact a2 z y
      · exact b2 z y
theorem subs_len {subs : List Sub} : subs.length ≤ (subs.flatMap rend).length := by
  induction subs with
  | nil => exact Nat.le_refl 0
  | cons s r ih =>
    show r.length + 1 ≤ (rend s ++ r.flatMap rend).length
    rw [List.length_append]
    have : 1 ≤ (rend s).length := by simp [rend]
    omega
/-- REVERSE: each subpath turned round, in their order -/
theorem rReverse_subs {subs : List Sub} (hs : ∀ s ∈ subs, sbo s) (hn : (subs.flatMap rend).length ≤ 3000) : rReverse (subs.flatMap rend) = (nI (subs.flatMap rend).length, subs.flatMap renT) := by
  obtain ⟨h1, h2⟩ := revQ_subs (ps := subs.flatMap rend) (pre := []) (m := (subs.flatMap rend).length) rfl hs subs_len
  have hl : (revQ (gp (subs.flatMap rend)) (subs.flatMap rend).length (subs.flatMap rend).length 0).length = (subs.flatMap rend).length := by
    have h3 := congrArg List.length h1
    rw [List.length_map] at h3
    have h4 : ∀ l : List Sub, (l.flatMap renT).length = (l.flatMap rend).length := by
      intro l
      induction l with
      | nil => rfl
      | cons s r ih =>
        show (renT s ++ r.flatMap renT).length = (rend s ++ r.flatMap rend).length
        rw [List.length_append, List.length_append, ren_len, ih]
    rw [h4] at h3
    exact h3
  have hf : (revQ (gp (subs.flatMap rend)) (subs.flatMap rend).length (subs.flatMap rend).length 0).any q7f = false := by
    rw [List.any_eq_false]
    intro z hz
    rw [h2 z hz]
    decide
  rw [rReverse_all]
  unfold putAll
  rw [if_neg (by rw [hf]; decide), if_neg (by rw [hl, List.length_nil]; omega), hl]
  have h1' : (revQ (gp (subs.flatMap rend)) (subs.flatMap rend).length (subs.flatMap rend).length 0).map q7p = subs.flatMap renT := h1
  rw [h1']
  simp
