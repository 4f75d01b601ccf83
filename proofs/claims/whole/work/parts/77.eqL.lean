/-! shift: every point moved -/
def shp (dx dy : Int32) (q : Pt) : Pt := q7p (shQ dx dy q)
def shP (dx dy : Int32) (p : P2) : P2 := (p.1 + dx, p.2 + dy)
def farP (dx dy : Int32) (p : P2) : Bool := fr (p.1.toInt64 + dx.toInt64) || fr (p.2.toInt64 + dy.toInt64)
theorem add_32 (a b : Int32) : (a.toInt64 + b.toInt64).toInt32 = a + b := by
  rw [Int64.toInt32_add, i3264, i3264]
section SH
variable {dx dy : Int32}
theorem shp_2 {q : Pt} (h : q.1 = 2) : shp dx dy q = (q.1, q.2.1 + dx, q.2.2.1 + dy, q.2.2.2.1 + dx, q.2.2.2.2.1 + dy, q.2.2.2.2.2.1 + dx, q.2.2.2.2.2.2 + dy) := by
  unfold shp shQ
  rw [if_pos h]
  unfold q7p px py px1 py1 px2 py2
  simp only [add_32]
theorem shp_n {q : Pt} (h : ¬ q.1 = 2) : shp dx dy q = (q.1, q.2.1 + dx, q.2.2.1 + dy, 0, 0, 0, 0) := by
  unfold shp shQ
  rw [if_neg h]
  unfold q7p q3 px py
  simp only [add_32]
  rfl
theorem shp_k {q : Pt} : (shp dx dy q).1 = q.1 := by
  by_cases h : q.1 = 2
  · rw [shp_2 h]
  · rw [shp_n h]
theorem np_shp {q : Pt} : np (shp dx dy q) = (np q).map (shP dx dy) := by
  by_cases h : q.1 = 2
  · rw [shp_2 h]
    unfold np
    rw [if_pos h, if_pos h]
    rfl
  · rw [shp_n h]
    unfold np
    rw [if_neg h, if_neg h]
    by_cases h3 : q.1 = 3
    · rw [if_pos h3, if_pos h3]; rfl
    · rw [if_neg h3, if_neg h3]; rfl
theorem pl_shp {ps : List Pt} : pl (ps.map (shp dx dy)) = (pl ps).map (shP dx dy) := by
  unfold pl
  rw [List.flatMap_map, List.map_flatMap]
  congr 1
  funext q
  exact np_shp
theorem kd_shp {ps : List Pt} : kd (ps.map (shp dx dy)) = kd ps := by
  unfold kd
  rw [List.map_map]
  apply List.map_congr_left
  intro q _
  exact shp_k
theorem fr_0 : fr 0 = false := by decide
theorem far_n {q : Pt} (h : ¬ q.1 = 2) : q7f (shQ dx dy q) = farP dx dy (xy q) := by
  unfold shQ
  rw [if_neg h]
  unfold q7f q3 farP xy px py
  simp only [fr_0, Bool.or_false]
theorem far_2 {q : Pt} (h : q.1 = 2) : q7f (shQ dx dy q) = (np q).any (farP dx dy) := by
  unfold shQ np
  rw [if_pos h, if_pos h]
  unfold q7f farP px py px1 py1 px2 py2
  simp only [List.any_cons, List.any_nil, Bool.or_false]
  generalize fr (q.2.1.toInt64 + dx.toInt64) = a
  generalize fr (q.2.2.1.toInt64 + dy.toInt64) = b
  generalize fr (q.2.2.2.1.toInt64 + dx.toInt64) = c
  generalize fr (q.2.2.2.2.1.toInt64 + dy.toInt64) = d
  generalize fr (q.2.2.2.2.2.1.toInt64 + dx.toInt64) = e
  generalize fr (q.2.2.2.2.2.2.toInt64 + dy.toInt64) = f
  cases a <;> cases b <;> cases c <;> cases d <;> cases e <;> cases f <;> rfl
theorem far_seg {q : Pt} (h : sgo q) : q7f (shQ dx dy q) = (np q).any (farP dx dy) := by
  rcases h with ⟨z, -⟩ | ⟨z, -⟩
  · rw [far_n (by rw [z]; decide)]
    unfold np
    rw [if_neg (by rw [z]; decide), if_neg (by rw [z]; decide)]
    simp [xy]
  · exact far_2 z
theorem far_segs {l : List Pt} (h : ∀ q ∈ l, sgo q) : (l.map (shQ dx dy)).any q7f = (pl l).any (farP dx dy) := by
  induction l with
  | nil => rfl
  | cons q l ih =>
    show (q7f (shQ dx dy q) || (l.map (shQ dx dy)).any q7f) = (np q ++ pl l).any (farP dx dy)
    rw [List.any_append, far_seg (h q List.mem_cons_self), ih (fun z hz => h z (List.mem_cons_of_mem _ hz))]
theorem far_rend {s : Sub} (h : sbo s) : ((rend s).map (shQ dx dy)).any q7f = (pl (rend s)).any (farP dx dy) := by
  obtain ⟨p, segs, c⟩ := s
  rw [pl_rend]
  have h1 := far_segs (dx := dx) (dy := dy) h.2
  have h1 : (segs.map (shQ dx dy)).any q7f = (pl segs).any (farP dx dy) := h1
  have hb : q7f (shQ dx dy (0, p.1, p.2, 0, 0, 0, 0)) = farP dx dy p := far_n (by show ¬ (0 : Int32) = 2; decide)
  have hc : q7f (shQ dx dy (3, p.1, p.2, 0, 0, 0, 0)) = farP dx dy p := far_n (by show ¬ (3 : Int32) = 2; decide)
  show (q7f (shQ dx dy (0, p.1, p.2, 0, 0, 0, 0)) || ((segs ++ clo p c).map (shQ dx dy)).any q7f) = (farP dx dy p || (pl segs).any (farP dx dy))
  rw [List.map_append, List.any_append, hb, h1]
  cases c with
  | true =>
    show (_ || (_ || ([shQ dx dy (3, p.1, p.2, 0, 0, 0, 0)].any q7f))) = _
    rw [List.any_cons, hc, List.any_nil, Bool.or_false]
    cases farP dx dy p <;> simp
  | false =>
    show (_ || (_ || false)) = _
    rw [Bool.or_false]
theorem far_subs {u : List Sub} (h : ∀ s ∈ u, sbo s) : ((u.flatMap rend).map (shQ dx dy)).any q7f = (pl (u.flatMap rend)).any (farP dx dy) := by
  induction u with
  | nil => rfl
  | cons s u ih =>
    rw [List.flatMap_cons, List.map_append, List.any_append, pl_app, List.any_append, far_rend (h s List.mem_cons_self), ih (fun z hz => h z (List.mem_cons_of_mem _ hz))]
/-- what shift answers, by the points alone -/
theorem rShift_pts {ps : List Pt} (h : pkp ps) : rShift ps dx dy = if (pl ps).any (farP dx dy) then (-4, ps) else (nI ps.length, ps.map (shp dx dy)) := by
  rw [rShift_all]
  obtain ⟨⟨u, rfl, hu⟩, hl⟩ := h
  unfold putAll
  rw [far_subs hu]
  by_cases hf : (pl (u.flatMap rend)).any (farP dx dy) = true
  · rw [if_pos hf, if_pos hf]
  · rw [if_neg hf, if_neg hf, if_neg (by rw [List.length_map]; simp only [List.length_nil]; omega)]
    rw [List.map_map, List.length_map, List.nil_append, List.length_nil, Nat.zero_add]
    rfl
def shS (dx dy : Int32) (s : Sub) : Sub := (shP dx dy s.1, s.2.1.map (shp dx dy), s.2.2)
theorem shp_rend {s : Sub} : (rend s).map (shp dx dy) = rend (shS dx dy s) := by
  obtain ⟨p, segs, c⟩ := s
  have hb : shp dx dy (0, p.1, p.2, 0, 0, 0, 0) = (0, p.1 + dx, p.2 + dy, 0, 0, 0, 0) := shp_n (by show ¬ (0 : Int32) = 2; decide)
  have hc : shp dx dy (3, p.1, p.2, 0, 0, 0, 0) = (3, p.1 + dx, p.2 + dy, 0, 0, 0, 0) := shp_n (by show ¬ (3 : Int32) = 2; decide)
  cases c with
  | true =>
    rw [rend_t, List.map_append, List.map_cons, hb]
    show _ ++ [shp dx dy (3, p.1, p.2, 0, 0, 0, 0)] = _
    rw [hc]
    rfl
  | false =>
    rw [rend_f, List.map_cons, hb]
    unfold shS
    rw [rend_f]
    rfl
end SH
