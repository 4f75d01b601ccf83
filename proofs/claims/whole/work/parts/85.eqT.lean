/-! what move, line, curve, close answer, as the class decides it -/
section ANS
variable {ps : List Pt} {x y x1 y1 x2 y2 x3 y3 : Int32} {pc_ pn pb pc2 pn2 pb2 : Nat} {K Fi X Y K2 F2 X2 Y2 : Nat → Int32}
theorem put_seg {qs : List Q7} (h : pkp ps) (hn : ps ≠ []) : putAll ps ps (opn ps ++ qs) = if qs.any q7f then (-4, ps) else if 3000 < ps.length + (opn ps).length + qs.length then (-3, ps) else (nI (ps.length + (opn ps).length + qs.length), ps ++ (opn ps).map q7p ++ qs.map q7p) := by
  unfold putAll
  rw [List.any_append, (gdp_opn h.1 hn).2.2.2, Bool.false_or, List.length_append, ← Nat.add_assoc, List.map_append, List.append_assoc]
theorem any_q3 {k : Int32} {a b : Int64} : [q3 k a b].any q7f = (fr a || fr b) := by
  show (q7f _ || false) = _
  rw [q3_f, Bool.or_false]
theorem map_q3 {k a b : Int32} : [q3 k a.toInt64 b.toInt64].map q7p = [(k, a, b, 0, 0, 0, 0)] := by
  show [q7p _] = _
  rw [q3_p]
theorem line_no (h : ps.length = 0) : rLine ps x y = (-2, ps) := by unfold rLine; rw [if_pos h]
theorem line_all (h : pkp ps) (h0 : ¬ ps.length = 0) : rLine ps x y = if (fr x.toInt64 || fr y.toInt64) = true then (-4, ps) else if 3000 < ps.length + (opn ps).length + 1 then (-3, ps) else (nI (ps.length + (opn ps).length + 1), ps ++ (opn ps).map q7p ++ [(1, x, y, 0, 0, 0, 0)]) := by
  rw [rLine_all h.2, if_neg h0, put_seg h (len_ne h0), any_q3, map_q3]
  rfl
theorem line_far (h : pkp ps) (h0 : ¬ ps.length = 0) (hf : (fr x.toInt64 || fr y.toInt64) = true) : rLine ps x y = (-4, ps) := by rw [line_all h h0, if_pos hf]
theorem line_full (h : pkp ps) (h0 : ¬ ps.length = 0) (hf : (fr x.toInt64 || fr y.toInt64) = false) (hr : ¬ ps.length + ((opn ps).length + 1) ≤ 3000) : rLine ps x y = (-3, ps) := by
  rw [line_all h h0, if_neg (by rw [hf]; exact Bool.false_ne_true), if_pos (by omega)]
theorem line_okc (h : pkp ps) (h0 : ¬ ps.length = 0) (hf : (fr x.toInt64 || fr y.toInt64) = false) (hr : ps.length + ((opn ps).length + 1) ≤ 3000) (hgo : RIp pc2 pn2 pb2 K2 F2 X2 Y2 (ps ++ (opn ps).map q7p)) : RIp (pc2 + 1) (pn2 + 1) pb2 (upd K2 pc2 1) (upd F2 pc2 (nI pn2)) (upd X2 pn2 x) (upd Y2 pn2 y) (rLine ps x y).2 ∧ nI (pc2 + 1) = (rLine ps x y).1 := by
  rw [line_all h h0, if_neg (by rw [hf]; exact Bool.false_ne_true), if_neg (by omega)]
  refine ⟨RI_addL hgo, ?_⟩
  have e := hgo.1
  rw [List.length_append, List.length_map] at e
  show nI (pc2 + 1) = nI _
  rw [← e]
theorem curve_no (h : ps.length = 0) : rCurve ps x1 y1 x2 y2 x3 y3 = (-2, ps) := by unfold rCurve; rw [if_pos h]
theorem any_c {x1 y1 x2 y2 x3 y3 : Int64} : [((2 : Int32), x3, y3, x1, y1, x2, y2)].any q7f = (fr x1 || fr y1 || (fr x2 || fr y2) || (fr x3 || fr y3)) := by
  show ((fr x3 || fr y3 || fr x1 || fr y1 || fr x2 || fr y2) || false) = _
  generalize fr x1 = a
  generalize fr y1 = b
  generalize fr x2 = c
  generalize fr y2 = d
  generalize fr x3 = e
  generalize fr y3 = f
  cases a <;> cases b <;> cases c <;> cases d <;> cases e <;> cases f <;> rfl
theorem map_c : [((2 : Int32), x3.toInt64, y3.toInt64, x1.toInt64, y1.toInt64, x2.toInt64, y2.toInt64)].map q7p = [(2, x3, y3, x1, y1, x2, y2)] := by
  show [((2 : Int32), x3.toInt64.toInt32, y3.toInt64.toInt32, x1.toInt64.toInt32, y1.toInt64.toInt32, x2.toInt64.toInt32, y2.toInt64.toInt32)] = _
  rw [i3264, i3264, i3264, i3264, i3264, i3264]
theorem curve_all (h : pkp ps) (h0 : ¬ ps.length = 0) : rCurve ps x1 y1 x2 y2 x3 y3 = if (fr x1.toInt64 || fr y1.toInt64 || (fr x2.toInt64 || fr y2.toInt64) || (fr x3.toInt64 || fr y3.toInt64)) = true then (-4, ps) else if 3000 < ps.length + (opn ps).length + 1 then (-3, ps) else (nI (ps.length + (opn ps).length + 1), ps ++ (opn ps).map q7p ++ [(2, x3, y3, x1, y1, x2, y2)]) := by
  rw [rCurve_all h.2, if_neg h0, put_seg h (len_ne h0), any_c, map_c]
  rfl
theorem curve_f1 (h : pkp ps) (h0 : ¬ ps.length = 0) (hf : (fr x1.toInt64 || fr y1.toInt64) = true) : rCurve ps x1 y1 x2 y2 x3 y3 = (-4, ps) := by rw [curve_all h h0, if_pos (by rw [hf]; simp)]
theorem curve_f2 (h : pkp ps) (h0 : ¬ ps.length = 0) (hf : (fr x2.toInt64 || fr y2.toInt64) = true) : rCurve ps x1 y1 x2 y2 x3 y3 = (-4, ps) := by rw [curve_all h h0, if_pos (by rw [hf]; simp)]
theorem curve_f3 (h : pkp ps) (h0 : ¬ ps.length = 0) (hf : (fr x3.toInt64 || fr y3.toInt64) = true) : rCurve ps x1 y1 x2 y2 x3 y3 = (-4, ps) := by rw [curve_all h h0, if_pos (by rw [hf]; simp)]
theorem curve_full (h : pkp ps) (h0 : ¬ ps.length = 0) (f1 : (fr x1.toInt64 || fr y1.toInt64) = false) (f2 : (fr x2.toInt64 || fr y2.toInt64) = false) (f3 : (fr x3.toInt64 || fr y3.toInt64) = false) (hr : ¬ ps.length + ((opn ps).length + 1) ≤ 3000) : rCurve ps x1 y1 x2 y2 x3 y3 = (-3, ps) := by
  rw [curve_all h h0, if_neg (by rw [f1, f2, f3]; exact Bool.false_ne_true), if_pos (by omega)]
theorem curve_okc (h : pkp ps) (h0 : ¬ ps.length = 0) (f1 : (fr x1.toInt64 || fr y1.toInt64) = false) (f2 : (fr x2.toInt64 || fr y2.toInt64) = false) (f3 : (fr x3.toInt64 || fr y3.toInt64) = false) (hr : ps.length + ((opn ps).length + 1) ≤ 3000) (hgo : RIp pc2 pn2 pb2 K2 F2 X2 Y2 (ps ++ (opn ps).map q7p)) : RIp (pc2 + 1) (pn2 + 1 + 1 + 1) pb2 (upd K2 pc2 2) (upd F2 pc2 (nI pn2)) (upd (upd (upd X2 pn2 x1) (pn2 + 1) x2) (pn2 + 1 + 1) x3) (upd (upd (upd Y2 pn2 y1) (pn2 + 1) y2) (pn2 + 1 + 1) y3) (rCurve ps x1 y1 x2 y2 x3 y3).2 ∧ nI (pc2 + 1) = (rCurve ps x1 y1 x2 y2 x3 y3).1 := by
  rw [curve_all h h0, if_neg (by rw [f1, f2, f3]; exact Bool.false_ne_true), if_neg (by omega)]
  refine ⟨RI_addC hgo, ?_⟩
  have e := hgo.1
  rw [List.length_append, List.length_map] at e
  show nI (pc2 + 1) = nI _
  rw [← e]
theorem close_id (h : ps.length = 0 ∨ lk ps = 3) : rClose ps = (nI ps.length, ps) := by unfold rClose; rw [if_pos h]
theorem close_all (h : pkp ps) (h0 : ¬ ps.length = 0) (hk : ¬ lk ps = 3) : rClose ps = if 3000 < ps.length + 1 then (-3, ps) else (nI (ps.length + 1), ps ++ [(3, (lb ps).2.1, (lb ps).2.2.1, 0, 0, 0, 0)]) := by
  rw [rClose_all h.2, if_neg (fun z => z.elim h0 hk)]
  obtain ⟨-, g⟩ := gdp_close h.1 (len_ne h0) hk
  unfold putAll
  rw [any_q3, fr_nr.mpr g.1, fr_nr.mpr g.2, map_q3, if_neg (by decide)]
  rfl
theorem close_full (h : pkp ps) (h0 : ¬ ps.length = 0) (hk : ¬ lk ps = 3) (hr : ¬ ps.length + 1 ≤ 3000) : rClose ps = (-3, ps) := by rw [close_all h h0 hk, if_pos (by omega)]
theorem close_okc (h : pkp ps) (h0 : ¬ ps.length = 0) (hk : ¬ lk ps = 3) (hr : ps.length + 1 ≤ 3000) (hR : RIp pc_ pn pb K Fi X Y ps) : RIp (pc_ + 1) pn pb (upd K pc_ 3) (upd Fi pc_ (nI pb)) X Y (rClose ps).2 ∧ nI (pc_ + 1) = (rClose ps).1 := by
  rw [close_all h h0 hk, if_neg (by omega), hR.1]
  exact ⟨RI_addZ rfl hR, rfl⟩
theorem move_all (h : pkp ps) : rMove ps x y = if (fr x.toInt64 || fr y.toInt64) = true then (-4, ps) else if 3000 < (mv0 ps).length + 1 then (-3, ps) else (nI ((mv0 ps).length + 1), mv0 ps ++ [(0, x, y, 0, 0, 0, 0)]) := by
  rw [rMove_all h.2]
  unfold putAll
  rw [any_q3, map_q3]
  rfl
theorem move_far (h : pkp ps) (hf : (fr x.toInt64 || fr y.toInt64) = true) : rMove ps x y = (-4, ps) := by rw [move_all h, if_pos hf]
theorem mv_n (hk : ¬ lk ps = 0) : mv0 ps = ps := by unfold mv0; rw [if_neg hk]
theorem move_full (h : pkp ps) (hf : (fr x.toInt64 || fr y.toInt64) = false) (hk : ¬ lk ps = 0) (hr : ¬ ps.length + 1 ≤ 3000) : rMove ps x y = (-3, ps) := by
  rw [move_all h, if_neg (by rw [hf]; exact Bool.false_ne_true), mv_n hk, if_pos (by omega)]
theorem move_okc (h : pkp ps) (hf : (fr x.toInt64 || fr y.toInt64) = false) (hk : ¬ lk ps = 0) (hr : ps.length + 1 ≤ 3000) (hR : RIp pc_ pn pb K Fi X Y ps) : RIp (pc_ + 1) (pn + 1) pn (upd K pc_ 0) (upd Fi pc_ (nI pn)) (upd X pn x) (upd Y pn y) (rMove ps x y).2 ∧ nI (pc_ + 1) = (rMove ps x y).1 := by
  rw [move_all h, if_neg (by rw [hf]; exact Bool.false_ne_true), mv_n hk, if_neg (by omega), hR.1]
  exact ⟨RI_addB hR, rfl⟩
/-- a path that only began: its latest part is a beginning -/
theorem began_ps (hg : gdp ps) (hk : lk ps = 0) : ∃ A a b, ps = A ++ [((0 : Int32), a, b, (0 : Int32), (0 : Int32), (0 : Int32), (0 : Int32))] := by
  have hn : ps ≠ [] := fun z => by
    rw [z] at hk
    exact absurd hk (by decide)
  rcases gdp_cases hg hn with ⟨A, p, segs, hA, hs, he⟩ | ⟨A, p, hA, hs, he⟩ | ⟨A, p, l, q, hA, hs, he⟩
  · rw [he, lk_snoc] at hk
    exact absurd hk (by show ¬ (3 : Int32) = 0; decide)
  · exact ⟨A, p.1, p.2, he⟩
  · rw [he, lk_snoc] at hk
    exact absurd hk (sgo_k (hs.2 q (List.mem_append_right _ List.mem_cons_self))).2
theorem began_pb (hg : gdp ps) (hk : lk ps = 0) (hR : RIp pc_ pn pb K Fi X Y ps) : pb < pn := by
  obtain ⟨A, a, b, rfl⟩ := began_ps hg hk
  exact (RI_repl (x := 0) (y := 0) hR).1
theorem move_repl (h : pkp ps) (hf : (fr x.toInt64 || fr y.toInt64) = false) (hk : lk ps = 0) (hR : RIp pc_ pn pb K Fi X Y ps) : RIp pc_ pn pb K Fi (upd X pb x) (upd Y pb y) (rMove ps x y).2 ∧ nI pc_ = (rMove ps x y).1 := by
  rw [move_all h, if_neg (by rw [hf]; exact Bool.false_ne_true)]
  obtain ⟨A, a, b, rfl⟩ := began_ps h.1 hk
  have e : mv0 (A ++ [((0 : Int32), a, b, (0 : Int32), (0 : Int32), (0 : Int32), (0 : Int32))]) = A := by unfold mv0; rw [if_pos hk]; simp
  have hl := h.2
  have h1 := hR.1
  rw [List.length_append] at hl h1
  have hl : A.length + 1 ≤ 3000 := hl
  have h1 : A.length + 1 = pc_ := h1
  rw [e, if_neg (by omega), h1]
  exact ⟨(RI_repl hR).2, rfl⟩
end ANS
