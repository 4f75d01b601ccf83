/-! what turnSubpaths asks of the rows -/
section TS
variable {pc_ pn pb : Nat} {K Fi X Y : Nat → Int32} {R T : List Pt} {s : Sub}
theorem rend_1 {s : Sub} : (rend s).length = 1 + s.2.1.length + (clo s.1 s.2.2).length := by simp [rend]; omega
theorem ts_len (h : RIp pc_ pn pb K Fi X Y (R ++ (rend s ++ T))) : R.length + (rend s).length ≤ pc_ := by
  rw [← h.1]
  simp
theorem ts_stop (h : RIp pc_ pn pb K Fi X Y (R ++ (rend s ++ T))) (hs : sbo s) {j : Nat} (h1 : R.length < j) (h2 : j ≤ R.length + (rend s).length) (h3 : j = pc_ ∨ K j = 0) : j = R.length + (rend s).length := by
  rcases Nat.lt_or_ge j (R.length + (rend s).length) with z | z
  · exfalso
    obtain ⟨a, b⟩ := RS_in h hs h1 z
    rcases h3 with y | y
    · omega
    · exact b y
  · omega
theorem ts_go {r : List Sub} (h : RIp pc_ pn pb K Fi X Y (R ++ (rend s ++ r.flatMap rend))) {j : Nat} (h2 : j ≤ R.length + (rend s).length) (h3 : ¬ j = pc_) (h4 : ¬ K j = 0) : j + 1 ≤ R.length + (rend s).length := by
  rcases Nat.lt_or_ge j (R.length + (rend s).length) with z | z
  · omega
  · exfalso
    have he : j = R.length + (rend s).length := by omega
    cases r with
    | nil =>
      apply h3
      rw [he, ← h.1]
      simp
    | cons s2 r =>
      have h5 : RIp pc_ pn pb K Fi X Y (R ++ (rend s ++ (rend s2 ++ r.flatMap rend))) := h
      exact h4 (by rw [he]; exact RS_end h5)
theorem ts_pre (h : RIp pc_ pn pb K Fi X Y (R ++ (rend s ++ T))) (hs : sbo s) : ∃ fo : Nat → Nat, fo R.length = (pl R).length ∧ Fi R.length = nI (fo R.length) ∧ Fi (R.length + s.2.1.length) = nI (fo (R.length + s.2.1.length)) ∧ (pl R).length + (pl s.2.1).length = (if K (R.length + s.2.1.length) = 2 then fo (R.length + s.2.1.length) + 2 else fo (R.length + s.2.1.length)) ∧ (pl R).length + (pl s.2.1).length < pn := by
  obtain ⟨fl, l1, l2, l3⟩ := RS_l h hs
  have hn : (pl R).length + (pl s.2.1).length < pn := by
    have h4 := congrArg List.length h.2.2.2.1
    rw [plst_len, pl_app, pl_app, pl_rend] at h4
    simp at h4
    omega
  by_cases h0 : s.2.1 = []
  · have hfl := l3 h0
    refine ⟨fun _ => fl, hfl, by show Fi R.length = nI fl; rw [RS_f h hs, hfl], l1, l2.symm, hn⟩
  · have hl : s.2.1.length ≠ 0 := fun z => h0 (List.eq_nil_of_length_eq_zero z)
    refine ⟨fun i => if i = R.length then (pl R).length else fl, if_pos rfl, ?_, ?_, ?_, hn⟩
    · rw [RS_f h hs]
      show _ = nI (if R.length = R.length then _ else _)
      rw [if_pos rfl]
    · rw [l1]
      show _ = nI (if R.length + s.2.1.length = R.length then _ else _)
      rw [if_neg (by omega)]
    · rw [← l2]
      show _ = (if _ then (if R.length + s.2.1.length = R.length then _ else fl) + 2 else (if R.length + s.2.1.length = R.length then _ else fl))
      rw [if_neg (show ¬ R.length + s.2.1.length = R.length by omega)]
end TS
