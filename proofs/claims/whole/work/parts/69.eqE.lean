/-! reading the rows inside one subpath -/
theorem RI_k {pc_ pn pb : Nat} {K Fi X Y : Nat → Int32} {ps : List Pt} (h : RIp pc_ pn pb K Fi X Y ps) {i : Nat} {q : Pt} (hq : ps[i]? = some q) : i < pc_ ∧ K i = q.1 := by
  obtain ⟨h1, h2, -⟩ := h
  have hi : i < ps.length := by
    rcases Nat.lt_or_ge i ps.length with z | z
    · exact z
    · rw [List.getElem?_eq_none z] at hq; cases hq
  refine ⟨by omega, ?_⟩
  have h3 := rl_get (K := K) (n := pc_) (i := i) (by omega)
  rw [h2] at h3
  unfold kd at h3
  rw [List.getElem?_map, hq] at h3
  exact (Option.some.inj h3).symm
theorem at_mid {R S T : List Pt} {i : Nat} {q : Pt} (h : S[i]? = some q) : (R ++ (S ++ T))[R.length + i]? = some q := by
  have hi : i < S.length := by
    rcases Nat.lt_or_ge i S.length with z | z
    · exact z
    · rw [List.getElem?_eq_none z] at h; cases h
  rw [List.getElem?_append_right (by omega), Nat.add_sub_cancel_left, List.getElem?_append_left hi]
  exact h
theorem rend_at {s : Sub} {i : Nat} (h : i < (rend s).length) (h0 : 0 < i) (hs : sbo s) : ∃ q, (rend s)[i]? = some q ∧ ¬ q.1 = 0 := by
  obtain ⟨j, rfl⟩ : ∃ j, i = j + 1 := ⟨i - 1, by omega⟩
  have hj : j < (s.2.1 ++ clo s.1 s.2.2).length := by
    have : (rend s).length = (s.2.1 ++ clo s.1 s.2.2).length + 1 := rfl
    omega
  refine ⟨(s.2.1 ++ clo s.1 s.2.2)[j], ?_, ?_⟩
  · show (s.2.1 ++ clo s.1 s.2.2)[j]? = _
    exact List.getElem?_eq_getElem hj
  · have hm := List.getElem_mem hj
    generalize (s.2.1 ++ clo s.1 s.2.2)[j] = q at hm ⊢
    rcases List.mem_append.mp hm with z | z
    · exact (sgo_k (hs.2 _ z)).2
    · unfold clo at z
      split at z
      · rw [List.mem_singleton.mp z]
        show ¬ (3 : Int32) = 0
        decide
      · exact absurd z List.not_mem_nil
section RS
variable {pc_ pn pb : Nat} {K Fi X Y : Nat → Int32} {R T : List Pt} {s : Sub}
/-- inside a subpath nothing begins -/
theorem RS_in (h : RIp pc_ pn pb K Fi X Y (R ++ (rend s ++ T))) (hs : sbo s) {j : Nat} (h1 : R.length < j) (h2 : j < R.length + (rend s).length) : j < pc_ ∧ ¬ K j = 0 := by
  obtain ⟨q, hq, hz⟩ := rend_at (s := s) (i := j - R.length) (by omega) (by omega) hs
  have := RI_k h (at_mid (R := R) (T := T) hq)
  rw [show R.length + (j - R.length) = j by omega] at this
  exact ⟨this.1, by rw [this.2]; exact hz⟩
/-- behind it something begins, or there is nothing -/
theorem RS_end {s2 : Sub} {T2 : List Pt} (h : RIp pc_ pn pb K Fi X Y (R ++ (rend s ++ (rend s2 ++ T2)))) : K (R.length + (rend s).length) = 0 := by
  have h9 : R ++ (rend s ++ (rend s2 ++ T2)) = (R ++ rend s) ++ (rend s2 ++ T2) := by simp
  rw [h9] at h
  have := RI_k h (at_mid (R := R ++ rend s) (S := rend s2) (T := T2) (i := 0) (q := (0, s2.1.1, s2.1.2, 0, 0, 0, 0)) rfl)
  rw [Nat.add_zero, List.length_append] at this
  exact this.2
/-- whether it is closed -/
theorem RS_c (h : RIp pc_ pn pb K Fi X Y (R ++ (rend s ++ T))) (hs : sbo s) : (s.2.2 = true → K (R.length + (rend s).length - 1) = 3) ∧ (s.2.2 = false → ¬ K (R.length + (rend s).length - 1) = 3) := by
  obtain ⟨p, segs, c⟩ := s
  refine ⟨fun hc => ?_, fun hc => ?_⟩
  · have hc : c = true := hc
    subst hc
    have := RI_k h (at_mid (R := R) (S := rend (p, segs, true)) (T := T) (i := segs.length + 1) (q := (3, p.1, p.2, 0, 0, 0, 0)) (by
      show (segs ++ [((3, p.1, p.2, 0, 0, 0, 0) : Pt)])[segs.length]? = _
      simp))
    rw [show R.length + (rend (p, segs, true)).length - 1 = R.length + (segs.length + 1) by simp [rend, clo]]
    exact this.2
  · have hc : c = false := hc
    subst hc
    rw [show R.length + (rend (p, segs, false)).length - 1 = R.length + segs.length by simp [rend, clo]]
    cases hsg : segs with
    | nil =>
      have := RI_k h (at_mid (R := R) (S := rend (p, segs, false)) (T := T) (i := 0) (q := (0, p.1, p.2, 0, 0, 0, 0)) rfl)
      rw [Nat.add_zero] at this
      rw [List.length_nil, Nat.add_zero, this.2]
      show ¬ (0 : Int32) = 3
      decide
    | cons a l =>
      have hg : (rend (p, segs, false))[segs.length]? = some ((a :: l).getLast (by simp)) := by
        show ((0, p.1, p.2, 0, 0, 0, 0) :: (segs ++ clo p false))[segs.length]? = _
        rw [hsg, List.getLast_eq_getElem]
        simp [clo]
      have := RI_k h (at_mid (R := R) (T := T) hg)
      rw [hsg] at this
      rw [this.2]
      exact (sgo_k (hs.2 _ (by show _ ∈ segs; rw [hsg]; exact List.getLast_mem _))).1
end RS
