/-! the firsts of a subpath -/
section RF
variable {pc_ pn pb : Nat} {K Fi X Y : Nat → Int32} {R T : List Pt} {s : Sub}
theorem RS_F (h : RIp pc_ pn pb K Fi X Y (R ++ (rend s ++ T))) (hs : sbo s) {i v : Nat} (hi : ((frsF 0 0 (kd R) ++ [(pl R).length]) ++ frsF ((pl R).length + 1) (pl R).length (kd s.2.1) ++ frsF (offF ((pl R).length + 1) (kd s.2.1)) (pl R).length (kd (clo s.1 s.2.2) ++ kd T))[i]? = some v) : Fi i = nI v := by
  obtain ⟨h1, -, h3, -⟩ := h
  have hk0 : ∀ k ∈ kd s.2.1, ¬ k = 0 := fun k hk => (seg_no3 hs.2 k hk).2
  have ha : offF 0 (kd R) = (pl R).length := by rw [offF_kd]; omega
  rw [kd_app, kd_app, kd_rend, frs_sub hk0, ha] at h3
  have hl : i < pc_ := by
    have hll := congrArg List.length h3
    rw [rl_len, List.length_map] at hll
    rcases Nat.lt_or_ge i pc_ with z | z
    · exact z
    · rw [List.getElem?_eq_none (by omega)] at hi; cases hi
  have h4 := rl_get (K := Fi) hl
  rw [h3, List.getElem?_map, hi] at h4
  exact (Option.some.inj h4).symm
theorem RS_f (h : RIp pc_ pn pb K Fi X Y (R ++ (rend s ++ T))) (hs : sbo s) : Fi R.length = nI (pl R).length := by
  refine RS_F h hs ?_
  have hl : (frsF 0 0 (kd R)).length = R.length := by rw [frsF_len]; simp [kd]
  rw [List.append_assoc, List.append_assoc, List.getElem?_append_right (by omega), hl]
  simp
theorem RS_l (h : RIp pc_ pn pb K Fi X Y (R ++ (rend s ++ T))) (hs : sbo s) : ∃ fl : Nat, Fi (R.length + s.2.1.length) = nI fl ∧ (if K (R.length + s.2.1.length) = 2 then fl + 2 else fl) = (pl R).length + (pl s.2.1).length ∧ (s.2.1 = [] → fl = (pl R).length) := by
  obtain ⟨p, segs, c⟩ := s
  have hsg : ∀ q ∈ segs, sgo q := hs.2
  have hl : (frsF 0 0 (kd R)).length = R.length := by rw [frsF_len]; simp [kd]
  rcases List.eq_nil_or_concat segs with hn | ⟨l, q, hn⟩
  · subst hn
    have hb := RI_k h (at_mid (R := R) (S := rend (p, [], c)) (T := T) (i := 0) (q := (0, p.1, p.2, 0, 0, 0, 0)) rfl)
    rw [Nat.add_zero] at hb
    refine ⟨(pl R).length, RS_f h hs, ?_, fun _ => rfl⟩
    show (if K (R.length + 0) = 2 then _ else _) = _
    rw [Nat.add_zero, hb.2, if_neg (by show ¬ (0 : Int32) = 2; decide)]
    rfl
  · have hn : segs = l ++ [q] := by rw [hn]; simp
    subst hn
    have hq := sgo_k (hsg q (List.mem_append_right _ List.mem_cons_self))
    have hKq := RI_k h (at_mid (R := R) (S := rend (p, l ++ [q], c)) (T := T) (i := l.length + 1) (q := q) (by
      show ((l ++ [q]) ++ clo p c)[l.length]? = _
      simp))
    have hlen : R.length + (l ++ [q]).length = R.length + (l.length + 1) := by simp
    refine ⟨(pl R).length + 1 + (pl l).length, ?_, ?_, fun z => absurd z (by simp)⟩
    · show Fi (R.length + (l ++ [q]).length) = _
      rw [hlen]
      refine RS_F h hs ?_
      have hkd : kd (l ++ [q]) = kd l ++ [q.1] := kd_app
      show ((frsF 0 0 (kd R) ++ [(pl R).length]) ++ frsF ((pl R).length + 1) (pl R).length (kd (l ++ [q])) ++ _)[R.length + (l.length + 1)]? = _
      have hll : (frsF ((pl R).length + 1) (pl R).length (kd l)).length = l.length := by rw [frsF_len]; simp [kd]
      rw [hkd, frsF_app, List.append_assoc, List.getElem?_append_right (by simp [hl] <;> omega)]
      have e1 : R.length + (l.length + 1) - (frsF 0 0 (kd R) ++ [(pl R).length]).length = l.length := by simp [hl] <;> omega
      rw [e1, List.append_assoc, List.getElem?_append_right (by omega), hll, Nat.sub_self]
      show some (if q.1 = 3 then _ else offF ((pl R).length + 1) (kd l)) = _
      rw [if_neg hq.1, offF_kd]
    · show (if K (R.length + (l ++ [q]).length) = 2 then _ else _) = (pl R).length + (pl (l ++ [q])).length
      rw [hlen, hKq.2, pl_app, List.length_append]
      have hp : (pl [q]).length = npk q.1 := by
        have : pl [q] = np q := by simp [pl]
        rw [this, np_len]
      rw [hp]
      unfold npk
      by_cases h2 : q.1 = 2
      · rw [if_pos h2, if_pos h2]; omega
      · rw [if_neg h2, if_neg h2, if_neg hq.1]; omega
end RF
