/-! one part flattened -/
theorem mx0 {a : Nat} (h : a < 2 ^ 31) : i32max (nI a) 0 = nI a := by
  unfold i32max
  exact if_neg (nI_pos h)
theorem pl_last {P : List Pt} {q : Pt} (h : ¬ q.1 = 3) : ∃ l, pl (P ++ [q]) = l ++ [xy q] := by
  have e : pl [q] = np q := by simp [pl]
  by_cases h2 : q.1 = 2
  · refine ⟨pl P ++ [(q.2.2.2.1, q.2.2.2.2.1), (q.2.2.2.2.2.1, q.2.2.2.2.2.2)], ?_⟩
    rw [pl_app, e]
    unfold np
    rw [if_pos h2, List.append_assoc]
    rfl
  · refine ⟨pl P, ?_⟩
    rw [pl_app, e]
    unfold np
    rw [if_neg h2, if_neg h]
    rfl
section FW
variable {pc_ pn pb : Nat} {K Fi X Y : Nat → Int32} {ps : List Pt} {k : Nat}
/-- a curve's points, with the one ahead of it -/
theorem RI_curve (h : RIp pc_ pn pb K Fi X Y ps) (hg : gdp ps) (hk : k < pc_) (hl9 : pc_ ≤ 3000) (h2 : K k = 2) : ∃ f : Nat, Fi k = nI f ∧ 1 ≤ f ∧ f + 2 < pn ∧ X (f - 1) = (gp ps (k - 1)).2.1 ∧ Y (f - 1) = (gp ps (k - 1)).2.2.1 ∧ X f = (gp ps k).2.2.2.1 ∧ Y f = (gp ps k).2.2.2.2.1 ∧ X (f + 1) = (gp ps k).2.2.2.2.2.1 ∧ Y (f + 1) = (gp ps k).2.2.2.2.2.2 ∧ X (f + 2) = (gp ps k).2.1 ∧ Y (f + 2) = (gp ps k).2.2.1 ∧ nrP (xy (gp ps (k - 1))) ∧ sgo (gp ps k) := by
  obtain ⟨f, f1, f2, f3, f4, f5, f6⟩ := RI_read h hg hk
  rw [if_pos h2] at f3 f4 f5
  obtain ⟨g1, g2, g3, g4⟩ := f6 (by rw [← f2]; exact h2)
  have hkl : k < ps.length := by rw [h.1]; exact hk
  have ht := take_snoc hkl
  have hgs := gdp_take (k := k + 1) hg
  rw [ht] at hgs
  have hPl : (ps.take k).length = k := by rw [List.length_take]; omega
  have hq2 : (gp ps k).1 = 2 := by rw [← f2]; exact h2
  obtain ⟨gP, hc⟩ := gdp_step hgs
  have hmid : ps.take k ≠ [] ∧ ¬ lk (ps.take k) = 3 ∧ sgo (gp ps k) := by
    rcases hc with ⟨z, -⟩ | z | ⟨-, -, z, -⟩
    · rw [z] at hq2
      exact absurd hq2 (by show ¬ (0 : Int32) = 2; decide)
    · exact z
    · rw [z] at hq2
      exact absurd hq2 (by show ¬ (3 : Int32) = 2; decide)
  obtain ⟨m1, m2, m3⟩ := hmid
  have hk1 : 1 ≤ k := by
    rcases Nat.eq_zero_or_pos k with z | z
    · rw [z] at m1
      exact absurd List.take_zero m1
    · exact z
  have ht1 : ps.take k = ps.take (k - 1) ++ [gp ps (k - 1)] := by
    have := take_snoc (ps := ps) (k := k - 1) (by omega)
    rw [show k - 1 + 1 = k by omega] at this
    exact this
  have hn3 : ¬ (gp ps (k - 1)).1 = 3 := by
    rw [ht1, lk_snoc] at m2
    exact m2
  have hnr : nrP (xy (gp ps (k - 1))) := by
    have := gdp_lp gP m1
    rw [ht1, lx_snoc, ly_snoc] at this
    exact this
  obtain ⟨l, hl⟩ := pl_last (P := ps.take (k - 1)) hn3
  rw [← ht1] at hl
  have hps : ps = ps.take k ++ ([gp ps k] ++ ps.drop (k + 1)) := by
    rw [← List.append_assoc, ← ht, List.take_append_drop]
  have hF : f = (pl (ps.take k)).length := by
    have h3 := h.2.2.1
    have h4 := rl_get (K := Fi) hk
    have hkP : (kd (ps.take k)).length = k := by unfold kd; rw [List.length_map]; exact hPl
    have ho : offF 0 (kd (ps.take k)) = (pl (ps.take k)).length := by rw [offF_kd]; omega
    rw [h3, f1] at h4
    have hkd : kd ps = kd (ps.take k) ++ kd ([gp ps k] ++ ps.drop (k + 1)) := by rw [← kd_app, ← hps]
    rw [hkd, frsF_app, List.getElem?_map, List.getElem?_append_right (by rw [frsF_len, hkP]; exact Nat.le_refl _), frsF_len, hkP, Nat.sub_self, ho] at h4
    have h5 : nI (if (gp ps k).1 = 3 then bgF 0 0 (kd (ps.take k)) else (pl (ps.take k)).length) = nI f := Option.some.inj h4
    rw [if_neg (by rw [hq2]; decide)] at h5
    have hb := pl_le (ps.take k)
    have hpn := RI_pn h
    rw [hPl] at hb
    exact ((nI_eq (by omega) (by omega)).mp h5).symm
  have hlen : (pl (ps.take k)).length = l.length + 1 := by rw [hl]; simp
  have hpt : (pl ps)[f - 1]? = some (xy (gp ps (k - 1))) := by
    have e9 : pl ps = pl (ps.take k) ++ pl ([gp ps k] ++ ps.drop (k + 1)) := by rw [← pl_app, ← hps]
    rw [e9, List.getElem?_append_left (by omega), hl, show f - 1 = l.length by omega, List.getElem?_concat_length]
  obtain ⟨p1, p2, p3⟩ := pl_get h hpt
  exact ⟨f, f1, by omega, f3, p2, p3, g1, g2, g3, g4, f4, f5, hnr, m3⟩
end FW
