/-! shift: the class's rows -/
section SM
variable {dx dy : Int32} {pc_ pn pb : Nat} {K Fi X Y X' Y' : Nat → Int32} {ps : List Pt}
theorem near_pts (h : RIp pc_ pn pb K Fi X Y ps) : (pl ps).any (farP dx dy) = false ↔ near X pn dx ∧ near Y pn dy := by
  rw [← h.2.2.2.1, List.any_eq_false]
  unfold near plst
  constructor
  · intro z
    have z2 : ∀ k, k < pn → farP dx dy (X k, Y k) = false := fun k hk => by
      have := z (X k, Y k) (List.mem_map.mpr ⟨k, List.mem_range.mpr hk, rfl⟩)
      simpa using this
    unfold farP at z2
    exact ⟨fun k hk => (Bool.or_eq_false_iff.mp (z2 k hk)).1, fun k hk => (Bool.or_eq_false_iff.mp (z2 k hk)).2⟩
  · intro z q hq
    obtain ⟨k, hk, rfl⟩ := List.mem_map.mp hq
    have hk := List.mem_range.mp hk
    unfold farP
    have h1 : fr ((X k).toInt64 + dx.toInt64) = false := z.1 k hk
    have h2 : fr ((Y k).toInt64 + dy.toInt64) = false := z.2 k hk
    simp [h1, h2]
theorem RI_shift (h : RIp pc_ pn pb K Fi X Y ps) (hX : ∀ k, X' k = if k < pn then X k + dx else X k) (hY : ∀ k, Y' k = if k < pn then Y k + dy else Y k) : RIp pc_ pn pb K Fi X' Y' (ps.map (shp dx dy)) := by
  obtain ⟨h1, h2, h3, h4, h5⟩ := h
  refine ⟨by rw [List.length_map]; exact h1, by rw [kd_shp]; exact h2, by rw [kd_shp]; exact h3, ?_, by rw [kd_shp]; exact h5⟩
  rw [pl_shp, ← h4]
  unfold plst
  rw [List.map_map]
  apply List.map_congr_left
  intro k hk
  have hk := List.mem_range.mp hk
  show (X' k, Y' k) = (X k + dx, Y k + dy)
  rw [hX, hY, if_pos hk, if_pos hk]
theorem shp_sgo {q : Pt} (h : sgo q) (hf : q7f (shQ dx dy q) = false) : sgo (shp dx dy q) := by
  unfold shp
  rcases h with ⟨z, -⟩ | ⟨z, -⟩
  · have e : shQ dx dy q = q3 1 (px q + dx.toInt64) (py q + dy.toInt64) := by
      unfold shQ
      rw [if_neg (by rw [z]; decide), z]
    rw [e] at hf ⊢
    exact q3_sgo hf
  · refine q2_sgo ?_ hf
    unfold shQ
    rw [if_pos z]
    exact z
theorem shP_nr {p : P2} (h : farP dx dy p = false) : nrP (shP dx dy p) := by
  unfold farP at h
  obtain ⟨h1, h2⟩ := Bool.or_eq_false_iff.mp h
  have h1 := (fr_64 h1).1
  have h2 := (fr_64 h2).1
  rw [add_32] at h1 h2
  exact ⟨h1, h2⟩
theorem shS_sbo {s : Sub} (h : sbo s) (hf : (pl (rend s)).any (farP dx dy) = false) : sbo (shS dx dy s) := by
  rw [pl_rend, List.any_cons, Bool.or_eq_false_iff] at hf
  refine ⟨shP_nr hf.1, ?_⟩
  intro q hq
  obtain ⟨w, hw, rfl⟩ := List.mem_map.mp hq
  refine shp_sgo (h.2 w hw) ?_
  have h1 := hf.2
  rw [← far_segs h.2, List.any_eq_false] at h1
  have := h1 _ (List.mem_map.mpr ⟨w, hw, rfl⟩)
  simpa using this
theorem shift_pkp (h : pkp ps) : pkp (rShift ps dx dy).2 := by
  rw [rShift_pts h]
  by_cases hf : (pl ps).any (farP dx dy) = true
  · rw [if_pos hf]; exact h
  · rw [if_neg hf]
    have hf : (pl ps).any (farP dx dy) = false := by simpa using hf
    obtain ⟨⟨u, rfl, hu⟩, hl⟩ := h
    refine ⟨⟨u.map (shS dx dy), ?_, ?_⟩, by show (List.map _ _).length ≤ 3000; rw [List.length_map]; exact hl⟩
    · show (u.flatMap rend).map (shp dx dy) = _
      rw [List.map_flatMap, List.flatMap_map]
      congr 1
      funext s
      exact shp_rend
    · intro s hs
      obtain ⟨t, ht, rfl⟩ := List.mem_map.mp hs
      refine shS_sbo (hu t ht) ?_
      rw [List.any_eq_false] at hf ⊢
      intro p hp
      apply hf p
      unfold pl at hp ⊢
      obtain ⟨q, hq, hpq⟩ := List.mem_flatMap.mp hp
      exact List.mem_flatMap.mpr ⟨q, List.mem_flatMap.mpr ⟨t, ht, hq⟩, hpq⟩
end SM
