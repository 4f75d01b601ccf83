/-! shift, reverse, clear and the readers, as the class does them -/
section RD
variable {pc_ pn pb : Nat} {K Fi X Y X' Y' K' F' : Nat → Int32} {ps : List Pt} {dx dy i w : Int32} {j : Nat}
theorem shc_f (h : pkp ps) (hR : RIp pc_ pn pb K Fi X Y ps) (hn : ¬ (near X pn dx ∧ near Y pn dy)) : rShift ps dx dy = (-4, ps) := by
  rw [rShift_pts h]
  cases hz : (pl ps).any (farP dx dy) with
  | true => rfl
  | false => exact absurd ((near_pts hR).mp hz) hn
theorem shc_y (h : pkp ps) (hR : RIp pc_ pn pb K Fi X Y ps) (hn : near X pn dx ∧ near Y pn dy) (hX : ∀ k, X' k = if k < pn then X k + dx else X k) (hY : ∀ k, Y' k = if k < pn then Y k + dy else Y k) : RIp pc_ pn pb K Fi X' Y' (rShift ps dx dy).2 ∧ nI pc_ = (rShift ps dx dy).1 := by
  rw [rShift_pts h, (near_pts hR).mpr hn, if_neg Bool.false_ne_true, hR.1]
  exact ⟨RI_shift hR hX hY, rfl⟩
theorem rev_ok {subs : List Sub} (h : pkp ps) (hR : RIp pc_ pn pb K Fi X Y ps) (he : ps = subs.flatMap rend) (hs : ∀ s ∈ subs, sbo s) (h9 : RIp pc_ pn pb K' F' X' Y' (subs.flatMap renT)) : RIp pc_ pn pb K' F' X' Y' (rReverse ps).2 ∧ nI pc_ = (rReverse ps).1 := by
  have h1 := hR.1
  have h2 := h.2
  rw [he] at h1 h2 ⊢
  rw [rReverse_subs hs h2, h1]
  exact ⟨h9, rfl⟩
theorem kind_no (hR : RIp pc_ pn pb K Fi X Y ps) (h : ¬ (¬ i < 0 ∧ ¬ nI pc_ ≤ i)) : rKind ps i = -1 := by
  unfold rKind
  rw [if_pos]
  rw [hR.1]
  by_cases h1 : i < 0
  · exact Or.inl h1
  · by_cases h2 : nI pc_ ≤ i
    · exact Or.inr h2
    · exact absurd ⟨h1, h2⟩ h
theorem kind_j (hR : RIp pc_ pn pb K Fi X Y ps) (hg : gdp ps) (hj : j < pc_) (hpc : pc_ ≤ 3000) : rKind ps (nI j) = K j := by
  obtain ⟨f, f1, f2, f3, f4, f5, f6⟩ := RI_read hR hg hj
  unfold rKind
  rw [if_neg, nI_clamp (by omega), f2]
  · rfl
  · rw [hR.1]
    rintro (h | h)
    · exact nI_pos (by omega) h
    · exact nI_ge hj (by omega) h
theorem place_no (hR : RIp pc_ pn pb K Fi X Y ps) (h : ¬ (¬ i < 0 ∧ ¬ nI pc_ ≤ i)) : rPlace ps i w = 0 := by
  unfold rPlace
  rw [if_pos]
  rw [hR.1]
  by_cases h1 : i < 0
  · exact Or.inl h1
  · by_cases h2 : nI pc_ ≤ i
    · exact Or.inr (Or.inl h2)
    · exact absurd ⟨h1, h2⟩ h
theorem place_w (h : w < 0 ∨ 5 < w) : rPlace ps i w = 0 := by
  unfold rPlace
  rw [if_pos (Or.inr (Or.inr h))]
theorem w01 (h0 : ¬ w < 0) (h2 : w < 2) : w = 0 ∨ w = 1 := by
  have e0 : (0 : Int32).toInt = 0 := rfl
  have e1 : (1 : Int32).toInt = 1 := rfl
  have e2 : (2 : Int32).toInt = 2 := rfl
  have a := Int32.lt_iff_toInt_lt.mp h2
  have b : ¬ w.toInt < (0 : Int32).toInt := fun z => h0 (Int32.lt_iff_toInt_lt.mpr z)
  rw [e0] at b
  rw [e2] at a
  have c : w.toInt = 0 ∨ w.toInt = 1 := by omega
  rcases c with c | c
  · exact Or.inl (Int32.toInt_inj.mp (by rw [c, e0]))
  · exact Or.inr (Int32.toInt_inj.mp (by rw [c, e1]))
theorem w25 (h2 : ¬ w < 2) (h5 : w ≤ 5) : w = 2 ∨ w = 3 ∨ w = 4 ∨ w = 5 := by
  have e2 : (2 : Int32).toInt = 2 := rfl
  have e3 : (3 : Int32).toInt = 3 := rfl
  have e4 : (4 : Int32).toInt = 4 := rfl
  have e5 : (5 : Int32).toInt = 5 := rfl
  have a := Int32.le_iff_toInt_le.mp h5
  have b : ¬ w.toInt < (2 : Int32).toInt := fun z => h2 (Int32.lt_iff_toInt_lt.mpr z)
  rw [e2] at b
  rw [e5] at a
  have c : w.toInt = 2 ∨ w.toInt = 3 ∨ w.toInt = 4 ∨ w.toInt = 5 := by omega
  rcases c with c | c | c | c
  · exact Or.inl (Int32.toInt_inj.mp (by rw [c, e2]))
  · exact Or.inr (Or.inl (Int32.toInt_inj.mp (by rw [c, e3])))
  · exact Or.inr (Or.inr (Or.inl (Int32.toInt_inj.mp (by rw [c, e4]))))
  · exact Or.inr (Or.inr (Or.inr (Int32.toInt_inj.mp (by rw [c, e5]))))
theorem place_j {k : Nat} (hR : RIp pc_ pn pb K Fi X Y ps) (hj : j < pc_) (hpc : pc_ ≤ 3000) (hk : k ≤ 5) : rPlace ps (nI j) (nI k) = if 1 < nI k ∧ ¬ (gp ps j).1 = 2 then 0 else cmp6 (gp ps j) k := by
  unfold rPlace
  rw [if_neg, nI_clamp (by omega), nI_clamp (by omega)]
  · rfl
  · rw [hR.1]
    rintro (h | h | h | h)
    · exact nI_pos (by omega) h
    · exact nI_ge hj (by omega) h
    · exact nI_pos (by omega) h
    · exact nI_nlt (a := 5) (b := k) hk (by decide) h
theorem place_01 {f : Nat} (hR : RIp pc_ pn pb K Fi X Y ps) (hj : j < pc_) (hpc : pc_ ≤ 3000) (h0 : ¬ w < 0) (h2 : w < 2) (f4 : X (if K j = 2 then f + 2 else f) = (gp ps j).2.1) (f5 : Y (if K j = 2 then f + 2 else f) = (gp ps j).2.2.1) : rPlace ps (nI j) w = if w = 0 then X (if K j = 2 then f + 2 else f) else Y (if K j = 2 then f + 2 else f) := by
  rcases w01 h0 h2 with h | h
  · rw [h, if_pos rfl, f4]
    have := place_j (k := 0) hR hj hpc (by decide)
    rw [if_neg (fun z => absurd z.1 (by decide))] at this
    exact this
  · rw [h, if_neg (by decide), f5]
    have := place_j (k := 1) hR hj hpc (by decide)
    rw [if_neg (fun z => absurd z.1 (by decide))] at this
    exact this
theorem place_n2 (hR : RIp pc_ pn pb K Fi X Y ps) (hj : j < pc_) (hpc : pc_ ≤ 3000) (h2 : ¬ w < 2) (h5 : w ≤ 5) (hK : K j = (gp ps j).1) (hn : ¬ K j = 2) : rPlace ps (nI j) w = 0 := by
  rw [hK] at hn
  rcases w25 h2 h5 with h | h | h | h
  · have := place_j (k := 2) hR hj hpc (by decide)
    rw [if_pos ⟨by decide, hn⟩] at this
    rw [h]
    exact this
  · have := place_j (k := 3) hR hj hpc (by decide)
    rw [if_pos ⟨by decide, hn⟩] at this
    rw [h]
    exact this
  · have := place_j (k := 4) hR hj hpc (by decide)
    rw [if_pos ⟨by decide, hn⟩] at this
    rw [h]
    exact this
  · have := place_j (k := 5) hR hj hpc (by decide)
    rw [if_pos ⟨by decide, hn⟩] at this
    rw [h]
    exact this
theorem place_k {k : Nat} (hR : RIp pc_ pn pb K Fi X Y ps) (hj : j < pc_) (hpc : pc_ ≤ 3000) (hk : k ≤ 5) (hK : K j = (gp ps j).1) (hn : K j = 2) : rPlace ps (nI j) (nI k) = cmp6 (gp ps j) k := by
  rw [place_j hR hj hpc hk, if_neg (fun z => z.2 (by rw [← hK]; exact hn))]
theorem last_gp (hR : RIp pc_ pn pb K Fi X Y ps) (h : 0 < pc_) : lx ps = (gp ps (pc_ - 1)).2.1 ∧ ly ps = (gp ps (pc_ - 1)).2.2.1 := by
  have hn : ps ≠ [] := fun z => by
    have h1 := hR.1
    rw [z] at h1
    have h1 : 0 = pc_ := h1
    omega
  obtain ⟨A, q, rfl⟩ := snoc_ne hn
  have h1 := (RI_last hR).1
  rw [lx_snoc, ly_snoc]
  have e : gp (A ++ [q]) (pc_ - 1) = q := by
    unfold gp
    rw [List.getD_eq_getElem?_getD, show pc_ - 1 = A.length by omega, List.getElem?_concat_length]
    rfl
  rw [e]
  exact ⟨rfl, rfl⟩
theorem point_0 (hR : RIp pc_ pn pb K Fi X Y ps) (h : pc_ = 0) : rPoint ps w = 0 := by
  unfold rPoint
  rw [if_pos (by rw [hR.1]; exact h)]
theorem point_w (h : w < 0 ∨ 1 < w) : rPoint ps w = 0 := by
  unfold rPoint
  by_cases h0 : ps.length = 0
  · rw [if_pos h0]
  · rw [if_neg h0, if_neg, if_neg]
    · rintro rfl
      rcases h with h | h <;> exact absurd h (by decide)
    · rintro rfl
      rcases h with h | h <;> exact absurd h (by decide)
theorem point_at {f : Nat} (hR : RIp pc_ pn pb K Fi X Y ps) (h : 0 < pc_) (h0 : ¬ w < 0) (h1 : w ≤ 1) (f4 : X f = (gp ps (pc_ - 1)).2.1) (f5 : Y f = (gp ps (pc_ - 1)).2.2.1) : rPoint ps w = if w = 0 then X f else Y f := by
  have h2 : w < 2 := by
    have e1 : (1 : Int32).toInt = 1 := rfl
    have e2 : (2 : Int32).toInt = 2 := rfl
    have a := Int32.le_iff_toInt_le.mp h1
    apply Int32.lt_iff_toInt_lt.mpr
    rw [e1] at a
    rw [e2]
    omega
  obtain ⟨a, b⟩ := last_gp hR h
  unfold rPoint
  rw [if_neg (by rw [hR.1]; omega)]
  rcases w01 h0 h2 with z | z
  · rw [z, if_pos rfl, if_pos rfl, a, f4]
  · rw [z, if_neg (by decide), if_pos rfl, if_neg (by decide), b, f5]
theorem gdp_kok : gdp ps → ∀ q ∈ ps, kok q.1 := by
  rintro ⟨subs, rfl, hs⟩ q hq
  obtain ⟨s, hsm, hqs⟩ := List.mem_flatMap.mp hq
  obtain ⟨p, segs, c⟩ := s
  have hqs : q ∈ ((0, p.1, p.2, 0, 0, 0, 0) : Pt) :: (segs ++ clo p c) := hqs
  rcases List.mem_cons.mp hqs with h | h
  · rw [h]; exact kok0
  · rcases List.mem_append.mp h with h | h
    · rcases (hs _ hsm).2 q h with z | z
      · rw [z.1]; exact kok1
      · rw [z.1]; exact kok2
    · cases c with
      | false => exact absurd h (by simp [clo])
      | true =>
        have h : q ∈ [((3, p.1, p.2, 0, 0, 0, 0) : Pt)] := h
        rw [List.mem_singleton.mp h]
        exact kok3
theorem gdp_first (h : gdp ps) (hn : ps ≠ []) : (gp ps 0).1 = 0 := by
  obtain ⟨subs, rfl, -⟩ := h
  cases subs with
  | nil => exact absurd rfl hn
  | cons s r => rfl
end RD
section REF
variable {n : Nat} {K P : Nat → Int32}
theorem ref_hk (h : pkp (lst n K P)) : ∀ i, i < n → kok (K i) := fun i hi => gdp_kok h.1 (pt K P i) (by
  unfold lst
  exact List.mem_map.mpr ⟨i, List.mem_range.mpr hi, rfl⟩)
theorem ref_h0 (h : pkp (lst n K P)) : 0 < n → K 0 = 0 := fun hn => by
  have := gdp_first h.1 (fun z => by
    have z := congrArg List.length z
    rw [lst_len] at z
    have z : n = 0 := z
    omega)
  rw [gp_l hn] at this
  exact this
theorem ref_hn (h : pkp (lst n K P)) : n ≤ 3000 := by
  have := h.2
  rw [lst_len] at this
  exact this
end REF
