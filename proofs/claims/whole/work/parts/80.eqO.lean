/-! bound over the class's rows -/
theorem cs_segs {ax : Nat} {l : List Pt} {z : Int32} (h : ∀ q ∈ l, sgo q) : z ∈ l.flatMap (cs9 ax) ↔ z ∈ (pl l).map (axf ax) := by
  induction l with
  | nil => simp [pl]
  | cons q l ih =>
    have hq : ¬ q.1 = 3 := by rcases h q List.mem_cons_self with ⟨y, -⟩ | ⟨y, -⟩ <;> rw [y] <;> decide
    have e : pl (q :: l) = np q ++ pl l := rfl
    rw [List.flatMap_cons, List.mem_append, e, List.map_append, List.mem_append, cs_np hq, ih (fun w hw => h w (List.mem_cons_of_mem _ hw))]
theorem cs_rend {ax : Nat} {s : Sub} {z : Int32} (h : sbo s) : z ∈ (rend s).flatMap (cs9 ax) ↔ z ∈ (pl (rend s)).map (axf ax) := by
  obtain ⟨p, segs, c⟩ := s
  have h1 := cs_segs (ax := ax) (z := z) h.2
  have h1 : z ∈ segs.flatMap (cs9 ax) ↔ z ∈ (pl segs).map (axf ax) := h1
  have hb : cs9 ax (0, p.1, p.2, 0, 0, 0, 0) = [axf ax p] := if_neg (by show ¬ (0 : Int32) = 2; decide)
  have hc : cs9 ax (3, p.1, p.2, 0, 0, 0, 0) = [axf ax p] := if_neg (by show ¬ (3 : Int32) = 2; decide)
  rw [pl_rend]
  show z ∈ ((0, p.1, p.2, 0, 0, 0, 0) :: (segs ++ clo p c)).flatMap (cs9 ax) ↔ z ∈ (p :: pl segs).map (axf ax)
  rw [List.flatMap_cons, List.flatMap_append, hb, List.map_cons, List.mem_append, List.mem_append, h1, List.mem_singleton, List.mem_cons]
  cases c with
  | true =>
    have e : (clo p true).flatMap (cs9 ax) = [axf ax p] := by
      show cs9 ax (3, p.1, p.2, 0, 0, 0, 0) ++ [] = _
      rw [hc]; rfl
    rw [e, List.mem_singleton]
    constructor
    · rintro (h | h | h)
      · exact Or.inl h
      · exact Or.inr h
      · exact Or.inl h
    · rintro (h | h)
      · exact Or.inl h
      · exact Or.inr (Or.inl h)
  | false =>
    have e : (clo p false).flatMap (cs9 ax) = [] := rfl
    rw [e]
    simp
theorem cs_gdp {ax : Nat} {ps : List Pt} {z : Int32} (h : gdp ps) : z ∈ ps.flatMap (cs9 ax) ↔ z ∈ (pl ps).map (axf ax) := by
  obtain ⟨u, rfl, hu⟩ := h
  induction u with
  | nil => simp [pl]
  | cons s u ih =>
    rw [List.flatMap_cons, List.flatMap_append, pl_app, List.map_append, List.mem_append, List.mem_append, cs_rend (hu s List.mem_cons_self), ih (fun w hw => hu w (List.mem_cons_of_mem _ hw))]
theorem cs_first {ax : Nat} {q : Pt} (ha : ax < 2) : cmp6 q ax ∈ cs9 ax q := by
  have : ax = 0 ∨ ax = 1 := by omega
  have e : cmp6 q ax = axf ax (xy q) := by rcases this with z | z <;> subst z <;> rfl
  rw [e]
  unfold cs9
  split <;> exact List.mem_cons_self
def axX (ax : Nat) (X Y : Nat → Int32) : Nat → Int32 := if ax = 0 then X else Y
theorem bound_ext {pc_ pn pb : Nat} {K Fi X Y : Nat → Int32} {ps : List Pt} {lo : Bool} {ax : Nat} (h : RIp pc_ pn pb K Fi X Y ps) (hg : gdp ps) (hn : ps ≠ []) (ha : ax < 2) : ps.foldl (bnd lo ax) (cmp6 (gp ps 0) ax) = row9 lo (axX ax X Y) pn := by
  rw [fold_cs ha]
  have h1 := ext_fold (lo := lo) (L := ps.flatMap (cs9 ax)) (f := cmp6 (gp ps 0) ax)
  have hm : ∀ z, (z ∈ (pl ps).map (axf ax)) ↔ ∃ k, k < pn ∧ axX ax X Y k = z := by
    intro z
    rw [← h.2.2.2.1]
    unfold plst
    rw [List.map_map, List.mem_map]
    constructor
    · rintro ⟨k, hk, rfl⟩
      refine ⟨k, List.mem_range.mp hk, ?_⟩
      unfold axX axf
      by_cases e : ax = 0
      · simp [e]
      · simp [e]
    · rintro ⟨k, hk, rfl⟩
      refine ⟨k, List.mem_range.mpr hk, ?_⟩
      unfold axX axf
      by_cases e : ax = 0
      · simp [e]
      · simp [e]
  have hf : cmp6 (gp ps 0) ax ∈ ps.flatMap (cs9 ax) := by
    cases ps with
    | nil => exact absurd rfl hn
    | cons q r => exact List.mem_flatMap.mpr ⟨q, List.mem_cons_self, cs_first ha⟩
  have hp : 0 < pn := by
    obtain ⟨k, hk, -⟩ := (hm _).mp ((cs_gdp hg).mp hf)
    omega
  obtain ⟨n, rfl⟩ : ∃ n, pn = n + 1 := ⟨pn - 1, by omega⟩
  refine ext_u (S := fun z => ∃ k, k < n + 1 ∧ axX ax X Y k = z) ?_ ext_row
  have hS : ∀ z, (z = cmp6 (gp ps 0) ax ∨ z ∈ ps.flatMap (cs9 ax)) ↔ ∃ k, k < n + 1 ∧ axX ax X Y k = z := by
    intro z
    rw [← hm z, ← cs_gdp hg]
    constructor
    · rintro (e | e)
      · rw [e]; exact hf
      · exact e
    · exact Or.inr
  exact ⟨(hS _).mp h1.1, fun w hw => h1.2 w ((hS w).mpr hw)⟩
theorem bound_row {pc_ pn pb : Nat} {K Fi X Y : Nat → Int32} {ps : List Pt} {w : Int32} (h : RIp pc_ pn pb K Fi X Y ps) (hg : gdp ps) : rBound ps w = if w = 0 then rowMin X pn else if w = 1 then rowMin Y pn else if w = 2 then rowMax X pn else if w = 3 then rowMax Y pn else 0 := by
  unfold rBound
  by_cases hn : ps = []
  · subst hn
    have hp : pn = 0 := by
      have := congrArg List.length h.2.2.2.1
      rw [plst_len] at this
      exact this
    subst hp
    rw [if_pos (Or.inl (show ([] : List Pt).length = 0 from rfl))]
    show (0 : Int32) = if w = 0 then 0 else if w = 1 then 0 else if w = 2 then 0 else if w = 3 then 0 else 0
    simp
  · have hl : ¬ ps.length = 0 := fun z => hn (List.eq_nil_of_length_eq_zero z)
    rcases w5 w with e | e | e | e | e
    · subst e
      rw [if_neg (by rintro (q | q | q); exact hl q; exact absurd q (by decide); exact q (by decide)), if_pos rfl]
      exact bound_ext (lo := true) (ax := 0) h hg hn (by omega)
    · subst e
      rw [if_neg (by rintro (q | q | q); exact hl q; exact absurd q (by decide); exact q (by decide)), if_neg (by decide), if_pos rfl]
      exact bound_ext (lo := true) (ax := 1) h hg hn (by omega)
    · subst e
      rw [if_neg (by rintro (q | q | q); exact hl q; exact absurd q (by decide); exact q (by decide)), if_neg (by decide), if_neg (by decide), if_pos rfl]
      exact bound_ext (lo := false) (ax := 0) h hg hn (by omega)
    · subst e
      rw [if_neg (by rintro (q | q | q); exact hl q; exact absurd q (by decide); exact q (by decide)), if_neg (by decide), if_neg (by decide), if_neg (by decide), if_pos rfl]
      exact bound_ext (lo := false) (ax := 1) h hg hn (by omega)
    · rw [if_pos (Or.inr e)]
      have e0 : ¬ w = 0 := by rintro rfl; rcases e with e | e; exact absurd e (by decide); exact e (by decide)
      have e1 : ¬ w = 1 := by rintro rfl; rcases e with e | e; exact absurd e (by decide); exact e (by decide)
      have e2 : ¬ w = 2 := by rintro rfl; rcases e with e | e; exact absurd e (by decide); exact e (by decide)
      have e3 : ¬ w = 3 := by rintro rfl; rcases e with e | e; exact absurd e (by decide); exact e (by decide)
      rw [if_neg e0, if_neg e1, if_neg e2, if_neg e3]
