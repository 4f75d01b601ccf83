/-! the class's rows when a path grows, and its latest part -/
section GRO
variable {pc_ pn pb : Nat} {K Fi X Y : Nat → Int32} {ps : List Pt}
theorem npk_le (k : Int32) : npk k ≤ 3 := by
  unfold npk
  split
  · omega
  · split <;> omega
theorem pl_le : ∀ (ps : List Pt), (pl ps).length ≤ 3 * ps.length := by
  intro ps
  induction ps with
  | nil => exact Nat.le_refl _
  | cons q ps ih =>
    show (np q ++ pl ps).length ≤ 3 * (ps.length + 1)
    rw [List.length_append, np_len]
    have := npk_le q.1
    omega
theorem RI_pn (h : RIp pc_ pn pb K Fi X Y ps) : pn ≤ 3 * pc_ := by
  have h1 := pl_le ps
  rw [← h.2.2.2.1, plst_len, h.1] at h1
  exact h1
theorem RI_last {A : List Pt} {q : Pt} (h : RIp pc_ pn pb K Fi X Y (A ++ [q])) : pc_ = A.length + 1 ∧ K (pc_ - 1) = q.1 := by
  obtain ⟨h1, h2, -⟩ := h
  have e1 : pc_ = A.length + 1 := by rw [← h1]; simp
  refine ⟨e1, ?_⟩
  have h3 := rl_get (n := pc_) (K := K) (i := pc_ - 1) (by omega)
  have e3 : pc_ - 1 = (kd A).length := by unfold kd; rw [List.length_map]; omega
  rw [h2, kd_app, e3, show kd [q] = [q.1] from rfl, List.getElem?_concat_length] at h3
  rw [e3]
  exact (Option.some.inj h3).symm
theorem snoc_ne (hn : ps ≠ []) : ∃ A q, ps = A ++ [q] := by
  rcases List.eq_nil_or_concat ps with hu | ⟨l, q, hu⟩
  · exact absurd hu hn
  · exact ⟨l, q, by rw [hu]; simp⟩
theorem RI_lk {k : Int32} (h : RIp pc_ pn pb K Fi X Y ps) (hk : ¬ (-1 : Int32) = k) : (0 < pc_ ∧ K (pc_ - 1) = k) ↔ lk ps = k := by
  by_cases hn : ps = []
  · subst hn
    have h1 := h.1
    constructor
    · rintro ⟨a, -⟩
      rw [← h1] at a
      exact absurd a (Nat.lt_irrefl 0)
    · intro a
      exact absurd a hk
  · obtain ⟨A, q, rfl⟩ := snoc_ne hn
    obtain ⟨a, b⟩ := RI_last h
    rw [lk_snoc, b]
    exact ⟨fun z => z.2, fun z => ⟨by omega, z⟩⟩
theorem RI_0iff (h : RIp pc_ pn pb K Fi X Y ps) : pc_ = 0 ↔ ps.length = 0 := by rw [h.1]
theorem RI_addB {x y : Int32} (h : RIp pc_ pn pb K Fi X Y ps) : RIp (pc_ + 1) (pn + 1) pn (upd K pc_ 0) (upd Fi pc_ (nI pn)) (upd X pn x) (upd Y pn y) (ps ++ [(0, x, y, 0, 0, 0, 0)]) :=
  RI_add (q := (0, x, y, 0, 0, 0, 0)) (X' := upd X pn x) (Y' := upd Y pn y) h (plst_snoc pn X Y x y)
theorem RI_addL {x y : Int32} (h : RIp pc_ pn pb K Fi X Y ps) : RIp (pc_ + 1) (pn + 1) pb (upd K pc_ 1) (upd Fi pc_ (nI pn)) (upd X pn x) (upd Y pn y) (ps ++ [(1, x, y, 0, 0, 0, 0)]) :=
  RI_add (q := (1, x, y, 0, 0, 0, 0)) (X' := upd X pn x) (Y' := upd Y pn y) h (plst_snoc pn X Y x y)
theorem RI_addC {x1 y1 x2 y2 x3 y3 : Int32} (h : RIp pc_ pn pb K Fi X Y ps) : RIp (pc_ + 1) (pn + 1 + 1 + 1) pb (upd K pc_ 2) (upd Fi pc_ (nI pn)) (upd (upd (upd X pn x1) (pn + 1) x2) (pn + 1 + 1) x3) (upd (upd (upd Y pn y1) (pn + 1) y2) (pn + 1 + 1) y3) (ps ++ [(2, x3, y3, x1, y1, x2, y2)]) := by
  have e : plst (pn + 1 + 1 + 1) (upd (upd (upd X pn x1) (pn + 1) x2) (pn + 1 + 1) x3) (upd (upd (upd Y pn y1) (pn + 1) y2) (pn + 1 + 1) y3) = plst pn X Y ++ [(x1, y1), (x2, y2), (x3, y3)] := by
    rw [plst_snoc, plst_snoc, plst_snoc, List.append_assoc, List.append_assoc]
    rfl
  exact RI_add (q := (2, x3, y3, x1, y1, x2, y2)) h e
theorem RI_addZ {q : Pt} (hq : q.1 = 3) (h : RIp pc_ pn pb K Fi X Y ps) : RIp (pc_ + 1) pn pb (upd K pc_ 3) (upd Fi pc_ (nI pb)) X Y (ps ++ [q]) := by
  have e := RI_add (q := q) (X' := X) (Y' := Y) h (by
    rw [hq]
    unfold np
    rw [if_neg (by rw [hq]; decide), if_pos hq, List.append_nil]
    rfl)
  rw [hq] at e
  exact e
/-- closed: the point where the subpath began is the latest one -/
theorem RI_closed (h : RIp pc_ pn pb K Fi X Y ps) (hg : gdp ps) (hk : lk ps = 3) : pb < pn ∧ X pb = lx ps ∧ Y pb = ly ps := by
  have hn : ps ≠ [] := fun z => by
    rw [z] at hk
    exact absurd hk (by decide)
  have hb := bg_pt rfl hg hn
  rw [← h.2.2.2.2] at hb
  obtain ⟨a, b, c⟩ := pl_get h hb
  refine ⟨a, ?_⟩
  rw [b, c]
  rcases gdp_cases hg hn with ⟨A, p, segs, hA, hs, he⟩ | ⟨A, p, hA, hs, he⟩ | ⟨A, p, l, q, hA, hs, he⟩
  · rw [he, lx_snoc, ly_snoc, lb_snoc, if_neg (show ¬ (3 : Int32) = 0 by decide), ← rend_f, lb_rend hs.2]
    exact ⟨rfl, rfl⟩
  · rw [he, lk_snoc] at hk
    exact absurd hk (by show ¬ (0 : Int32) = 3; decide)
  · rw [he, lk_snoc] at hk
    exact absurd hk (sgo_k (hs.2 q (List.mem_append_right _ List.mem_cons_self))).1
theorem RI_seg {mo : Nat} (h : RIp pc_ pn pb K Fi X Y ps) : (if 0 < pc_ ∧ K (pc_ - 1) = 3 then mo + 1 else mo) = (opn ps).length + mo := by
  have e := RI_lk (k := 3) h (by decide)
  unfold opn
  by_cases hk : lk ps = 3
  · rw [if_pos (e.mpr hk), if_pos hk]
    show mo + 1 = 1 + mo
    omega
  · rw [if_neg (fun z => hk (e.mp z)), if_neg hk]
    show mo = 0 + mo
    omega
theorem open_n (h : RIp pc_ pn pb K Fi X Y ps) (hk : ¬ lk ps = 3) : RIp pc_ pn pb K Fi X Y (ps ++ (opn ps).map q7p) := by
  unfold opn
  rw [if_neg hk, List.map_nil, List.append_nil]
  exact h
theorem open_y (h : RIp pc_ pn pb K Fi X Y ps) (hg : gdp ps) (hk : lk ps = 3) : RIp (pc_ + 1) (pn + 1) pn (upd K pc_ 0) (upd Fi pc_ (nI pn)) (upd X pn (X pb)) (upd Y pn (Y pb)) (ps ++ (opn ps).map q7p) := by
  obtain ⟨-, hx, hy⟩ := RI_closed h hg hk
  have e2 : (opn ps).map q7p = [(0, X pb, Y pb, 0, 0, 0, 0)] := by
    unfold opn
    rw [if_pos hk, hx, hy]
    show [q7p _] = _
    rw [q3_p]
  rw [e2]
  exact RI_addB h
theorem opn_1 (hk : lk ps = 3) : (opn ps).length = 1 := by unfold opn; rw [if_pos hk]; rfl
theorem opn_le : (opn ps).length ≤ 1 := by
  unfold opn
  split
  · exact Nat.le_refl _
  · exact Nat.zero_le _
theorem RI_repl {A : List Pt} {a b x y : Int32} (h : RIp pc_ pn pb K Fi X Y (A ++ [(0, a, b, 0, 0, 0, 0)])) : pb < pn ∧ RIp pc_ pn pb K Fi (upd X pb x) (upd Y pb y) (A ++ [(0, x, y, 0, 0, 0, 0)]) := by
  obtain ⟨h1, h2, h3, h4, h5⟩ := h
  have ek : kd (A ++ [((0 : Int32), x, y, (0 : Int32), (0 : Int32), (0 : Int32), (0 : Int32))]) = kd (A ++ [(0, a, b, 0, 0, 0, 0)]) := by rw [kd_app, kd_app]; rfl
  have e5 : pb = (pl A).length := by
    rw [h5, kd_app]
    show bgF 0 0 (kd A ++ [0]) = _
    rw [bgF_app, offF_kd, Nat.zero_add]
    rfl
  have e4 : pn = (pl A).length + 1 := by
    have := congrArg List.length h4
    rw [plst_len, pl_app, List.length_append] at this
    exact this
  have hA : plst (pl A).length X Y = pl A := by
    rw [e4, plst_succ, pl_app] at h4
    exact (List.append_inj h4 (by rw [plst_len])).1
  refine ⟨by omega, by rw [← h1]; simp, by rw [h2, ek], by rw [h3, ek], ?_, by rw [h5, ek]⟩
  rw [e4, e5, plst_snoc, hA, pl_app]
  rfl
end GRO
