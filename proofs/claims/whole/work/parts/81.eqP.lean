/-! reading a part out of the class's rows -/
theorem bg_pt : ∀ {n : Nat} {P : List Pt}, P.length = n → gdp P → P ≠ [] → (pl P)[bgF 0 0 (kd P)]? = some (xy (lb P)) := by
  intro n
  induction n with
  | zero => intro P hl _ hn; exact absurd (List.eq_nil_of_length_eq_zero hl) hn
  | succ n ih =>
    intro P hl hg hn
    rcases List.eq_nil_or_concat P with hu | ⟨A, q, hu⟩
    · exact absurd hu hn
    · have hu : P = A ++ [q] := by rw [hu]; simp
      subst hu
      have hA : A.length = n := by simpa using hl
      obtain ⟨gA, hq⟩ := gdp_step hg
      have ho : offF 0 (kd A) = (pl A).length := by rw [offF_kd]; omega
      have hb : bgF 0 0 (kd (A ++ [q])) = if q.1 = 0 then (pl A).length else bgF 0 0 (kd A) := by
        rw [kd_app, bgF_app, ho]
        rfl
      rw [hb, lb_snoc, pl_app]
      by_cases h0 : q.1 = 0
      · rw [if_pos h0, if_pos h0, List.getElem?_append_right (Nat.le_refl _), Nat.sub_self]
        have e : pl [q] = [xy q] := by
          have : pl [q] = np q := by simp [pl]
          rw [this]
          unfold np
          rw [if_neg (by rw [h0]; decide), if_neg (by rw [h0]; decide)]
          rfl
        rw [e]
        rfl
      · rw [if_neg h0, if_neg h0]
        have hA0 : A ≠ [] := by
          rcases hq with ⟨z, -⟩ | ⟨z, -⟩ | ⟨z, -⟩
          · exact absurd (by rw [z]) h0
          · exact z
          · exact z
        have h1 := ih hA gA hA0
        have hlt : bgF 0 0 (kd A) < (pl A).length := by
          rcases Nat.lt_or_ge (bgF 0 0 (kd A)) (pl A).length with z | z
          · exact z
          · rw [List.getElem?_eq_none z] at h1; cases h1
        rw [List.getElem?_append_left hlt]
        exact h1
theorem pl_get {pc_ pn pb : Nat} {K Fi X Y : Nat → Int32} {ps : List Pt} (h : RIp pc_ pn pb K Fi X Y ps) {i : Nat} {p : P2} (hp : (pl ps)[i]? = some p) : i < pn ∧ X i = p.1 ∧ Y i = p.2 := by
  rw [← h.2.2.2.1] at hp
  have hi : i < pn := by
    rcases Nat.lt_or_ge i pn with z | z
    · exact z
    · rw [List.getElem?_eq_none (by rw [plst_len]; exact z)] at hp; cases hp
  refine ⟨hi, ?_⟩
  unfold plst at hp
  rw [List.getElem?_map, List.getElem?_range hi] at hp
  have := Option.some.inj hp
  exact ⟨congrArg Prod.fst this, congrArg Prod.snd this⟩
/-- a part, read by its number -/
theorem RI_read {pc_ pn pb : Nat} {K Fi X Y : Nat → Int32} {ps : List Pt} (h : RIp pc_ pn pb K Fi X Y ps) (hg : gdp ps) {k : Nat} (hk : k < pc_) : ∃ f : Nat, Fi k = nI f ∧ K k = (gp ps k).1 ∧ (if K k = 2 then f + 2 else f) < pn ∧ X (if K k = 2 then f + 2 else f) = (gp ps k).2.1 ∧ Y (if K k = 2 then f + 2 else f) = (gp ps k).2.2.1 ∧ ((gp ps k).1 = 2 → X f = (gp ps k).2.2.2.1 ∧ Y f = (gp ps k).2.2.2.2.1 ∧ X (f + 1) = (gp ps k).2.2.2.2.2.1 ∧ Y (f + 1) = (gp ps k).2.2.2.2.2.2) := by
  have hkl : k < ps.length := by rw [h.1]; exact hk
  have hq : ps[k]? = some (gp ps k) := by
    unfold gp
    rw [List.getD_eq_getElem?_getD, List.getElem?_eq_getElem hkl]
    rfl
  have hK := (RI_k h hq).2
  have ht := take_snoc hkl
  have hgs := gdp_take (k := k + 1) hg
  rw [ht] at hgs
  have hps : ps = ps.take k ++ ([gp ps k] ++ ps.drop (k + 1)) := by
    rw [← List.append_assoc, ← ht, List.take_append_drop]
  generalize gp ps k = q at *
  have hPl : (ps.take k).length = k := by rw [List.length_take]; omega
  generalize ps.take k = P at *
  generalize ps.drop (k + 1) = T at *
  obtain ⟨gP, hc⟩ := gdp_step hgs
  have ho : offF 0 (kd P) = (pl P).length := by rw [offF_kd]; omega
  have hkP : (kd P).length = k := by unfold kd; rw [List.length_map]; exact hPl
  have hF : Fi k = nI (if q.1 = 3 then bgF 0 0 (kd P) else (pl P).length) := by
    have h3 := h.2.2.1
    have h4 := rl_get (K := Fi) hk
    rw [h3, hps, kd_app, kd_app, frsF_app, List.getElem?_map, List.getElem?_append_right (by rw [frsF_len, hkP]; exact Nat.le_refl _), frsF_len, hkP, Nat.sub_self, ho] at h4
    exact (Option.some.inj h4).symm
  have hpl : ∀ {i : Nat} {p : P2}, (np q)[i]? = some p → (pl ps)[(pl P).length + i]? = some p := by
    intro i p hp
    rw [hps, pl_app, pl_app, List.getElem?_append_right (by omega), Nat.add_sub_cancel_left]
    have e : pl [q] = np q := by simp [pl]
    rw [e, List.getElem?_append_left]
    · exact hp
    · rcases Nat.lt_or_ge i (np q).length with z | z
      · exact z
      · rw [List.getElem?_eq_none z] at hp; cases hp
  refine ⟨_, hF, hK, ?_⟩
  rw [hK]
  by_cases h3 : q.1 = 3
  · have h2 : ¬ q.1 = 2 := by rw [h3]; decide
    rw [if_neg h2, if_pos h3]
    rcases hc with ⟨z, -⟩ | ⟨-, -, z⟩ | ⟨z0, -, z, -⟩
    · rw [z] at h3; exact absurd h3 (by show ¬ (0 : Int32) = 3; decide)
    · rcases z with ⟨z, -⟩ | ⟨z, -⟩ <;> rw [z] at h3 <;> exact absurd h3 (by decide)
    · have hb := bg_pt rfl gP z0
      have hb2 : (pl ps)[bgF 0 0 (kd P)]? = some (xy (lb P)) := by
        rw [hps, pl_app, List.getElem?_append_left]
        · exact hb
        · rcases Nat.lt_or_ge (bgF 0 0 (kd P)) (pl P).length with y | y
          · exact y
          · rw [List.getElem?_eq_none y] at hb; cases hb
      obtain ⟨a, b, c⟩ := pl_get h hb2
      refine ⟨a, ?_, ?_, fun y => absurd y h2⟩
      · rw [b, z]; rfl
      · rw [c, z]; rfl
  · rw [if_neg h3]
    by_cases h2 : q.1 = 2
    · rw [if_pos h2]
      have n0 := hpl (i := 0) (p := (q.2.2.2.1, q.2.2.2.2.1)) (by unfold np; rw [if_pos h2]; rfl)
      have n1 := hpl (i := 1) (p := (q.2.2.2.2.2.1, q.2.2.2.2.2.2)) (by unfold np; rw [if_pos h2]; rfl)
      have n2 := hpl (i := 2) (p := (q.2.1, q.2.2.1)) (by unfold np; rw [if_pos h2]; rfl)
      obtain ⟨a0, b0, c0⟩ := pl_get h n0
      obtain ⟨a1, b1, c1⟩ := pl_get h n1
      obtain ⟨a2, b2, c2⟩ := pl_get h n2
      exact ⟨a2, b2, c2, fun _ => ⟨b0, c0, b1, c1⟩⟩
    · rw [if_neg h2]
      have n0 := hpl (i := 0) (p := (q.2.1, q.2.2.1)) (by unfold np; rw [if_neg h2, if_neg h3]; rfl)
      obtain ⟨a0, b0, c0⟩ := pl_get h n0
      exact ⟨a0, b0, c0, fun y => absurd y h2⟩
