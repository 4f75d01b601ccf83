/-! an arc and the same arc the other way -/
def fsV (z0 z1 q : Int64) : List V8 := if frm q z0 = tow q z1 then [] else [cut8 (qv8 (fmd q 4)) (frm q z0) (tow q z1)]
theorem fsV_rev (z0 z1 q : Int64) : (fsV z0 z1 q).reverse = fsV z0 z1 q := by
  unfold fsV
  split <;> rfl
section AQ
variable {z0 z1 fq lq : Int64}
theorem aqs_f (hf : ang fq) : ∀ (m k : Nat), k + m < 900 → aqs z0 z1 false fq lq m (fq + (nI k).toInt64) = (List.range m).flatMap (fun j => fsV z0 z1 (fq + (nI (k + j)).toInt64)) := by
  intro m
  induction m with
  | zero => intros; rfl
  | succ m ih =>
    intro k hk
    show fsV z0 z1 (fq + (nI k).toInt64) ++ aqs z0 z1 false fq lq m (fq + (nI k).toInt64 + 1) = _
    rw [qk_s (by omega) hf, ih (k + 1) (by omega), List.range_succ_eq_map]
    simp only [List.flatMap_cons, List.flatMap_map, Nat.add_zero]
    congr 1
    rw [List.flatMap_def, List.flatMap_def]
    congr 1
    apply List.map_congr_left
    intro j _
    rw [show k + 1 + j = k + (j + 1) by omega]
theorem aqs_t (hf : ang fq) : ∀ (m k : Nat), k + m < 900 → aqs z0 z1 true fq lq m (fq + (nI k).toInt64) = (List.range m).flatMap (fun j => fsV z0 z1 (fq + lq - (fq + (nI (k + j)).toInt64))) := by
  intro m
  induction m with
  | zero => intros; rfl
  | succ m ih =>
    intro k hk
    show fsV z0 z1 (fq + lq - (fq + (nI k).toInt64)) ++ aqs z0 z1 true fq lq m (fq + (nI k).toInt64 + 1) = _
    rw [qk_s (by omega) hf, ih (k + 1) (by omega), List.range_succ_eq_map]
    simp only [List.flatMap_cons, List.flatMap_map, Nat.add_zero]
    congr 1
    rw [List.flatMap_def, List.flatMap_def]
    congr 1
    apply List.map_congr_left
    intro j _
    rw [show k + 1 + j = k + (j + 1) by omega]
theorem q_0 : fq + (nI 0).toInt64 = fq := by
  have : (nI 0).toInt64 = 0 := rfl
  rw [this, Int64.add_zero]
theorem aqs_rev (hf : ang fq) (hl : ang lq) (hl2 : lq.toInt < 4000000000000000000) (h : cnt lq fq < 900) : aqs z0 z1 true fq lq (cnt lq fq) fq = (aqs z0 z1 false fq lq (cnt lq fq) fq).reverse := by
  have h1 := aqs_f (z0 := z0) (z1 := z1) (lq := lq) hf (cnt lq fq) 0 (by omega)
  have h2 := aqs_t (z0 := z0) (z1 := z1) (lq := lq) hf (cnt lq fq) 0 (by omega)
  rw [q_0] at h1 h2
  rw [h1, h2, rev_fm (fun k => fsV_rev _ _ _)]
  rw [List.flatMap_def, List.flatMap_def]
  congr 1
  apply List.map_congr_left
  intro j hj
  have hj := List.mem_range.mp hj
  unfold ang at hf hl
  congr 1
  have hc : (cnt lq fq : Int) = lq.toInt + 1 - fq.toInt := by
    unfold cnt at hj ⊢
    omega
  have e1 : (fq + lq).toInt = fq.toInt + lq.toInt := by rw [Int64.toInt_add, i64_bm (by omega) (by omega)]
  rw [eq_i, Int64.toInt_sub, qk_i (by omega) hf, qk_i (by omega) hf, e1, i64_bm (by omega) (by omega)]
  omega
end AQ
theorem mixI_1 {a b : Int32} (hA : rng a) (hB : rng b) : mixI a b 65536 = b := by
  apply Int32.toInt_inj.mp
  have e : (65536 : Int32).toInt = 65536 := rfl
  rw [mixI_i hA hB (by unfold tin; rw [e]; omega), e]
  omega
theorem mixI_0 {a b : Int32} (hA : rng a) (hB : rng b) : mixI a b 0 = a := by
  apply Int32.toInt_inj.mp
  have e : (0 : Int32).toInt = 0 := rfl
  rw [mixI_i hA hB (by unfold tin; rw [e]; omega), e]
  omega
theorem my3_1 {a b c d : Int32} (hA : rng a) (hB : rng b) (hC : rng c) (hD : rng d) : my3 a b c d 65536 = d := by
  unfold my3 my2
  rw [mixI_1 hA hB, mixI_1 hB hC, mixI_1 hC hD, mixI_1 hB hC, mixI_1 hC hD]
  exact mixI_1 hC hD
theorem my3_0 {a b c d : Int32} (hA : rng a) (hB : rng b) (hC : rng c) (hD : rng d) : my3 a b c d 0 = a := by
  unfold my3 my2
  rw [mixI_0 hA hB, mixI_0 hB hC, mixI_0 hC hD, mixI_0 hA hB, mixI_0 hB hC, mixI_0 hA hB]
/-- a quarter ends where the next one begins -/
theorem q_join (q : Int64) (hq : ang q) : (qa4 (fmd q 4)).2.2.2 = (qa4 (fmd (q + 1) 4)).1 ∧ (qb4 (fmd q 4)).2.2.2 = (qb4 (fmd (q + 1) 4)).1 := by
  have h4 : (4 : Int64).toInt = 4 := rfl
  have e1 : (1 : Int64).toInt = 1 := rfl
  have a1 := fmd_i (x := q) (y := 4) (by decide)
  have a2 := fmd_i (x := q + 1) (y := 4) (by decide)
  unfold ang at hq
  rw [h4] at a1 a2
  rw [Int64.toInt_add, e1, i64_bm (by omega) (by omega)] at a2
  have n0 : (0 : Int64).toInt = 0 := rfl
  have n2 : (2 : Int64).toInt = 2 := rfl
  have n3 : (3 : Int64).toInt = 3 := rfl
  rcases fmd4 q with h | h | h | h <;> rcases fmd4 (q + 1) with g | g | g | g <;> rw [h] at a1 ⊢ <;> rw [g] at a2 ⊢
  all_goals first
    | exact ⟨by decide, by decide⟩
    | (exfalso; simp only [n0, e1, n2, n3] at a1 a2; omega)
theorem bef_first {A : V4} {t : Int32} : (bef4 A t).1 = A.1 := by
  obtain ⟨a, b, c, d⟩ := A
  rfl
theorem beh_last {A : V4} {t : Int32} : (beh4 A t).2.2.2 = A.2.2.2 := by
  obtain ⟨a, b, c, d⟩ := A
  rfl
section JN
variable {fq lq : Int64} {bg en : Int32}
theorem cps_stop {m k : Nat} (h : lq < fq + (nI k).toInt64) : cps fq lq bg en m k = [] := by
  cases m with
  | zero => rfl
  | succ m => exact if_pos h
theorem cps_head (hf : ang fq) (hl : ang lq) : ∀ {m k : Nat} {p : VV} {r : List VV}, 1 ≤ k → k < 900 → cps fq lq bg en m k = p :: r → p0 p = ((qa4 (fmd (fq + (nI k).toInt64) 4)).1, (qb4 (fmd (fq + (nI k).toInt64) 4)).1) := by
  intro m k p r hk hk9 h
  cases m with
  | zero => exact absurd h (by simp [cps])
  | succ m =>
    unfold cps at h
    by_cases h1 : lq < fq + (nI k).toInt64
    · rw [if_pos h1] at h; exact absurd h (by simp)
    · rw [if_neg h1] at h
      have hu : recU bg k = 0 := if_neg (by omega)
      by_cases h2 : recV fq lq en k ≤ recU bg k
      · rw [if_pos h2, List.nil_append] at h
        have hq : fq + (nI k).toInt64 = lq := by
          by_cases h3 : fq + (nI k).toInt64 = lq
          · exact h3
          · have hv : recV fq lq en k = 65536 := if_neg h3
            rw [hv, hu] at h2
            exact absurd h2 (by decide)
        have : cps fq lq bg en m (k + 1) = [] := cps_stop (by
          apply lt64.mpr
          have := qk_i (fq := fq) (k := k) (by omega) hf
          rw [hq] at this
          rw [qk_i (by omega) hf]
          omega)
        rw [this] at h
        exact absurd h (by simp)
      · rw [if_neg h2] at h
        have hp : p = (tkA (fq + (nI k).toInt64) (recU bg k) (recV fq lq en k), tkB (fq + (nI k).toInt64) (recU bg k) (recV fq lq en k)) := (List.cons.inj h).1.symm
        rw [hp, hu]
        unfold p0 tkA tkB
        rw [if_pos (Or.inl (by decide)), if_pos (Or.inl (by decide)), bef_first, bef_first]
theorem bef_last {A : V4} (h : rng4 A) : (bef4 A 65536).2.2.2 = A.2.2.2 := by
  obtain ⟨a, b, c, d⟩ := A
  obtain ⟨h0, h1, h2, h3⟩ := h
  exact my3_1 h0 h1 h2 h3
theorem tk_last {q : Int64} {u : Int32} : pc3 (tkA q u 65536, tkB q u 65536) = ((qa4 (fmd q 4)).2.2.2, (qb4 (fmd q 4)).2.2.2) := by
  obtain ⟨-, ha, hb⟩ := qv_ok q
  unfold pc3 tkA tkB
  by_cases h : u ≤ 0 ∨ (65536 : Int32) ≤ 0
  · rw [if_pos h, if_pos h, bef_last ha, bef_last hb]
  · rw [if_neg h, if_neg h, beh_last, beh_last, bef_last ha, bef_last hb]
theorem cps_joint (hf : ang fq) (hl : ang lq) : ∀ {m k : Nat}, k + m < 900 → joint (cps fq lq bg en m k) := by
  intro m
  induction m with
  | zero => intro k _; exact trivial
  | succ m ih =>
    intro k hk
    have ih1 := ih (k := k + 1) (by omega)
    unfold cps
    by_cases h1 : lq < fq + (nI k).toInt64
    · rw [if_pos h1]; exact trivial
    · rw [if_neg h1]
      by_cases h2 : recV fq lq en k ≤ recU bg k
      · rw [if_pos h2, List.nil_append]; exact ih1
      · rw [if_neg h2]
        cases hc : cps fq lq bg en m (k + 1) with
        | nil => exact trivial
        | cons p r =>
          refine ⟨?_, by rw [← hc]; exact ih1⟩
          have hne : ¬ fq + (nI k).toInt64 = lq := fun z => by
            have : cps fq lq bg en m (k + 1) = [] := cps_stop (by
              apply lt64.mpr
              have := qk_i (fq := fq) (k := k) (by omega) hf
              rw [z] at this
              rw [qk_i (by omega) hf]
              omega)
            rw [this] at hc
            exact absurd hc (by simp)
          have hv : recV fq lq en k = 65536 := if_neg hne
          have hh := cps_head hf hl (by omega) (by omega) hc
          have hqa : ang (fq + (nI k).toInt64) := by
            have h3 : ¬ lq.toInt < (fq + (nI k).toInt64).toInt := fun z => h1 (lt64.mpr z)
            have h4 := qk_i (fq := fq) (k := k) (by omega) hf
            unfold ang at hf hl ⊢
            omega
          have hj := q_join (fq + (nI k).toInt64) hqa
          rw [qk_s (by omega) hf] at hj
          rw [hv, tk_last, hh, hj.1, hj.2]
end JN
