/-! the class's places and parts are the reference's -/
abbrev bgn (lo : Int64) : Int32 := plI (fdv lo 5898240) lo
def ang (t : Int64) : Prop := -4611686018427387904 ≤ t.toInt ∧ t.toInt ≤ 4611686018427387904
theorem plI_c {an : Int64} (hb : ang an) : (bgn an).toInt64 = plc an ∧ (bgn an).toInt = (an.toInt % 5898240 + 45) / 90 := by
  obtain ⟨h1, h2⟩ := hb
  have hq := fdq_i an
  have e1 : (45 : Int64).toInt = 45 := rfl
  have e2 : (90 : Int64).toInt = 90 := rfl
  have hm : (fdv an 5898240 * 5898240).toInt = an.toInt / 5898240 * 5898240 := by rw [Int64.toInt_mul, hq, q64, i64_bm (by omega) (by omega)]
  have hs : (an - fdv an 5898240 * 5898240).toInt = an.toInt % 5898240 := by rw [Int64.toInt_sub, hm, i64_bm (by omega) (by omega)]; omega
  have ha : (an - fdv an 5898240 * 5898240 + 45).toInt = an.toInt % 5898240 + 45 := by rw [Int64.toInt_add, hs, e1, i64_bm (by omega) (by omega)]
  have hi : (plI (fdv an 5898240) an).toInt = (an.toInt % 5898240 + 45) / 90 := by
    unfold plI
    rw [Int64.toInt_toInt32, dv_i (by decide), ha, e2, Int.tdiv_eq_ediv_of_nonneg (by omega), i32_bm (by omega) (by omega)]
  refine ⟨?_, hi⟩
  rw [eq_i, t6432, hi, plc_i]
theorem nI64 {k : Nat} (h : k < 1000) : (nI k).toInt64.toInt = (k : Int) := by rw [t6432, nI_toInt (by omega)]
theorem qk_i {fq : Int64} {k : Nat} (h : k < 1000) (hf : -4611686018427387904 ≤ fq.toInt ∧ fq.toInt ≤ 4611686018427387904) : (fq + (nI k).toInt64).toInt = fq.toInt + k := by
  rw [Int64.toInt_add, nI64 h, i64_bm (by omega) (by omega)]
theorem qk_s {fq : Int64} {k : Nat} (h : k < 999) (hf : -4611686018427387904 ≤ fq.toInt ∧ fq.toInt ≤ 4611686018427387904) : fq + (nI k).toInt64 + 1 = fq + (nI (k + 1)).toInt64 := by
  have e1 : (1 : Int64).toInt = 1 := rfl
  rw [eq_i, Int64.toInt_add, qk_i (by omega) hf, qk_i (by omega) hf, e1, i64_bm (by omega) (by omega)]
  omega
theorem fdq_b (t : Int64) : -4611686018427387904 ≤ (fdv t 5898240).toInt ∧ (fdv t 5898240).toInt ≤ 4611686018427387904 := by
  have h1 := i64_lo t
  have h2 := i64_hi t
  rw [fdq_i]
  omega
section UV
variable {lo hi : Int64} {k : Nat}
theorem recU_c (hlo : ang lo) (h : k < 1000) : (recU (bgn lo) k).toInt64 = frm (fdv lo 5898240 + (nI k).toInt64) lo := by
  unfold recU frm
  by_cases h0 : k = 0
  · rw [if_pos h0, if_pos (by rw [eq_i, qk_i h (fdq_b lo), h0]; omega)]
    exact (plI_c hlo).1
  · rw [if_neg h0, if_neg (by rw [eq_i, qk_i h (fdq_b lo)]; omega)]
    rfl
theorem recV_c (hhi : ang hi) : (recV (fdv lo 5898240) (fdv hi 5898240) (bgn hi) k).toInt64 = tow (fdv lo 5898240 + (nI k).toInt64) hi := by
  unfold recV tow
  by_cases h0 : fdv lo 5898240 + (nI k).toInt64 = fdv hi 5898240
  · rw [if_pos h0, if_pos h0]
    exact (plI_c hhi).1
  · rw [if_neg h0, if_neg h0]
    rfl
theorem recUV (hlo : ang lo) (hhi : ang hi) (hz : lo.toInt ≤ hi.toInt) (h : k < 1000) : 0 ≤ (recU (bgn lo) k).toInt ∧ (recU (bgn lo) k).toInt ≤ (recV (fdv lo 5898240) (fdv hi 5898240) (bgn hi) k).toInt ∧ (recV (fdv lo 5898240) (fdv hi 5898240) (bgn hi) k).toInt ≤ 65536 := by
  have p1 := (plI_c hlo).2
  have p2 := (plI_c hhi).2
  have q1 := fdq_i lo
  have q2 := fdq_i hi
  have e0 : (0 : Int32).toInt = 0 := rfl
  have e1 : (65536 : Int32).toInt = 65536 := rfl
  unfold recU recV
  by_cases h0 : k = 0
  · rw [if_pos h0]
    by_cases h1 : fdv lo 5898240 + (nI k).toInt64 = fdv hi 5898240
    · have h2 := eq_i.mp h1
      rw [qk_i h (fdq_b lo), q1, q2] at h2
      rw [if_pos h1, p1, p2]
      omega
    · rw [if_neg h1, p1, e1]
      omega
  · rw [if_neg h0, e0]
    by_cases h1 : fdv lo 5898240 + (nI k).toInt64 = fdv hi 5898240
    · rw [if_pos h1, p2]
      omega
    · rw [if_neg h1, e1]
      omega
end UV
/-- the parts that the class takes: from number k on, m at most -/
def cps (fq lq : Int64) (bg en : Int32) : Nat → Nat → List (V4 × V4)
  | 0, _ => []
  | m + 1, k => if lq < fq + (nI k).toInt64 then [] else (if recV fq lq en k ≤ recU bg k then [] else [(tkA (fq + (nI k).toInt64) (recU bg k) (recV fq lq en k), tkB (fq + (nI k).toInt64) (recU bg k) (recV fq lq en k))]) ++ cps fq lq bg en m (k + 1)
theorem recL_c {fq lq : Int64} {bg en : Int32} : ∀ {m k : Nat} {l : List P2}, recL fq lq bg en m k l = (cps fq lq bg en m k).foldl (fun l p => apT l p.1 p.2) l := by
  intro m
  induction m with
  | zero => intros; rfl
  | succ m ih =>
    intro k l
    unfold recL cps
    by_cases h : lq < fq + (nI k).toInt64
    · rw [if_pos h, if_pos h]; rfl
    · rw [if_neg h, if_neg h, ih, List.foldl_append]
      congr 1
      unfold recS
      by_cases h2 : recV fq lq en k ≤ recU bg k
      · rw [if_pos h2, if_pos h2]; rfl
      · rw [if_neg h2, if_neg h2]; rfl
theorem cps_len {fq lq : Int64} {bg en : Int32} : ∀ {m k : Nat}, (cps fq lq bg en m k).length ≤ m := by
  intro m
  induction m with
  | zero => intro k; exact Nat.le_refl 0
  | succ m ih =>
    intro k
    unfold cps
    split
    · exact Nat.zero_le _
    · have := ih (k := k + 1)
      split <;> simp <;> omega
/-- THE PARTS: one by one the reference's -/
theorem cps_aqs {lo hi : Int64} (hlo : ang lo) (hhi : ang hi) (hz : lo.toInt ≤ hi.toInt) : ∀ (c m k : Nat), cnt (fdv hi 5898240) (fdv lo 5898240 + (nI k).toInt64) = c → c ≤ m → k + m < 900 → (cps (fdv lo 5898240) (fdv hi 5898240) (bgn lo) (bgn hi) m k).map (fun p => z8 p.1 p.2) = aqs lo hi false (fdv lo 5898240) (fdv hi 5898240) c (fdv lo 5898240 + (nI k).toInt64) ∧ ∀ p ∈ cps (fdv lo 5898240) (fdv hi 5898240) (bgn lo) (bgn hi) m k, rng4 p.1 ∧ rng4 p.2 := by
  intro c
  induction c with
  | zero =>
    intro m k hc _ hk
    have hlt : fdv hi 5898240 < fdv lo 5898240 + (nI k).toInt64 := by
      apply lt64.mpr
      unfold cnt at hc
      omega
    cases m with
    | zero => exact ⟨rfl, fun p hp => absurd hp List.not_mem_nil⟩
    | succ m =>
      have : cps (fdv lo 5898240) (fdv hi 5898240) (bgn lo) (bgn hi) (m + 1) k = [] := if_pos hlt
      rw [this]
      exact ⟨rfl, fun p hp => absurd hp List.not_mem_nil⟩
  | succ c ih =>
    intro m k hc hm hk
    obtain ⟨m, rfl⟩ : ∃ m', m = m' + 1 := ⟨m - 1, by omega⟩
    have hnlt : ¬ fdv hi 5898240 < fdv lo 5898240 + (nI k).toInt64 := fun z => by
      rw [cnt_0 z] at hc
      omega
    have hs := cnt_s hnlt (fdq_hi hi)
    have hq := qk_s (k := k) (by omega) (fdq_b lo)
    rw [hq, hc] at hs
    obtain ⟨ih1, ih2⟩ := ih m (k + 1) (by omega) (by omega) (by omega)
    obtain ⟨b1, b2, b3⟩ := recUV (k := k) hlo hhi hz (by omega)
    have hU := recU_c (lo := lo) (k := k) hlo (by omega)
    have hV := recV_c (lo := lo) (hi := hi) (k := k) hhi
    have hcp : cps (fdv lo 5898240) (fdv hi 5898240) (bgn lo) (bgn hi) (m + 1) k = (if recV (fdv lo 5898240) (fdv hi 5898240) (bgn hi) k ≤ recU (bgn lo) k then [] else [(tkA (fdv lo 5898240 + (nI k).toInt64) (recU (bgn lo) k) (recV (fdv lo 5898240) (fdv hi 5898240) (bgn hi) k), tkB (fdv lo 5898240 + (nI k).toInt64) (recU (bgn lo) k) (recV (fdv lo 5898240) (fdv hi 5898240) (bgn hi) k))]) ++ cps (fdv lo 5898240) (fdv hi 5898240) (bgn lo) (bgn hi) m (k + 1) := if_neg hnlt
    have haq : aqs lo hi false (fdv lo 5898240) (fdv hi 5898240) (c + 1) (fdv lo 5898240 + (nI k).toInt64) = (if frm (fdv lo 5898240 + (nI k).toInt64) lo = tow (fdv lo 5898240 + (nI k).toInt64) hi then [] else [cut8 (qv8 (fmd (fdv lo 5898240 + (nI k).toInt64) 4)) (frm (fdv lo 5898240 + (nI k).toInt64) lo) (tow (fdv lo 5898240 + (nI k).toInt64) hi)]) ++ aqs lo hi false (fdv lo 5898240) (fdv hi 5898240) c (fdv lo 5898240 + (nI k).toInt64 + 1) := rfl
    rw [hcp, haq, hq]
    by_cases h2 : recV (fdv lo 5898240) (fdv hi 5898240) (bgn hi) k ≤ recU (bgn lo) k
    · have h3 := Int32.le_iff_toInt_le.mp h2
      have h4 : frm (fdv lo 5898240 + (nI k).toInt64) lo = tow (fdv lo 5898240 + (nI k).toInt64) hi := by
        rw [← hU, ← hV, eq_i, t6432, t6432]
        omega
      rw [if_pos h2, if_pos h4, List.nil_append, List.nil_append]
      exact ⟨ih1, ih2⟩
    · have h3 : ¬ (recV (fdv lo 5898240) (fdv hi 5898240) (bgn hi) k).toInt ≤ (recU (bgn lo) k).toInt := fun z => h2 (Int32.le_iff_toInt_le.mpr z)
      have h4 : ¬ frm (fdv lo 5898240 + (nI k).toInt64) lo = tow (fdv lo 5898240 + (nI k).toInt64) hi := fun z => by
        rw [← hU, ← hV, eq_i, t6432, t6432] at z
        omega
      obtain ⟨t1, t2, t3⟩ := tk_ok (q := fdv lo 5898240 + (nI k).toInt64) (u := recU (bgn lo) k) (v := recV (fdv lo 5898240) (fdv hi 5898240) (bgn hi) k) b1 (by omega) b3
      rw [if_neg h2, if_neg h4]
      refine ⟨?_, ?_⟩
      · rw [List.map_append, ih1, ← hU, ← hV, ← t1]
        rfl
      · intro p hp
        rcases List.mem_append.mp hp with z | z
        · rw [List.mem_singleton.mp z]
          exact ⟨t2, t3⟩
        · exact ih2 p z
