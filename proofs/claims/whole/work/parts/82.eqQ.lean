/-! the arc: both ways to its end, and what it keeps -/
theorem aendU_i (s e : Int32) : (aendU s e).toInt = if s.toInt ≤ e.toInt then e.toInt else e.toInt + 23592960 * ((s.toInt - e.toInt + 23592959) / 23592960) := by
  have h1 := i32_lo s
  have h2 := i32_hi s
  have h3 := i32_lo e
  have h4 := i32_hi e
  unfold aendU
  by_cases h : s ≤ e
  · rw [if_pos h, if_pos (Int32.le_iff_toInt_le.mp h), t6432]
  · have h5 : ¬ s.toInt ≤ e.toInt := fun q => h (Int32.le_iff_toInt_le.mpr q)
    have hc := ceil_i s e
    rw [if_neg h, if_neg h5, Int64.toInt_add, mulT (by omega) (by omega), hc, t6432, i64_bm (by omega) (by omega)]
theorem aendD_i (s e : Int32) : (aendD s e).toInt = if e.toInt ≤ s.toInt then e.toInt else e.toInt - 23592960 * ((e.toInt - s.toInt + 23592959) / 23592960) := by
  have h1 := i32_lo s
  have h2 := i32_hi s
  have h3 := i32_lo e
  have h4 := i32_hi e
  unfold aendD
  by_cases h : e ≤ s
  · rw [if_pos h, if_pos (Int32.le_iff_toInt_le.mp h), t6432]
  · have h5 : ¬ e.toInt ≤ s.toInt := fun q => h (Int32.le_iff_toInt_le.mpr q)
    have hc := ceil_i e s
    rw [if_neg h, if_neg h5, Int64.toInt_sub, mulT (by omega) (by omega), hc, t6432, i64_bm (by omega) (by omega)]
theorem nbl_ok (s e : Int32) : nbl e.toInt64 s.toInt64 = aendU s e := by
  have h1 := i32_lo s
  have h2 := i32_hi s
  have h3 := i32_lo e
  have h4 := i32_hi e
  apply Int64.toInt_inj.mp
  rw [aendU_i]
  unfold nbl
  have hT : (23592960 : Int64).toInt = 23592960 := rfl
  have hd : (e.toInt64 - s.toInt64).toInt = e.toInt - s.toInt := by rw [Int64.toInt_sub, t6432, t6432, i64_bm (by omega) (by omega)]
  have hm := fmd_i (x := e.toInt64 - s.toInt64) (y := 23592960) (by decide)
  rw [hd, hT] at hm
  by_cases h : s.toInt ≤ e.toInt
  · rw [if_pos h, if_neg (by rw [lt64, t6432, t6432]; omega), t6432]
  · rw [if_neg h, if_pos (by rw [lt64, t6432, t6432]; omega), Int64.toInt_add, hm, t6432, i64_bm (by omega) (by omega)]
    omega
theorem nab_ok (s e : Int32) : nab e.toInt64 s.toInt64 = aendD s e := by
  have h1 := i32_lo s
  have h2 := i32_hi s
  have h3 := i32_lo e
  have h4 := i32_hi e
  apply Int64.toInt_inj.mp
  rw [aendD_i]
  unfold nab
  have hT : (23592960 : Int64).toInt = 23592960 := rfl
  have hd : (s.toInt64 - e.toInt64).toInt = s.toInt - e.toInt := by rw [Int64.toInt_sub, t6432, t6432, i64_bm (by omega) (by omega)]
  have hm := fmd_i (x := s.toInt64 - e.toInt64) (y := 23592960) (by decide)
  rw [hd, hT] at hm
  by_cases h : e.toInt ≤ s.toInt
  · rw [if_pos h, if_neg (by rw [lt64, t6432, t6432]; omega), t6432]
  · rw [if_neg h, if_pos (by rw [lt64, t6432, t6432]; omega), Int64.toInt_sub, hm, t6432, i64_bm (by omega) (by omega)]
    omega
/-- what an arc may add -/
theorem arcU_hyp {x y s e : Int32} (h : ¬ arcFar x y s.toInt64 (aendU s e)) : ang s.toInt64 ∧ ang (aendU s e) ∧ s.toInt64.toInt ≤ (aendU s e).toInt ∧ (aendU s e).toInt - s.toInt64.toInt ≤ 235929600 := by
  have h1 := i32_lo s
  have h2 := i32_hi s
  have h3 := i32_lo e
  have h4 := i32_hi e
  have hi := aendU_i s e
  have hg := aendU_ge s e
  have hb : (aendU s e).toInt ≤ 4294967296 := by rw [hi]; split <;> omega
  rw [t6432] at hg
  have hs : ((aendU s e) - s.toInt64).toInt = (aendU s e).toInt - s.toInt := by rw [Int64.toInt_sub, t6432, i64_bm (by omega) (by omega)]
  have hT : (235929600 : Int64).toInt = 235929600 := rfl
  have hn : ¬ 235929600 < aendU s e - s.toInt64 := fun z => h (Or.inr (Or.inr (Or.inl z)))
  rw [lt64, hs, hT] at hn
  unfold ang
  rw [t6432]
  exact ⟨by omega, by omega, by omega, by omega⟩
theorem arcD_hyp {x y s e : Int32} (h : ¬ arcFar x y s.toInt64 (aendD s e)) : ang s.toInt64 ∧ ang (aendD s e) ∧ (aendD s e).toInt ≤ s.toInt64.toInt ∧ s.toInt64.toInt - (aendD s e).toInt ≤ 235929600 := by
  have h1 := i32_lo s
  have h2 := i32_hi s
  have h3 := i32_lo e
  have h4 := i32_hi e
  have hi := aendD_i s e
  have hg := aendD_le s e
  have hb : -4294967296 ≤ (aendD s e).toInt := by rw [hi]; split <;> omega
  rw [t6432] at hg
  have hs : (s.toInt64 - aendD s e).toInt = s.toInt - (aendD s e).toInt := by rw [Int64.toInt_sub, t6432, i64_bm (by omega) (by omega)]
  have hT : (235929600 : Int64).toInt = 235929600 := rfl
  have hn : ¬ 235929600 < s.toInt64 - aendD s e := fun z => h (Or.inr (Or.inr (Or.inr z)))
  rw [lt64, hs, hT] at hn
  unfold ang
  rw [t6432]
  exact ⟨by omega, by omega, by omega, by omega⟩
