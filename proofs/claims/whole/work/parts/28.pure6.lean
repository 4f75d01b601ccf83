/-! the reference's arc: its end, its range -/
def aendU (s e : Int32) : Int64 := if s ≤ e then e.toInt64 else e.toInt64 + 23592960 * fdv (s.toInt64 - e.toInt64 + 23592960 - 1) 23592960
def aendD (s e : Int32) : Int64 := if e ≤ s then e.toInt64 else e.toInt64 - 23592960 * fdv (e.toInt64 - s.toInt64 + 23592960 - 1) 23592960
theorem t6432 (x : Int32) : x.toInt64.toInt = x.toInt := Int32.toInt_toInt64 x
theorem i32_lo (x : Int32) : -2147483648 ≤ x.toInt := Int32.le_toInt x
theorem i32_hi (x : Int32) : x.toInt < 2147483648 := Int32.toInt_lt x
theorem ceil_i (s e : Int32) : (fdv (s.toInt64 - e.toInt64 + 23592960 - 1) 23592960).toInt = (s.toInt - e.toInt + 23592959) / 23592960 := by
  have h1 := i32_lo s
  have h2 := i32_hi s
  have h3 := i32_lo e
  have h4 := i32_hi e
  have hT : (23592960 : Int64).toInt = 23592960 := rfl
  have h1' : (1 : Int64).toInt = 1 := rfl
  have ha : (s.toInt64 - e.toInt64 + 23592960 - 1).toInt = s.toInt - e.toInt + 23592959 := by
    rw [Int64.toInt_sub, Int64.toInt_add, Int64.toInt_sub, t6432, t6432, hT, h1', i64_bm (z := s.toInt - e.toInt) (by omega) (by omega), i64_bm (z := s.toInt - e.toInt + 23592960) (by omega) (by omega), i64_bm (by omega) (by omega)]
    omega
  rw [fdv_i (by decide), ha, hT]
theorem mulT {x : Int64} (h1 : -1000 ≤ x.toInt) (h2 : x.toInt ≤ 1000) : (23592960 * x).toInt = 23592960 * x.toInt := by
  have hT : (23592960 : Int64).toInt = 23592960 := rfl
  rw [Int64.toInt_mul, hT, i64_bm (by omega) (by omega)]
theorem aendU_ge (s e : Int32) : s.toInt64.toInt ≤ (aendU s e).toInt := by
  have h1 := i32_lo s
  have h2 := i32_hi s
  have h3 := i32_lo e
  have h4 := i32_hi e
  unfold aendU
  split
  · rename_i h
    rw [t6432, t6432]
    exact Int32.le_iff_toInt_le.mp h
  · rename_i h
    have h5 : ¬ s.toInt ≤ e.toInt := fun q => h (Int32.le_iff_toInt_le.mpr q)
    have hc := ceil_i s e
    rw [Int64.toInt_add, mulT (by omega) (by omega), hc, t6432, t6432, i64_bm (by omega) (by omega)]
    omega
theorem aendD_le (s e : Int32) : (aendD s e).toInt ≤ s.toInt64.toInt := by
  have h1 := i32_lo s
  have h2 := i32_hi s
  have h3 := i32_lo e
  have h4 := i32_hi e
  unfold aendD
  split
  · rename_i h
    rw [t6432, t6432]
    exact Int32.le_iff_toInt_le.mp h
  · rename_i h
    have h5 : ¬ e.toInt ≤ s.toInt := fun q => h (Int32.le_iff_toInt_le.mpr q)
    have hc := ceil_i e s
    rw [Int64.toInt_sub, mulT (by omega) (by omega), hc, t6432, t6432, i64_bm (by omega) (by omega)]
    omega
def arcFar (x y : Int32) (s z : Int64) : Prop := fr x.toInt64 = true ∨ fr y.toInt64 = true ∨ 235929600 < z - s ∨ 235929600 < s - z
theorem arcFar_no {x y : Int32} {s z : Int64} (h1 : fr x.toInt64 = false) (h2 : fr y.toInt64 = false) (h3 : ¬ 235929600 < z - s) (h4 : s - z ≤ 235929600) : ¬ arcFar x y s z := by
  rintro (h | h | h | h)
  · rw [h1] at h; cases h
  · rw [h2] at h; cases h
  · exact h3 h
  · exact Int64.not_lt.mpr h4 h
noncomputable def rArc (ps : List Pt) (ax : Ax4) (x y s e way : Int32) : Int32 × List Pt := by
  classical
  exact if way = 0 then (if arcFar x y s.toInt64 (aendU s e) then (-4, ps) else setl ps (arcD (ps, false, false) x.toInt64 y.toInt64 ax s.toInt64 (aendU s e) false))
    else if way = 1 then (if arcFar x y s.toInt64 (aendD s e) then (-4, ps) else setl ps (arcD (ps, false, false) x.toInt64 y.toInt64 ax (aendD s e) s.toInt64 true))
    else (-1, ps)
section RARC
variable {ps : List Pt} {ax : Ax4} {x y s e way : Int32}
theorem rArc_0f (h : arcFar x y s.toInt64 (aendU s e)) : rArc ps ax x y s e 0 = (-4, ps) := by unfold rArc; rw [if_pos rfl, if_pos h]
theorem rArc_0n (h : ¬ arcFar x y s.toInt64 (aendU s e)) : rArc ps ax x y s e 0 = setl ps (arcD (ps, false, false) x.toInt64 y.toInt64 ax s.toInt64 (aendU s e) false) := by unfold rArc; rw [if_pos rfl, if_neg h]
theorem rArc_1f (h : arcFar x y s.toInt64 (aendD s e)) : rArc ps ax x y s e 1 = (-4, ps) := by unfold rArc; rw [if_neg (by decide), if_pos rfl, if_pos h]
theorem rArc_1n (h : ¬ arcFar x y s.toInt64 (aendD s e)) : rArc ps ax x y s e 1 = setl ps (arcD (ps, false, false) x.toInt64 y.toInt64 ax (aendD s e) s.toInt64 true) := by unfold rArc; rw [if_neg (by decide), if_pos rfl, if_neg h]
theorem rArc_2 (h : ¬ way = 0 ∧ ¬ way = 1) : rArc ps ax x y s e way = (-1, ps) := by unfold rArc; rw [if_neg h.1, if_neg h.2]
theorem wy3 (way : Int32) : way = 0 ∨ way = 1 ∨ (¬ way = 0 ∧ ¬ way = 1) := by
  by_cases h : way = 0
  · exact Or.inl h
  · by_cases h1 : way = 1
    · exact Or.inr (Or.inl h1)
    · exact Or.inr (Or.inr ⟨h, h1⟩)
end RARC
