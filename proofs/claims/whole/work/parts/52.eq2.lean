/-! the class's mixing is the reference's -/
def rng (a : Int32) : Prop := -65536 ≤ a.toInt ∧ a.toInt ≤ 65536
def tin (t : Int32) : Prop := 0 ≤ t.toInt ∧ t.toInt ≤ 65536
theorem i32_bm {z : Int} (h1 : -2147483648 ≤ z) (h2 : z < 2147483648) : z.bmod (2 ^ 32) = z := by
  rw [Int.bmod_eq_of_le] <;> omega
/-- the middle term of a mix -/
theorem mx_b {A B T : Int} (hA : -65536 ≤ A ∧ A ≤ 65536) (hB : -65536 ≤ B ∧ B ≤ 65536) (hT : 0 ≤ T ∧ T ≤ 65536) : -8589934592 ≤ (B - A) * T ∧ (B - A) * T ≤ 8589934592 ∧ -65536 ≤ A + ((B - A) * T + 32768) / 65536 ∧ A + ((B - A) * T + 32768) / 65536 ≤ 65536 := by
  rcases Int.le_total A B with h | h
  · have h1 : 0 ≤ (B - A) * T := Int.mul_nonneg (by omega) hT.1
    have h2 : (B - A) * T ≤ (B - A) * 65536 := Int.mul_le_mul_of_nonneg_left hT.2 (by omega)
    omega
  · have h1 : (B - A) * T ≤ 0 := Int.mul_nonpos_of_nonpos_of_nonneg (by omega) hT.1
    have h2 : (B - A) * 65536 ≤ (B - A) * T := Int.mul_le_mul_of_nonpos_left (by omega) hT.2
    omega
theorem mixL_i {x y t : Int64} (hA : -65536 ≤ x.toInt ∧ x.toInt ≤ 65536) (hB : -65536 ≤ y.toInt ∧ y.toInt ≤ 65536) (hT : 0 ≤ t.toInt ∧ t.toInt ≤ 65536) : (mixL x y t).toInt = x.toInt + ((y.toInt - x.toInt) * t.toInt + 32768) / 65536 := by
  obtain ⟨h1, h2, h3, h4⟩ := mx_b hA hB hT
  have e1 : (32768 : Int64).toInt = 32768 := rfl
  have e2 : (65536 : Int64).toInt = 65536 := rfl
  have hs : (y - x).toInt = y.toInt - x.toInt := by rw [Int64.toInt_sub, i64_bm (by omega) (by omega)]
  have hm : ((y - x) * t).toInt = (y.toInt - x.toInt) * t.toInt := by rw [Int64.toInt_mul, hs, i64_bm (by omega) (by omega)]
  have ha : ((y - x) * t + 32768).toInt = (y.toInt - x.toInt) * t.toInt + 32768 := by rw [Int64.toInt_add, hm, e1, i64_bm (by omega) (by omega)]
  unfold mixL
  rw [Int64.toInt_add, fdv_i (by decide), ha, e2, i64_bm (by omega) (by omega)]
theorem mixI_i {a b t : Int32} (hA : rng a) (hB : rng b) (hT : tin t) : (mixI a b t).toInt = a.toInt + ((b.toInt - a.toInt) * t.toInt + 32768) / 65536 := by
  obtain ⟨h1, h2, h3, h4⟩ := mx_b hA hB hT
  have hA' := hA
  have hB' := hB
  unfold rng at hA' hB'
  have e1 : (32768 : Int64).toInt = 32768 := rfl
  have hs : (b - a).toInt = b.toInt - a.toInt := by rw [Int32.toInt_sub, i32_bm (by omega) (by omega)]
  have hm : ((b - a).toInt64 * t.toInt64).toInt = (b.toInt - a.toInt) * t.toInt := by rw [Int64.toInt_mul, t6432, t6432, hs, i64_bm (by omega) (by omega)]
  have ha : ((b - a).toInt64 * t.toInt64 + 32768).toInt = (b.toInt - a.toInt) * t.toInt + 32768 := by rw [Int64.toInt_add, hm, e1, i64_bm (by omega) (by omega)]
  unfold mixI
  rw [Int32.toInt_add, Int64.toInt_toInt32, shr16, ha, i32_bm (z := ((b.toInt - a.toInt) * t.toInt + 32768) / 65536) (by omega) (by omega), i32_bm (by omega) (by omega)]
theorem mix_ok {a b t : Int32} (hA : rng a) (hB : rng b) (hT : tin t) : (mixI a b t).toInt64 = mixL a.toInt64 b.toInt64 t.toInt64 ∧ rng (mixI a b t) := by
  obtain ⟨h1, h2, h3, h4⟩ := mx_b hA hB hT
  refine ⟨?_, ?_⟩
  · rw [eq_i, t6432, mixI_i hA hB hT, mixL_i (by rw [t6432]; exact hA) (by rw [t6432]; exact hB) (by rw [t6432]; exact hT), t6432, t6432, t6432]
  · unfold rng
    rw [mixI_i hA hB hT]
    exact ⟨h3, h4⟩
theorem my2_ok {a b c t : Int32} (hA : rng a) (hB : rng b) (hC : rng c) (hT : tin t) : (my2 a b c t).toInt64 = mx2 a.toInt64 b.toInt64 c.toInt64 t.toInt64 ∧ rng (my2 a b c t) := by
  have h1 := mix_ok hA hB hT
  have h2 := mix_ok hB hC hT
  have h3 := mix_ok h1.2 h2.2 hT
  unfold my2 mx2
  rw [← h1.1, ← h2.1]
  exact h3
theorem my3_ok {a b c d t : Int32} (hA : rng a) (hB : rng b) (hC : rng c) (hD : rng d) (hT : tin t) : (my3 a b c d t).toInt64 = mx3 a.toInt64 b.toInt64 c.toInt64 d.toInt64 t.toInt64 ∧ rng (my3 a b c d t) := by
  have h1 := my2_ok hA hB hC hT
  have h2 := my2_ok hB hC hD hT
  have h3 := mix_ok h1.2 h2.2 hT
  unfold my3 mx3
  rw [← h1.1, ← h2.1]
  exact h3
def z8 (a b : V4) : V8 := match a, b with
  | (a0, a1, a2, a3), (b0, b1, b2, b3) => (a0.toInt64, b0.toInt64, a1.toInt64, b1.toInt64, a2.toInt64, b2.toInt64, a3.toInt64, b3.toInt64)
def rng4 (u : V4) : Prop := match u with | (a, b, c, d) => rng a ∧ rng b ∧ rng c ∧ rng d
theorem bef_ok {a b : V4} {t : Int32} (ha : rng4 a) (hb : rng4 b) (hT : tin t) : z8 (bef4 a t) (bef4 b t) = befo (z8 a b) t.toInt64 ∧ rng4 (bef4 a t) ∧ rng4 (bef4 b t) := by
  obtain ⟨a0, a1, a2, a3⟩ := a
  obtain ⟨b0, b1, b2, b3⟩ := b
  obtain ⟨h0, h1, h2, h3⟩ := ha
  obtain ⟨g0, g1, g2, g3⟩ := hb
  have x1 := mix_ok h0 h1 hT
  have x2 := my2_ok h0 h1 h2 hT
  have x3 := my3_ok h0 h1 h2 h3 hT
  have y1 := mix_ok g0 g1 hT
  have y2 := my2_ok g0 g1 g2 hT
  have y3 := my3_ok g0 g1 g2 g3 hT
  refine ⟨?_, ⟨h0, x1.2, x2.2, x3.2⟩, ⟨g0, y1.2, y2.2, y3.2⟩⟩
  show (a0.toInt64, b0.toInt64, (mixI a0 a1 t).toInt64, (mixI b0 b1 t).toInt64, (my2 a0 a1 a2 t).toInt64, (my2 b0 b1 b2 t).toInt64, (my3 a0 a1 a2 a3 t).toInt64, (my3 b0 b1 b2 b3 t).toInt64) = _
  rw [x1.1, x2.1, x3.1, y1.1, y2.1, y3.1]
  rfl
theorem beh_ok {a b : V4} {t : Int32} (ha : rng4 a) (hb : rng4 b) (hT : tin t) : z8 (beh4 a t) (beh4 b t) = behi (z8 a b) t.toInt64 ∧ rng4 (beh4 a t) ∧ rng4 (beh4 b t) := by
  obtain ⟨a0, a1, a2, a3⟩ := a
  obtain ⟨b0, b1, b2, b3⟩ := b
  obtain ⟨h0, h1, h2, h3⟩ := ha
  obtain ⟨g0, g1, g2, g3⟩ := hb
  have x1 := mix_ok h2 h3 hT
  have x2 := my2_ok h1 h2 h3 hT
  have x3 := my3_ok h0 h1 h2 h3 hT
  have y1 := mix_ok g2 g3 hT
  have y2 := my2_ok g1 g2 g3 hT
  have y3 := my3_ok g0 g1 g2 g3 hT
  refine ⟨?_, ⟨x3.2, x2.2, x1.2, h3⟩, ⟨y3.2, y2.2, y1.2, g3⟩⟩
  show ((my3 a0 a1 a2 a3 t).toInt64, (my3 b0 b1 b2 b3 t).toInt64, (my2 a1 a2 a3 t).toInt64, (my2 b1 b2 b3 t).toInt64, (mixI a2 a3 t).toInt64, (mixI b2 b3 t).toInt64, a3.toInt64, b3.toInt64) = _
  rw [x1.1, x2.1, x3.1, y1.1, y2.1, y3.1]
  rfl
theorem qv_ok (q : Int64) : z8 (qa4 (fmd q 4)) (qb4 (fmd q 4)) = qv8 (fmd q 4) ∧ rng4 (qa4 (fmd q 4)) ∧ rng4 (qb4 (fmd q 4)) := by
  rcases fmd4 q with h | h | h | h <;> rw [h]
  · exact ⟨rfl, by refine ⟨?_, ?_, ?_, ?_⟩ <;> (unfold rng; decide), by refine ⟨?_, ?_, ?_, ?_⟩ <;> (unfold rng; decide)⟩
  · exact ⟨rfl, by refine ⟨?_, ?_, ?_, ?_⟩ <;> (unfold rng; decide), by refine ⟨?_, ?_, ?_, ?_⟩ <;> (unfold rng; decide)⟩
  · exact ⟨rfl, by refine ⟨?_, ?_, ?_, ?_⟩ <;> (unfold rng; decide), by refine ⟨?_, ?_, ?_, ?_⟩ <;> (unfold rng; decide)⟩
  · exact ⟨rfl, by refine ⟨?_, ?_, ?_, ?_⟩ <;> (unfold rng; decide), by refine ⟨?_, ?_, ?_, ?_⟩ <;> (unfold rng; decide)⟩
theorem tin64 {t : Int32} (h : tin t) : t.toInt64.toInt = t.toInt := t6432 t
theorem kT_i {u v : Int32} (hu : 0 ≤ u.toInt) (huv : u.toInt < v.toInt) (hv : v.toInt ≤ 65536) : (kT u v).toInt = (131072 * u.toInt + v.toInt) / (2 * v.toInt) := by
  have e1 : (131072 : Int64).toInt = 131072 := rfl
  have e2 : (2 : Int64).toInt = 2 := rfl
  have h1 : (131072 * u.toInt64).toInt = 131072 * u.toInt := by rw [Int64.toInt_mul, e1, t6432, i64_bm (by omega) (by omega)]
  have h2 : (131072 * u.toInt64 + v.toInt64).toInt = 131072 * u.toInt + v.toInt := by rw [Int64.toInt_add, h1, t6432, i64_bm (by omega) (by omega)]
  have h3 : (2 * v.toInt64).toInt = 2 * v.toInt := by rw [Int64.toInt_mul, e2, t6432, i64_bm (by omega) (by omega)]
  have h4 : 0 ≤ (131072 * u.toInt + v.toInt) / (2 * v.toInt) := Int.ediv_nonneg (by omega) (by omega)
  have h5 : (131072 * u.toInt + v.toInt) / (2 * v.toInt) ≤ 65536 := by
    apply Int.le_of_lt_add_one
    apply Int.ediv_lt_of_lt_mul (by omega)
    omega
  unfold kT
  rw [Int64.toInt_toInt32, dv_i (by rw [h3]; omega), h2, h3, Int.tdiv_eq_ediv_of_nonneg (by omega), i32_bm (by omega) (by omega)]
theorem kT_t {u v : Int32} (hu : 0 ≤ u.toInt) (huv : u.toInt < v.toInt) (hv : v.toInt ≤ 65536) : tin (kT u v) := by
  unfold tin
  rw [kT_i hu huv hv]
  refine ⟨Int.ediv_nonneg (by omega) (by omega), ?_⟩
  apply Int.le_of_lt_add_one
  apply Int.ediv_lt_of_lt_mul (by omega)
  omega
theorem kT_f {u v : Int32} (hu : 0 ≤ u.toInt) (huv : u.toInt < v.toInt) (hv : v.toInt ≤ 65536) : (kT u v).toInt64 = fdv (2 * u.toInt64 * 65536 + v.toInt64) (2 * v.toInt64) := by
  have e2 : (2 : Int64).toInt = 2 := rfl
  have e3 : (65536 : Int64).toInt = 65536 := rfl
  have h0 : (2 * u.toInt64).toInt = 2 * u.toInt := by rw [Int64.toInt_mul, e2, t6432, i64_bm (by omega) (by omega)]
  have h1 : (2 * u.toInt64 * 65536).toInt = 2 * u.toInt * 65536 := by rw [Int64.toInt_mul, h0, e3, i64_bm (by omega) (by omega)]
  have h2 : (2 * u.toInt64 * 65536 + v.toInt64).toInt = 131072 * u.toInt + v.toInt := by rw [Int64.toInt_add, h1, t6432, i64_bm (by omega) (by omega)]; omega
  have h3 : (2 * v.toInt64).toInt = 2 * v.toInt := by rw [Int64.toInt_mul, e2, t6432, i64_bm (by omega) (by omega)]
  rw [eq_i, t6432, kT_i hu huv hv, fdv_i (by rw [h3]; omega), h2, h3]
/-- A PART: the class's is the reference's -/
theorem tk_ok {q : Int64} {u v : Int32} (hu : 0 ≤ u.toInt) (huv : u.toInt < v.toInt) (hv : v.toInt ≤ 65536) : z8 (tkA q u v) (tkB q u v) = cut8 (qv8 (fmd q 4)) u.toInt64 v.toInt64 ∧ rng4 (tkA q u v) ∧ rng4 (tkB q u v) := by
  obtain ⟨hq, hqa, hqb⟩ := qv_ok q
  have htv : tin v := ⟨by omega, hv⟩
  obtain ⟨h1, h2, h3⟩ := bef_ok hqa hqb htv
  have hv0 : ¬ v ≤ 0 := fun z => by
    have := Int32.le_iff_toInt_le.mp z
    have e0 : (0 : Int32).toInt = 0 := rfl
    omega
  by_cases h0 : u ≤ 0
  · have hu0 : u.toInt = 0 := by
      have := Int32.le_iff_toInt_le.mp h0
      have e0 : (0 : Int32).toInt = 0 := rfl
      omega
    have huz : u.toInt64 = 0 := by rw [eq_i, t6432, hu0]; rfl
    unfold tkA tkB cut8
    rw [if_pos (Or.inl h0), if_pos (Or.inl h0), if_pos huz, h1, hq]
    exact ⟨rfl, h2, h3⟩
  · have hu0 : ¬ u.toInt64 = 0 := fun z => by
      apply h0
      apply Int32.le_iff_toInt_le.mpr
      have := eq_i.mp z
      rw [t6432] at this
      rw [this]
      decide
    obtain ⟨g1, g2, g3⟩ := beh_ok h2 h3 (kT_t hu huv hv)
    unfold tkA tkB cut8
    rw [if_neg (by rintro (z | z); exact h0 z; exact hv0 z), if_neg (by rintro (z | z); exact h0 z; exact hv0 z), if_neg hu0, g1, h1, hq, kT_f hu huv hv]
    exact ⟨rfl, g2, g3⟩
