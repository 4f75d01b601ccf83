/-! the class's own words: rows of ints -/
def nbl (a f : Int64) : Int64 := if a < f then f + fmd (a - f) 23592960 else a
def nab (a f : Int64) : Int64 := if f < a then f - fmd (f - a) 23592960 else a
def near (X : Nat → Int32) (c : Nat) (d : Int32) : Prop := ∀ k, k < c → fr ((X k).toInt64 + d.toInt64) = false
def i32min (a b : Int32) : Int32 := if b < a then b else a
def i32max (a b : Int32) : Int32 := if a < b then b else a
/-- the least (greatest) of the first c of a row; 0 when there is none -/
def rowMin (X : Nat → Int32) : Nat → Int32
  | 0 => 0
  | 1 => X 0
  | c + 2 => i32min (rowMin X (c + 1)) (X (c + 1))
def rowMax (X : Nat → Int32) : Nat → Int32
  | 0 => 0
  | 1 => X 0
  | c + 2 => i32max (rowMax X (c + 1)) (X (c + 1))
theorem rowMin_s {X : Nat → Int32} {i : Nat} (h : 1 ≤ i) : rowMin X (i + 1) = i32min (rowMin X i) (X i) := by
  obtain ⟨j, rfl⟩ : ∃ j, i = j + 1 := ⟨i - 1, by omega⟩
  rfl
theorem rowMax_s {X : Nat → Int32} {i : Nat} (h : 1 ≤ i) : rowMax X (i + 1) = i32max (rowMax X i) (X i) := by
  obtain ⟨j, rfl⟩ : ∃ j, i = j + 1 := ⟨i - 1, by omega⟩
  rfl
/-- a row turned round between f and t, as far as i and j have come -/
def trn (X : Nat → Int32) (f t i j k : Nat) : Int32 := if (f ≤ k ∧ k < i) ∨ (j < k ∧ k ≤ t) then X (f + t - k) else X k
theorem trn_in {X : Nat → Int32} {f t i j k : Nat} (h : (f ≤ k ∧ k < i) ∨ (j < k ∧ k ≤ t)) : trn X f t i j k = X (f + t - k) := if_pos h
theorem trn_out {X : Nat → Int32} {f t i j k : Nat} (h : ¬ ((f ≤ k ∧ k < i) ∨ (j < k ∧ k ≤ t))) : trn X f t i j k = X k := if_neg h
theorem trn_step {X X_ : Nat → Int32} {f t i j : Nat} (hX : ∀ k, X_ k = trn X f t i j k) (hij : i < j) (hs : i + j = f + t) (hf : f ≤ i) (ht : j ≤ t) : ∀ k, upd (upd X_ i (X_ j)) j (X_ i) k = trn X f t (i + 1) (j - 1) k := by
  intro k
  have hi : X_ i = X i := by rw [hX, trn_out (by omega)]
  have hj : X_ j = X j := by rw [hX, trn_out (by omega)]
  by_cases h1 : k = j
  · subst h1
    rw [up_s, hi, trn_in (by omega), show f + t - k = i by omega]
  · rw [up_n h1]
    by_cases h2 : k = i
    · subst h2
      rw [up_s, hj, trn_in (by omega), show f + t - k = j by omega]
    · rw [up_n h2, hX]
      by_cases h3 : (f ≤ k ∧ k < i) ∨ (j < k ∧ k ≤ t)
      · rw [trn_in h3, trn_in (by omega)]
      · rw [trn_out h3, trn_out (by omega)]
/-- a row turned round between f and t -/
def tr (X : Nat → Int32) (f t k : Nat) : Int32 := if f ≤ k ∧ k ≤ t then X (f + t - k) else X k
theorem trn_0 {X : Nat → Int32} {f t : Nat} : ∀ k, X k = trn X f t f t k := fun k => by rw [trn_out (by omega)]
theorem trn_end {X : Nat → Int32} {f t i j : Nat} (hi1 : i ≤ j + 1) (hij : j ≤ i) (hs : i + j = f + t) (hf : f ≤ i) (ht : j ≤ t) (k : Nat) : trn X f t i j k = tr X f t k := by
  unfold tr
  by_cases h : f ≤ k ∧ k ≤ t
  · rw [if_pos h]
    by_cases h3 : (f ≤ k ∧ k < i) ∨ (j < k ∧ k ≤ t)
    · exact trn_in h3
    · rw [trn_out h3, show f + t - k = k by omega]
  · rw [if_neg h, trn_out (by omega)]
def alg (a b : Int32) (p r : Int64) : Int64 := (a.toInt64 * p + b.toInt64 * r + 32768) >>> ((16 : Int32).toInt64 &&& 63)
theorem shr64 (a s : Int64) (k : Nat) (hs : (s.toBitVec.smod 64).toNat = k) : (a >>> s).toInt = a.toInt >>> k := by
  show (a.toBitVec.sshiftRight' (s.toBitVec.smod 64)).toInt = _
  rw [BitVec.sshiftRight', hs, BitVec.toInt_sshiftRight]
  rfl
theorem shr16 (x : Int64) : (x >>> ((16 : Int32).toInt64 &&& 63)).toInt = x.toInt / 65536 := by
  rw [shr64 x _ 16 (by decide), Int.shiftRight_eq_div_pow]
  rfl
theorem shr16_f (x : Int64) : x >>> ((16 : Int32).toInt64 &&& 63) = fdv x 65536 := by
  rw [eq_i, shr16, fdv_i (by decide)]
  rfl
theorem alg_aro (mid : Int64) (a b : Int32) (p r : Int64) : mid + alg a b p r = aro mid a.toInt64 b.toInt64 p r := by
  unfold alg aro
  rw [shr16_f]
