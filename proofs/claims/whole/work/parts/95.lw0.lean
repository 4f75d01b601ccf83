/-! the law's own numbers -/
theorem and15 (x : Int32) : ∃ k : Nat, k < 16 ∧ x &&& 15 = nI k := by
  have h : (x &&& 15).toBitVec.toNat < 16 := by
    rw [Int32.toBitVec_and, BitVec.toNat_and]
    exact Nat.and_lt_two_pow (n := 4) _ (by decide)
  refine ⟨(x &&& 15).toBitVec.toNat, h, ?_⟩
  generalize x &&& 15 = v at *
  apply Int32.toBitVec_inj.mp
  apply BitVec.eq_of_toNat_eq
  show _ = (Int32.ofNat _).toBitVec.toNat
  rw [Int32.toBitVec_ofNat', BitVec.toNat_ofNat]
  omega
theorem sw16 {v : Int32} {x : Int32} (h : v = x &&& 15) : v = 0 ∨ v = 1 ∨ v = 2 ∨ v = 3 ∨ v = 4 ∨ v = 5 ∨ v = 6 ∨ v = 7 ∨ v = 8 ∨ v = 9 ∨ v = 10 ∨ v = 11 ∨ v = 12 ∨ v = 13 ∨ v = 14 ∨ v = 15 := by
  obtain ⟨k, hk, e⟩ := and15 x
  rw [h, e]
  have : k = 0 ∨ k = 1 ∨ k = 2 ∨ k = 3 ∨ k = 4 ∨ k = 5 ∨ k = 6 ∨ k = 7 ∨ k = 8 ∨ k = 9 ∨ k = 10 ∨ k = 11 ∨ k = 12 ∨ k = 13 ∨ k = 14 ∨ k = 15 := by omega
  rcases this with q | q | q | q | q | q | q | q | q | q | q | q | q | q | q | q <;> subst q <;> decide
theorem law_in {L i : Nat} (hL : L ≤ 3584) (hi : i ≤ L) (h : ¬ nI L - 7 < nI i) : i + 7 ≤ L := by
  rcases Nat.lt_or_ge L (i + 7) with z | z
  · exfalso
    apply h
    apply Int32.lt_iff_toInt_lt.mpr
    have e : (nI L - nI 7).toInt = (L : Int) - 7 := pk_sub_toInt (a := L) (b := 7) (by omega) (by omega)
    show (nI L - nI 7).toInt < (nI i).toInt
    rw [e, nI_toInt (by omega)]
    omega
  · exact z
