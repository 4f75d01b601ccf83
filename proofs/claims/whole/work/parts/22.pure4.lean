/-! the reference's arithmetic of arcs -/
def fdv (x y : Int64) : Int64 := if 0 ≤ x ^^^ y then x / y else if x / y * y = x then x / y else x / y - 1
def fmd (x y : Int64) : Int64 := if 0 ≤ x ^^^ y then x - x / y * y else if x - x / y * y = 0 then x - x / y * y else x - x / y * y + y
def plc (t : Int64) : Int64 := fdv (fmd t 5898240 + 45) 90
def mixL (a b t : Int64) : Int64 := a + fdv ((b - a) * t + 32768) 65536
def mx2 (a b c t : Int64) : Int64 := mixL (mixL a b t) (mixL b c t) t
def mx3 (a b c d t : Int64) : Int64 := mixL (mx2 a b c t) (mx2 b c d t) t
abbrev V8 : Type := Int64 × Int64 × Int64 × Int64 × Int64 × Int64 × Int64 × Int64
def befo (u : V8) (t : Int64) : V8 := match u with
  | (u0, u1, u2, u3, u4, u5, u6, u7) => (u0, u1, mixL u0 u2 t, mixL u1 u3 t, mx2 u0 u2 u4 t, mx2 u1 u3 u5 t, mx3 u0 u2 u4 u6 t, mx3 u1 u3 u5 u7 t)
def behi (u : V8) (t : Int64) : V8 := match u with
  | (u0, u1, u2, u3, u4, u5, u6, u7) => (mx3 u0 u2 u4 u6 t, mx3 u1 u3 u5 u7 t, mx2 u2 u4 u6 t, mx2 u3 u5 u7 t, mixL u4 u6 t, mixL u5 u7 t, u6, u7)
def cut8 (u : V8) (a v : Int64) : V8 := if a = 0 then befo u v else behi (befo u v) (fdv (2 * a * 65536 + v) (2 * v))
def rot8 (u : V8) : V8 := match u with
  | (u0, u1, u2, u3, u4, u5, u6, u7) => (-u1, u0, -u3, u2, -u5, u4, -u7, u6)
def qua0 : V8 := (65536, 0, 65536, 36195, 36195, 65536, 0, 65536)
def qv8 (c : Int64) : V8 := if c = 0 then qua0 else if c = 1 then rot8 qua0 else if c = 2 then rot8 (rot8 qua0) else rot8 (rot8 (rot8 qua0))
def frm (k s : Int64) : Int64 := if k = fdv s 5898240 then plc s else 0
def tow (k e : Int64) : Int64 := if k = fdv e 5898240 then plc e else 65536
def aro (mid a b p r : Int64) : Int64 := mid + fdv (a * p + b * r + 32768) 65536
def bArc (d : DS) (px py : Int64) : DS := if d.1.length = 0 then beginD d px py else addD (openD d) 1 px py 0 0 0 0
def cvD (d : DS) (x y : Int64) (ax : Ax4) (u : V8) (back : Bool) : DS := match ax, u with
  | (p, q, r, s), (u0, u1, u2, u3, u4, u5, u6, u7) =>
    if back then addD d 2 (aro x u0 u1 p r) (aro y u0 u1 q s) (aro x u4 u5 p r) (aro y u4 u5 q s) (aro x u2 u3 p r) (aro y u2 u3 q s)
    else addD d 2 (aro x u6 u7 p r) (aro y u6 u7 q s) (aro x u2 u3 p r) (aro y u2 u3 q s) (aro x u4 u5 p r) (aro y u4 u5 q s)
/-! floor division and its remainder, for a divisor above 0 -/
theorem i64_lo (x : Int64) : -9223372036854775808 ≤ x.toInt := Int64.le_toInt x
theorem i64_hi (x : Int64) : x.toInt < 9223372036854775808 := Int64.toInt_lt x
theorem i64_bm {z : Int} (h1 : -9223372036854775808 ≤ z) (h2 : z < 9223372036854775808) : z.bmod (2 ^ 64) = z := by
  rw [Int.bmod_eq_of_le] <;> omega
theorem x64_pos (z : Int64) : (0 ≤ z) ↔ 0 ≤ z.toInt := by
  rw [Int64.le_iff_toInt_le]
  rfl
theorem x64_msb (z : Int64) : z.toBitVec.msb = decide (z.toInt < 0) := BitVec.msb_eq_toInt
theorem x64_sign {x y : Int64} (hy : 0 < y.toInt) : (0 ≤ x ^^^ y) ↔ 0 ≤ x.toInt := by
  rw [x64_pos]
  have h1 := x64_msb (x ^^^ y)
  have h2 : (x ^^^ y).toBitVec.msb = (x.toBitVec.msb ^^ y.toBitVec.msb) := by rw [Int64.toBitVec_xor, BitVec.msb_xor]
  rw [h2, x64_msb x, x64_msb y] at h1
  have h3 : decide (y.toInt < 0) = false := decide_eq_false (by omega)
  rw [h3, Bool.xor_false] at h1
  constructor
  · intro h
    rcases Int.lt_or_le x.toInt 0 with q | q
    · rw [decide_eq_true q] at h1
      have := of_decide_eq_true h1.symm
      omega
    · exact q
  · intro h
    rw [decide_eq_false (show ¬ x.toInt < 0 by omega)] at h1
    have := of_decide_eq_false h1.symm
    omega
theorem dv_i {x y : Int64} (hy : 0 < y.toInt) : (x / y).toInt = x.toInt.tdiv y.toInt := by
  rw [Int64.toInt_div]
  have h1 := i64_lo x
  have h2 := i64_hi x
  have h3 : (x.toInt.tdiv y.toInt).natAbs ≤ x.toInt.natAbs := by
    rw [Int.natAbs_tdiv]
    exact Nat.div_le_self _ _
  rcases Int.lt_or_le x.toInt 0 with q | q
  · have h4 : x.toInt.tdiv y.toInt ≤ 0 := by
      have := Int.tdiv_nonneg (a := -x.toInt) (b := y.toInt) (by omega) (by omega)
      rw [Int.neg_tdiv] at this
      omega
    apply i64_bm <;> omega
  · have h4 : 0 ≤ x.toInt.tdiv y.toInt := Int.tdiv_nonneg q (by omega)
    apply i64_bm <;> omega
theorem td_i {X Y : Int} (hY : 0 < Y) : X.tdiv Y = X / Y + (if 0 ≤ X ∨ Y ∣ X then 0 else 1) := by
  rw [Int.tdiv_eq_ediv, Int.sign_eq_one_of_pos hY]
theorem rm_b {x y : Int64} (hy : 0 < y.toInt) : (x / y * y).toInt = x.toInt.tdiv y.toInt * y.toInt := by
  rw [Int64.toInt_mul, dv_i hy]
  have h1 := i64_lo x
  have h2 := i64_hi x
  have h3 := Int.mul_tdiv_add_tmod x.toInt y.toInt
  have h4 : (x.toInt.tmod y.toInt).natAbs ≤ x.toInt.natAbs := by
    rw [Int.natAbs_tmod]
    exact Nat.mod_le _ _
  rw [Int.mul_comm] at h3
  rcases Int.lt_or_le x.toInt 0 with q | q
  · have h5 : x.toInt.tmod y.toInt ≤ 0 := by
      have := Int.tmod_nonneg (a := -x.toInt) y.toInt (by omega)
      rw [Int.neg_tmod] at this
      omega
    apply i64_bm <;> omega
  · have h5 := Int.tmod_nonneg (a := x.toInt) y.toInt q
    apply i64_bm <;> omega
theorem eq_i {x y : Int64} : x = y ↔ x.toInt = y.toInt := ⟨fun h => by rw [h], fun h => Int64.toInt_inj.mp h⟩
theorem fdv_i {x y : Int64} (hy : 0 < y.toInt) : (fdv x y).toInt = x.toInt / y.toInt := by
  have ht := td_i (X := x.toInt) hy
  have h1 := i64_lo x
  have h2 := i64_hi x
  unfold fdv
  split
  · rename_i h
    rw [dv_i hy, ht, if_pos (Or.inl ((x64_sign hy).mp h))]
    omega
  · rename_i h
    have hx : ¬ 0 ≤ x.toInt := fun q => h ((x64_sign hy).mpr q)
    split
    · rename_i h5
      have h6 := eq_i.mp h5
      rw [rm_b hy] at h6
      have h7 : y.toInt ∣ x.toInt := ⟨x.toInt.tdiv y.toInt, by rw [Int.mul_comm]; exact h6.symm⟩
      rw [dv_i hy, ht, if_pos (Or.inr h7)]
      omega
    · rename_i h5
      have h7 : ¬ y.toInt ∣ x.toInt := fun q => h5 (eq_i.mpr (by rw [rm_b hy]; exact Int.tdiv_mul_cancel q))
      have h8 : (x / y).toInt = x.toInt / y.toInt + 1 := by
        rw [dv_i hy, ht, if_neg (by rintro (q | q); exact hx q; exact h7 q)]
      have h9 : x.toInt / y.toInt < 0 := Int.ediv_neg_of_neg_of_pos (by omega) hy
      have h10 := i64_lo (x / y)
      have h11 : -9223372036854775808 ≤ x.toInt / y.toInt := Int.le_trans h1 (by
        have := Int.le_ediv_of_mul_le (a := x.toInt) (b := x.toInt) hy (by
          have : x.toInt * y.toInt ≤ x.toInt * 1 := Int.mul_le_mul_of_nonpos_left (by omega) (by omega)
          omega)
        exact this)
      rw [Int64.toInt_sub, h8]
      show (x.toInt / y.toInt + 1 - 1).bmod (2 ^ 64) = _
      rw [Int.add_sub_cancel]
      exact i64_bm h11 (by omega)
theorem fmd_i {x y : Int64} (hy : 0 < y.toInt) : (fmd x y).toInt = x.toInt % y.toInt := by
  have ht := td_i (X := x.toInt) hy
  have h1 := i64_lo x
  have h2 := i64_hi x
  have h3 := i64_hi y
  have hm0 := Int.emod_nonneg x.toInt (show y.toInt ≠ 0 by omega)
  have hm1 := Int.emod_lt_of_pos x.toInt hy
  have hme := Int.emod_add_mul_ediv x.toInt y.toInt
  have hr : (x - x / y * y).toInt = x.toInt - x.toInt.tdiv y.toInt * y.toInt := by
    rw [Int64.toInt_sub, rm_b hy]
    have h5 := Int.mul_tdiv_add_tmod x.toInt y.toInt
    rw [Int.mul_comm] at h5
    have h6 : (x.toInt.tmod y.toInt).natAbs ≤ x.toInt.natAbs := by
      rw [Int.natAbs_tmod]
      exact Nat.mod_le _ _
    have h7 : (x.toInt.tmod y.toInt).natAbs < y.toInt.natAbs := by
      rw [Int.natAbs_tmod]
      exact Nat.mod_lt _ (by omega)
    apply i64_bm <;> omega
  have hc : y.toInt * (x.toInt / y.toInt) = x.toInt / y.toInt * y.toInt := Int.mul_comm _ _
  unfold fmd
  split
  · rename_i h
    rw [hr, ht, if_pos (Or.inl ((x64_sign hy).mp h)), Int.add_zero]
    omega
  · rename_i h
    have hx : ¬ 0 ≤ x.toInt := fun q => h ((x64_sign hy).mpr q)
    split
    · rename_i h5
      have h6 := eq_i.mp h5
      rw [hr] at h6
      have h7 : y.toInt ∣ x.toInt := ⟨x.toInt.tdiv y.toInt, by rw [Int.mul_comm]; have : (0 : Int64).toInt = 0 := rfl; omega⟩
      rw [h5, Int.emod_eq_zero_of_dvd h7]
      rfl
    · rename_i h5
      have h7 : ¬ y.toInt ∣ x.toInt := fun q => h5 (eq_i.mpr (by
        rw [hr, Int.tdiv_mul_cancel q]
        show _ = 0
        omega))
      rw [Int64.toInt_add, hr, ht, if_neg (by rintro (q | q); exact hx q; exact h7 q), Int.add_mul]
      have h8 : x.toInt - (x.toInt / y.toInt * y.toInt + 1 * y.toInt) + y.toInt = x.toInt % y.toInt := by omega
      rw [h8]
      exact i64_bm (by omega) (by omega)
theorem fmd4 (k : Int64) : fmd k 4 = 0 ∨ fmd k 4 = 1 ∨ fmd k 4 = 2 ∨ fmd k 4 = 3 := by
  have h := fmd_i (x := k) (y := 4) (by decide)
  have h4 : (4 : Int64).toInt = 4 := rfl
  rw [h4] at h
  have h0 : (0 : Int64).toInt = 0 := rfl
  have h1 : (1 : Int64).toInt = 1 := rfl
  have h2 : (2 : Int64).toInt = 2 := rfl
  have h3 : (3 : Int64).toInt = 3 := rfl
  rw [eq_i, eq_i, eq_i, eq_i, h0, h1, h2, h3]
  omega
