/-! the reference's arcs -/
section BA
variable {n : Nat} {K P : Nat → Int32} {fu fa : Bool} {px py : Int64}
theorem bArc_0 (h : n = 0) : bArc (lst n K P, fu, fa) px py = beginD (lst n K P, fu, fa) px py := by
  unfold bArc
  rw [if_pos (by rw [lst_len]; exact h)]
theorem bArc_n (h : 0 < n) : bArc (lst n K P, fu, fa) px py = addD (openD (lst n K P, fu, fa)) 1 px py 0 0 0 0 := by
  unfold bArc
  rw [if_neg (by rw [lst_len]; omega)]
end BA
/-- how many quarters are left from i on -/
def cnt (lq i : Int64) : Nat := (lq.toInt + 1 - i.toInt).toNat
/-- the beginning of an arc out of its first part -/
def bgA (d : DS) (x y : Int64) (ax : Ax4) (u : V8) (bk : Bool) : DS := match ax, u with
  | (p, q, r, s), (u0, u1, _, _, _, _, u6, u7) => if bk then bArc d (aro x u6 u7 p r) (aro y u6 u7 q s) else bArc d (aro x u0 u1 p r) (aro y u0 u1 q s)
def arcStep (x y : Int64) (ax : Ax4) (z0 z1 : Int64) (bk : Bool) (k : Int64) (st : Bool × DS) : Bool × DS :=
  if frm k z0 = tow k z1 then st
  else (true, cvD (if st.1 then st.2 else bgA st.2 x y ax (cut8 (qv8 (fmd k 4)) (frm k z0) (tow k z1)) bk) x y ax (cut8 (qv8 (fmd k 4)) (frm k z0) (tow k z1)) bk)
def arcLoop (x y : Int64) (ax : Ax4) (z0 z1 : Int64) (bk : Bool) (fq lq : Int64) : Nat → Int64 → Bool × DS → Bool × DS
  | 0, _, st => st
  | m + 1, i, st => arcLoop x y ax z0 z1 bk fq lq m (i + 1) (arcStep x y ax z0 z1 bk (if bk then fq + lq - i else i) st)
def ptA (d : DS) (x y : Int64) (ax : Ax4) (u : V8) : DS := match ax, u with
  | (p, q, r, s), (_, _, _, _, _, _, u6, u7) => bArc d (aro x u6 u7 p r) (aro y u6 u7 q s)
def arcEnd (x y : Int64) (ax : Ax4) (t : Int64) (r : Bool × DS) : DS := if r.1 then r.2 else ptA r.2 x y ax (befo (qv8 (fmd (fdv t 5898240) 4)) (plc t))
def arcD (d : DS) (x y : Int64) (ax : Ax4) (z0 z1 : Int64) (bk : Bool) : DS :=
  arcEnd x y ax (if bk then z1 else z0) (arcLoop x y ax z0 z1 bk (fdv z0 5898240) (fdv z1 5898240) (cnt (fdv z1 5898240) (fdv z0 5898240)) (fdv z0 5898240) (false, d))
theorem q64 : (5898240 : Int64).toInt = 5898240 := rfl
theorem fdq_i (t : Int64) : (fdv t 5898240).toInt = t.toInt / 5898240 := by rw [fdv_i (by decide), q64]
theorem plc_i (t : Int64) : (plc t).toInt = (t.toInt % 5898240 + 45) / 90 := by
  have h := fmd_i (x := t) (y := 5898240) (by decide)
  rw [q64] at h
  have h45 : (45 : Int64).toInt = 45 := rfl
  have h90 : (90 : Int64).toInt = 90 := rfl
  unfold plc
  rw [fdv_i (by decide), Int64.toInt_add, h, h45, h90, i64_bm (by omega) (by omega)]
theorem plc_r (t : Int64) : 0 ≤ (plc t).toInt ∧ (plc t).toInt ≤ 65536 := by rw [plc_i]; omega
theorem tow_r (k e : Int64) : 0 ≤ (tow k e).toInt ∧ (tow k e).toInt ≤ 65536 := by
  unfold tow
  split
  · exact plc_r e
  · show (0 : Int) ≤ 65536 ∧ (65536 : Int) ≤ 65536
    omega
theorem tow_pos {k z0 z1 : Int64} (h : z0.toInt ≤ z1.toInt) (hn : ¬ frm k z0 = tow k z1) : 0 < (tow k z1).toInt := by
  have hr := tow_r k z1
  rcases Int.lt_or_le 0 (tow k z1).toInt with q | q
  · exact q
  · exfalso
    have h0 : (tow k z1).toInt = 0 := by omega
    have hz : tow k z1 = 0 := eq_i.mpr h0
    apply hn
    rw [hz]
    unfold tow at h0
    split at h0
    · rename_i hk
      unfold frm
      split
      · rename_i hk2
        apply eq_i.mpr
        have e1 := fdq_i z0
        have e2 := fdq_i z1
        rw [← hk] at e2
        rw [← hk2] at e1
        rw [plc_i] at h0
        rw [plc_i]
        show _ = 0
        omega
      · rfl
    · exact absurd h0 (by decide)
theorem two_ne {t : Int64} (h : 0 < t.toInt) (h2 : t.toInt ≤ 65536) : ¬ 2 * t = 0 := by
  intro q
  have := eq_i.mp q
  rw [Int64.toInt_mul] at this
  have e2 : (2 : Int64).toInt = 2 := rfl
  have e0 : (0 : Int64).toInt = 0 := rfl
  rw [e2, e0, i64_bm (by omega) (by omega)] at this
  omega
theorem tow_ne {k z0 z1 : Int64} (h : z0.toInt ≤ z1.toInt) (hn : ¬ frm k z0 = tow k z1) : ¬ 2 * tow k z1 = 0 := two_ne (tow_pos h hn) (tow_r k z1).2
theorem lt64 {a b : Int64} : a < b ↔ a.toInt < b.toInt := Int64.lt_iff_toInt_lt
theorem le64 {a b : Int64} : a ≤ b ↔ a.toInt ≤ b.toInt := Int64.le_iff_toInt_le
theorem cnt_0 {lq i : Int64} (h : lq < i) : cnt lq i = 0 := by
  have := lt64.mp h
  unfold cnt
  omega
theorem inc64 {lq i : Int64} (h : ¬ lq < i) (hq : lq.toInt < 9223372036854775807) : (i + 1).toInt = i.toInt + 1 := by
  have h1 : ¬ lq.toInt < i.toInt := fun q => h (lt64.mpr q)
  have h2 := i64_lo i
  rw [Int64.toInt_add]
  show (i.toInt + 1).bmod (2 ^ 64) = _
  exact i64_bm (by omega) (by omega)
theorem cnt_s {lq i : Int64} (h : ¬ lq < i) (hq : lq.toInt < 9223372036854775807) : cnt lq i = cnt lq (i + 1) + 1 := by
  have h1 : ¬ lq.toInt < i.toInt := fun q => h (lt64.mpr q)
  unfold cnt
  rw [inc64 h hq]
  omega
theorem arcLoop_s {x y : Int64} {ax : Ax4} {z0 z1 : Int64} {bk : Bool} {fq lq i : Int64} {st : Bool × DS} (h : ¬ lq < i) (hq : lq.toInt < 9223372036854775807) : arcLoop x y ax z0 z1 bk fq lq (cnt lq i) i st = arcLoop x y ax z0 z1 bk fq lq (cnt lq (i + 1)) (i + 1) (arcStep x y ax z0 z1 bk (if bk then fq + lq - i else i) st) := by
  rw [cnt_s h hq]
  rfl
theorem arcStep_0 {x y : Int64} {ax : Ax4} {z0 z1 : Int64} {bk : Bool} {k : Int64} {st : Bool × DS} (h : frm k z0 = tow k z1) : arcStep x y ax z0 z1 bk k st = st := if_pos h
theorem arcStep_1 {x y : Int64} {ax : Ax4} {z0 z1 : Int64} {bk : Bool} {k : Int64} {d d2 : DS} {u : V8} (h : ¬ frm k z0 = tow k z1) (hu : u = cut8 (qv8 (fmd k 4)) (frm k z0) (tow k z1)) (h2 : d2 = cvD d x y ax u bk) : arcStep x y ax z0 z1 bk k (true, d) = (true, d2) := by
  subst hu
  subst h2
  exact if_neg h
theorem arcStep_2 {x y : Int64} {ax : Ax4} {z0 z1 : Int64} {bk : Bool} {k : Int64} {d d1 d2 : DS} {u : V8} (h : ¬ frm k z0 = tow k z1) (hu : u = cut8 (qv8 (fmd k 4)) (frm k z0) (tow k z1)) (h1 : d1 = bgA d x y ax u bk) (h2 : d2 = cvD d1 x y ax u bk) : arcStep x y ax z0 z1 bk k (false, d) = (true, d2) := by
  subst hu
  subst h1
  subst h2
  exact if_neg h
theorem fdq_hi (t : Int64) : (fdv t 5898240).toInt < 9223372036854775807 := by
  have := i64_hi t
  rw [fdq_i]
  omega
