/-! halving: the class's stack of pieces is the reference's recursion -/
def nr9 (a : Int32) : Prop := -536870912 ≤ a.toInt ∧ a.toInt ≤ 536870912
theorem fr_nr {a : Int32} : fr a.toInt64 = false ↔ nr9 a := by
  unfold fr nr9
  have e1 : (-536870912 : Int64).toInt = -536870912 := rfl
  have e2 : (536870912 : Int64).toInt = 536870912 := rfl
  rw [Bool.or_eq_false_iff, decide_eq_false_iff_not, decide_eq_false_iff_not, lt64, lt64, e1, e2, t6432]
  omega
theorem shr1_L (x : Int64) : (x >>> ((1 : Int32).toInt64 &&& 63)).toInt = x.toInt / 2 := by
  rw [shr64 x _ 1 (by decide), Int.shiftRight_eq_div_pow]
  rfl
theorem shr1_I (x : Int32) : (x >>> ((1 : Int32) &&& 31)).toInt = x.toInt / 2 := by
  rw [pk_shr x _ 1 (by decide), Int.shiftRight_eq_div_pow]
  rfl
theorem hv_ok {a b : Int32} (ha : nr9 a) (hb : nr9 b) : (hvI a b).toInt64 = hvL a.toInt64 b.toInt64 ∧ nr9 (hvI a b) := by
  unfold nr9 at ha hb
  have h1 : (a + b).toInt = a.toInt + b.toInt := by rw [Int32.toInt_add, i32_bm (by omega) (by omega)]
  have h2 : (a.toInt64 + b.toInt64).toInt = a.toInt + b.toInt := by rw [Int64.toInt_add, t6432, t6432, i64_bm (by omega) (by omega)]
  have h3 : (hvI a b).toInt = (a.toInt + b.toInt) / 2 := by unfold hvI; rw [shr1_I, h1]
  have h4 : (hvL a.toInt64 b.toInt64).toInt = (a.toInt + b.toInt) / 2 := by unfold hvL; rw [shr1_L, h2]
  refine ⟨?_, ?_⟩
  · rw [eq_i, t6432, h3, h4]
  · unfold nr9
    rw [h3]
    omega
/-- the lines of the piece at place s of the stack, halved h times -/
def layZ (bd : Int32) (Z : Nat → Int32) (s h : Nat) : List Q7 := layQ bd (10 - h) (Z (8 * s)).toInt64 (Z (8 * s + 1)).toInt64 (Z (8 * s + 2)).toInt64 (Z (8 * s + 3)).toInt64 (Z (8 * s + 4)).toInt64 (Z (8 * s + 5)).toInt64 (Z (8 * s + 6)).toInt64 (Z (8 * s + 7)).toInt64
/-- the lines of the n lowest pieces, the uppermost first -/
def remZ (bd : Int32) (Z : Nat → Int32) (V : Nat → Nat) : Nat → List Q7
  | 0 => []
  | s + 1 => layZ bd Z s (V s) ++ remZ bd Z V s
theorem layZ_congr {bd : Int32} {Z Z' : Nat → Int32} {s h : Nat} (hz : ∀ j, j < 8 → Z' (8 * s + j) = Z (8 * s + j)) : layZ bd Z' s h = layZ bd Z s h := by
  unfold layZ
  have h0 := hz 0 (by decide)
  rw [Nat.add_zero] at h0
  rw [h0, hz 1 (by decide), hz 2 (by decide), hz 3 (by decide), hz 4 (by decide), hz 5 (by decide), hz 6 (by decide), hz 7 (by decide)]
theorem remZ_congr {bd : Int32} {Z Z' : Nat → Int32} {V V' : Nat → Nat} : ∀ {n : Nat}, (∀ k, k < 8 * n → Z' k = Z k) → (∀ s, s < n → V' s = V s) → remZ bd Z' V' n = remZ bd Z V n := by
  intro n
  induction n with
  | zero => intros; rfl
  | succ n ih =>
    intro h1 h2
    show layZ bd Z' n (V' n) ++ remZ bd Z' V' n = layZ bd Z n (V n) ++ remZ bd Z V n
    rw [h2 n (by omega), layZ_congr (fun j hj => h1 _ (by omega)), ih (fun k hk => h1 k (by omega)) (fun s hs => h2 s (by omega))]
theorem flat_ok {Z : Nat → Int32} {s : Nat} {bd : Int32} : flatZ Z s bd = flatQ (Z (8 * s)).toInt64 (Z (8 * s + 1)).toInt64 (Z (8 * s + 2)).toInt64 (Z (8 * s + 3)).toInt64 (Z (8 * s + 4)).toInt64 (Z (8 * s + 5)).toInt64 (Z (8 * s + 6)).toInt64 (Z (8 * s + 7)).toInt64 bd := by
  unfold flatZ flatQ strZ
  rw [show 8 * s + 2 + 2 = 8 * s + 4 by omega, show 8 * s + 2 + 4 = 8 * s + 6 by omega, show 8 * s + 1 + 2 = 8 * s + 3 by omega, show 8 * s + 1 + 4 = 8 * s + 5 by omega, show 8 * s + 1 + 2 + 2 = 8 * s + 5 by omega, show 8 * s + 1 + 2 + 4 = 8 * s + 7 by omega]
  generalize strt (Z (8 * s)).toInt64 (Z (8 * s + 2)).toInt64 (Z (8 * s + 4)).toInt64 bd = p
  generalize strt (Z (8 * s + 2)).toInt64 (Z (8 * s + 4)).toInt64 (Z (8 * s + 6)).toInt64 bd = q
  generalize strt (Z (8 * s + 1)).toInt64 (Z (8 * s + 3)).toInt64 (Z (8 * s + 5)).toInt64 bd = r
  generalize strt (Z (8 * s + 3)).toInt64 (Z (8 * s + 5)).toInt64 (Z (8 * s + 7)).toInt64 bd = t
  cases p <;> cases q <;> cases r <;> cases t <;> rfl
section HZ
variable {Z : Nat → Int32} {a : Nat}
theorem hz_0 : halfZ Z a a = hvI (hvI (hvI (Z a) (Z (a + 2))) (hvI (Z (a + 2)) (Z (a + 4)))) (hvI (hvI (Z (a + 2)) (Z (a + 4))) (hvI (Z (a + 4)) (Z (a + 6)))) := by
  unfold halfZ spZ
  rw [up_n (by omega), up_n (by omega), up_n (by omega), up_s]
theorem hz_2 : halfZ Z a (a + 2) = hvI (hvI (Z (a + 2)) (Z (a + 4))) (hvI (Z (a + 4)) (Z (a + 6))) := by
  unfold halfZ spZ
  rw [up_n (by omega), up_n (by omega), up_s]
theorem hz_4 : halfZ Z a (a + 4) = hvI (Z (a + 4)) (Z (a + 6)) := by
  unfold halfZ spZ
  rw [up_n (by omega), up_s]
theorem hz_6 : halfZ Z a (a + 6) = Z (a + 6) := by
  unfold halfZ spZ
  rw [up_s]
theorem hz_8 : halfZ Z a (a + 8) = Z a := by
  unfold halfZ spZ
  rw [up_n (by omega), up_n (by omega), up_n (by omega), up_n (by omega), up_n (by omega), up_n (by omega), up_n (by omega), up_s]
theorem hz_10 : halfZ Z a (a + 10) = hvI (Z a) (Z (a + 2)) := by
  unfold halfZ spZ
  rw [up_n (by omega), up_n (by omega), up_n (by omega), up_n (by omega), up_n (by omega), up_n (by omega), show a + 8 + 2 = a + 10 by omega, up_s]
theorem hz_12 : halfZ Z a (a + 12) = hvI (hvI (Z a) (Z (a + 2))) (hvI (Z (a + 2)) (Z (a + 4))) := by
  unfold halfZ spZ
  rw [up_n (by omega), up_n (by omega), up_n (by omega), up_n (by omega), up_n (by omega), show a + 8 + 4 = a + 12 by omega, up_s]
theorem hz_14 : halfZ Z a (a + 14) = hvI (hvI (hvI (Z a) (Z (a + 2))) (hvI (Z (a + 2)) (Z (a + 4)))) (hvI (hvI (Z (a + 2)) (Z (a + 4))) (hvI (Z (a + 4)) (Z (a + 6)))) := by
  unfold halfZ spZ
  rw [up_n (by omega), up_n (by omega), up_n (by omega), up_n (by omega), show a + 8 + 6 = a + 14 by omega, up_s]
theorem hz_o {k : Nat} (h : k < a ∨ a + 14 < k ∨ (k - a) % 2 = 1) : halfZ Z a k = Z k := by
  unfold halfZ spZ
  rw [up_n (by omega), up_n (by omega), up_n (by omega), up_n (by omega), up_n (by omega), up_n (by omega), up_n (by omega), up_n (by omega)]
end HZ
