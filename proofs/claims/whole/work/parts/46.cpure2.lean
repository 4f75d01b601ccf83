/-! the class's Arc: a list of points -/
abbrev P2 : Type := Int32 × Int32
def plst (n : Nat) (X Y : Nat → Int32) : List P2 := (List.range n).map fun k => (X k, Y k)
theorem plst_len (n : Nat) (X Y : Nat → Int32) : (plst n X Y).length = n := by simp [plst]
theorem plst_succ (n : Nat) (X Y : Nat → Int32) : plst (n + 1) X Y = plst n X Y ++ [(X n, Y n)] := by
  unfold plst
  rw [List.range_succ, List.map_append]
  rfl
theorem plst_congr {n : Nat} {X Y X' Y' : Nat → Int32} (hX : ∀ k, k < n → X' k = X k) (hY : ∀ k, k < n → Y' k = Y k) : plst n X' Y' = plst n X Y := by
  unfold plst
  apply List.map_congr_left
  intro i hi
  have hi : i < n := List.mem_range.mp hi
  rw [hX i hi, hY i hi]
theorem plst_snoc (n : Nat) (X Y : Nat → Int32) (a b : Int32) : plst (n + 1) (upd X n a) (upd Y n b) = plst n X Y ++ [(a, b)] := by
  rw [plst_succ, up_s, up_s]
  congr 1
  exact plst_congr (fun k h => up_n (by omega)) (fun k h => up_n (by omega))
def apP (l : List P2) (p : P2) : List P2 := if l.length < 124 then l ++ [p] else l
def apT (l : List P2) (a b : V4) : List P2 := match a, b with
  | (a0, a1, a2, a3), (b0, b1, b2, b3) => if l.length = 0 then apP (apP (apP (apP l (a0, b0)) (a1, b1)) (a2, b2)) (a3, b3) else apP (apP (apP l (a1, b1)) (a2, b2)) (a3, b3)
def kT (u v : Int32) : Int32 := ((131072 * u.toInt64 + v.toInt64) / (2 * v.toInt64)).toInt32
def tkA (q : Int64) (u v : Int32) : V4 := if u ≤ 0 ∨ v ≤ 0 then bef4 (qa4 (fmd q 4)) v else beh4 (bef4 (qa4 (fmd q 4)) v) (kT u v)
def tkB (q : Int64) (u v : Int32) : V4 := if u ≤ 0 ∨ v ≤ 0 then bef4 (qb4 (fmd q 4)) v else beh4 (bef4 (qb4 (fmd q 4)) v) (kT u v)
theorem two_ne32 {v : Int32} (h : ¬ v ≤ 0) : ¬ 2 * v.toInt64 = 0 := by
  have h1 : ¬ v.toInt ≤ 0 := fun q => h (Int32.le_iff_toInt_le.mpr q)
  have h2 := i32_hi v
  intro q
  have := eq_i.mp q
  have e2 : (2 : Int64).toInt = 2 := rfl
  have e0 : (0 : Int64).toInt = 0 := rfl
  rw [Int64.toInt_mul, e2, e0, t6432, i64_bm (by omega) (by omega)] at this
  omega
def recU (bg : Int32) (k : Nat) : Int32 := if k = 0 then bg else 0
def recV (fq lq : Int64) (en : Int32) (k : Nat) : Int32 := if fq + (nI k).toInt64 = lq then en else 65536
def recS (fq lq : Int64) (bg en : Int32) (k : Nat) (l : List P2) : List P2 := if recV fq lq en k ≤ recU bg k then l else apT l (tkA (fq + (nI k).toInt64) (recU bg k) (recV fq lq en k)) (tkB (fq + (nI k).toInt64) (recU bg k) (recV fq lq en k))
/-- m quarters at most from number k on -/
def recL (fq lq : Int64) (bg en : Int32) : Nat → Nat → List P2 → List P2
  | 0, _, l => l
  | m + 1, k, l => if lq < fq + (nI k).toInt64 then l else recL fq lq bg en m (k + 1) (recS fq lq bg en k l)
def recE (fq : Int64) (bg : Int32) (l : List P2) : List P2 := if l.length = 0 then apP l ((beh4 (qa4 (fmd fq 4)) bg).1, (beh4 (qb4 (fmd fq 4)) bg).1) else l
def reck (lo hi : Int64) : List P2 := recE (fdv lo 5898240) (plI (fdv lo 5898240) lo) (recL (fdv lo 5898240) (fdv hi 5898240) (plI (fdv lo 5898240) lo) (plI (fdv hi 5898240) hi) 41 0 [])
section REC
variable {fq lq : Int64} {bg en : Int32} {k : Nat} {l : List P2}
theorem recL_s (hk : k < 41) (h : ¬ lq < fq + (nI k).toInt64) : recL fq lq bg en (41 - k) k l = recL fq lq bg en (41 - (k + 1)) (k + 1) (recS fq lq bg en k l) := by
  obtain ⟨m, hm⟩ : ∃ m, 41 - k = m + 1 := ⟨41 - k - 1, by omega⟩
  rw [hm, show 41 - (k + 1) = m by omega]
  exact if_neg h
theorem recL_e (h : 41 ≤ k ∨ lq < fq + (nI k).toInt64) : recL fq lq bg en (41 - k) k l = l := by
  rcases h with h | h
  · rw [show 41 - k = 0 by omega]
    rfl
  · cases 41 - k with
    | zero => rfl
    | succ m => exact if_pos h
theorem recS_n {u v : Int32} (hu : recU bg k = u) (hv : recV fq lq en k = v) (h : v ≤ u) : recS fq lq bg en k l = l := by
  unfold recS
  rw [hu, hv, if_pos h]
theorem recS_y {u v : Int32} (hu : recU bg k = u) (hv : recV fq lq en k = v) (h : ¬ v ≤ u) : recS fq lq bg en k l = apT l (tkA (fq + (nI k).toInt64) u v) (tkB (fq + (nI k).toInt64) u v) := by
  unfold recS
  rw [hu, hv, if_neg h]
end REC
def brx (x y : Int32) (p_ q_ r_ s_ : Int64) (a : P2) : Int64 × Int64 := (x.toInt64 + alg a.1 a.2 p_ r_, y.toInt64 + alg a.1 a.2 q_ s_)
