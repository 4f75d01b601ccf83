theorem ix_lt {x : Int32} {n : Nat} (h0 : ¬ x < 0) (h : ¬ nI n ≤ x) (hn : n < 2 ^ 31) : ∃ j : Nat, j < n ∧ x = nI j := by
  rcases pk_ix x hn with q | q | q
  · exact absurd q h0
  · exact absurd q h
  · exact q
theorem ix_le {x : Int32} {n : Nat} (h0 : ¬ x < 0) (h : ¬ nI n < x) (hn : n + 1 < 2 ^ 31) : ∃ j : Nat, j ≤ n ∧ x = nI j := by
  obtain ⟨j, hj, ej⟩ := nI_of h0
  refine ⟨j, ?_, ej⟩
  rw [ej] at h
  rcases Nat.lt_or_ge n j with q | q
  · exact absurd (nI_lt q hj) h
  · exact q
def pt0 : Pt := (0, 0, 0, 0, 0, 0, 0)
def cmp6 (q : Pt) (w : Nat) : Int32 := match w with | 0 => q.2.1 | 1 => q.2.2.1 | 2 => q.2.2.2.1 | 3 => q.2.2.2.2.1 | 4 => q.2.2.2.2.2.1 | _ => q.2.2.2.2.2.2
theorem cmp6_pt {K P : Nat → Int32} {j w : Nat} (h : w ≤ 5) : cmp6 (pt K P j) w = P (6 * j + w) := by
  match w, h with
  | 0, _ => rfl
  | 1, _ => rfl
  | 2, _ => rfl
  | 3, _ => rfl
  | 4, _ => rfl
  | 5, _ => rfl
theorem lst_getD {n : Nat} {K P : Nat → Int32} {j : Nat} (h : j < n) : (lst n K P).getD j pt0 = pt K P j := by
  rw [List.getD_eq_getElem?_getD, lst_get h]; rfl
def rPoint (ps : List Pt) (w : Int32) : Int32 := if ps.length = 0 then 0 else if w = 0 then lx ps else if w = 1 then ly ps else 0
def rKind (ps : List Pt) (i : Int32) : Int32 := if i < 0 ∨ nI ps.length ≤ i then -1 else (ps.getD i.toNatClampNeg pt0).1
def rPlace (ps : List Pt) (i w : Int32) : Int32 := if i < 0 ∨ nI ps.length ≤ i ∨ w < 0 ∨ 5 < w then 0 else if 1 < w ∧ ¬ (ps.getD i.toNatClampNeg pt0).1 = 2 then 0 else cmp6 (ps.getD i.toNatClampNeg pt0) w.toNatClampNeg
section RPL
variable {n : Nat} {K P : Nat → Int32} {j k : Nat}
theorem rKind_j (hj : j < n) (hn : n ≤ 3000) : rKind (lst n K P) (nI j) = K j := by
  unfold rKind
  rw [if_neg, nI_clamp (by omega), lst_getD hj]
  · rfl
  · rw [lst_len]
    rintro (h | h)
    · exact nI_pos (by omega) h
    · exact nI_ge hj (by omega) h
theorem rPlace_j (hj : j < n) (hn : n ≤ 3000) (hk : k ≤ 5) : rPlace (lst n K P) (nI j) (nI k) = if 1 < nI k ∧ ¬ K j = 2 then 0 else P (6 * j + k) := by
  unfold rPlace
  rw [if_neg, nI_clamp (by omega), lst_getD hj, nI_clamp (by omega), cmp6_pt hk]
  · rfl
  · rw [lst_len]
    rintro (h | h | h | h)
    · exact nI_pos (by omega) h
    · exact nI_ge hj (by omega) h
    · exact nI_pos (by omega) h
    · exact nI_nlt (a := 5) (b := k) hk (by decide) h
theorem rPlace_g (hj : j < n) (hn : n ≤ 3000) (hk : k ≤ 5) (h : nI k ≤ 1 ∨ K j = 2) : rPlace (lst n K P) (nI j) (nI k) = P (6 * j + k) := by
  rw [rPlace_j hj hn hk, if_neg]
  rintro ⟨h1, h2⟩
  rcases h with h | h
  · exact absurd h1 (Int32.not_lt.mpr h)
  · exact h2 h
theorem rPlace_z (hj : j < n) (hn : n ≤ 3000) (hk : k ≤ 5) (h1 : ¬ nI k ≤ 1) (h2 : ¬ K j = 2) : rPlace (lst n K P) (nI j) (nI k) = 0 := by
  rw [rPlace_j hj hn hk, if_pos ⟨Int32.not_le.mp h1, h2⟩]
end RPL
abbrev Ax4 : Type := Int64 × Int64 × Int64 × Int64
def ax4 (f : Nat → Int64) : Ax4 := (f 0, f 1, f 2, f 3)
def rAxes (ax : Ax4) (a b c d : Int32) : Bool × Ax4 := if fr a.toInt64 || fr b.toInt64 || fr c.toInt64 || fr d.toInt64 then (false, ax) else (true, (a.toInt64, b.toInt64, c.toInt64, d.toInt64))
theorem upL_s {f : Nat → Int64} {k : Nat} {x : Int64} : vp_updL f k x k = x := by simp [vp_updL]
theorem upL_n {f : Nat → Int64} {k j : Nat} {x : Int64} (h : j ≠ k) : vp_updL f k x j = f j := by simp [vp_updL, h]
