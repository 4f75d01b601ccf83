/-! one halving of the uppermost piece -/
theorem hvhv {a b c : Int32} (ha : nr9 a) (hb : nr9 b) (hc : nr9 c) : (hvI (hvI a b) (hvI b c)).toInt64 = hvL (hvL a.toInt64 b.toInt64) (hvL b.toInt64 c.toInt64) ∧ nr9 (hvI (hvI a b) (hvI b c)) := by
  have h1 := hv_ok ha hb
  have h2 := hv_ok hb hc
  have h3 := hv_ok h1.2 h2.2
  rw [← h1.1, ← h2.1]
  exact h3
theorem hv3 {a b c d : Int32} (ha : nr9 a) (hb : nr9 b) (hc : nr9 c) (hd : nr9 d) : (hvI (hvI (hvI a b) (hvI b c)) (hvI (hvI b c) (hvI c d))).toInt64 = hvL (hvL (hvL a.toInt64 b.toInt64) (hvL b.toInt64 c.toInt64)) (hvL (hvL b.toInt64 c.toInt64) (hvL c.toInt64 d.toInt64)) ∧ nr9 (hvI (hvI (hvI a b) (hvI b c)) (hvI (hvI b c) (hvI c d))) := by
  have h1 := hvhv ha hb hc
  have h2 := hvhv hb hc hd
  have h3 := hv_ok h1.2 h2.2
  rw [← h1.1, ← h2.1]
  exact h3
/-- the piece at place s is near -/
def nrZ (Z : Nat → Int32) (s : Nat) : Prop := ∀ j, j < 8 → nr9 (Z (8 * s + j))
section HS
variable {Z : Nat → Int32} {a : Nat}
/-- both axes halved: what stands where -/
theorem hh_e {k : Nat} (h : k % 2 = 0) : halfZ (halfZ Z a) (a + 1) (a + k) = halfZ Z a (a + k) := hz_o (by omega)
theorem hh_o {j : Nat} (h : j % 2 = 1) : halfZ Z a (a + j) = Z (a + j) := hz_o (by omega)
theorem hh_out {k : Nat} (h : k < a ∨ a + 15 < k) : halfZ (halfZ Z a) (a + 1) k = Z k := by rw [hz_o (by omega), hz_o (by omega)]
theorem hh_0 : halfZ (halfZ Z a) (a + 1) (a + 0) = hvI (hvI (hvI (Z a) (Z (a + 2))) (hvI (Z (a + 2)) (Z (a + 4)))) (hvI (hvI (Z (a + 2)) (Z (a + 4))) (hvI (Z (a + 4)) (Z (a + 6)))) := by rw [hh_e rfl]; exact hz_0
theorem hh_2 : halfZ (halfZ Z a) (a + 1) (a + 2) = hvI (hvI (Z (a + 2)) (Z (a + 4))) (hvI (Z (a + 4)) (Z (a + 6))) := by rw [hh_e rfl, hz_2]
theorem hh_4 : halfZ (halfZ Z a) (a + 1) (a + 4) = hvI (Z (a + 4)) (Z (a + 6)) := by rw [hh_e rfl, hz_4]
theorem hh_6 : halfZ (halfZ Z a) (a + 1) (a + 6) = Z (a + 6) := by rw [hh_e rfl, hz_6]
theorem hh_8 : halfZ (halfZ Z a) (a + 1) (a + 8) = Z a := by rw [hh_e rfl, hz_8]
theorem hh_10 : halfZ (halfZ Z a) (a + 1) (a + 10) = hvI (Z a) (Z (a + 2)) := by rw [hh_e rfl, hz_10]
theorem hh_12 : halfZ (halfZ Z a) (a + 1) (a + 12) = hvI (hvI (Z a) (Z (a + 2))) (hvI (Z (a + 2)) (Z (a + 4))) := by rw [hh_e rfl, hz_12]
theorem hh_14 : halfZ (halfZ Z a) (a + 1) (a + 14) = hvI (hvI (hvI (Z a) (Z (a + 2))) (hvI (Z (a + 2)) (Z (a + 4)))) (hvI (hvI (Z (a + 2)) (Z (a + 4))) (hvI (Z (a + 4)) (Z (a + 6)))) := by rw [hh_e rfl, hz_14]
theorem hh_1 : halfZ (halfZ Z a) (a + 1) (a + 1) = hvI (hvI (hvI (Z (a + 1)) (Z (a + 3))) (hvI (Z (a + 3)) (Z (a + 5)))) (hvI (hvI (Z (a + 3)) (Z (a + 5))) (hvI (Z (a + 5)) (Z (a + 7)))) := by
  rw [hz_0, show a + 1 + 2 = a + 3 by omega, show a + 1 + 4 = a + 5 by omega, show a + 1 + 6 = a + 7 by omega, hh_o rfl, hh_o rfl, hh_o rfl, hh_o rfl]
theorem hh_3 : halfZ (halfZ Z a) (a + 1) (a + 3) = hvI (hvI (Z (a + 3)) (Z (a + 5))) (hvI (Z (a + 5)) (Z (a + 7))) := by
  rw [show a + 3 = a + 1 + 2 by omega, hz_2, show a + 1 + 2 = a + 3 by omega, show a + 1 + 4 = a + 5 by omega, show a + 1 + 6 = a + 7 by omega, hh_o rfl, hh_o rfl, hh_o rfl]
theorem hh_5 : halfZ (halfZ Z a) (a + 1) (a + 5) = hvI (Z (a + 5)) (Z (a + 7)) := by
  rw [show a + 5 = a + 1 + 4 by omega, hz_4, show a + 1 + 4 = a + 5 by omega, show a + 1 + 6 = a + 7 by omega, hh_o rfl, hh_o rfl]
theorem hh_7 : halfZ (halfZ Z a) (a + 1) (a + 7) = Z (a + 7) := by
  rw [show a + 7 = a + 1 + 6 by omega, hz_6, show a + 1 + 6 = a + 7 by omega, hh_o rfl]
theorem hh_9 : halfZ (halfZ Z a) (a + 1) (a + 9) = Z (a + 1) := by
  rw [show a + 9 = a + 1 + 8 by omega, hz_8, hh_o rfl]
theorem hh_11 : halfZ (halfZ Z a) (a + 1) (a + 11) = hvI (Z (a + 1)) (Z (a + 3)) := by
  rw [show a + 11 = a + 1 + 10 by omega, hz_10, show a + 1 + 2 = a + 3 by omega, hh_o rfl, hh_o rfl]
theorem hh_13 : halfZ (halfZ Z a) (a + 1) (a + 13) = hvI (hvI (Z (a + 1)) (Z (a + 3))) (hvI (Z (a + 3)) (Z (a + 5))) := by
  rw [show a + 13 = a + 1 + 12 by omega, hz_12, show a + 1 + 2 = a + 3 by omega, show a + 1 + 4 = a + 5 by omega, hh_o rfl, hh_o rfl, hh_o rfl]
theorem hh_15 : halfZ (halfZ Z a) (a + 1) (a + 15) = hvI (hvI (hvI (Z (a + 1)) (Z (a + 3))) (hvI (Z (a + 3)) (Z (a + 5)))) (hvI (hvI (Z (a + 3)) (Z (a + 5))) (hvI (Z (a + 5)) (Z (a + 7)))) := by
  rw [show a + 15 = a + 1 + 14 by omega, hz_14, show a + 1 + 2 = a + 3 by omega, show a + 1 + 4 = a + 5 by omega, show a + 1 + 6 = a + 7 by omega, hh_o rfl, hh_o rfl, hh_o rfl, hh_o rfl]
end HS
abbrev hh (Z : Nat → Int32) (s : Nat) : Nat → Int32 := halfZ (halfZ Z (8 * s)) (8 * s + 1)
theorem lay_halve {bd : Int32} {Z : Nat → Int32} {s h : Nat} (hn : nrZ Z s) (hh10 : h < 10) (hf : flatZ Z s bd = false) : layZ bd (hh Z s) (s + 1) (h + 1) ++ layZ bd (hh Z s) s (h + 1) = layZ bd Z s h := by
  have n0 := hn 0 (by decide)
  have n1 := hn 1 (by decide)
  have n2 := hn 2 (by decide)
  have n3 := hn 3 (by decide)
  have n4 := hn 4 (by decide)
  have n5 := hn 5 (by decide)
  have n6 := hn 6 (by decide)
  have n7 := hn 7 (by decide)
  rw [Nat.add_zero] at n0
  obtain ⟨m, hm⟩ : ∃ m, 10 - h = m + 1 := ⟨10 - h - 1, by omega⟩
  have hm1 : 10 - (h + 1) = m := by omega
  rw [flat_ok] at hf
  have e0 : halfZ (halfZ Z (8 * s)) (8 * s + 1) (8 * s) = hvI (hvI (hvI (Z (8 * s)) (Z (8 * s + 2))) (hvI (Z (8 * s + 2)) (Z (8 * s + 4)))) (hvI (hvI (Z (8 * s + 2)) (Z (8 * s + 4))) (hvI (Z (8 * s + 4)) (Z (8 * s + 6)))) := hh_0 (Z := Z) (a := 8 * s)
  unfold layZ
  rw [hm1, hm]
  rw [show 8 * (s + 1) = 8 * s + 8 by omega, show 8 * s + 8 + 1 = 8 * s + 9 by omega, show 8 * s + 8 + 2 = 8 * s + 10 by omega, show 8 * s + 8 + 3 = 8 * s + 11 by omega, show 8 * s + 8 + 4 = 8 * s + 12 by omega, show 8 * s + 8 + 5 = 8 * s + 13 by omega, show 8 * s + 8 + 6 = 8 * s + 14 by omega, show 8 * s + 8 + 7 = 8 * s + 15 by omega]
  unfold hh
  rw [e0, hh_1, hh_2, hh_3, hh_4, hh_5, hh_6, hh_7, hh_8, hh_9, hh_10, hh_11, hh_12, hh_13, hh_14, hh_15]
  rw [(hv3 n0 n2 n4 n6).1, (hv3 n1 n3 n5 n7).1, (hvhv n2 n4 n6).1, (hvhv n3 n5 n7).1, (hv_ok n4 n6).1, (hv_ok n5 n7).1, (hv_ok n0 n2).1, (hv_ok n1 n3).1, (hvhv n0 n2 n4).1, (hvhv n1 n3 n5).1]
  show _ = (if flatQ _ _ _ _ _ _ _ _ bd = true then _ else _)
  rw [if_neg (by rw [hf]; decide)]
/-- a piece that is flat, or was halved ten times, is one line -/
theorem lay_one {bd : Int32} {Z : Nat → Int32} {s h : Nat} (hf : 10 ≤ h ∨ flatZ Z s bd = true) : layZ bd Z s h = [q3 1 (Z (8 * s + 6)).toInt64 (Z (8 * s + 7)).toInt64] := by
  unfold layZ
  cases hm : 10 - h with
  | zero => rfl
  | succ m =>
    rcases hf with q | q
    · omega
    · rw [flat_ok] at q
      exact if_pos q
theorem nr_halve {Z : Nat → Int32} {s : Nat} (hn : nrZ Z s) : nrZ (hh Z s) s ∧ nrZ (hh Z s) (s + 1) := by
  have n0 := hn 0 (by decide)
  have n1 := hn 1 (by decide)
  have n2 := hn 2 (by decide)
  have n3 := hn 3 (by decide)
  have n4 := hn 4 (by decide)
  have n5 := hn 5 (by decide)
  have n6 := hn 6 (by decide)
  have n7 := hn 7 (by decide)
  rw [Nat.add_zero] at n0
  have e0 := hh_0 (Z := Z) (a := 8 * s)
  refine ⟨fun j hj => ?_, fun j hj => ?_⟩
  · have : j = 0 ∨ j = 1 ∨ j = 2 ∨ j = 3 ∨ j = 4 ∨ j = 5 ∨ j = 6 ∨ j = 7 := by omega
    unfold hh
    rcases this with q | q | q | q | q | q | q | q <;> subst q
    · rw [e0]; exact (hv3 n0 n2 n4 n6).2
    · rw [hh_1]; exact (hv3 n1 n3 n5 n7).2
    · rw [hh_2]; exact (hvhv n2 n4 n6).2
    · rw [hh_3]; exact (hvhv n3 n5 n7).2
    · rw [hh_4]; exact (hv_ok n4 n6).2
    · rw [hh_5]; exact (hv_ok n5 n7).2
    · rw [hh_6]; exact n6
    · rw [hh_7]; exact n7
  · have : j = 0 ∨ j = 1 ∨ j = 2 ∨ j = 3 ∨ j = 4 ∨ j = 5 ∨ j = 6 ∨ j = 7 := by omega
    unfold hh
    rcases this with q | q | q | q | q | q | q | q <;> subst q
    · rw [show 8 * (s + 1) + 0 = 8 * s + 8 by omega, hh_8]; exact n0
    · rw [show 8 * (s + 1) + 1 = 8 * s + 9 by omega, hh_9]; exact n1
    · rw [show 8 * (s + 1) + 2 = 8 * s + 10 by omega, hh_10]; exact (hv_ok n0 n2).2
    · rw [show 8 * (s + 1) + 3 = 8 * s + 11 by omega, hh_11]; exact (hv_ok n1 n3).2
    · rw [show 8 * (s + 1) + 4 = 8 * s + 12 by omega, hh_12]; exact (hvhv n0 n2 n4).2
    · rw [show 8 * (s + 1) + 5 = 8 * s + 13 by omega, hh_13]; exact (hvhv n1 n3 n5).2
    · rw [show 8 * (s + 1) + 6 = 8 * s + 14 by omega, hh_14]; exact (hv3 n0 n2 n4 n6).2
    · rw [show 8 * (s + 1) + 7 = 8 * s + 15 by omega, hh_15]; exact (hv3 n1 n3 n5 n7).2
