/-! the loop over the stack of pieces -/
def updN (f : Nat → Nat) (k v : Nat) : Nat → Nat := fun j => if j = k then v else f j
theorem un_s {f : Nat → Nat} {k v : Nat} : updN f k v k = v := if_pos rfl
theorem un_n {f : Nat → Nat} {k v j : Nat} (h : ¬ j = k) : updN f k v j = f j := if_neg h
/-- steps that the s lowest pieces can still take -/
def wsm (V : Nat → Nat) : Nat → Nat
  | 0 => 0
  | s + 1 => (2 ^ (11 - V s) - 1) + wsm V s
theorem wsm_congr {V V' : Nat → Nat} : ∀ {n : Nat}, (∀ s, s < n → V' s = V s) → wsm V' n = wsm V n := by
  intro n
  induction n with
  | zero => intro _; rfl
  | succ n ih =>
    intro h
    show _ + wsm V' n = _ + wsm V n
    rw [ih (fun s hs => h s (by omega)), h n (by omega)]
def LIp (bd : Int32) (lf sp : Nat) (Z V : Nat → Int32) (Vn : Nat → Nat) (G RES : List Pt) : Prop :=
  lf ≤ 11 ∧ (∀ s, s < lf → V s = nI (Vn s) ∧ s ≤ Vn s ∧ Vn s ≤ 10 ∧ nrZ Z s) ∧ G ++ (remZ bd Z Vn lf).map q7p = RES ∧ sp + wsm Vn lf ≤ 2047
section LI
variable {bd : Int32} {lf sp : Nat} {Z V : Nat → Int32} {Vn : Nat → Nat} {G RES : List Pt}
theorem two_pos (k : Nat) (h : k ≤ 10) : 2 ≤ 2 ^ (11 - k) := by
  obtain ⟨m, hm⟩ : ∃ m, 11 - k = m + 1 := ⟨11 - k - 1, by omega⟩
  rw [hm, Nat.pow_succ]
  have := Nat.one_le_two_pow (n := m)
  omega
theorem two_half (k : Nat) (h : k < 10) : 2 ^ (11 - k) = 2 * 2 ^ (11 - (k + 1)) := by
  rw [show 11 - k = (11 - (k + 1)) + 1 by omega, Nat.pow_succ, Nat.mul_comm]
abbrev vnh (Vn : Nat → Nat) (t : Nat) : Nat → Nat := updN (updN Vn t (Vn t + 1)) (t + 1) (Vn t + 1)
theorem vh_0 {t : Nat} : vnh Vn t t = Vn t + 1 := by unfold vnh; rw [un_n (by omega), un_s]
theorem vh_1 {t : Nat} : vnh Vn t (t + 1) = Vn t + 1 := un_s
theorem vh_n {t j : Nat} (h : j < t) : vnh Vn t j = Vn j := by unfold vnh; rw [un_n (by omega), un_n (by omega)]
theorem nrZ_congr {Z' : Nat → Int32} {s : Nat} (h : nrZ Z s) (hz : ∀ j, j < 8 → Z' (8 * s + j) = Z (8 * s + j)) : nrZ Z' s := fun j hj => by rw [hz j hj]; exact h j hj
theorem LI_halve {t : Nat} (hl : lf = t + 1) (h : LIp bd lf sp Z V Vn G RES) (h10 : Vn t < 10) (hf : flatZ Z t bd = false) : LIp bd (lf + 1) (sp + 1) (hh Z t) (upd (upd V t (V t + 1)) (t + 1) (V t + 1)) (vnh Vn t) G RES := by
  subst hl
  obtain ⟨h1, h2, h3, h4⟩ := h
  obtain ⟨a1, a2, a3, a4⟩ := h2 t (by omega)
  have hlow : ∀ k, k < 8 * t → hh Z t k = Z k := fun k hk => hh_out (Or.inl hk)
  refine ⟨by omega, ?_, ?_, ?_⟩
  · intro s hs
    by_cases e1 : s = t + 1
    · subst e1
      rw [up_s, vh_1, a1, nI_1]
      exact ⟨rfl, by omega, by omega, (nr_halve a4).2⟩
    · by_cases e2 : s = t
      · subst e2
        rw [up_n e1, up_s, vh_0, a1, nI_1]
        exact ⟨rfl, by omega, by omega, (nr_halve a4).1⟩
      · obtain ⟨b1, b2, b3, b4⟩ := h2 s (by omega)
        rw [up_n e1, up_n e2, vh_n (by omega)]
        exact ⟨b1, b2, b3, nrZ_congr b4 (fun j hj => hlow _ (by omega))⟩
  · rw [← h3]
    show G ++ (layZ bd (hh Z t) (t + 1) (vnh Vn t (t + 1)) ++ (layZ bd (hh Z t) t (vnh Vn t t) ++ remZ bd (hh Z t) (vnh Vn t) t)).map q7p = G ++ (layZ bd Z t (Vn t) ++ remZ bd Z Vn t).map q7p
    rw [vh_1, vh_0, ← List.append_assoc, lay_halve a4 h10 hf, remZ_congr hlow (fun s hs => vh_n hs)]
  · have e : wsm (vnh Vn t) (t + 1 + 1) = (2 ^ (11 - (Vn t + 1)) - 1) + ((2 ^ (11 - (Vn t + 1)) - 1) + wsm Vn t) := by
      show (2 ^ (11 - vnh Vn t (t + 1)) - 1) + ((2 ^ (11 - vnh Vn t t) - 1) + wsm (vnh Vn t) t) = _
      rw [vh_1, vh_0, wsm_congr (fun s hs => vh_n hs)]
    have e2 : wsm Vn (t + 1) = (2 ^ (11 - Vn t) - 1) + wsm Vn t := rfl
    rw [e]
    rw [e2, two_half _ h10] at h4
    have := two_pos (Vn t + 1) (by omega)
    omega
theorem LI_line {t : Nat} (hl : lf = t + 1) (h : LIp bd lf sp Z V Vn G RES) (hf : 10 ≤ Vn t ∨ flatZ Z t bd = true) : LIp bd t (sp + 1) Z V Vn (G ++ [(1, Z (8 * t + 6), Z (8 * t + 7), 0, 0, 0, 0)]) RES := by
  subst hl
  obtain ⟨h1, h2, h3, h4⟩ := h
  refine ⟨by omega, fun s hs => h2 s (by omega), ?_, ?_⟩
  · rw [← h3]
    show _ = G ++ (layZ bd Z t (Vn t) ++ remZ bd Z Vn t).map q7p
    rw [lay_one hf, List.map_append, map_q3, List.append_assoc]
  · have e2 : wsm Vn (t + 1) = (2 ^ (11 - Vn t) - 1) + wsm Vn t := rfl
    have := two_pos (Vn t) (h2 t (by omega)).2.2.1
    omega
/-- no room for a line that is still to come -/
theorem LI_full {t : Nat} (hl : lf = t + 1) (h : LIp bd lf sp Z V Vn G RES) (hf : 10 ≤ Vn t ∨ flatZ Z t bd = true) : G.length < RES.length := by
  subst hl
  obtain ⟨h1, h2, h3, h4⟩ := h
  rw [← h3]
  show _ < (G ++ (layZ bd Z t (Vn t) ++ remZ bd Z Vn t).map q7p).length
  rw [lay_one hf]
  simp
theorem LI_end (h : LIp bd 0 sp Z V Vn G RES) : G = RES := by
  rw [← h.2.2.1]
  simp [remZ]
theorem LI_stop (h : LIp bd lf sp Z V Vn G RES) (hs : 2047 ≤ sp) : lf = 0 := by
  obtain ⟨h1, h2, h3, h4⟩ := h
  cases lf with
  | zero => rfl
  | succ t =>
    exfalso
    have e2 : wsm Vn (t + 1) = (2 ^ (11 - Vn t) - 1) + wsm Vn t := rfl
    have := two_pos (Vn t) (h2 t (by omega)).2.2.1
    omega
theorem LI_0 {F : List Pt} (hV : V 0 = 0) (hz : nrZ Z 0) : LIp bd 1 0 Z V (fun _ => 0) F (F ++ (layZ bd Z 0 0).map q7p) := by
  refine ⟨by omega, ?_, ?_, ?_⟩
  · intro s hs
    have : s = 0 := by omega
    subst this
    exact ⟨hV, Nat.le_refl 0, Nat.zero_le 10, hz⟩
  · show F ++ (layZ bd Z 0 0 ++ []).map q7p = _
    rw [List.append_nil]
  · show 0 + ((2 ^ (11 - 0) - 1) + 0) ≤ 2047
    decide
end LI
