/-! bound: the least and the greatest of the points -/
def le9 (lo : Bool) (v w : Int32) : Prop := if lo = true then v.toInt ≤ w.toInt else w.toInt ≤ v.toInt
theorem le9_r {lo : Bool} {v : Int32} : le9 lo v v := by unfold le9; split <;> omega
theorem le9_t {lo : Bool} {u v w : Int32} (h1 : le9 lo u v) (h2 : le9 lo v w) : le9 lo u w := by
  unfold le9 at *
  split at h1 <;> simp_all <;> omega
theorem le9_a {lo : Bool} {v w : Int32} (h1 : le9 lo v w) (h2 : le9 lo w v) : v = w := by
  apply Int32.toInt_inj.mp
  unfold le9 at *
  split at h1 <;> simp_all <;> omega
theorem bst_s {lo : Bool} {f v : Int32} : (bst lo f v = f ∨ bst lo f v = v) ∧ le9 lo (bst lo f v) f ∧ le9 lo (bst lo f v) v := by
  cases lo with
  | true =>
    by_cases h : v < f
    · rw [bst_tt h]
      exact ⟨Or.inr rfl, by have := Int32.lt_iff_toInt_lt.mp h; show v.toInt ≤ f.toInt; omega, le9_r⟩
    · rw [bst_tf h]
      refine ⟨Or.inl rfl, le9_r, ?_⟩
      rw [Int32.lt_iff_toInt_lt] at h
      show f.toInt ≤ v.toInt
      omega
  | false =>
    by_cases h : f < v
    · rw [bst_ft h]
      exact ⟨Or.inr rfl, by have := Int32.lt_iff_toInt_lt.mp h; show f.toInt ≤ v.toInt; omega, le9_r⟩
    · rw [bst_ff h]
      refine ⟨Or.inl rfl, le9_r, ?_⟩
      rw [Int32.lt_iff_toInt_lt] at h
      show v.toInt ≤ f.toInt
      omega
def ext9 (lo : Bool) (S : Int32 → Prop) (v : Int32) : Prop := S v ∧ ∀ w, S w → le9 lo v w
theorem ext_u {lo : Bool} {S : Int32 → Prop} {v w : Int32} (h1 : ext9 lo S v) (h2 : ext9 lo S w) : v = w := le9_a (h1.2 w h2.1) (h2.2 v h1.1)
theorem ext_fold {lo : Bool} : ∀ {L : List Int32} {f : Int32}, ext9 lo (fun z => z = f ∨ z ∈ L) (L.foldl (bst lo) f) := by
  intro L
  induction L with
  | nil =>
    intro f
    refine ⟨Or.inl rfl, fun w hw => ?_⟩
    rcases hw with h | h
    · rw [h]; exact le9_r
    · exact absurd h (by simp)
  | cons a L ih =>
    intro f
    obtain ⟨h1, h2⟩ := ih (f := bst lo f a)
    obtain ⟨b1, b2, b3⟩ := bst_s (lo := lo) (f := f) (v := a)
    have h0 := h2 _ (Or.inl rfl)
    refine ⟨?_, ?_⟩
    · show L.foldl (bst lo) (bst lo f a) = f ∨ L.foldl (bst lo) (bst lo f a) ∈ a :: L
      rcases h1 with h | h
      · rw [h]
        rcases b1 with b | b
        · exact Or.inl b
        · exact Or.inr (by rw [b]; exact List.mem_cons_self)
      · exact Or.inr (List.mem_cons_of_mem _ h)
    · intro w hw
      show le9 lo (L.foldl (bst lo) (bst lo f a)) w
      rcases hw with h | h
      · rw [h]; exact le9_t h0 b2
      · rcases List.mem_cons.mp h with h | h
        · rw [h]; exact le9_t h0 b3
        · exact h2 w (Or.inr h)
def row9 (lo : Bool) (X : Nat → Int32) (n : Nat) : Int32 := if lo = true then rowMin X n else rowMax X n
theorem row9_s {lo : Bool} {X : Nat → Int32} {n : Nat} (h : 1 ≤ n) : row9 lo X (n + 1) = bst lo (row9 lo X n) (X n) := by
  cases lo with
  | true => exact rowMin_s h
  | false => exact rowMax_s h
theorem ext_row {lo : Bool} {X : Nat → Int32} : ∀ {n : Nat}, ext9 lo (fun z => ∃ k, k < n + 1 ∧ X k = z) (row9 lo X (n + 1)) := by
  intro n
  induction n with
  | zero =>
    have e : row9 lo X (0 + 1) = X 0 := by cases lo <;> rfl
    rw [e]
    refine ⟨⟨0, by omega, rfl⟩, ?_⟩
    rintro w ⟨k, hk, rfl⟩
    rw [show k = 0 by omega]
    exact le9_r
  | succ n ih =>
    rw [row9_s (by omega)]
    obtain ⟨b1, b2, b3⟩ := bst_s (lo := lo) (f := row9 lo X (n + 1)) (v := X (n + 1))
    obtain ⟨⟨k, hk, ek⟩, h2⟩ := ih
    refine ⟨?_, ?_⟩
    · rcases b1 with b | b
      · exact ⟨k, by omega, by rw [b]; exact ek⟩
      · exact ⟨n + 1, by omega, b.symm⟩
    · rintro w ⟨j, hj, rfl⟩
      by_cases e : j = n + 1
      · rw [e]; exact b3
      · exact le9_t b2 (h2 _ ⟨j, by omega, rfl⟩)
/-- the coordinates of a part along an axis -/
def axf (ax : Nat) (p : P2) : Int32 := if ax = 0 then p.1 else p.2
def cs9 (ax : Nat) (q : Pt) : List Int32 := if q.1 = 2 then [axf ax (xy q), axf ax (q.2.2.2.1, q.2.2.2.2.1), axf ax (q.2.2.2.2.2.1, q.2.2.2.2.2.2)] else [axf ax (xy q)]
theorem bnd_cs {lo : Bool} {ax : Nat} {f : Int32} {q : Pt} (ha : ax < 2) : bnd lo ax f q = (cs9 ax q).foldl (bst lo) f := by
  have : ax = 0 ∨ ax = 1 := by omega
  unfold bnd blim cs9
  by_cases h : q.1 = 2
  · rw [if_pos h, if_pos h]
    rcases this with z | z <;> subst z <;> rfl
  · rw [if_neg h, if_neg h]
    rcases this with z | z <;> subst z <;> rfl
theorem fold_cs {lo : Bool} {ax : Nat} (ha : ax < 2) : ∀ {ps : List Pt} {f : Int32}, ps.foldl (bnd lo ax) f = (ps.flatMap (cs9 ax)).foldl (bst lo) f := by
  intro ps
  induction ps with
  | nil => intro f; rfl
  | cons q ps ih =>
    intro f
    rw [List.foldl_cons, ih, bnd_cs ha, List.flatMap_cons, List.foldl_append]
theorem cs_np {ax : Nat} {q : Pt} {z : Int32} (h : ¬ q.1 = 3) : z ∈ cs9 ax q ↔ z ∈ (np q).map (axf ax) := by
  unfold cs9 np
  by_cases h2 : q.1 = 2
  · rw [if_pos h2, if_pos h2]
    simp [xy]
    constructor
    · rintro (h | h | h) <;> simp [h]
    · rintro (h | h | h) <;> simp [h]
  · rw [if_neg h2, if_neg h2, if_neg h]
    simp [xy]
