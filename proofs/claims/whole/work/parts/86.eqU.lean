/-! what an arc's points add, as the class adds it -/
def cvp (t : P2 × P2 × P2) : Pt := (2, t.2.2.1, t.2.2.2, t.1.1, t.1.2, t.2.1.1, t.2.1.2)
def bAp (ps : List Pt) (p : P2) : List Pt := if ps.length = 0 then [(0, p.1, p.2, 0, 0, 0, 0)] else (opn ps).map q7p ++ [(1, p.1, p.2, 0, 0, 0, 0)]
def swP (ps : List Pt) : List P2 → List Pt
  | [] => []
  | p :: r => bAp ps p ++ (tri r).map cvp
def swA (ps : List Pt) (l : List P2) : Int32 × List Pt := if 3000 < ps.length + (swP ps l).length then (-3, ps) else (nI (ps.length + (swP ps l).length), ps ++ swP ps l)
def tqI (x y : Int64) (ax : Ax4) (p : P2) : P2 := ((tq x y ax p).1.toInt32, (tq x y ax p).2.toInt32)
def tqF (x y : Int64) (ax : Ax4) (p : P2) : Bool := fr (tq x y ax p).1 || fr (tq x y ax p).2
theorem tri_map {f : P2 → P2} : ∀ (l : List P2), tri (l.map f) = (tri l).map (fun t => (f t.1, f t.2.1, f t.2.2))
  | [] => rfl
  | [_] => rfl
  | [_, _] => rfl
  | a :: b :: c :: r => by
    show (f a, f b, f c) :: tri (r.map f) = (f a, f b, f c) :: (tri r).map _
    rw [tri_map r]
theorem tri_len : ∀ (l : List P2), (tri l).length = l.length / 3
  | [] => by show 0 = 0 / 3; omega
  | [_] => by show 0 = 1 / 3; omega
  | [_, _] => by show 0 = 2 / 3; omega
  | a :: b :: c :: r => by
    show (tri r).length + 1 = (r.length + 1 + 1 + 1) / 3
    rw [tri_len r]
    omega
section SW
variable {ps : List Pt} {x y : Int64} {ax : Ax4}
theorem cq_far {t : P2 × P2 × P2} : q7f (cq x y ax t) = (tqF x y ax t.1 || tqF x y ax t.2.1 || tqF x y ax t.2.2) := by
  unfold q7f cq tqF
  dsimp only
  generalize fr (tq x y ax t.1).1 = a
  generalize fr (tq x y ax t.1).2 = b
  generalize fr (tq x y ax t.2.1).1 = c
  generalize fr (tq x y ax t.2.1).2 = d
  generalize fr (tq x y ax t.2.2).1 = e
  generalize fr (tq x y ax t.2.2).2 = f
  cases a <;> cases b <;> cases c <;> cases d <;> cases e <;> cases f <;> rfl
theorem tri_far : ∀ (r : List P2), r.length % 3 = 0 → ((tri r).map (cq x y ax)).any q7f = r.any (tqF x y ax)
  | [], _ => rfl
  | [_], h => absurd h (by show ¬ 1 % 3 = 0; omega)
  | [_, _], h => absurd h (by show ¬ 2 % 3 = 0; omega)
  | a :: b :: c :: r, h => by
    have h : (r.length + 1 + 1 + 1) % 3 = 0 := h
    show (q7f (cq x y ax (a, b, c)) || ((tri r).map (cq x y ax)).any q7f) = (tqF x y ax a || (tqF x y ax b || (tqF x y ax c || r.any (tqF x y ax))))
    rw [tri_far r (by omega), cq_far]
    generalize r.any (tqF x y ax) = w
    show (tqF x y ax a || tqF x y ax b || tqF x y ax c || w) = _
    generalize tqF x y ax a = u
    generalize tqF x y ax b = v
    generalize tqF x y ax c = z
    cases u <;> cases v <;> cases z <;> rfl
theorem bAq_far (hg : gdp ps) {a b : Int64} : (bAq ps a b).any q7f = (fr a || fr b) := by
  unfold bAq
  by_cases h0 : ps.length = 0
  · rw [if_pos h0, any_q3]
  · rw [if_neg h0, List.any_append, (gdp_opn hg (len_ne h0)).2.2.2, any_q3, Bool.false_or]
theorem map_q3L {k : Int32} {a b : Int64} : [q3 k a b].map q7p = [(k, a.toInt32, b.toInt32, 0, 0, 0, 0)] := rfl
theorem bAq_map {a b : Int64} : (bAq ps a b).map q7p = bAp ps (a.toInt32, b.toInt32) := by
  unfold bAq bAp
  by_cases h0 : ps.length = 0
  · rw [if_pos h0, if_pos h0, map_q3L]
  · rw [if_neg h0, if_neg h0, List.map_append, map_q3L]
theorem swp_map {l : List P2} : (swp ps x y ax l).map q7p = swP ps (l.map (tqI x y ax)) := by
  cases l with
  | nil => rfl
  | cons p r =>
    show (bAq ps (tq x y ax p).1 (tq x y ax p).2 ++ (tri r).map (cq x y ax)).map q7p = bAp ps (tqI x y ax p) ++ (tri (r.map (tqI x y ax))).map cvp
    rw [List.map_append, bAq_map, tri_map, List.map_map, List.map_map]
    rfl
theorem swp_far (hg : gdp ps) {l : List P2} (hl : l.length % 3 = 1) : (swp ps x y ax l).any q7f = l.any (tqF x y ax) := by
  cases l with
  | nil => rfl
  | cons p r =>
    have hl : (r.length + 1) % 3 = 1 := hl
    show (bAq ps (tq x y ax p).1 (tq x y ax p).2 ++ (tri r).map (cq x y ax)).any q7f = (tqF x y ax p || r.any (tqF x y ax))
    rw [List.any_append, bAq_far hg, tri_far r (by omega)]
    rfl
theorem swp_put (hg : gdp ps) {l : List P2} (hl : l.length % 3 = 1) : putAll ps ps (swp ps x y ax l) = if l.any (tqF x y ax) then (-4, ps) else swA ps (l.map (tqI x y ax)) := by
  have e : (swp ps x y ax l).length = (swP ps (l.map (tqI x y ax))).length := by rw [← swp_map, List.length_map]
  unfold putAll swA
  rw [swp_far hg hl, swp_map, e]
end SW
theorem trip_len {l : List VV} : (l.flatMap trip).length % 3 = 0 := by
  induction l with
  | nil => rfl
  | cons p r ih =>
    show (trip p ++ r.flatMap trip).length % 3 = 0
    rw [List.length_append]
    show (3 + (r.flatMap trip).length) % 3 = 0
    omega
theorem reck_len {lo hi : Int64} : (reck lo hi).length % 3 = 1 := by
  cases h : cps (fdv lo 5898240) (fdv hi 5898240) (bgn lo) (bgn hi) 41 0 with
  | nil => rw [reck_nil h]; rfl
  | cons p r =>
    rw [reck_cons h]
    show (((p :: r).flatMap trip).length + 1) % 3 = 1
    have := trip_len (l := p :: r)
    omega
theorem brx_tq {x y : Int32} {p_ q_ r_ s_ : Int64} {a : P2} : brx x y p_ q_ r_ s_ a = tq x.toInt64 y.toInt64 (p_, q_, r_, s_) a := by
  unfold brx tq
  dsimp only
  rw [alg_aro, alg_aro]
section BR
variable {n : Nat} {X Y X' Y' : Nat → Int32} {x y : Int32} {p_ q_ r_ s_ : Int64}
theorem bring_y (h : ∀ k, k < n → fr (brx x y p_ q_ r_ s_ (X k, Y k)).1 = false ∧ fr (brx x y p_ q_ r_ s_ (X k, Y k)).2 = false ∧ X' k = (brx x y p_ q_ r_ s_ (X k, Y k)).1.toInt32 ∧ Y' k = (brx x y p_ q_ r_ s_ (X k, Y k)).2.toInt32) : (plst n X Y).any (tqF x.toInt64 y.toInt64 (p_, q_, r_, s_)) = false ∧ plst n X' Y' = (plst n X Y).map (tqI x.toInt64 y.toInt64 (p_, q_, r_, s_)) := by
  constructor
  · rw [List.any_eq_false]
    intro a ha
    unfold plst at ha
    obtain ⟨k, hk, rfl⟩ := List.mem_map.mp ha
    obtain ⟨h1, h2, -⟩ := h k (List.mem_range.mp hk)
    rw [brx_tq] at h1 h2
    unfold tqF
    rw [h1, h2]
    decide
  · unfold plst
    rw [List.map_map]
    apply List.map_congr_left
    intro k hk
    obtain ⟨-, -, h3, h4⟩ := h k (List.mem_range.mp hk)
    rw [brx_tq] at h3 h4
    show (X' k, Y' k) = tqI _ _ _ (X k, Y k)
    unfold tqI
    rw [h3, h4]
theorem bring_n {k : Nat} (hk : k < n) (h : (fr (brx x y p_ q_ r_ s_ (X k, Y k)).1 || fr (brx x y p_ q_ r_ s_ (X k, Y k)).2) = true) : (plst n X Y).any (tqF x.toInt64 y.toInt64 (p_, q_, r_, s_)) = true := by
  rw [List.any_eq_true]
  refine ⟨(X k, Y k), ?_, ?_⟩
  · unfold plst
    exact List.mem_map.mpr ⟨k, List.mem_range.mpr hk, rfl⟩
  · rw [brx_tq] at h
    exact h
theorem round_l (hn : 1 ≤ n) (hX : ∀ k, X' k = tr X 0 (n - 1) k) (hY : ∀ k, Y' k = tr Y 0 (n - 1) k) : plst n X' Y' = (plst n X Y).reverse := by
  have e := tr_list (a := 0) (b := n) (c := 0) (X := X) (Y := Y) (X' := X') (Y' := Y') (by omega) (by rw [Nat.zero_add]; exact hX) (by rw [Nat.zero_add]; exact hY)
  have h1 : (fun k => X (0 + k)) = X := funext (fun k => by rw [Nat.zero_add])
  have h2 : (fun k => Y (0 + k)) = Y := funext (fun k => by rw [Nat.zero_add])
  rw [h1, h2, Nat.zero_add, Nat.add_zero] at e
  rw [e]
  simp [plst]
end BR
/-! the class's arc -/
section AC
variable {ps : List Pt} {ax : Ax4} {x y s e way : Int32}
theorem abs_far {v : Int64} : 235929600 < absL v ↔ 235929600 < v ∨ 235929600 < -v := by
  unfold absL
  have h0 : (0 : Int64).toInt = 0 := rfl
  have h9 : (235929600 : Int64).toInt = 235929600 := rfl
  by_cases h : 0 ≤ v
  · rw [if_pos h]
    constructor
    · exact Or.inl
    · rintro (z | z)
      · exact z
      · exfalso
        have h1 := Int64.le_iff_toInt_le.mp h
        have h2 := lt64.mp z
        rw [Int64.toInt_neg, h9] at h2
        rw [h0] at h1
        have h3 := Int64.toInt_lt v
        have h4 : (-v.toInt).bmod (2 ^ 64) = -v.toInt := i64_bm (by omega) (by omega)
        omega
  · rw [if_neg h]
    constructor
    · exact Or.inr
    · rintro (z | z)
      · exfalso
        have h2 := lt64.mp z
        rw [h9] at h2
        exact h (Int64.le_iff_toInt_le.mpr (by rw [h0]; omega))
      · exact z
theorem neg_sub64 {a b : Int64} : -(a - b) = b - a := by
  rw [Int64.neg_sub]
theorem far_iff {z : Int64} : arcFar x y s.toInt64 z ↔ (fr x.toInt64 || fr y.toInt64) = true ∨ 235929600 < absL (z - s.toInt64) := by
  unfold arcFar
  rw [abs_far, neg_sub64, Bool.or_eq_true]
  constructor
  · rintro (h | h | h | h)
    · exact Or.inl (Or.inl h)
    · exact Or.inl (Or.inr h)
    · exact Or.inr (Or.inl h)
    · exact Or.inr (Or.inr h)
  · rintro ((h | h) | h | h)
    · exact Or.inl h
    · exact Or.inr (Or.inl h)
    · exact Or.inr (Or.inr (Or.inl h))
    · exact Or.inr (Or.inr (Or.inr h))
theorem arcU_c (h : pkp ps) (h1 : (fr x.toInt64 || fr y.toInt64) = false) (h2 : ¬ 235929600 < absL (nbl e.toInt64 s.toInt64 - s.toInt64)) : rArc ps ax x y s e 0 = if (reck s.toInt64 (nbl e.toInt64 s.toInt64)).any (tqF x.toInt64 y.toInt64 ax) then (-4, ps) else swA ps ((reck s.toInt64 (nbl e.toInt64 s.toInt64)).map (tqI x.toInt64 y.toInt64 ax)) := by
  rw [nbl_ok] at h2 ⊢
  rw [rArc_U h.2 (fun z => (far_iff.mp z).elim (fun q => by rw [h1] at q; cases q) h2), swp_put h.1 reck_len]
theorem arcD_c (h : pkp ps) (h1 : (fr x.toInt64 || fr y.toInt64) = false) (h2 : ¬ 235929600 < absL (nab e.toInt64 s.toInt64 - s.toInt64)) : rArc ps ax x y s e 1 = if (reck (nab e.toInt64 s.toInt64) s.toInt64).reverse.any (tqF x.toInt64 y.toInt64 ax) then (-4, ps) else swA ps ((reck (nab e.toInt64 s.toInt64) s.toInt64).reverse.map (tqI x.toInt64 y.toInt64 ax)) := by
  rw [nab_ok] at h2 ⊢
  rw [rArc_D h.2 (fun z => (far_iff.mp z).elim (fun q => by rw [h1] at q; cases q) h2), swp_put h.1 (by rw [List.length_reverse]; exact reck_len)]
theorem arcU_f (hf : (fr x.toInt64 || fr y.toInt64) = true ∨ 235929600 < absL (nbl e.toInt64 s.toInt64 - s.toInt64)) : rArc ps ax x y s e 0 = (-4, ps) := rArc_0f (far_iff.mpr (by rw [nbl_ok] at hf; exact hf))
theorem arcD_f (hf : (fr x.toInt64 || fr y.toInt64) = true ∨ 235929600 < absL (nab e.toInt64 s.toInt64 - s.toInt64)) : rArc ps ax x y s e 1 = (-4, ps) := rArc_1f (far_iff.mpr (by rw [nab_ok] at hf; exact hf))
end AC
/-! the loop that adds the curves -/
section CV
variable {n : Nat} {X Y : Nat → Int32}
theorem drop_3 {k : Nat} (h : k + 2 < n) : (plst n X Y).drop k = (X k, Y k) :: (X (k + 1), Y (k + 1)) :: (X (k + 2), Y (k + 2)) :: (plst n X Y).drop (k + 3) := by
  have g : ∀ i, i < n → (plst n X Y)[i]? = some (X i, Y i) := fun i hi => by simp [plst, hi]
  have d : ∀ i, i < n → (plst n X Y).drop i = (X i, Y i) :: (plst n X Y).drop (i + 1) := fun i hi => by
    have hl : i < (plst n X Y).length := by rw [plst_len]; exact hi
    rw [List.drop_eq_getElem_cons hl]
    have := g i hi
    rw [List.getElem?_eq_getElem hl] at this
    rw [Option.some.inj this]
  rw [d k (by omega), d (k + 1) (by omega), d (k + 2) (by omega)]
theorem drop_e {k : Nat} (h : n ≤ k + 2) : tri ((plst n X Y).drop k) = [] := by
  have hl : ((plst n X Y).drop k).length ≤ 2 := by rw [List.length_drop, plst_len]; omega
  match hd : (plst n X Y).drop k, hl with
  | [], _ => rfl
  | [_], _ => rfl
  | [_, _], _ => rfl
  | _ :: _ :: _ :: r, hl => exact absurd hl (by show ¬ r.length + 1 + 1 + 1 ≤ 2; omega)
theorem tri_3 {k : Nat} (h : k + 2 < n) : (tri ((plst n X Y).drop k)).map cvp = (2, X (k + 2), Y (k + 2), X k, Y k, X (k + 1), Y (k + 1)) :: (tri ((plst n X Y).drop (k + 3))).map cvp := by
  rw [drop_3 h]
  rfl
theorem plst_1 (h : 1 ≤ n) : plst n X Y = (X 0, Y 0) :: (plst n X Y).drop 1 := by
  obtain ⟨m, rfl⟩ : ∃ m, n = m + 1 := ⟨n - 1, by omega⟩
  unfold plst
  rw [List.range_succ_eq_map]
  rfl
theorem tri_n : (tri ((plst n X Y).drop 1)).length = (n - 1) / 3 := by rw [tri_len, List.length_drop, plst_len]
end CV
