/-! the points of an arc, in the class and in the reference -/
abbrev VV : Type := V4 × V4
def p0 (p : VV) : P2 := (p.1.1, p.2.1)
def pa (p : VV) : P2 := (p.1.2.1, p.2.2.1)
def pb (p : VV) : P2 := (p.1.2.2.1, p.2.2.2.1)
def pc3 (p : VV) : P2 := (p.1.2.2.2, p.2.2.2.2)
def trip (p : VV) : List P2 := [pa p, pb p, pc3 p]
def ptsF : List VV → List P2
  | [] => []
  | p :: r => p0 p :: (p :: r).flatMap trip
theorem apP_ok {l : List P2} {p : P2} (h : l.length < 124) : apP l p = l ++ [p] := if_pos h
theorem apT_n {l : List P2} {p : VV} (h0 : ¬ l.length = 0) (h : l.length + 3 ≤ 124) : apT l p.1 p.2 = l ++ trip p := by
  obtain ⟨⟨a0, a1, a2, a3⟩, ⟨b0, b1, b2, b3⟩⟩ := p
  show (if l.length = 0 then _ else apP (apP (apP l (a1, b1)) (a2, b2)) (a3, b3)) = _
  rw [if_neg h0, apP_ok (l := l) (by omega), apP_ok (l := l ++ [(a1, b1)]) (by simp; omega), apP_ok (l := l ++ [(a1, b1)] ++ [(a2, b2)]) (by simp; omega)]
  simp [trip, pa, pb, pc3]
theorem apT_0 {p : VV} : apT [] p.1 p.2 = p0 p :: trip p := by
  obtain ⟨⟨a0, a1, a2, a3⟩, ⟨b0, b1, b2, b3⟩⟩ := p
  rfl
theorem fold_n {cp : List VV} : ∀ {l : List P2}, ¬ l.length = 0 → l.length + 3 * cp.length ≤ 124 → cp.foldl (fun l p => apT l p.1 p.2) l = l ++ cp.flatMap trip := by
  induction cp with
  | nil => intro l _ _; simp
  | cons p r ih =>
    intro l h0 h
    simp only [List.length_cons] at h
    show r.foldl _ (apT l p.1 p.2) = _
    rw [apT_n h0 (by omega), ih (by simp [trip]) (by simp [trip]; omega)]
    simp
theorem fold_0 {cp : List VV} (h : cp.length ≤ 41) : cp.foldl (fun l p => apT l p.1 p.2) [] = ptsF cp := by
  cases cp with
  | nil => rfl
  | cons p r =>
    simp only [List.length_cons] at h
    show r.foldl _ (apT [] p.1 p.2) = _
    rw [apT_0, fold_n (by simp) (by simp [trip]; omega)]
    simp [ptsF]
def tri : List P2 → List (P2 × P2 × P2)
  | a :: b :: c :: r => (a, b, c) :: tri r
  | _ => []
theorem tri_flat {cp : List VV} : tri (cp.flatMap trip) = cp.map (fun p => (pa p, pb p, pc3 p)) := by
  induction cp with
  | nil => rfl
  | cons p r ih =>
    show (pa p, pb p, pc3 p) :: tri (r.flatMap trip) = _
    rw [ih]
    rfl
/-- a point of the unit circle at its place -/
def tq (x y : Int64) (ax : Ax4) (p : P2) : Int64 × Int64 := match ax with | (u, v, r, s) => (aro x p.1.toInt64 p.2.toInt64 u r, aro y p.1.toInt64 p.2.toInt64 v s)
def cq (x y : Int64) (ax : Ax4) (t : P2 × P2 × P2) : Q7 := (2, (tq x y ax t.2.2).1, (tq x y ax t.2.2).2, (tq x y ax t.1).1, (tq x y ax t.1).2, (tq x y ax t.2.1).1, (tq x y ax t.2.1).2)
/-- what a list of points adds: a line (or a beginning) to the first, a curve for each three of the others -/
def swp (ps : List Pt) (x y : Int64) (ax : Ax4) : List P2 → List Q7
  | [] => []
  | p :: r => bAq ps (tq x y ax p).1 (tq x y ax p).2 ++ (tri r).map (cq x y ax)
theorem bgQ_f {x y : Int64} {ax : Ax4} {p : VV} : bgQ x y ax (z8 p.1 p.2) false = tq x y ax (p0 p) := by
  obtain ⟨⟨a0, a1, a2, a3⟩, ⟨b0, b1, b2, b3⟩⟩ := p
  obtain ⟨u, v, r, s⟩ := ax
  rfl
theorem bgQ_t {x y : Int64} {ax : Ax4} {p : VV} : bgQ x y ax (z8 p.1 p.2) true = tq x y ax (pc3 p) := by
  obtain ⟨⟨a0, a1, a2, a3⟩, ⟨b0, b1, b2, b3⟩⟩ := p
  obtain ⟨u, v, r, s⟩ := ax
  rfl
theorem cvQ_f {x y : Int64} {ax : Ax4} {p : VV} : cvQ x y ax (z8 p.1 p.2) false = cq x y ax (pa p, pb p, pc3 p) := by
  obtain ⟨⟨a0, a1, a2, a3⟩, ⟨b0, b1, b2, b3⟩⟩ := p
  obtain ⟨u, v, r, s⟩ := ax
  rfl
theorem cvQ_t {x y : Int64} {ax : Ax4} {p : VV} : cvQ x y ax (z8 p.1 p.2) true = cq x y ax (pb p, pa p, p0 p) := by
  obtain ⟨⟨a0, a1, a2, a3⟩, ⟨b0, b1, b2, b3⟩⟩ := p
  obtain ⟨u, v, r, s⟩ := ax
  rfl
theorem drw_f {ps : List Pt} {x y : Int64} {ax : Ax4} {cp : List VV} : drw ps x y ax false (cp.map (fun p => z8 p.1 p.2)) = swp ps x y ax (ptsF cp) := by
  cases cp with
  | nil => rfl
  | cons p r =>
    show bAq ps (bgQ x y ax (z8 p.1 p.2) false).1 (bgQ x y ax (z8 p.1 p.2) false).2 ++ (((p :: r).map (fun p => z8 p.1 p.2)).map (fun v => cvQ x y ax v false)) = bAq ps (tq x y ax (p0 p)).1 (tq x y ax (p0 p)).2 ++ (tri ((p :: r).flatMap trip)).map (cq x y ax)
    rw [bgQ_f, tri_flat, List.map_map, List.map_map]
    congr 1
/-! the other way -/
def trib (p : VV) : List P2 := [pb p, pa p, p0 p]
def ptsB : List VV → List P2
  | [] => []
  | p :: r => pc3 p :: (p :: r).flatMap trib
theorem tri_flatb {cp : List VV} : tri (cp.flatMap trib) = cp.map (fun p => (pb p, pa p, p0 p)) := by
  induction cp with
  | nil => rfl
  | cons p r ih =>
    show (pb p, pa p, p0 p) :: tri (r.flatMap trib) = _
    rw [ih]
    rfl
theorem drw_t {ps : List Pt} {x y : Int64} {ax : Ax4} {cp : List VV} : drw ps x y ax true (cp.map (fun p => z8 p.1 p.2)) = swp ps x y ax (ptsB cp) := by
  cases cp with
  | nil => rfl
  | cons p r =>
    show bAq ps (bgQ x y ax (z8 p.1 p.2) true).1 (bgQ x y ax (z8 p.1 p.2) true).2 ++ (((p :: r).map (fun p => z8 p.1 p.2)).map (fun v => cvQ x y ax v true)) = bAq ps (tq x y ax (pc3 p)).1 (tq x y ax (pc3 p)).2 ++ (tri ((p :: r).flatMap trib)).map (cq x y ax)
    rw [bgQ_t, tri_flatb, List.map_map, List.map_map]
    congr 1
/-- one part goes on where the one before it ends -/
def joint : List VV → Prop
  | p :: q :: r => pc3 p = p0 q ∧ joint (q :: r)
  | _ => True
theorem ptsB_app {p : VV} {l : List VV} (h : l ≠ []) : ptsB (l ++ [p]) = ptsB l ++ trib p := by
  cases l with
  | nil => exact absurd rfl h
  | cons q r => simp [ptsB]
theorem pts_rev : ∀ {cp : List VV}, joint cp → (ptsF cp).reverse = ptsB cp.reverse := by
  intro cp
  induction cp with
  | nil => intro _; rfl
  | cons p r ih =>
    intro hj
    cases r with
    | nil => simp [ptsF, ptsB, trip, trib]
    | cons q r =>
      have h1 : ptsF (p :: q :: r) = [p0 p, pa p, pb p] ++ ptsF (q :: r) := by
        simp [ptsF, trip, hj.1]
      rw [h1, List.reverse_append, ih hj.2, List.reverse_cons (a := p), ptsB_app (by simp)]
      simp [trib]
theorem rev_fm {α : Type} {F : Nat → List α} (hF : ∀ k, (F k).reverse = F k) : ∀ n : Nat, ((List.range n).flatMap F).reverse = (List.range n).flatMap (fun k => F (n - 1 - k)) := by
  intro n
  induction n with
  | zero => rfl
  | succ n ih =>
    rw [List.range_succ, List.flatMap_append, List.reverse_append, ih]
    rw [← List.range_succ, List.range_succ_eq_map]
    simp only [List.flatMap_cons, List.flatMap_nil, List.append_nil, List.flatMap_map]
    rw [hF]
    congr 1
    rw [List.flatMap_def, List.flatMap_def]
    congr 1
    apply List.map_congr_left
    intro k hk
    congr 1
    have := List.mem_range.mp hk
    omega
