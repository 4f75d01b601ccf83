/-! the class's path: points one behind another, and where each part begins -/
def np (q : Pt) : List P2 := if q.1 = 2 then [(q.2.2.2.1, q.2.2.2.2.1), (q.2.2.2.2.2.1, q.2.2.2.2.2.2), (q.2.1, q.2.2.1)] else if q.1 = 3 then [] else [(q.2.1, q.2.2.1)]
def pl (ps : List Pt) : List P2 := ps.flatMap np
def npk (k : Int32) : Nat := if k = 2 then 3 else if k = 3 then 0 else 1
theorem np_len (q : Pt) : (np q).length = npk q.1 := by
  unfold np npk
  split
  · rfl
  · split <;> rfl
/-- the first point of each part; a closing has the one where its subpath begins -/
def frsF : Nat → Nat → List Int32 → List Nat
  | _, _, [] => []
  | o, b, k :: r => (if k = 3 then b else o) :: frsF (o + npk k) (if k = 0 then o else b) r
def bgF : Nat → Nat → List Int32 → Nat
  | _, b, [] => b
  | o, b, k :: r => bgF (o + npk k) (if k = 0 then o else b) r
def offF : Nat → List Int32 → Nat
  | o, [] => o
  | o, k :: r => offF (o + npk k) r
theorem frsF_app : ∀ {l : List Int32} {o b : Nat} {r : List Int32}, frsF o b (l ++ r) = frsF o b l ++ frsF (offF o l) (bgF o b l) r := by
  intro l
  induction l with
  | nil => intros; rfl
  | cons k l ih =>
    intro o b r
    show _ :: frsF _ _ (l ++ r) = _
    rw [ih]
    rfl
theorem bgF_app : ∀ {l : List Int32} {o b : Nat} {r : List Int32}, bgF o b (l ++ r) = bgF (offF o l) (bgF o b l) r := by
  intro l
  induction l with
  | nil => intros; rfl
  | cons k l ih =>
    intro o b r
    show bgF _ _ (l ++ r) = _
    rw [ih]
    rfl
theorem offF_app : ∀ {l : List Int32} {o : Nat} {r : List Int32}, offF o (l ++ r) = offF (offF o l) r := by
  intro l
  induction l with
  | nil => intros; rfl
  | cons k l ih =>
    intro o r
    show offF _ (l ++ r) = _
    rw [ih]
    rfl
theorem offF_pl : ∀ {ps : List Pt} {o : Nat}, offF o (ps.map (fun q => q.1)) = o + (pl ps).length := by
  intro ps
  induction ps with
  | nil => intro o; rfl
  | cons q ps ih =>
    intro o
    show offF (o + npk q.1) (ps.map (fun q => q.1)) = _
    rw [ih, ← np_len]
    show o + (np q).length + (pl ps).length = o + (np q ++ pl ps).length
    rw [List.length_append]
    omega
theorem frsF_len : ∀ {l : List Int32} {o b : Nat}, (frsF o b l).length = l.length := by
  intro l
  induction l with
  | nil => intros; rfl
  | cons k l ih =>
    intro o b
    show (frsF _ _ l).length + 1 = l.length + 1
    rw [ih]
/-! a row turned round between two places, as a list -/
theorem plst_app (a b : Nat) (X Y : Nat → Int32) : plst (a + b) X Y = plst a X Y ++ plst b (fun k => X (a + k)) (fun k => Y (a + k)) := by
  unfold plst
  rw [List.range_add, List.map_append, List.map_map]
  rfl
theorem plst_rev : ∀ (b : Nat) (X Y : Nat → Int32), (plst b X Y).reverse = plst b (fun k => X (b - 1 - k)) (fun k => Y (b - 1 - k)) := by
  intro b X Y
  unfold plst
  apply List.ext_getElem
  · simp
  · intro i h1 h2
    simp at h1 ⊢
theorem tr_list {a b c : Nat} {X Y X' Y' : Nat → Int32} (hb : 0 < b) (hX : ∀ k, X' k = tr X a (a + b - 1) k) (hY : ∀ k, Y' k = tr Y a (a + b - 1) k) : plst (a + b + c) X' Y' = plst a X Y ++ (plst b (fun k => X (a + k)) (fun k => Y (a + k))).reverse ++ plst c (fun k => X (a + b + k)) (fun k => Y (a + b + k)) := by
  have t_lo : ∀ (F : Nat → Int32) k, k < a → tr F a (a + b - 1) k = F k := fun F k h => if_neg (by omega)
  have t_hi : ∀ (F : Nat → Int32) k, tr F a (a + b - 1) (a + b + k) = F (a + b + k) := fun F k => if_neg (by omega)
  have t_in : ∀ (F : Nat → Int32) k, k < b → tr F a (a + b - 1) (a + k) = F (a + (b - 1 - k)) := fun F k h => by
    unfold tr
    rw [if_pos (by omega)]
    congr 1
    omega
  rw [plst_app (a + b) c, plst_app a b, plst_rev]
  congr 1
  · congr 1
    · exact plst_congr (fun k h => by rw [hX, t_lo X k h]) (fun k h => by rw [hY, t_lo Y k h])
    · exact plst_congr (fun k h => by rw [hX, t_in X k h]) (fun k h => by rw [hY, t_in Y k h])
  · exact plst_congr (fun k h => by rw [hX, t_hi]) (fun k h => by rw [hY, t_hi])
/-! a subpath turned round, as a list -/
def xy (q : Pt) : P2 := (q.2.1, q.2.2.1)
/-- a segment from its end back to the point ahead of it -/
def sw (q : Pt) (p : P2) : Pt := if q.1 = 2 then (q.1, p.1, p.2, q.2.2.2.2.2.1, q.2.2.2.2.2.2, q.2.2.2.1, q.2.2.2.2.1) else (q.1, p.1, p.2, 0, 0, 0, 0)
def zs : P2 → List Pt → List Pt
  | _, [] => []
  | p, q :: r => sw q p :: zs (xy q) r
def lastP : P2 → List Pt → P2
  | p, [] => p
  | _, q :: r => lastP (xy q) r
def seg (q : Pt) : Prop := q.1 = 1 ∨ q.1 = 2
theorem np_sw {q : Pt} {p : P2} (h : seg q) : (np (sw q p)).reverse ++ [xy q] = p :: np q := by
  unfold sw np xy
  rcases h with h | h
  · have h2 : ¬ q.1 = 2 := by rw [h]; decide
    have h3 : ¬ q.1 = 3 := by rw [h]; decide
    simp [h2, h3]
  · simp [h]
theorem zs_pl : ∀ {segs : List Pt} {p : P2}, (∀ q ∈ segs, seg q) → (zs p segs).flatMap (fun z => (np z).reverse) ++ [lastP p segs] = p :: pl segs := by
  intro segs
  induction segs with
  | nil => intro p _; rfl
  | cons q r ih =>
    intro p h
    have h1 := ih (p := xy q) (fun z hz => h z (List.mem_cons_of_mem _ hz))
    have h2 := np_sw (p := p) (h q List.mem_cons_self)
    show ((np (sw q p)).reverse ++ (zs (xy q) r).flatMap (fun z => (np z).reverse)) ++ [lastP (xy q) r] = p :: (np q ++ pl r)
    rw [List.append_assoc, h1]
    have : p :: (np q ++ pl r) = (p :: np q) ++ pl r := rfl
    rw [this, ← h2]
    simp
theorem zs_kinds : ∀ {segs : List Pt} {p : P2}, (zs p segs).map (fun q => q.1) = segs.map (fun q => q.1) := by
  intro segs
  induction segs with
  | nil => intros; rfl
  | cons q r ih =>
    intro p
    show (sw q p).1 :: (zs (xy q) r).map (fun q => q.1) = _
    rw [ih]
    unfold sw
    split <;> rfl
/-- a subpath that begins at p, turned round -/
def turnS (p : P2) (segs : List Pt) : List Pt := (0, (lastP p segs).1, (lastP p segs).2, 0, 0, 0, 0) :: (zs p segs).reverse
theorem turnS_pl {p : P2} {segs : List Pt} (h : ∀ q ∈ segs, seg q) : pl (turnS p segs) = (p :: pl segs).reverse := by
  rw [← zs_pl h, List.reverse_append]
  show lastP p segs :: pl (zs p segs).reverse = _
  unfold pl
  rw [List.flatMap_reverse]
  rfl
theorem turnS_kinds {p : P2} {segs : List Pt} : (turnS p segs).map (fun q => q.1) = 0 :: (segs.map (fun q => q.1)).reverse := by
  show 0 :: (zs p segs).reverse.map (fun q => q.1) = _
  rw [List.map_reverse, zs_kinds]
