/-! what the class's rows hold of a path -/
def rl (n : Nat) (K : Nat → Int32) : List Int32 := (List.range n).map K
def kd (ps : List Pt) : List Int32 := ps.map (fun q => q.1)
theorem rl_len {n : Nat} {K : Nat → Int32} : (rl n K).length = n := by simp [rl]
theorem rl_congr {n : Nat} {K K' : Nat → Int32} (h : ∀ k, k < n → K' k = K k) : rl n K' = rl n K := by
  unfold rl
  apply List.map_congr_left
  intro i hi
  exact h i (List.mem_range.mp hi)
theorem rl_succ {n : Nat} {K : Nat → Int32} : rl (n + 1) K = rl n K ++ [K n] := by
  unfold rl
  rw [List.range_succ, List.map_append]
  rfl
theorem rl_snoc {n : Nat} {K : Nat → Int32} {k : Int32} : rl (n + 1) (upd K n k) = rl n K ++ [k] := by
  rw [rl_succ, up_s, rl_congr (fun i h => up_n (by omega))]
theorem rl_add {a b : Nat} {K : Nat → Int32} : rl (a + b) K = rl a K ++ rl b (fun k => K (a + k)) := by
  unfold rl
  rw [List.range_add, List.map_append, List.map_map]
  rfl
theorem rl_get {n : Nat} {K : Nat → Int32} {i : Nat} (h : i < n) : (rl n K)[i]? = some (K i) := by simp [rl, h]
theorem rl_rev (b : Nat) (K : Nat → Int32) : (rl b K).reverse = rl b (fun k => K (b - 1 - k)) := by
  unfold rl
  apply List.ext_getElem
  · simp
  · intro i h1 h2
    simp at h1 ⊢
theorem tr_rl {a b c : Nat} {K K' : Nat → Int32} (ha : 0 < a) (hK : ∀ k, K' k = tr K a (a + b - 1) k) : rl (a + b + c) K' = rl a K ++ (rl b (fun k => K (a + k))).reverse ++ rl c (fun k => K (a + b + k)) := by
  rw [rl_add (a := a + b) (b := c), rl_add (a := a) (b := b), rl_rev]
  congr 1
  · congr 1
    · exact rl_congr (fun k h => by rw [hK]; exact if_neg (by omega))
    · exact rl_congr (fun k h => by
        rw [hK]
        unfold tr
        rw [if_pos (by omega)]
        congr 1
        omega)
  · exact rl_congr (fun k h => by rw [hK]; exact if_neg (by omega))
def RIp (pc_ pn pb : Nat) (K Fi X Y : Nat → Int32) (ps : List Pt) : Prop :=
  ps.length = pc_ ∧ rl pc_ K = kd ps ∧ rl pc_ Fi = (frsF 0 0 (kd ps)).map nI ∧ plst pn X Y = pl ps ∧ pb = bgF 0 0 (kd ps)
theorem RI_0 {K Fi X Y : Nat → Int32} : RIp 0 0 0 K Fi X Y [] := ⟨rfl, rfl, rfl, rfl, rfl⟩
theorem kd_app {a b : List Pt} : kd (a ++ b) = kd a ++ kd b := List.map_append
theorem pl_app {a b : List Pt} : pl (a ++ b) = pl a ++ pl b := List.flatMap_append
/-- one part more -/
theorem RI_add {pc_ pn pb : Nat} {K Fi X Y X' Y' : Nat → Int32} {ps : List Pt} {q : Pt} (h : RIp pc_ pn pb K Fi X Y ps) (hp : plst (pn + npk q.1) X' Y' = plst pn X Y ++ np q) : RIp (pc_ + 1) (pn + npk q.1) (if q.1 = 0 then pn else pb) (upd K pc_ q.1) (upd Fi pc_ (nI (if q.1 = 3 then pb else pn))) X' Y' (ps ++ [q]) := by
  obtain ⟨h1, h2, h3, h4, h5⟩ := h
  have ho : offF 0 (kd ps) = pn := by
    have := offF_pl (ps := ps) (o := 0)
    unfold kd
    rw [this, ← h4, plst_len]
    omega
  have hk : kd [q] = [q.1] := rfl
  refine ⟨by simp [h1], ?_, ?_, ?_, ?_⟩
  · rw [rl_snoc, h2, kd_app, hk]
  · rw [rl_snoc, h3, kd_app, hk, frsF_app, ho, ← h5, List.map_append]
    rfl
  · rw [hp, h4, pl_app]
    simp [pl]
  · rw [kd_app, hk, bgF_app, ho, ← h5]
    rfl
theorem offF_kd (ps : List Pt) (o : Nat) : offF o (kd ps) = o + (pl ps).length := offF_pl
theorem bgF_seg : ∀ {l : List Pt} {o b : Nat}, (∀ q ∈ l, ¬ q.1 = 0) → bgF o b (kd l) = b := by
  intro l
  induction l with
  | nil => intros; rfl
  | cons q l ih =>
    intro o b h
    show bgF (o + npk q.1) (if q.1 = 0 then o else b) (kd l) = b
    rw [if_neg (h q List.mem_cons_self)]
    exact ih (fun z hz => h z (List.mem_cons_of_mem _ hz))
theorem npk_wk {k : Int32} (h : ¬ k = 3) : npk k = wk k := by
  unfold npk wk
  rw [if_neg h]
/-- the firsts of segments whose kinds stand in a row from f + 1 on -/
theorem frs_seg {K : Nat → Int32} {f o b : Nat} : ∀ {m : Nat}, (∀ j, j < m → ¬ K (f + 1 + j) = 3) → frsF o b (rl m (fun j => K (f + 1 + j))) = (List.range m).map (fun j => o + sk K f j) ∧ offF o (rl m (fun j => K (f + 1 + j))) = o + sk K f m := by
  intro m
  induction m with
  | zero => intro _; exact ⟨rfl, rfl⟩
  | succ m ih =>
    intro h
    obtain ⟨i1, i2⟩ := ih (fun j hj => h j (by omega))
    have h3 := h m (by omega)
    refine ⟨?_, ?_⟩
    · rw [rl_succ, frsF_app, i1, i2, List.range_succ, List.map_append]
      show _ ++ [if K (f + 1 + m) = 3 then _ else _] = _
      rw [if_neg h3]
      rfl
    · rw [rl_succ, offF_app, i2]
      show o + sk K f m + npk (K (f + 1 + m)) = o + (sk K f m + wk (K (f + 1 + m)))
      rw [npk_wk h3]
      omega
/-- the segments turned: their kinds in a row -/
theorem seg_no3 {segs : List Pt} (h : ∀ q ∈ segs, sgo q) : ∀ k ∈ kd segs, ¬ k = 3 ∧ ¬ k = 0 := by
  intro k hk
  obtain ⟨q, hq, rfl⟩ := List.mem_map.mp hk
  exact sgo_k (h q hq)
theorem kd_rend {s : Sub} : kd (rend s) = 0 :: (kd s.2.1 ++ kd (clo s.1 s.2.2)) := by
  show (0 : Int32) :: kd (s.2.1 ++ clo s.1 s.2.2) = _
  rw [kd_app]
theorem kd_renT {s : Sub} : kd (renT s) = 0 :: ((kd s.2.1).reverse ++ kd (clo s.1 s.2.2)) := by
  unfold renT
  rw [kd_app]
  have h1 : kd (turnS s.1 s.2.1) = 0 :: (kd s.2.1).reverse := turnS_kinds
  have h2 : kd (clo (lastP s.1 s.2.1) s.2.2) = kd (clo s.1 s.2.2) := by cases s.2.2 <;> rfl
  rw [h1, h2]
  rfl
theorem pl_clo {p : P2} {c : Bool} : pl (clo p c) = [] := by cases c <;> rfl
theorem pl_rend {s : Sub} : pl (rend s) = s.1 :: pl s.2.1 := by
  show np (0, s.1.1, s.1.2, 0, 0, 0, 0) ++ pl (s.2.1 ++ clo s.1 s.2.2) = _
  rw [pl_app, pl_clo, List.append_nil]
  rfl
theorem pl_renT {s : Sub} (h : ∀ q ∈ s.2.1, sgo q) : pl (renT s) = (s.1 :: pl s.2.1).reverse := by
  unfold renT
  rw [pl_app, pl_clo, List.append_nil, turnS_pl (fun q hq => sgo_seg (h q hq))]
theorem offF_rev : ∀ {l : List Int32} {o : Nat}, offF o l.reverse = offF o l := by
  have h : ∀ (l : List Int32) (o : Nat), offF o l = o + (l.map npk).sum := by
    intro l
    induction l with
    | nil => intro o; rfl
    | cons k l ih =>
      intro o
      show offF (o + npk k) l = o + (npk k + (l.map npk).sum)
      rw [ih]
      omega
  intro l o
  rw [h, h, List.map_reverse, List.sum_reverse]
theorem bgF_no0 : ∀ {l : List Int32} {o b : Nat}, (∀ k ∈ l, ¬ k = 0) → bgF o b l = b := by
  intro l
  induction l with
  | nil => intros; rfl
  | cons k l ih =>
    intro o b h
    show bgF (o + npk k) (if k = 0 then o else b) l = b
    rw [if_neg (h k List.mem_cons_self)]
    exact ih (fun z hz => h z (List.mem_cons_of_mem _ hz))
theorem frs_clo {p : P2} {c : Bool} {o b : Nat} : frsF o b (kd (clo p c)) = (if c then [b] else []) ∧ offF o (kd (clo p c)) = o ∧ bgF o b (kd (clo p c)) = b := by
  cases c <;> exact ⟨rfl, rfl, rfl⟩
