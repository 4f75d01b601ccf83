/-! turning a subpath round keeps what the rows hold -/
theorem app3 {α : Type} {a1 a2 a3 b1 b2 b3 : List α} (h : a1 ++ a2 ++ a3 = b1 ++ b2 ++ b3) (h1 : a1.length = b1.length) (h2 : a2.length = b2.length) : a1 = b1 ∧ a2 = b2 ∧ a3 = b3 := by
  rw [List.append_assoc, List.append_assoc] at h
  obtain ⟨e1, e23⟩ := List.append_inj h h1
  obtain ⟨e2, e3⟩ := List.append_inj e23 h2
  exact ⟨e1, e2, e3⟩
theorem rl_3 {a b c : Nat} {K : Nat → Int32} : rl (a + b + c) K = rl a K ++ rl b (fun k => K (a + k)) ++ rl c (fun k => K (a + b + k)) := by rw [rl_add (a := a + b), rl_add (a := a)]
theorem plst_3 {a b c : Nat} {X Y : Nat → Int32} : plst (a + b + c) X Y = plst a X Y ++ plst b (fun k => X (a + k)) (fun k => Y (a + k)) ++ plst c (fun k => X (a + b + k)) (fun k => Y (a + b + k)) := by rw [plst_app (a + b), plst_app a]
theorem frs_sub {R T : List Int32} {ks kc : List Int32} (h0 : ∀ k ∈ ks, ¬ k = 0) : frsF 0 0 (R ++ (0 :: (ks ++ kc) ++ T)) = (frsF 0 0 R ++ [offF 0 R]) ++ frsF (offF 0 R + 1) (offF 0 R) ks ++ frsF (offF (offF 0 R + 1) ks) (offF 0 R) (kc ++ T) := by
  rw [frsF_app]
  show frsF 0 0 R ++ (offF 0 R :: frsF (offF 0 R + 1) (offF 0 R) ((ks ++ kc) ++ T)) = _
  rw [List.append_assoc ks, frsF_app (l := ks), bgF_no0 h0]
  simp
theorem bg_sub {R T : List Int32} {ks kc : List Int32} (h0 : ∀ k ∈ ks, ¬ k = 0) : bgF 0 0 (R ++ (0 :: (ks ++ kc) ++ T)) = bgF (offF (offF 0 R + 1) ks) (offF 0 R) (kc ++ T) := by
  rw [bgF_app]
  show bgF (offF 0 R + 1) (offF 0 R) ((ks ++ kc) ++ T) = _
  rw [List.append_assoc ks, bgF_app (l := ks), bgF_no0 h0]
theorem RI_turn {pc_ pn pb : Nat} {K Fi X Y K' F' X' Y' : Nat → Int32} {R T : List Pt} {s : Sub} (h : RIp pc_ pn pb K Fi X Y (R ++ (rend s ++ T))) (hs : sbo s)
    (hK : ∀ k, K' k = tr K (R.length + 1) (R.length + s.2.1.length) k) (hX : ∀ k, X' k = tr X (pl R).length ((pl R).length + (pl s.2.1).length) k) (hY : ∀ k, Y' k = tr Y (pl R).length ((pl R).length + (pl s.2.1).length) k)
    (hF : ∀ k, F' k = if R.length < k ∧ k ≤ R.length + s.2.1.length then nI ((pl R).length + 1 + sk K' R.length (k - (R.length + 1))) else Fi k) : RIp pc_ pn pb K' F' X' Y' (R ++ (renT s ++ T)) := by
  obtain ⟨h1, h2, h3, h4, h5⟩ := h
  have hsg := hs.2
  have hk03 := seg_no3 hsg
  have hk0 : ∀ k ∈ kd s.2.1, ¬ k = 0 := fun k hk => (hk03 k hk).2
  have hk0r : ∀ k ∈ (kd s.2.1).reverse, ¬ k = 0 := fun k hk => hk0 k (List.mem_reverse.mp hk)
  have hk3r : ∀ k ∈ (kd s.2.1).reverse, ¬ k = 3 := fun k hk => (hk03 k (List.mem_reverse.mp hk)).1
  have ha : offF 0 (kd R) = (pl R).length := by rw [offF_kd]; omega
  have hpc : pc_ = (R.length + 1) + s.2.1.length + ((clo s.1 s.2.2).length + T.length) := by
    rw [← h1]
    simp [rend]
    omega
  subst hpc
  have hkl : (kd s.2.1).length = s.2.1.length := by simp [kd]
  have hRl : (kd R).length = R.length := by simp [kd]
  -- kinds
  rw [kd_app, kd_app, kd_rend] at h2 h3 h5
  have h2' : rl (R.length + 1) K ++ rl s.2.1.length (fun k => K (R.length + 1 + k)) ++ rl ((clo s.1 s.2.2).length + T.length) (fun k => K (R.length + 1 + s.2.1.length + k)) = (kd R ++ [0]) ++ kd s.2.1 ++ (kd (clo s.1 s.2.2) ++ kd T) := by
    rw [← rl_3, h2]
    simp
  obtain ⟨k1, k2, k3⟩ := app3 h2' (by rw [rl_len]; simp [hRl]) (by rw [rl_len, hkl])
  have hK' := tr_rl (a := R.length + 1) (b := s.2.1.length) (c := (clo s.1 s.2.2).length + T.length) (K := K) (K' := K') (by omega) (fun k => by rw [hK, show R.length + 1 + s.2.1.length - 1 = R.length + s.2.1.length by omega])
  rw [k1, k2, k3] at hK'
  have hKs := hK'
  rw [rl_3] at hKs
  obtain ⟨-, m2, -⟩ := app3 hKs (by rw [rl_len]; simp [hRl]) (by rw [rl_len]; simp [hkl])
  -- firsts
  rw [frs_sub hk0, ha, List.map_append, List.map_append] at h3
  rw [rl_3] at h3
  obtain ⟨f1, f2, f3⟩ := app3 h3 (by rw [rl_len]; simp [frsF_len, hRl]) (by rw [rl_len, List.length_map, frsF_len, hkl])
  have hsk := frs_seg (K := K') (f := R.length) (o := (pl R).length + 1) (b := (pl R).length) (m := s.2.1.length) (by
    intro j hj
    have : (rl s.2.1.length (fun k => K' (R.length + 1 + k)))[j]? = some (K' (R.length + 1 + j)) := rl_get hj
    rw [m2] at this
    exact hk3r _ (List.mem_of_getElem? this))
  rw [m2] at hsk
  -- points
  rw [pl_app, pl_app, pl_rend] at h4
  have hpn : pn = (pl R).length + (1 + (pl s.2.1).length) + (pl T).length := by
    have := congrArg List.length h4
    rw [plst_len] at this
    simp at this
    omega
  subst hpn
  rw [plst_3, ← List.append_assoc] at h4
  obtain ⟨q1, q2, q3⟩ := app3 h4 (by rw [plst_len]) (by rw [plst_len]; simp; omega)
  have hP := tr_list (a := (pl R).length) (b := 1 + (pl s.2.1).length) (c := (pl T).length) (X := X) (Y := Y) (X' := X') (Y' := Y') (by omega) (fun k => by rw [hX, show (pl R).length + (1 + (pl s.2.1).length) - 1 = (pl R).length + (pl s.2.1).length by omega]) (fun k => by rw [hY, show (pl R).length + (1 + (pl s.2.1).length) - 1 = (pl R).length + (pl s.2.1).length by omega])
  rw [q1, q2, q3] at hP
  refine ⟨?_, ?_, ?_, ?_, ?_⟩
  · rw [← h1]
    simp [ren_len]
  · rw [hK', kd_app, kd_app, kd_renT]
    simp
  · rw [kd_app, kd_app, kd_renT, frs_sub hk0r, ha, offF_rev, List.map_append, List.map_append, hsk.1, rl_3]
    congr 1
    · congr 1
      · rw [← f1]
        exact rl_congr (fun k hk => by rw [hF]; exact if_neg (by omega))
      · unfold rl
        rw [List.map_map]
        apply List.map_congr_left
        intro j hj
        have hj := List.mem_range.mp hj
        show F' (R.length + 1 + j) = nI ((pl R).length + 1 + sk K' R.length j)
        rw [hF, if_pos (by omega), show R.length + 1 + j - (R.length + 1) = j by omega]
    · rw [← f3]
      exact rl_congr (fun k hk => by rw [hF]; exact if_neg (by omega))
  · rw [hP, pl_app, pl_app, pl_renT hsg]
    simp
  · rw [h5, kd_app, kd_app, kd_renT, bg_sub hk0, bg_sub hk0r, offF_rev]
