/-! the class's sweep and its flatten -/
theorem or_t {A B : Prop} {r : Bool} (h : (r = true ∧ A) ∨ (r = false ∧ B)) (e : r = true) : A := by
  rcases h with h | h
  · exact h.2
  · rw [h.1] at e; cases e
theorem or_f {A B : Prop} {r : Bool} (h : (r = true ∧ A) ∨ (r = false ∧ B)) (e : r = false) : B := by
  rcases h with h | h
  · rw [h.1] at e; cases e
  · exact h.2
theorem reck_n1 {n : Nat} {X Y : Nat → Int32} {lo hi : Int64} (h : plst n X Y = reck lo hi) : 1 ≤ n := by
  have h1 := congrArg List.length h
  have h2 := reck_len (lo := lo) (hi := hi)
  rw [plst_len] at h1
  omega
section SWA
variable {ps : List Pt} {n pc2 pn2 pb2 : Nat} {XA YA K2 F2 X2 Y2 : Nat → Int32}
theorem swP_c (h : 1 ≤ n) : swP ps (plst n XA YA) = bAp ps (XA 0, YA 0) ++ (tri ((plst n XA YA).drop 1)).map cvp := by
  have e := plst_1 (X := XA) (Y := YA) h
  generalize (plst n XA YA).drop 1 = r at *
  rw [e]
  rfl
theorem swP_len (h : 1 ≤ n) : (swP ps (plst n XA YA)).length = (if ps.length = 0 then 1 else (opn ps).length + 1) + (n - 1) / 3 := by
  rw [swP_c h, List.length_append, List.length_map, tri_n]
  congr 1
  unfold bAp
  by_cases h0 : ps.length = 0
  · rw [if_pos h0, if_pos h0]; rfl
  · rw [if_neg h0, if_neg h0, List.length_append, List.length_map]; rfl
theorem sw_f0 (h0 : ps.length = 0) (h : 1 ≤ n) (hr : ¬ ps.length + (1 + (n - 1) / 3) ≤ 3000) : swA ps (plst n XA YA) = (-3, ps) := by
  unfold swA
  rw [if_pos]
  rw [swP_len h, if_pos h0]
  omega
theorem sw_f1 (h0 : ¬ ps.length = 0) (h : 1 ≤ n) (hr : ¬ ps.length + ((opn ps).length + (1 + (n - 1) / 3)) ≤ 3000) : swA ps (plst n XA YA) = (-3, ps) := by
  unfold swA
  rw [if_pos]
  rw [swP_len h, if_neg h0]
  omega
theorem sw_0 (h0 : ps.length = 0) (h : 1 ≤ n) (hr : ps.length + (1 + (n - 1) / 3) ≤ 3000) (hac : RIp pc2 pn2 pb2 K2 F2 X2 Y2 (ps ++ [(0, XA 0, YA 0, 0, 0, 0, 0)] ++ (tri ((plst n XA YA).drop 1)).map cvp)) : RIp pc2 pn2 pb2 K2 F2 X2 Y2 (swA ps (plst n XA YA)).2 ∧ nI pc2 = (swA ps (plst n XA YA)).1 := by
  have e : ps ++ swP ps (plst n XA YA) = ps ++ [(0, XA 0, YA 0, 0, 0, 0, 0)] ++ (tri ((plst n XA YA).drop 1)).map cvp := by
    rw [swP_c h, List.append_assoc]
    unfold bAp
    rw [if_pos h0]
  have e1 := hac.1
  rw [← e] at hac e1
  unfold swA
  rw [if_neg (by rw [swP_len h, if_pos h0]; omega)]
  rw [List.length_append] at e1
  rw [e1]
  exact ⟨hac, rfl⟩
theorem sw_1 (h0 : ¬ ps.length = 0) (h : 1 ≤ n) (hr : ps.length + ((opn ps).length + (1 + (n - 1) / 3)) ≤ 3000) (hac : RIp pc2 pn2 pb2 K2 F2 X2 Y2 (ps ++ (opn ps).map q7p ++ [(1, XA 0, YA 0, 0, 0, 0, 0)] ++ (tri ((plst n XA YA).drop 1)).map cvp)) : RIp pc2 pn2 pb2 K2 F2 X2 Y2 (swA ps (plst n XA YA)).2 ∧ nI pc2 = (swA ps (plst n XA YA)).1 := by
  have e : ps ++ swP ps (plst n XA YA) = ps ++ (opn ps).map q7p ++ [(1, XA 0, YA 0, 0, 0, 0, 0)] ++ (tri ((plst n XA YA).drop 1)).map cvp := by
    rw [swP_c h, List.append_assoc, List.append_assoc]
    unfold bAp
    rw [if_neg h0, List.append_assoc]
  have e1 := hac.1
  rw [← e] at hac e1
  unfold swA
  rw [if_neg (by rw [swP_len h, if_neg h0]; omega)]
  rw [List.length_append] at e1
  rw [e1]
  exact ⟨hac, rfl⟩
end SWA
section FLA
variable {ps G : List Pt} {bd : Int32} {i : Nat} {pc_ pn pb : Nat} {K Fi X Y Z : Nat → Int32}
theorem fl_1 (h : ¬ (gp ps i).1 = 2) : (flQ (gp ps) bd i).map q7p = [((gp ps i).1, (gp ps i).2.1, (gp ps i).2.2.1, 0, 0, 0, 0)] := by
  unfold flQ
  rw [if_neg h]
  exact map_q3
theorem fl_2 {f : Nat} (h2 : (gp ps i).1 = 2) (hz : Z 0 = X (f - 1) ∧ Z 1 = Y (f - 1) ∧ Z 2 = X f ∧ Z 3 = Y f ∧ Z 4 = X (f + 1) ∧ Z 5 = Y (f + 1) ∧ Z 6 = X (f + 2) ∧ Z 7 = Y (f + 2)) (hc : X (f - 1) = (gp ps (i - 1)).2.1 ∧ Y (f - 1) = (gp ps (i - 1)).2.2.1 ∧ X f = (gp ps i).2.2.2.1 ∧ Y f = (gp ps i).2.2.2.2.1 ∧ X (f + 1) = (gp ps i).2.2.2.2.2.1 ∧ Y (f + 1) = (gp ps i).2.2.2.2.2.2 ∧ X (f + 2) = (gp ps i).2.1 ∧ Y (f + 2) = (gp ps i).2.2.1 ∧ nrP (xy (gp ps (i - 1))) ∧ sgo (gp ps i)) : flQ (gp ps) bd i = layZ bd Z 0 0 ∧ nrZ Z 0 := by
  obtain ⟨c0, c1, c2, c3, c4, c5, c6, c7, c8, c9⟩ := hc
  rw [c0, c1, c2, c3, c4, c5, c6, c7] at hz
  obtain ⟨z0, z1, z2, z3, z4, z5, z6, z7⟩ := hz
  constructor
  · unfold flQ layZ
    rw [if_pos h2]
    show _ = layQ bd 10 (Z 0).toInt64 (Z 1).toInt64 (Z 2).toInt64 (Z 3).toInt64 (Z 4).toInt64 (Z 5).toInt64 (Z 6).toInt64 (Z 7).toInt64
    rw [z0, z1, z2, z3, z4, z5, z6, z7]
    rfl
  · rcases c9 with c9 | ⟨-, d1, d2, d3⟩
    · rw [c9.1] at h2
      exact absurd h2 (by decide)
    · intro j hj
      have : j = 0 ∨ j = 1 ∨ j = 2 ∨ j = 3 ∨ j = 4 ∨ j = 5 ∨ j = 6 ∨ j = 7 := by omega
      rcases this with q | q | q | q | q | q | q | q <;> subst q
      · show nr9 (Z 0); rw [z0]; exact c8.1
      · show nr9 (Z 1); rw [z1]; exact c8.2
      · show nr9 (Z 2); rw [z2]; exact d2.1
      · show nr9 (Z 3); rw [z3]; exact d2.2
      · show nr9 (Z 4); rw [z4]; exact d3.1
      · show nr9 (Z 5); rw [z5]; exact d3.2
      · show nr9 (Z 6); rw [z6]; exact d1.1
      · show nr9 (Z 7); rw [z7]; exact d1.2
theorem fl_b {x y : Int32} (hk : (gp ps i).1 = 0) (hx : x = (gp ps i).2.1) (hy : y = (gp ps i).2.2.1) : (flQ (gp ps) bd i).map q7p = [(0, x, y, 0, 0, 0, 0)] := by
  rw [fl_1 (by rw [hk]; decide), hk, hx, hy]
theorem fl_l {x y : Int32} (hk : (gp ps i).1 = 1) (hx : x = (gp ps i).2.1) (hy : y = (gp ps i).2.2.1) : (flQ (gp ps) bd i).map q7p = [(1, x, y, 0, 0, 0, 0)] := by
  rw [fl_1 (by rw [hk]; decide), hk, hx, hy]
theorem fl_k3 (hg : gdp ps) (hi : i < ps.length) (h0 : ¬ (gp ps i).1 = 0) (h1 : ¬ (gp ps i).1 = 1) (h2 : ¬ (gp ps i).1 = 2) : (gp ps i).1 = 3 := by
  have hm : gp ps i ∈ ps := by
    unfold gp
    rw [List.getD_eq_getElem?_getD, List.getElem?_eq_getElem hi]
    exact List.getElem_mem hi
  rcases gdp_kok hg _ hm with z | z | z | z
  · exact absurd z h0
  · exact absurd z h1
  · exact absurd z h2
  · exact z
theorem flQs_mono {g : Nat → Pt} {a b : Nat} (h : a ≤ b) : (flQs g bd a).length ≤ (flQs g bd b).length := by
  induction b with
  | zero =>
    have : a = 0 := by omega
    subst this
    exact Nat.le_refl _
  | succ b ih =>
    by_cases e : a = b + 1
    · subst e
      exact Nat.le_refl _
    · have h1 := ih (by omega)
      show _ ≤ (flQs g bd b ++ flQ g bd b).length
      rw [List.length_append]
      omega
theorem fl_bad (hg : gdp ps) (h : bd < 1 ∨ ¬ bd ≤ 6553600) : rFlatten ps bd = (-1, ps) := by rw [rFlatten_near hg, if_pos h]
theorem fl_full (hg : gdp ps) (hb : ¬ (bd < 1 ∨ ¬ bd ≤ 6553600)) (hi : i < ps.length) (h : 3000 < ((flQs (gp ps) bd i).map q7p ++ (flQ (gp ps) bd i).map q7p).length) : rFlatten ps bd = (-3, ps) := by
  rw [rFlatten_near hg, if_neg hb, if_pos]
  have h1 := flQs_mono (bd := bd) (g := gp ps) (a := i + 1) (b := ps.length) hi
  have e : flQs (gp ps) bd (i + 1) = flQs (gp ps) bd i ++ flQ (gp ps) bd i := rfl
  rw [e, List.length_append] at h1
  rw [List.length_append, List.length_map, List.length_map] at h
  omega
theorem fl_done (hg : gdp ps) (hb : ¬ (bd < 1 ∨ ¬ bd ≤ 6553600)) (hi : i = ps.length) (hpc : pc_ ≤ 3000) (hR : RIp pc_ pn pb K Fi X Y ((flQs (gp ps) bd i).map q7p)) : RIp pc_ pn pb K Fi X Y (rFlatten ps bd).2 ∧ nI pc_ = (rFlatten ps bd).1 := by
  subst hi
  have h1 := hR.1
  rw [List.length_map] at h1
  rw [rFlatten_near hg, if_neg hb, if_neg (by omega), h1]
  exact ⟨hR, rfl⟩
theorem fl_next (hR : RIp pc_ pn pb K Fi X Y ((flQs (gp ps) bd i).map q7p ++ (flQ (gp ps) bd i).map q7p)) : RIp pc_ pn pb K Fi X Y ((flQs (gp ps) bd (i + 1)).map q7p) := by
  show RIp pc_ pn pb K Fi X Y ((flQs (gp ps) bd i ++ flQ (gp ps) bd i).map q7p)
  rw [List.map_append]
  exact hR
end FLA
