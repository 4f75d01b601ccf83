/-! THE ARC: what the reference adds is what the class's points add -/
def eP (q : Int64) (t : Int32) : P2 := ((beh4 (qa4 (fmd q 4)) t).1, (beh4 (qb4 (fmd q 4)) t).1)
theorem bef_beh {A : V4} {t : Int32} : (bef4 A t).2.2.2 = (beh4 A t).1 := by
  obtain ⟨a, b, c, d⟩ := A
  rfl
theorem ptA_z {d : DS} {x y : Int64} {ax : Ax4} {a b : V4} : ptA d x y ax (z8 a b) = bArc d (tq x y ax (a.2.2.2, b.2.2.2)).1 (tq x y ax (a.2.2.2, b.2.2.2)).2 := by
  obtain ⟨a0, a1, a2, a3⟩ := a
  obtain ⟨b0, b1, b2, b3⟩ := b
  obtain ⟨u, v, r, s⟩ := ax
  rfl
theorem ptA_e {d : DS} {x y : Int64} {ax : Ax4} {q : Int64} {t : Int32} (ht : tin t) : ptA d x y ax (befo (qv8 (fmd q 4)) t.toInt64) = bArc d (tq x y ax (eP q t)).1 (tq x y ax (eP q t)).2 := by
  obtain ⟨h1, h2, h3⟩ := qv_ok q
  obtain ⟨g1, g2, g3⟩ := bef_ok h2 h3 ht
  rw [← h1, ← g1, ptA_z, bef_beh, bef_beh]
  rfl
theorem bgn_t {t : Int64} (h : ang t) : tin (bgn t) := by
  unfold tin
  rw [(plI_c h).2]
  omega
theorem eP_1 {q : Int64} : eP q 65536 = ((qa4 (fmd q 4)).2.2.2, (qb4 (fmd q 4)).2.2.2) := by
  obtain ⟨h1, h2, h3⟩ := qv_ok q
  unfold eP
  rw [← bef_beh, ← bef_beh, bef_last h2, bef_last h3]
theorem beh_0 {A : V4} (h : rng4 A) : (beh4 A 0).1 = A.1 := by
  obtain ⟨a, b, c, d⟩ := A
  obtain ⟨h0, h1, h2, h3⟩ := h
  exact my3_0 h0 h1 h2 h3
theorem eP_0 {q : Int64} : eP q 0 = ((qa4 (fmd q 4)).1, (qb4 (fmd q 4)).1) := by
  obtain ⟨h1, h2, h3⟩ := qv_ok q
  unfold eP
  rw [beh_0 h2, beh_0 h3]
section ARC
variable {lo hi : Int64}
theorem cnt_41 (hz : lo.toInt ≤ hi.toInt) (hs : hi.toInt - lo.toInt ≤ 235929600) : 1 ≤ cnt (fdv hi 5898240) (fdv lo 5898240) ∧ cnt (fdv hi 5898240) (fdv lo 5898240) ≤ 41 := by
  unfold cnt
  rw [fdq_i, fdq_i]
  omega
/-- without a part both ends are one point -/
theorem eP_same (hlo : ang lo) (hhi : ang hi) (hz : lo.toInt ≤ hi.toInt) (h : cps (fdv lo 5898240) (fdv hi 5898240) (bgn lo) (bgn hi) 41 0 = []) : eP (fdv lo 5898240) (bgn lo) = eP (fdv hi 5898240) (bgn hi) := by
  have e0 : (0 : Int32).toInt = 0 := rfl
  have e1 : (65536 : Int32).toInt = 65536 := rfl
  have q1 := fdq_i lo
  have q2 := fdq_i hi
  have k0 : fdv lo 5898240 + (nI 0).toInt64 = fdv lo 5898240 := q_0
  have b1 := bgn_t hlo
  have b2 := bgn_t hhi
  unfold tin at b1 b2
  have hn0 : ¬ fdv hi 5898240 < fdv lo 5898240 + (nI 0).toInt64 := fun z => by
    have := lt64.mp z
    rw [k0, q1, q2] at this
    omega
  unfold cps at h
  rw [if_neg hn0] at h
  have h01 := (List.append_eq_nil_iff.mp h).1
  have h02 := (List.append_eq_nil_iff.mp h).2
  have hle : recV (fdv lo 5898240) (fdv hi 5898240) (bgn hi) 0 ≤ recU (bgn lo) 0 := by
    by_cases z : recV (fdv lo 5898240) (fdv hi 5898240) (bgn hi) 0 ≤ recU (bgn lo) 0
    · exact z
    · rw [if_neg z] at h01
      exact absurd h01 (by simp)
  have hle := Int32.le_iff_toInt_le.mp hle
  have hu0 : recU (bgn lo) 0 = bgn lo := if_pos rfl
  rw [hu0] at hle
  by_cases hq : fdv lo 5898240 = fdv hi 5898240
  · have hv : recV (fdv lo 5898240) (fdv hi 5898240) (bgn hi) 0 = bgn hi := if_pos (by rw [k0]; exact hq)
    rw [hv] at hle
    have p1 := (plI_c hlo).2
    have p2 := (plI_c hhi).2
    have hqi := eq_i.mp hq
    rw [q1, q2] at hqi
    have : bgn lo = bgn hi := Int32.toInt_inj.mp (by omega)
    rw [this, hq]
  · have hv : recV (fdv lo 5898240) (fdv hi 5898240) (bgn hi) 0 = 65536 := if_neg (by rw [k0]; exact hq)
    rw [hv, e1] at hle
    have hb : bgn lo = 65536 := Int32.toInt_inj.mp (by rw [e1]; omega)
    have k1 := qk_i (fq := fdv lo 5898240) (k := 1) (by decide) (fdq_b lo)
    have hqn : ¬ (fdv lo 5898240).toInt = (fdv hi 5898240).toInt := fun z => hq (eq_i.mpr z)
    have hn1 : ¬ fdv hi 5898240 < fdv lo 5898240 + (nI 1).toInt64 := fun z => by
      have := lt64.mp z
      rw [k1] at this
      omega
    have h1' : cps (fdv lo 5898240) (fdv hi 5898240) (bgn lo) (bgn hi) 40 1 = [] := h02
    unfold cps at h1'
    rw [if_neg hn1] at h1'
    have h11 := (List.append_eq_nil_iff.mp h1').1
    have hle1 : recV (fdv lo 5898240) (fdv hi 5898240) (bgn hi) 1 ≤ recU (bgn lo) 1 := by
      by_cases z : recV (fdv lo 5898240) (fdv hi 5898240) (bgn hi) 1 ≤ recU (bgn lo) 1
      · exact z
      · rw [if_neg z] at h11
        exact absurd h11 (by simp)
    have hle1 := Int32.le_iff_toInt_le.mp hle1
    have hu1 : recU (bgn lo) 1 = 0 := if_neg (by decide)
    rw [hu1, e0] at hle1
    have hqe : fdv lo 5898240 + (nI 1).toInt64 = fdv hi 5898240 := by
      by_cases z : fdv lo 5898240 + (nI 1).toInt64 = fdv hi 5898240
      · exact z
      · have : recV (fdv lo 5898240) (fdv hi 5898240) (bgn hi) 1 = 65536 := if_neg z
        rw [this, e1] at hle1
        omega
    have hv1 : recV (fdv lo 5898240) (fdv hi 5898240) (bgn hi) 1 = bgn hi := if_pos hqe
    rw [hv1] at hle1
    have hb2 : bgn hi = 0 := Int32.toInt_inj.mp (by rw [e0]; omega)
    have hj := q_join (fdv lo 5898240) (fdq_b lo)
    have hs1 : fdv lo 5898240 + 1 = fdv hi 5898240 := by rw [← hqe]; rfl
    rw [hs1] at hj
    rw [hb, hb2, eP_1, eP_0, hj.1, hj.2]
theorem reck_nil (h : cps (fdv lo 5898240) (fdv hi 5898240) (bgn lo) (bgn hi) 41 0 = []) : reck lo hi = [eP (fdv lo 5898240) (bgn lo)] := by
  unfold reck
  rw [recL_c, h]
  rfl
theorem ptsF_len {p : VV} {r : List VV} : ¬ (ptsF (p :: r)).length = 0 := by simp [ptsF]
theorem reck_cons {p : VV} {r : List VV} (h : cps (fdv lo 5898240) (fdv hi 5898240) (bgn lo) (bgn hi) 41 0 = p :: r) : reck lo hi = ptsF (p :: r) := by
  have hl : (p :: r).length ≤ 41 := by rw [← h]; exact cps_len
  unfold reck
  rw [recL_c, h, fold_0 hl]
  exact if_neg ptsF_len
theorem arc_all (hlo : ang lo) (hhi : ang hi) (hz : lo.toInt ≤ hi.toInt) (hs : hi.toInt - lo.toInt ≤ 235929600) {ps : List Pt} {x y : Int64} {ax : Ax4} {bk : Bool} : arcD (ps, false, false) x y ax lo hi bk = addAll (ps, false, false) (swp ps x y ax (if bk then (reck lo hi).reverse else reck lo hi)) := by
  obtain ⟨hc1, hc2⟩ := cnt_41 hz hs
  have hfa := fdq_b lo
  have hla := fdq_b hi
  have hl2 : (fdv hi 5898240).toInt < 4000000000000000000 := by
    rw [fdq_i]
    unfold ang at hhi
    omega
  obtain ⟨hm, -⟩ := cps_aqs hlo hhi hz (cnt (fdv hi 5898240) (fdv lo 5898240)) 41 0 (by rw [q_0]) hc2 (by omega)
  rw [q_0] at hm
  unfold arcD
  rw [arcLoop_all]
  cases hcp : cps (fdv lo 5898240) (fdv hi 5898240) (bgn lo) (bgn hi) 41 0 with
  | nil =>
    rw [hcp] at hm
    have hm : ([] : List V8) = aqs lo hi false (fdv lo 5898240) (fdv hi 5898240) (cnt (fdv hi 5898240) (fdv lo 5898240)) (fdv lo 5898240) := hm
    cases bk with
    | false =>
      rw [← hm, reck_nil hcp]
      show ptA (ps, false, false) x y ax (befo (qv8 (fmd (fdv lo 5898240) 4)) (plc lo)) = addAll _ (bAq ps (tq x y ax (eP (fdv lo 5898240) (bgn lo))).1 (tq x y ax (eP (fdv lo 5898240) (bgn lo))).2 ++ [])
      rw [← (plI_c hlo).1, ptA_e (bgn_t hlo), bArc_all, List.append_nil]
    | true =>
      rw [aqs_rev hfa hla hl2 (by omega), ← hm, reck_nil hcp, eP_same hlo hhi hz hcp]
      show ptA (ps, false, false) x y ax (befo (qv8 (fmd (fdv hi 5898240) 4)) (plc hi)) = addAll _ (bAq ps (tq x y ax (eP (fdv hi 5898240) (bgn hi))).1 (tq x y ax (eP (fdv hi 5898240) (bgn hi))).2 ++ [])
      rw [← (plI_c hhi).1, ptA_e (bgn_t hhi), bArc_all, List.append_nil]
  | cons p r =>
    rw [hcp] at hm
    cases bk with
    | false =>
      rw [← hm, drw_f, reck_cons hcp]
      rfl
    | true =>
      have hj : joint (p :: r) := by rw [← hcp]; exact cps_joint hfa hla (by omega)
      rw [aqs_rev hfa hla hl2 (by omega), ← hm, ← List.map_reverse, drw_t, ← pts_rev hj, reck_cons hcp, arcEnd, if_pos (by simp)]
      rfl
end ARC
