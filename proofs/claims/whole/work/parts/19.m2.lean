set_option maxHeartbeats 4000000 in
set_option maxRecDepth 100000 in
/-- curve -/
theorem c_M_curve (l : Launch) (D : va_G) (cI cB cJ : ClassId) (qQ : Nat) (hm : Nat) (a : Nat) (b : Nat) (qa : Nat) (qu : Nat) (qb : Nat) (qh : Nat) (qm : Nat) (qk : Nat) (qp : Nat) (n : Nat) (K : Nat → Int32) (P : Nat → Int32) (fu : Bool) (fa : Bool) (qk2 : Nat) (qp2 : Nat) (n2 : Nat) (K2 : Nat → Int32) (P2 : Nat → Int32) (fu2 : Bool) (fa2 : Bool) (x1 : Int32) (y1 : Int32) (x2 : Int32) (y2 : Int32) (x3 : Int32) (y3 : Int32) (hn : n ≤ 3000) (hk : ∀ i, i < n → kok (K i)) (h0 : 0 < n → K 0 = 0) : ct l D cl [(cI, .int), (cB, .byte), (cJ, .long)] (amb qQ) y_M_curve w_M_curve 4 99 (0) (0) [.ref hm, .int x1, .int y1, .int x2, .int y2, .int x3, .int y3] [(hm, .inr (1, [.ref a, .ref b, .ref qa, .ref qu, .ref qb, .ref qh, .ref qm])), (a, .inr (6, [.ref qk, .ref qp, .int (nI n), .int (bz fu), .int (bz fa)])), (qk, .inl (cB, 3000, .inl K)), (qp, .inl (cI, 18000, .inl P)), (b, .inr (6, [.ref qk2, .ref qp2, .int (nI n2), .int (bz fu2), .int (bz fa2)])), (qk2, .inl (cB, 3000, .inl K2)), (qp2, .inl (cI, 18000, .inl P2))] (fun u_ : Int32 × Nat × Nat × Nat × Nat × Nat × (Nat → Int32) × (Nat → Int32) × Bool × Bool × Nat × Nat × Nat × (Nat → Int32) × (Nat → Int32) × Bool × Bool => match u_ with | (r, a', b', qk', qp', n', K', P', fu', fa', qk2', qp2', n2', K2', P2', fu2', fa2') => n' ≤ 3000 ∧ (r, lst n' K' P') = rCurve (lst n K P) x1 y1 x2 y2 x3 y3) (fun u_ : Int32 × Nat × Nat × Nat × Nat × Nat × (Nat → Int32) × (Nat → Int32) × Bool × Bool × Nat × Nat × Nat × (Nat → Int32) × (Nat → Int32) × Bool × Bool => match u_ with | (r, a', b', qk', qp', n', K', P', fu', fa', qk2', qp2', n2', K2', P2', fu2', fa2') => some (.int r)) (fun u_ : Int32 × Nat × Nat × Nat × Nat × Nat × (Nat → Int32) × (Nat → Int32) × Bool × Bool × Nat × Nat × Nat × (Nat → Int32) × (Nat → Int32) × Bool × Bool => match u_ with | (r, a', b', qk', qp', n', K', P', fu', fa', qk2', qp2', n2', K2', P2', fu2', fa2') => [(hm, .inr (1, [.ref a', .ref b', .ref qa, .ref qu, .ref qb, .ref qh, .ref qm])), (a', .inr (6, [.ref qk', .ref qp', .int (nI n'), .int (bz fu'), .int (bz fa')])), (qk', .inl (cB, 3000, .inl K')), (qp', .inl (cI, 18000, .inl P')), (b', .inr (6, [.ref qk2', .ref qp2', .int (nI n2'), .int (bz fu2'), .int (bz fa2')])), (qk2', .inl (cB, 3000, .inl K2')), (qp2', .inl (cI, 18000, .inl P2'))]) := by
  refine ct_ofW (cc := b_M_curve) (maxL := 7) (ret := (some .int)) (by decide) rfl (Nat.le_of_ble_eq_true rfl) ?_
  intro p e R s m args below meth c A Q ls hx hb hr hml hts hown hlocks hname hRf hRc hRs hRl hQ hK hP hD hS hA hM hl
  have hl : lv_has ls 7 [(0, .ref hm), (1, .int x1), (2, .int y1), (3, .int x2), (4, .int y2), (5, .int x3), (6, .int y3)] := hl
  refine lv_aload_n hx hb d_M_curve_0 rfl (lv_at hl 0 rfl) ?_
  refine ct_callV (ci := 1) (q0 := 0) (As := []) (rest := []) (wr := [(b, .inr (6, [.ref qk2, .ref qp2, .int (nI n2), .int (bz fu2), .int (bz fa2)])), (qk2, .inl (cB, 3000, .inl K2)), (qp2, .inl (cI, 18000, .inl P2))]) (n := 0) (c_M_isPoint l D cI cB cJ qQ  hm a b qa qu qb qh qm qk qp n K P fu fa (hn)) hx hb hml hown hts (amb_ok qQ) hK hP hD hS hA hM (gi_V gw_581 gw_533 gw_534 gw_33 gw_535) rfl (by decide +kernel) ⟨by omega, by omega⟩ [0, 1, 2, 3] [4, 5, 6] rfl rfl rfl rfl (by decide) rfl rfl rfl hl.1 rfl (Nat.le_of_ble_eq_true rfl) d_M_curve_1 ⟨by omega, by omega⟩ (fun u_1 H locs hok hP hD hS => ?_)
  have hP : va_P D cl [(b, .inr (6, [.ref qk2, .ref qp2, .int (nI n2), .int (bz fu2), .int (bz fa2)])), (qk2, .inl (cB, 3000, .inl K2)), (qp2, .inl (cI, 18000, .inl P2)), (hm, .inr (1, [.ref a, .ref b, .ref qa, .ref qu, .ref qb, .ref qh, .ref qm])), (a, .inr (6, [.ref qk, .ref qp, .int (nI n), .int (bz fu), .int (bz fa)])), (qk, .inl (cB, 3000, .inl K)), (qp, .inl (cI, 18000, .inl P))] H := hP
  have hD : va_D A [(b, .inr (6, [.ref qk2, .ref qp2, .int (nI n2), .int (bz fu2), .int (bz fa2)])), (qk2, .inl (cB, 3000, .inl K2)), (qp2, .inl (cI, 18000, .inl P2)), (hm, .inr (1, [.ref a, .ref b, .ref qa, .ref qu, .ref qb, .ref qh, .ref qm])), (a, .inr (6, [.ref qk, .ref qp, .int (nI n), .int (bz fu), .int (bz fa)])), (qk, .inl (cB, 3000, .inl K)), (qp, .inl (cI, 18000, .inl P))] := hD
  refine W.eq (g2 := F0 m 4 ls [.int (bz (decide (0 < n)))]) rfl ?_
  refine bb_ne (tgt := 10) hx hb d_M_curve_4 (by decide) (fun c_2 => ?_) (fun c_2 => ?_)
  · skip
    have hz : ¬ (lst n K P).length = 0 := by rw [lst_len]; have := of_decide_eq_true c_2; omega
    refine lv_aload_n hx hb d_M_curve_10 rfl (lv_at hl 0 rfl) ?_
    refine va_get (D := D) (ci := 1) (v := .ref b) (C := R_M) (T := T_M) (N := 7) hx hb hts (ui_M _) hown hK hP 3 rfl rfl 1 (by decide) (hts _ (gwc gw_510)) (fun _ h9 => h9) rfl d_M_curve_11 ?_
    refine lv_aload_n hx hb d_M_curve_14 rfl (lv_at hl 0 rfl) ?_
    refine va_get (D := D) (ci := 1) (v := .ref a) (C := R_M) (T := T_M) (N := 7) hx hb hts (ui_M _) hown hK hP 3 rfl rfl 0 (by decide) (hts _ (gwc gw_509)) (fun _ h9 => h9) rfl d_M_curve_15 ?_
    refine ct_callV (ci := 6) (q0 := 0) (As := [.ref a]) (rest := []) (wr := [(hm, .inr (1, [.ref a, .ref b, .ref qa, .ref qu, .ref qb, .ref qh, .ref qm]))]) (n := 1) (c_MPath_copy l D cI cB cJ qQ  b qk2 qp2 n2 K2 P2 fu2 fa2 a qk qp n K P fu fa (hn) (hk)) hx hb hml hown hts (amb_ok qQ) hK hP hD hS hA hM (gi_V gw_548 gw_549 gw_550 gw_34 gw_551) rfl (by decide +kernel) ⟨by omega, by omega⟩ [0, 1, 2, 4, 5, 6] [3] rfl rfl rfl rfl (by decide) rfl rfl rfl hl.1 rfl (Nat.le_of_ble_eq_true rfl) d_M_curve_18 ⟨by omega, by omega⟩ (fun u_3 H locs hok hP hD hS => ?_)
    obtain ⟨K'_4, P'_5⟩ := u_3
    have hcp : lst n K'_4 P'_5 = lst n K P := hok
    have hP : va_P D cl [(hm, .inr (1, [.ref a, .ref b, .ref qa, .ref qu, .ref qb, .ref qh, .ref qm])), (b, .inr (6, [.ref qk2, .ref qp2, .int (nI n), .int (bz false), .int (bz false)])), (qk2, .inl (cB, 3000, .inl K'_4)), (qp2, .inl (cI, 18000, .inl P'_5)), (a, .inr (6, [.ref qk, .ref qp, .int (nI n), .int (bz fu), .int (bz fa)])), (qk, .inl (cB, 3000, .inl K)), (qp, .inl (cI, 18000, .inl P))] H := hP
    have hD : va_D A [(hm, .inr (1, [.ref a, .ref b, .ref qa, .ref qu, .ref qb, .ref qh, .ref qm])), (b, .inr (6, [.ref qk2, .ref qp2, .int (nI n), .int (bz false), .int (bz false)])), (qk2, .inl (cB, 3000, .inl K'_4)), (qp2, .inl (cI, 18000, .inl P'_5)), (a, .inr (6, [.ref qk, .ref qp, .int (nI n), .int (bz fu), .int (bz fa)])), (qk, .inl (cB, 3000, .inl K)), (qp, .inl (cI, 18000, .inl P))] := hD
    refine W.eq (g2 := F0 m 21 ls []) rfl ?_
    refine lv_aload_n hx hb d_M_curve_21 rfl (lv_at hl 0 rfl) ?_
    refine va_get (D := D) (ci := 1) (v := .ref b) (C := R_M) (T := T_M) (N := 7) hx hb hts (ui_M _) hown hK hP 0 rfl rfl 1 (by decide) (hts _ (gwc gw_510)) (fun _ h9 => h9) rfl d_M_curve_22 ?_
    refine ct_callV (ci := 6) (q0 := 1) (As := []) (rest := []) (wr := [(hm, .inr (1, [.ref a, .ref b, .ref qa, .ref qu, .ref qb, .ref qh, .ref qm])), (a, .inr (6, [.ref qk, .ref qp, .int (nI n), .int (bz fu), .int (bz fa)])), (qk, .inl (cB, 3000, .inl K)), (qp, .inl (cI, 18000, .inl P))]) (n := 0) (c_MPath_open l D cI cB cJ qQ  b qk2 qp2 n K'_4 P'_5 false false (hn)) hx hb hml hown hts (amb_ok qQ) hK hP hD hS hA hM (gi_V gw_582 gw_583 gw_584 gw_34 gw_585) rfl (by decide +kernel) ⟨by omega, by omega⟩ [1, 2, 3] [0, 4, 5, 6] rfl rfl rfl rfl (by decide) rfl rfl rfl hl.1 rfl (Nat.le_of_ble_eq_true rfl) d_M_curve_25 ⟨by omega, by omega⟩ (fun u_6 H locs hok hP hD hS => ?_)
    obtain ⟨n'_7, K'_8, P'_9, fu'_10, fa'_11⟩ := u_6
    have hop : n'_7 ≤ 3000 ∧ (lst n'_7 K'_8 P'_9, fu'_10, fa'_11) = openD (lst n K'_4 P'_5, false, false) := hok
    have hP : va_P D cl [(hm, .inr (1, [.ref a, .ref b, .ref qa, .ref qu, .ref qb, .ref qh, .ref qm])), (a, .inr (6, [.ref qk, .ref qp, .int (nI n), .int (bz fu), .int (bz fa)])), (qk, .inl (cB, 3000, .inl K)), (qp, .inl (cI, 18000, .inl P)), (b, .inr (6, [.ref qk2, .ref qp2, .int (nI n'_7), .int (bz fu'_10), .int (bz fa'_11)])), (qk2, .inl (cB, 3000, .inl K'_8)), (qp2, .inl (cI, 18000, .inl P'_9))] H := hP
    have hD : va_D A [(hm, .inr (1, [.ref a, .ref b, .ref qa, .ref qu, .ref qb, .ref qh, .ref qm])), (a, .inr (6, [.ref qk, .ref qp, .int (nI n), .int (bz fu), .int (bz fa)])), (qk, .inl (cB, 3000, .inl K)), (qp, .inl (cI, 18000, .inl P)), (b, .inr (6, [.ref qk2, .ref qp2, .int (nI n'_7), .int (bz fu'_10), .int (bz fa'_11)])), (qk2, .inl (cB, 3000, .inl K'_8)), (qp2, .inl (cI, 18000, .inl P'_9))] := hD
    refine W.eq (g2 := F0 m 28 ls []) rfl ?_
    rw [hcp] at hop
    refine lv_aload_n hx hb d_M_curve_28 rfl (lv_at hl 0 rfl) ?_
    refine va_get (D := D) (ci := 1) (v := .ref b) (C := R_M) (T := T_M) (N := 7) hx hb hts (ui_M _) hown hK hP 0 rfl rfl 1 (by decide) (hts _ (gwc gw_510)) (fun _ h9 => h9) rfl d_M_curve_29 ?_
    refine lv_iconst (v := 2) hx hb d_M_curve_32 (by decide) ?_
    refine lv_iload hx hb d_M_curve_33 (lv_at hl 5 rfl) ?_
    refine lv_i2l (v := x3.toInt64) hx hb d_M_curve_35 rfl ?_
    refine lv_iload hx hb d_M_curve_36 (lv_at hl 6 rfl) ?_
    refine lv_i2l (v := y3.toInt64) hx hb d_M_curve_38 rfl ?_
    refine lv_iload_n hx hb d_M_curve_39 rfl (lv_at hl 1 rfl) ?_
    refine lv_i2l (v := x1.toInt64) hx hb d_M_curve_40 rfl ?_
    refine lv_iload_n hx hb d_M_curve_41 rfl (lv_at hl 2 rfl) ?_
    refine lv_i2l (v := y1.toInt64) hx hb d_M_curve_42 rfl ?_
    refine lv_iload_n hx hb d_M_curve_43 rfl (lv_at hl 3 rfl) ?_
    refine lv_i2l (v := x2.toInt64) hx hb d_M_curve_44 rfl ?_
    refine lv_iload hx hb d_M_curve_45 (lv_at hl 4 rfl) ?_
    refine lv_i2l (v := y2.toInt64) hx hb d_M_curve_47 rfl ?_
    refine ct_callV (ci := 6) (q0 := 4) (As := [.int 2, .long x3.toInt64, .long y3.toInt64, .long x1.toInt64, .long y1.toInt64, .long x2.toInt64, .long y2.toInt64]) (rest := []) (wr := [(hm, .inr (1, [.ref a, .ref b, .ref qa, .ref qu, .ref qb, .ref qh, .ref qm])), (a, .inr (6, [.ref qk, .ref qp, .int (nI n), .int (bz fu), .int (bz fa)])), (qk, .inl (cB, 3000, .inl K)), (qp, .inl (cI, 18000, .inl P))]) (n := 7) (c_MPath_add l D cI cB cJ qQ  b qk2 qp2 n'_7 K'_8 P'_9 fu'_10 fa'_11 2 x3.toInt64 y3.toInt64 x1.toInt64 y1.toInt64 x2.toInt64 y2.toInt64 (hop.1) (kok2)) hx hb hml hown hts (amb_ok qQ) hK hP hD hS hA hM (gi_V gw_592 gw_565 gw_566 gw_34 gw_567) rfl (by decide +kernel) ⟨by omega, by omega⟩ [4, 5, 6] [0, 1, 2, 3] rfl rfl rfl rfl (by decide) rfl rfl rfl hl.1 rfl (Nat.le_of_ble_eq_true rfl) d_M_curve_48 ⟨by omega, by omega⟩ (fun u_12 H locs hok hP hD hS => ?_)
    obtain ⟨n'_13, K'_14, P'_15, fu'_16, fa'_17⟩ := u_12
    have hbg : n'_13 ≤ 3000 ∧ (lst n'_13 K'_14 P'_15, fu'_16, fa'_17) = addD (lst n'_7 K'_8 P'_9, fu'_10, fa'_11) 2 x3.toInt64 y3.toInt64 x1.toInt64 y1.toInt64 x2.toInt64 y2.toInt64 := hok
    have hP : va_P D cl [(hm, .inr (1, [.ref a, .ref b, .ref qa, .ref qu, .ref qb, .ref qh, .ref qm])), (a, .inr (6, [.ref qk, .ref qp, .int (nI n), .int (bz fu), .int (bz fa)])), (qk, .inl (cB, 3000, .inl K)), (qp, .inl (cI, 18000, .inl P)), (b, .inr (6, [.ref qk2, .ref qp2, .int (nI n'_13), .int (bz fu'_16), .int (bz fa'_17)])), (qk2, .inl (cB, 3000, .inl K'_14)), (qp2, .inl (cI, 18000, .inl P'_15))] H := hP
    have hD : va_D A [(hm, .inr (1, [.ref a, .ref b, .ref qa, .ref qu, .ref qb, .ref qh, .ref qm])), (a, .inr (6, [.ref qk, .ref qp, .int (nI n), .int (bz fu), .int (bz fa)])), (qk, .inl (cB, 3000, .inl K)), (qp, .inl (cI, 18000, .inl P)), (b, .inr (6, [.ref qk2, .ref qp2, .int (nI n'_13), .int (bz fu'_16), .int (bz fa'_17)])), (qk2, .inl (cB, 3000, .inl K'_14)), (qp2, .inl (cI, 18000, .inl P'_15))] := hD
    refine W.eq (g2 := F0 m 51 ls []) rfl ?_
    rw [hop.2] at hbg
    refine lv_aload_n hx hb d_M_curve_51 rfl (lv_at hl 0 rfl) ?_
    refine ct_callV (ci := 1) (q0 := 0) (As := []) (rest := []) (wr := []) (n := 0) (c_M_settle l D cI cB cJ qQ  hm a b qa qu qb qh qm qk qp n K P fu fa qk2 qp2 n'_13 K'_14 P'_15 fu'_16 fa'_17 ) hx hb hml hown hts (amb_ok qQ) hK hP hD hS hA hM (gi_V gw_573 gw_575 gw_18 gw_33 gw_576) rfl (by decide +kernel) ⟨by omega, by omega⟩ [0, 1, 2, 3, 4, 5, 6] [] rfl rfl rfl rfl (by decide) rfl rfl rfl hl.1 rfl (Nat.le_of_ble_eq_true rfl) d_M_curve_52 ⟨by omega, by omega⟩ (fun u_18 H locs hok hP hD hS => ?_)
    obtain ⟨r_19, a'_20, b'_21⟩ := u_18
    have hok_22 : ((fa'_17 = true) ∧ (-4) = r_19 ∧ a = a'_20 ∧ b = b'_21) ∨ ((fa'_17 = false) ∧ (fu'_16 = true) ∧ (-3) = r_19 ∧ a = a'_20 ∧ b = b'_21) ∨ ((fa'_17 = false) ∧ (fu'_16 = false) ∧ nI n'_13 = r_19 ∧ b = a'_20 ∧ a = b'_21) := hok
    rcases hok_22 with ⟨h_23, rfl, rfl, rfl⟩ | ⟨h_24, h_25, rfl, rfl, rfl⟩ | ⟨h_26, h_27, rfl, rfl, rfl⟩
    · skip
      have hP : va_P D cl [(hm, .inr (1, [.ref a, .ref b, .ref qa, .ref qu, .ref qb, .ref qh, .ref qm])), (a, .inr (6, [.ref qk, .ref qp, .int (nI n), .int (bz fu), .int (bz fa)])), (qk, .inl (cB, 3000, .inl K)), (qp, .inl (cI, 18000, .inl P)), (b, .inr (6, [.ref qk2, .ref qp2, .int (nI n'_13), .int (bz fu'_16), .int (bz fa'_17)])), (qk2, .inl (cB, 3000, .inl K'_14)), (qp2, .inl (cI, 18000, .inl P'_15))] H := hP
      have hD : va_D A [(hm, .inr (1, [.ref a, .ref b, .ref qa, .ref qu, .ref qb, .ref qh, .ref qm])), (a, .inr (6, [.ref qk, .ref qp, .int (nI n), .int (bz fu), .int (bz fa)])), (qk, .inl (cB, 3000, .inl K)), (qp, .inl (cI, 18000, .inl P)), (b, .inr (6, [.ref qk2, .ref qp2, .int (nI n'_13), .int (bz fu'_16), .int (bz fa'_17)])), (qk2, .inl (cB, 3000, .inl K'_14)), (qp2, .inl (cI, 18000, .inl P'_15))] := hD
      refine W.eq (g2 := F0 m 55 ls [.int (-4)]) rfl ?_
      exact ct_reti hQ hx hb hr hlocks hP hD hS ((-4), a, b, qk, qp, n, K, P, fu, fa, qk2, qp2, n'_13, K'_14, P'_15, fu'_16, fa'_17) [(hm, .inr (1, [.ref a, .ref b, .ref qa, .ref qu, .ref qb, .ref qh, .ref qm])), (a, .inr (6, [.ref qk, .ref qp, .int (nI n), .int (bz fu), .int (bz fa)])), (qk, .inl (cB, 3000, .inl K)), (qp, .inl (cI, 18000, .inl P)), (b, .inr (6, [.ref qk2, .ref qp2, .int (nI n'_13), .int (bz fu'_16), .int (bz fa'_17)])), (qk2, .inl (cB, 3000, .inl K'_14)), (qp2, .inl (cI, 18000, .inl P'_15))] [0, 1, 2, 3, 4, 5, 6] (rfl) (⟨hn, by unfold rCurve; rw [if_neg hz, setl_far hbg.2 h_23]⟩) (rfl) rfl rfl (by omega) (by omega) d_M_curve_55
    · skip
      have hP : va_P D cl [(hm, .inr (1, [.ref a, .ref b, .ref qa, .ref qu, .ref qb, .ref qh, .ref qm])), (a, .inr (6, [.ref qk, .ref qp, .int (nI n), .int (bz fu), .int (bz fa)])), (qk, .inl (cB, 3000, .inl K)), (qp, .inl (cI, 18000, .inl P)), (b, .inr (6, [.ref qk2, .ref qp2, .int (nI n'_13), .int (bz fu'_16), .int (bz fa'_17)])), (qk2, .inl (cB, 3000, .inl K'_14)), (qp2, .inl (cI, 18000, .inl P'_15))] H := hP
      have hD : va_D A [(hm, .inr (1, [.ref a, .ref b, .ref qa, .ref qu, .ref qb, .ref qh, .ref qm])), (a, .inr (6, [.ref qk, .ref qp, .int (nI n), .int (bz fu), .int (bz fa)])), (qk, .inl (cB, 3000, .inl K)), (qp, .inl (cI, 18000, .inl P)), (b, .inr (6, [.ref qk2, .ref qp2, .int (nI n'_13), .int (bz fu'_16), .int (bz fa'_17)])), (qk2, .inl (cB, 3000, .inl K'_14)), (qp2, .inl (cI, 18000, .inl P'_15))] := hD
      refine W.eq (g2 := F0 m 55 ls [.int (-3)]) rfl ?_
      exact ct_reti hQ hx hb hr hlocks hP hD hS ((-3), a, b, qk, qp, n, K, P, fu, fa, qk2, qp2, n'_13, K'_14, P'_15, fu'_16, fa'_17) [(hm, .inr (1, [.ref a, .ref b, .ref qa, .ref qu, .ref qb, .ref qh, .ref qm])), (a, .inr (6, [.ref qk, .ref qp, .int (nI n), .int (bz fu), .int (bz fa)])), (qk, .inl (cB, 3000, .inl K)), (qp, .inl (cI, 18000, .inl P)), (b, .inr (6, [.ref qk2, .ref qp2, .int (nI n'_13), .int (bz fu'_16), .int (bz fa'_17)])), (qk2, .inl (cB, 3000, .inl K'_14)), (qp2, .inl (cI, 18000, .inl P'_15))] [0, 1, 2, 3, 4, 5, 6] (rfl) (⟨hn, by unfold rCurve; rw [if_neg hz, setl_full hbg.2 h_24 h_25]⟩) (rfl) rfl rfl (by omega) (by omega) d_M_curve_55
    · skip
      have hP : va_P D cl [(hm, .inr (1, [.ref b, .ref a, .ref qa, .ref qu, .ref qb, .ref qh, .ref qm])), (a, .inr (6, [.ref qk, .ref qp, .int (nI n), .int (bz fu), .int (bz fa)])), (qk, .inl (cB, 3000, .inl K)), (qp, .inl (cI, 18000, .inl P)), (b, .inr (6, [.ref qk2, .ref qp2, .int (nI n'_13), .int (bz fu'_16), .int (bz fa'_17)])), (qk2, .inl (cB, 3000, .inl K'_14)), (qp2, .inl (cI, 18000, .inl P'_15))] H := hP
      have hD : va_D A [(hm, .inr (1, [.ref b, .ref a, .ref qa, .ref qu, .ref qb, .ref qh, .ref qm])), (a, .inr (6, [.ref qk, .ref qp, .int (nI n), .int (bz fu), .int (bz fa)])), (qk, .inl (cB, 3000, .inl K)), (qp, .inl (cI, 18000, .inl P)), (b, .inr (6, [.ref qk2, .ref qp2, .int (nI n'_13), .int (bz fu'_16), .int (bz fa'_17)])), (qk2, .inl (cB, 3000, .inl K'_14)), (qp2, .inl (cI, 18000, .inl P'_15))] := hD
      refine W.eq (g2 := F0 m 55 ls [.int (nI n'_13)]) rfl ?_
      exact ct_reti hQ hx hb hr hlocks hP hD hS ((nI n'_13), b, a, qk2, qp2, n'_13, K'_14, P'_15, fu'_16, fa'_17, qk, qp, n, K, P, fu, fa) [(hm, .inr (1, [.ref b, .ref a, .ref qa, .ref qu, .ref qb, .ref qh, .ref qm])), (b, .inr (6, [.ref qk2, .ref qp2, .int (nI n'_13), .int (bz fu'_16), .int (bz fa'_17)])), (qk2, .inl (cB, 3000, .inl K'_14)), (qp2, .inl (cI, 18000, .inl P'_15)), (a, .inr (6, [.ref qk, .ref qp, .int (nI n), .int (bz fu), .int (bz fa)])), (qk, .inl (cB, 3000, .inl K)), (qp, .inl (cI, 18000, .inl P))] [0, 4, 5, 6, 1, 2, 3] (rfl) (⟨hbg.1, by unfold rCurve; rw [if_neg hz, setl_ok hbg.2 h_26 h_27, lst_len]⟩) (rfl) rfl rfl (by omega) (by omega) d_M_curve_55
  · skip
    refine lv_bipush (v := (-2)) hx hb d_M_curve_7 (by decide) ?_
    exact ct_reti hQ hx hb hr hlocks hP hD hS ((-2), a, b, qk, qp, n, K, P, fu, fa, qk2, qp2, n2, K2, P2, fu2, fa2) [(hm, .inr (1, [.ref a, .ref b, .ref qa, .ref qu, .ref qb, .ref qh, .ref qm])), (a, .inr (6, [.ref qk, .ref qp, .int (nI n), .int (bz fu), .int (bz fa)])), (qk, .inl (cB, 3000, .inl K)), (qp, .inl (cI, 18000, .inl P)), (b, .inr (6, [.ref qk2, .ref qp2, .int (nI n2), .int (bz fu2), .int (bz fa2)])), (qk2, .inl (cB, 3000, .inl K2)), (qp2, .inl (cI, 18000, .inl P2))] [3, 4, 5, 6, 0, 1, 2] (rfl) (⟨hn, by unfold rCurve; rw [if_pos (by rw [lst_len]; have := of_decide_eq_false c_2; omega)]⟩) (rfl) rfl rfl (by omega) (by omega) d_M_curve_9
set_option maxHeartbeats 4000000 in
set_option maxRecDepth 100000 in
/-- close -/
theorem c_M_close (l : Launch) (D : va_G) (cI cB cJ : ClassId) (qQ : Nat) (hm : Nat) (a : Nat) (b : Nat) (qa : Nat) (qu : Nat) (qb : Nat) (qh : Nat) (qm : Nat) (qk : Nat) (qp : Nat) (n : Nat) (K : Nat → Int32) (P : Nat → Int32) (fu : Bool) (fa : Bool) (qk2 : Nat) (qp2 : Nat) (n2 : Nat) (K2 : Nat → Int32) (P2 : Nat → Int32) (fu2 : Bool) (fa2 : Bool) (hn : n ≤ 3000) (hk : ∀ i, i < n → kok (K i)) (h0 : 0 < n → K 0 = 0) : ct l D cl [(cI, .int), (cB, .byte), (cJ, .long)] (amb qQ) y_M_close w_M_close 3 79 (0) (0) [.ref hm] [(hm, .inr (1, [.ref a, .ref b, .ref qa, .ref qu, .ref qb, .ref qh, .ref qm])), (a, .inr (6, [.ref qk, .ref qp, .int (nI n), .int (bz fu), .int (bz fa)])), (qk, .inl (cB, 3000, .inl K)), (qp, .inl (cI, 18000, .inl P)), (b, .inr (6, [.ref qk2, .ref qp2, .int (nI n2), .int (bz fu2), .int (bz fa2)])), (qk2, .inl (cB, 3000, .inl K2)), (qp2, .inl (cI, 18000, .inl P2))] (fun u_ : Int32 × Nat × Nat × Nat × Nat × Nat × (Nat → Int32) × (Nat → Int32) × Bool × Bool × Nat × Nat × Nat × (Nat → Int32) × (Nat → Int32) × Bool × Bool => match u_ with | (r, a', b', qk', qp', n', K', P', fu', fa', qk2', qp2', n2', K2', P2', fu2', fa2') => n' ≤ 3000 ∧ (r, lst n' K' P') = rClose (lst n K P)) (fun u_ : Int32 × Nat × Nat × Nat × Nat × Nat × (Nat → Int32) × (Nat → Int32) × Bool × Bool × Nat × Nat × Nat × (Nat → Int32) × (Nat → Int32) × Bool × Bool => match u_ with | (r, a', b', qk', qp', n', K', P', fu', fa', qk2', qp2', n2', K2', P2', fu2', fa2') => some (.int r)) (fun u_ : Int32 × Nat × Nat × Nat × Nat × Nat × (Nat → Int32) × (Nat → Int32) × Bool × Bool × Nat × Nat × Nat × (Nat → Int32) × (Nat → Int32) × Bool × Bool => match u_ with | (r, a', b', qk', qp', n', K', P', fu', fa', qk2', qp2', n2', K2', P2', fu2', fa2') => [(hm, .inr (1, [.ref a', .ref b', .ref qa, .ref qu, .ref qb, .ref qh, .ref qm])), (a', .inr (6, [.ref qk', .ref qp', .int (nI n'), .int (bz fu'), .int (bz fa')])), (qk', .inl (cB, 3000, .inl K')), (qp', .inl (cI, 18000, .inl P')), (b', .inr (6, [.ref qk2', .ref qp2', .int (nI n2'), .int (bz fu2'), .int (bz fa2')])), (qk2', .inl (cB, 3000, .inl K2')), (qp2', .inl (cI, 18000, .inl P2'))]) := by
  refine ct_ofW (cc := b_M_close) (maxL := 2) (ret := (some .int)) (by decide) rfl (Nat.le_of_ble_eq_true rfl) ?_
  intro p e R s m args below meth c A Q ls hx hb hr hml hts hown hlocks hname hRf hRc hRs hRl hQ hK hP hD hS hA hM hl
  have hl : lv_has ls 2 [(0, .ref hm)] := hl
  refine lv_aload_n hx hb d_M_close_0 rfl (lv_at hl 0 rfl) ?_
  refine va_get (D := D) (ci := 1) (v := .ref a) (C := R_M) (T := T_M) (N := 7) hx hb hts (ui_M _) hown hK hP 0 rfl rfl 0 (by decide) (hts _ (gwc gw_509)) (fun _ h9 => h9) rfl d_M_close_1 ?_
  refine va_getN (D := D) (ci := 6) (v := .int (nI n)) (C := R_MPath) (T := T_MPath) (N := 5) hx hb hts (ui_MPath _) hown hK hP 1 rfl rfl 2 (by decide) ((amb_nw_10 hM).use rfl) (fun _ h9 => h9) rfl d_M_close_4 ?_
  refine bz_eq (a1 := n) (tgt := 31) hx hb (by omega) d_M_close_7 (by decide) (fun c_1 => ?_) (fun c_1 => ?_)
  · skip
    refine lv_aload_n hx hb d_M_close_31 rfl (lv_at hl 0 rfl) ?_
    refine va_get (D := D) (ci := 1) (v := .ref a) (C := R_M) (T := T_M) (N := 7) hx hb hts (ui_M _) hown hK hP 0 rfl rfl 0 (by decide) (hts _ (gwc gw_509)) (fun _ h9 => h9) rfl d_M_close_32 ?_
    refine va_getN (D := D) (ci := 6) (v := .int (nI n)) (C := R_MPath) (T := T_MPath) (N := 5) hx hb hts (ui_MPath _) hown hK hP 1 rfl rfl 2 (by decide) ((amb_nw_10 hM).use rfl) (fun _ h9 => h9) rfl d_M_close_35 ?_
    exact ct_reti hQ hx hb hr hlocks hP hD hS (nI n, a, b, qk, qp, n, K, P, fu, fa, qk2, qp2, n2, K2, P2, fu2, fa2) [(hm, .inr (1, [.ref a, .ref b, .ref qa, .ref qu, .ref qb, .ref qh, .ref qm])), (a, .inr (6, [.ref qk, .ref qp, .int (nI n), .int (bz fu), .int (bz fa)])), (qk, .inl (cB, 3000, .inl K)), (qp, .inl (cI, 18000, .inl P)), (b, .inr (6, [.ref qk2, .ref qp2, .int (nI n2), .int (bz fu2), .int (bz fa2)])), (qk2, .inl (cB, 3000, .inl K2)), (qp2, .inl (cI, 18000, .inl P2))] [0, 1, 2, 3, 4, 5, 6] (rfl) (⟨hn, by unfold rClose; rw [if_pos (Or.inl (by rw [lst_len]; exact c_1)), lst_len]⟩) (rfl) rfl rfl (by omega) (by omega) d_M_close_38
  · skip
    refine lv_aload_n hx hb d_M_close_10 rfl (lv_at hl 0 rfl) ?_
    refine va_get (D := D) (ci := 1) (v := .ref a) (C := R_M) (T := T_M) (N := 7) hx hb hts (ui_M _) hown hK hP 0 rfl rfl 0 (by decide) (hts _ (gwc gw_509)) (fun _ h9 => h9) rfl d_M_close_11 ?_
    refine va_getN (D := D) (ci := 6) (v := .ref qk) (C := R_MPath) (T := T_MPath) (N := 5) hx hb hts (ui_MPath _) hown hK hP 1 rfl rfl 0 (by decide) ((amb_nw_9 hM).use rfl) (fun _ h9 => h9) rfl d_M_close_14 ?_
    refine lv_aload_n hx hb d_M_close_17 rfl (lv_at hl 0 rfl) ?_
    refine va_get (D := D) (ci := 1) (v := .ref a) (C := R_M) (T := T_M) (N := 7) hx hb hts (ui_M _) hown hK hP 0 rfl rfl 0 (by decide) (hts _ (gwc gw_509)) (fun _ h9 => h9) rfl d_M_close_18 ?_
    refine va_getN (D := D) (ci := 6) (v := .int (nI n)) (C := R_MPath) (T := T_MPath) (N := 5) hx hb hts (ui_MPath _) hown hK hP 1 rfl rfl 2 (by decide) ((amb_nw_10 hM).use rfl) (fun _ h9 => h9) rfl d_M_close_21 ?_
    refine lv_iconst (v := 1) hx hb d_M_close_24 (by decide) ?_
    refine lv_isub hx hb d_M_close_25 ?_
    refine tp_i (nI (n - 1)) (pk_sub (a := n) (b := 1) (by omega)) ?_
    refine ld_b hx hb hK hP 2 1 rfl rfl (n - 1) (by omega) (by omega) d_M_close_26 ?_
    refine lv_iconst (v := 3) hx hb d_M_close_27 (by decide) ?_
    refine lv_icmp_ne (tgt := 39) hx hb d_M_close_28 (by decide) (fun c_2 => ?_) (fun c_2 => ?_)
    · skip
      have hz : ¬ ((lst n K P).length = 0 ∨ lk (lst n K P) = 3) := by
        rw [lst_len, lk_n c_1]
        rintro (q | q)
        · omega
        · exact c_2 q
      refine lv_aload_n hx hb d_M_close_39 rfl (lv_at hl 0 rfl) ?_
      refine va_get (D := D) (ci := 1) (v := .ref b) (C := R_M) (T := T_M) (N := 7) hx hb hts (ui_M _) hown hK hP 0 rfl rfl 1 (by decide) (hts _ (gwc gw_510)) (fun _ h9 => h9) rfl d_M_close_40 ?_
      refine lv_aload_n hx hb d_M_close_43 rfl (lv_at hl 0 rfl) ?_
      refine va_get (D := D) (ci := 1) (v := .ref a) (C := R_M) (T := T_M) (N := 7) hx hb hts (ui_M _) hown hK hP 0 rfl rfl 0 (by decide) (hts _ (gwc gw_509)) (fun _ h9 => h9) rfl d_M_close_44 ?_
      refine ct_callV (ci := 6) (q0 := 4) (As := [.ref a]) (rest := []) (wr := [(hm, .inr (1, [.ref a, .ref b, .ref qa, .ref qu, .ref qb, .ref qh, .ref qm]))]) (n := 1) (c_MPath_copy l D cI cB cJ qQ  b qk2 qp2 n2 K2 P2 fu2 fa2 a qk qp n K P fu fa (hn) (hk)) hx hb hml hown hts (amb_ok qQ) hK hP hD hS hA hM (gi_V gw_548 gw_549 gw_550 gw_34 gw_551) rfl (by decide +kernel) ⟨by omega, by omega⟩ [4, 5, 6, 1, 2, 3] [0] rfl rfl rfl rfl (by decide) rfl rfl rfl hl.1 rfl (Nat.le_of_ble_eq_true rfl) d_M_close_47 ⟨by omega, by omega⟩ (fun u_3 H locs hok hP hD hS => ?_)
      obtain ⟨K'_4, P'_5⟩ := u_3
      have hcp : lst n K'_4 P'_5 = lst n K P := hok
      have hP : va_P D cl [(hm, .inr (1, [.ref a, .ref b, .ref qa, .ref qu, .ref qb, .ref qh, .ref qm])), (b, .inr (6, [.ref qk2, .ref qp2, .int (nI n), .int (bz false), .int (bz false)])), (qk2, .inl (cB, 3000, .inl K'_4)), (qp2, .inl (cI, 18000, .inl P'_5)), (a, .inr (6, [.ref qk, .ref qp, .int (nI n), .int (bz fu), .int (bz fa)])), (qk, .inl (cB, 3000, .inl K)), (qp, .inl (cI, 18000, .inl P))] H := hP
      have hD : va_D A [(hm, .inr (1, [.ref a, .ref b, .ref qa, .ref qu, .ref qb, .ref qh, .ref qm])), (b, .inr (6, [.ref qk2, .ref qp2, .int (nI n), .int (bz false), .int (bz false)])), (qk2, .inl (cB, 3000, .inl K'_4)), (qp2, .inl (cI, 18000, .inl P'_5)), (a, .inr (6, [.ref qk, .ref qp, .int (nI n), .int (bz fu), .int (bz fa)])), (qk, .inl (cB, 3000, .inl K)), (qp, .inl (cI, 18000, .inl P))] := hD
      refine W.eq (g2 := F0 m 50 ls []) rfl ?_
      refine lv_aload_n hx hb d_M_close_50 rfl (lv_at hl 0 rfl) ?_
      refine va_get (D := D) (ci := 1) (v := .ref a) (C := R_M) (T := T_M) (N := 7) hx hb hts (ui_M _) hown hK hP 0 rfl rfl 0 (by decide) (hts _ (gwc gw_509)) (fun _ h9 => h9) rfl d_M_close_51 ?_
      refine lv_aload_n hx hb d_M_close_54 rfl (lv_at hl 0 rfl) ?_
      refine va_get (D := D) (ci := 1) (v := .ref a) (C := R_M) (T := T_M) (N := 7) hx hb hts (ui_M _) hown hK hP 0 rfl rfl 0 (by decide) (hts _ (gwc gw_509)) (fun _ h9 => h9) rfl d_M_close_55 ?_
      refine va_getN (D := D) (ci := 6) (v := .int (nI n)) (C := R_MPath) (T := T_MPath) (N := 5) hx hb hts (ui_MPath _) hown hK hP 4 rfl rfl 2 (by decide) ((amb_nw_10 hM).use rfl) (fun _ h9 => h9) rfl d_M_close_58 ?_
      refine lv_iconst (v := 1) hx hb d_M_close_61 (by decide) ?_
      refine lv_isub hx hb d_M_close_62 ?_
      refine tp_i (nI (n - 1)) (pk_sub (a := n) (b := 1) (by omega)) ?_
      refine ct_callV (ci := 6) (q0 := 4) (As := [.int (nI (n - 1))]) (rest := []) (wr := [(hm, .inr (1, [.ref a, .ref b, .ref qa, .ref qu, .ref qb, .ref qh, .ref qm])), (b, .inr (6, [.ref qk2, .ref qp2, .int (nI n), .int (bz false), .int (bz false)])), (qk2, .inl (cB, 3000, .inl K'_4)), (qp2, .inl (cI, 18000, .inl P'_5))]) (n := 1) (c_MPath_first l D cI cB cJ qQ  a qk qp n K P fu fa (n - 1) (by omega) (h0 (by omega))) hx hb hml hown hts (amb_ok qQ) hK hP hD hS hA hM (gi_V gw_597 gw_598 gw_599 gw_34 gw_600) rfl (by decide +kernel) ⟨by omega, by omega⟩ [4, 5, 6] [0, 1, 2, 3] rfl rfl rfl rfl (by decide) rfl rfl rfl hl.1 rfl (Nat.le_of_ble_eq_true rfl) d_M_close_63 ⟨by omega, by omega⟩ (fun u_6 H locs hok hP hD hS => ?_)
      obtain ⟨r_7, er_7⟩ : ∃ z, z = u_6 := ⟨_, rfl⟩
      subst er_7
      have hfi : r_7 ≤ (n - 1) ∧ K r_7 = 0 ∧ ∀ j, r_7 < j → j ≤ (n - 1) → ¬ K j = 0 := hok
      have hP : va_P D cl [(hm, .inr (1, [.ref a, .ref b, .ref qa, .ref qu, .ref qb, .ref qh, .ref qm])), (b, .inr (6, [.ref qk2, .ref qp2, .int (nI n), .int (bz false), .int (bz false)])), (qk2, .inl (cB, 3000, .inl K'_4)), (qp2, .inl (cI, 18000, .inl P'_5)), (a, .inr (6, [.ref qk, .ref qp, .int (nI n), .int (bz fu), .int (bz fa)])), (qk, .inl (cB, 3000, .inl K)), (qp, .inl (cI, 18000, .inl P))] H := hP
      have hD : va_D A [(hm, .inr (1, [.ref a, .ref b, .ref qa, .ref qu, .ref qb, .ref qh, .ref qm])), (b, .inr (6, [.ref qk2, .ref qp2, .int (nI n), .int (bz false), .int (bz false)])), (qk2, .inl (cB, 3000, .inl K'_4)), (qp2, .inl (cI, 18000, .inl P'_5)), (a, .inr (6, [.ref qk, .ref qp, .int (nI n), .int (bz fu), .int (bz fa)])), (qk, .inl (cB, 3000, .inl K)), (qp, .inl (cI, 18000, .inl P))] := hD
      refine W.eq (g2 := F0 m 66 ls [.int (nI r_7)]) rfl ?_
      have hlb := lb_n (P := P) (show _ < n by omega) hfi.2.1 (fun j h1 h2 => hfi.2.2 j h1 (by omega))
      have hq0 : P (6 * r_7 + 0) = (lb (lst n K P)).2.1 := by rw [hlb]; rfl
      have hq1 : P (6 * r_7 + 1) = (lb (lst n K P)).2.2.1 := by rw [hlb]; rfl
      refine lv_istore_n (lv' := [(1, .int (nI r_7)), (0, .ref hm)]) hx hb d_M_close_66 rfl hl (by decide) rfl (fun ls hl => ?_)
      refine lv_aload_n hx hb d_M_close_67 rfl (lv_at hl 1 rfl) ?_
      refine va_get (D := D) (ci := 1) (v := .ref b) (C := R_M) (T := T_M) (N := 7) hx hb hts (ui_M _) hown hK hP 0 rfl rfl 1 (by decide) (hts _ (gwc gw_510)) (fun _ h9 => h9) rfl d_M_close_68 ?_
      refine lv_iconst (v := 3) hx hb d_M_close_71 (by decide) ?_
      refine lv_aload_n hx hb d_M_close_72 rfl (lv_at hl 1 rfl) ?_
      refine va_get (D := D) (ci := 1) (v := .ref a) (C := R_M) (T := T_M) (N := 7) hx hb hts (ui_M _) hown hK hP 0 rfl rfl 0 (by decide) (hts _ (gwc gw_509)) (fun _ h9 => h9) rfl d_M_close_73 ?_
      refine lv_iload_n hx hb d_M_close_76 rfl (lv_at hl 0 rfl) ?_
      refine lv_iconst (v := 0) hx hb d_M_close_77 (by decide) ?_
      refine ct_callV (ci := 6) (q0 := 4) (As := [.int (nI r_7), .int 0]) (rest := [.int 3, .ref b]) (wr := [(hm, .inr (1, [.ref a, .ref b, .ref qa, .ref qu, .ref qb, .ref qh, .ref qm])), (b, .inr (6, [.ref qk2, .ref qp2, .int (nI n), .int (bz false), .int (bz false)])), (qk2, .inl (cB, 3000, .inl K'_4)), (qp2, .inl (cI, 18000, .inl P'_5))]) (n := 2) (c_MPath_get l D cI cB cJ qQ  a qk qp n K P fu fa r_7 0 (by omega) (by omega)) hx hb hml hown hts (amb_ok qQ) hK hP hD hS hA hM (gi_V gw_540 gw_541 gw_542 gw_34 gw_543) rfl (by decide +kernel) ⟨by omega, by omega⟩ [4, 5, 6] [0, 1, 2, 3] rfl rfl rfl rfl (by decide) rfl rfl rfl hl.1 rfl (Nat.le_of_ble_eq_true rfl) d_M_close_78 ⟨by omega, by omega⟩ (fun u_8 H locs hok hP hD hS => ?_)
      have hP : va_P D cl [(hm, .inr (1, [.ref a, .ref b, .ref qa, .ref qu, .ref qb, .ref qh, .ref qm])), (b, .inr (6, [.ref qk2, .ref qp2, .int (nI n), .int (bz false), .int (bz false)])), (qk2, .inl (cB, 3000, .inl K'_4)), (qp2, .inl (cI, 18000, .inl P'_5)), (a, .inr (6, [.ref qk, .ref qp, .int (nI n), .int (bz fu), .int (bz fa)])), (qk, .inl (cB, 3000, .inl K)), (qp, .inl (cI, 18000, .inl P))] H := hP
      have hD : va_D A [(hm, .inr (1, [.ref a, .ref b, .ref qa, .ref qu, .ref qb, .ref qh, .ref qm])), (b, .inr (6, [.ref qk2, .ref qp2, .int (nI n), .int (bz false), .int (bz false)])), (qk2, .inl (cB, 3000, .inl K'_4)), (qp2, .inl (cI, 18000, .inl P'_5)), (a, .inr (6, [.ref qk, .ref qp, .int (nI n), .int (bz fu), .int (bz fa)])), (qk, .inl (cB, 3000, .inl K)), (qp, .inl (cI, 18000, .inl P))] := hD
      refine W.eq (g2 := F0 m 81 ls [.int (P (6 * r_7 + 0)), .int 3, .ref b]) rfl ?_
      refine lv_i2l (v := (P (6 * r_7 + 0)).toInt64) hx hb d_M_close_81 rfl ?_
      refine lv_aload_n hx hb d_M_close_82 rfl (lv_at hl 1 rfl) ?_
      refine va_get (D := D) (ci := 1) (v := .ref a) (C := R_M) (T := T_M) (N := 7) hx hb hts (ui_M _) hown hK hP 0 rfl rfl 0 (by decide) (hts _ (gwc gw_509)) (fun _ h9 => h9) rfl d_M_close_83 ?_
      refine lv_iload_n hx hb d_M_close_86 rfl (lv_at hl 0 rfl) ?_
      refine lv_iconst (v := 1) hx hb d_M_close_87 (by decide) ?_
      refine ct_callV (ci := 6) (q0 := 4) (As := [.int (nI r_7), .int 1]) (rest := [.long ((P (6 * r_7 + 0)).toInt64), .int 3, .ref b]) (wr := [(hm, .inr (1, [.ref a, .ref b, .ref qa, .ref qu, .ref qb, .ref qh, .ref qm])), (b, .inr (6, [.ref qk2, .ref qp2, .int (nI n), .int (bz false), .int (bz false)])), (qk2, .inl (cB, 3000, .inl K'_4)), (qp2, .inl (cI, 18000, .inl P'_5))]) (n := 2) (c_MPath_get l D cI cB cJ qQ  a qk qp n K P fu fa r_7 1 (by omega) (by omega)) hx hb hml hown hts (amb_ok qQ) hK hP hD hS hA hM (gi_V gw_540 gw_541 gw_542 gw_34 gw_543) rfl (by decide +kernel) ⟨by omega, by omega⟩ [4, 5, 6] [0, 1, 2, 3] rfl rfl rfl rfl (by decide) rfl rfl rfl hl.1 rfl (Nat.le_of_ble_eq_true rfl) d_M_close_88 ⟨by omega, by omega⟩ (fun u_9 H locs hok hP hD hS => ?_)
      have hP : va_P D cl [(hm, .inr (1, [.ref a, .ref b, .ref qa, .ref qu, .ref qb, .ref qh, .ref qm])), (b, .inr (6, [.ref qk2, .ref qp2, .int (nI n), .int (bz false), .int (bz false)])), (qk2, .inl (cB, 3000, .inl K'_4)), (qp2, .inl (cI, 18000, .inl P'_5)), (a, .inr (6, [.ref qk, .ref qp, .int (nI n), .int (bz fu), .int (bz fa)])), (qk, .inl (cB, 3000, .inl K)), (qp, .inl (cI, 18000, .inl P))] H := hP
      have hD : va_D A [(hm, .inr (1, [.ref a, .ref b, .ref qa, .ref qu, .ref qb, .ref qh, .ref qm])), (b, .inr (6, [.ref qk2, .ref qp2, .int (nI n), .int (bz false), .int (bz false)])), (qk2, .inl (cB, 3000, .inl K'_4)), (qp2, .inl (cI, 18000, .inl P'_5)), (a, .inr (6, [.ref qk, .ref qp, .int (nI n), .int (bz fu), .int (bz fa)])), (qk, .inl (cB, 3000, .inl K)), (qp, .inl (cI, 18000, .inl P))] := hD
      refine W.eq (g2 := F0 m 91 ls [.int (P (6 * r_7 + 1)), .long ((P (6 * r_7 + 0)).toInt64), .int 3, .ref b]) rfl ?_
      refine lv_i2l (v := (P (6 * r_7 + 1)).toInt64) hx hb d_M_close_91 rfl ?_
      refine ct_callV (ci := 6) (q0 := 1) (As := [.int 3, .long ((P (6 * r_7 + 0)).toInt64), .long ((P (6 * r_7 + 1)).toInt64)]) (rest := []) (wr := [(hm, .inr (1, [.ref a, .ref b, .ref qa, .ref qu, .ref qb, .ref qh, .ref qm])), (a, .inr (6, [.ref qk, .ref qp, .int (nI n), .int (bz fu), .int (bz fa)])), (qk, .inl (cB, 3000, .inl K)), (qp, .inl (cI, 18000, .inl P))]) (n := 3) (c_MPath_addPoint l D cI cB cJ qQ  b qk2 qp2 n K'_4 P'_5 false false 3 ((P (6 * r_7 + 0)).toInt64) ((P (6 * r_7 + 1)).toInt64) (hn) (kok3)) hx hb hml hown hts (amb_ok qQ) hK hP hD hS hA hM (gi_V gw_587 gw_561 gw_562 gw_34 gw_563) rfl (by decide +kernel) ⟨by omega, by omega⟩ [1, 2, 3] [0, 4, 5, 6] rfl rfl rfl rfl (by decide) rfl rfl rfl hl.1 rfl (Nat.le_of_ble_eq_true rfl) d_M_close_92 ⟨by omega, by omega⟩ (fun u_10 H locs hok hP hD hS => ?_)
      obtain ⟨n'_11, K'_12, P'_13, fu'_14, fa'_15⟩ := u_10
      have hbg : n'_11 ≤ 3000 ∧ (lst n'_11 K'_12 P'_13, fu'_14, fa'_15) = addD (lst n K'_4 P'_5, false, false) 3 ((P (6 * r_7 + 0)).toInt64) ((P (6 * r_7 + 1)).toInt64) 0 0 0 0 := hok
      have hP : va_P D cl [(hm, .inr (1, [.ref a, .ref b, .ref qa, .ref qu, .ref qb, .ref qh, .ref qm])), (a, .inr (6, [.ref qk, .ref qp, .int (nI n), .int (bz fu), .int (bz fa)])), (qk, .inl (cB, 3000, .inl K)), (qp, .inl (cI, 18000, .inl P)), (b, .inr (6, [.ref qk2, .ref qp2, .int (nI n'_11), .int (bz fu'_14), .int (bz fa'_15)])), (qk2, .inl (cB, 3000, .inl K'_12)), (qp2, .inl (cI, 18000, .inl P'_13))] H := hP
      have hD : va_D A [(hm, .inr (1, [.ref a, .ref b, .ref qa, .ref qu, .ref qb, .ref qh, .ref qm])), (a, .inr (6, [.ref qk, .ref qp, .int (nI n), .int (bz fu), .int (bz fa)])), (qk, .inl (cB, 3000, .inl K)), (qp, .inl (cI, 18000, .inl P)), (b, .inr (6, [.ref qk2, .ref qp2, .int (nI n'_11), .int (bz fu'_14), .int (bz fa'_15)])), (qk2, .inl (cB, 3000, .inl K'_12)), (qp2, .inl (cI, 18000, .inl P'_13))] := hD
      refine W.eq (g2 := F0 m 95 ls []) rfl ?_
      rw [hcp, hq0, hq1] at hbg
      refine lv_aload_n hx hb d_M_close_95 rfl (lv_at hl 1 rfl) ?_
      refine ct_callV (ci := 1) (q0 := 0) (As := []) (rest := []) (wr := []) (n := 0) (c_M_settle l D cI cB cJ qQ  hm a b qa qu qb qh qm qk qp n K P fu fa qk2 qp2 n'_11 K'_12 P'_13 fu'_14 fa'_15 ) hx hb hml hown hts (amb_ok qQ) hK hP hD hS hA hM (gi_V gw_573 gw_575 gw_18 gw_33 gw_576) rfl (by decide +kernel) ⟨by omega, by omega⟩ [0, 1, 2, 3, 4, 5, 6] [] rfl rfl rfl rfl (by decide) rfl rfl rfl hl.1 rfl (Nat.le_of_ble_eq_true rfl) d_M_close_96 ⟨by omega, by omega⟩ (fun u_16 H locs hok hP hD hS => ?_)
      obtain ⟨r_17, a'_18, b'_19⟩ := u_16
      have hok_20 : ((fa'_15 = true) ∧ (-4) = r_17 ∧ a = a'_18 ∧ b = b'_19) ∨ ((fa'_15 = false) ∧ (fu'_14 = true) ∧ (-3) = r_17 ∧ a = a'_18 ∧ b = b'_19) ∨ ((fa'_15 = false) ∧ (fu'_14 = false) ∧ nI n'_11 = r_17 ∧ b = a'_18 ∧ a = b'_19) := hok
      rcases hok_20 with ⟨h_21, rfl, rfl, rfl⟩ | ⟨h_22, h_23, rfl, rfl, rfl⟩ | ⟨h_24, h_25, rfl, rfl, rfl⟩
      · skip
        have hP : va_P D cl [(hm, .inr (1, [.ref a, .ref b, .ref qa, .ref qu, .ref qb, .ref qh, .ref qm])), (a, .inr (6, [.ref qk, .ref qp, .int (nI n), .int (bz fu), .int (bz fa)])), (qk, .inl (cB, 3000, .inl K)), (qp, .inl (cI, 18000, .inl P)), (b, .inr (6, [.ref qk2, .ref qp2, .int (nI n'_11), .int (bz fu'_14), .int (bz fa'_15)])), (qk2, .inl (cB, 3000, .inl K'_12)), (qp2, .inl (cI, 18000, .inl P'_13))] H := hP
        have hD : va_D A [(hm, .inr (1, [.ref a, .ref b, .ref qa, .ref qu, .ref qb, .ref qh, .ref qm])), (a, .inr (6, [.ref qk, .ref qp, .int (nI n), .int (bz fu), .int (bz fa)])), (qk, .inl (cB, 3000, .inl K)), (qp, .inl (cI, 18000, .inl P)), (b, .inr (6, [.ref qk2, .ref qp2, .int (nI n'_11), .int (bz fu'_14), .int (bz fa'_15)])), (qk2, .inl (cB, 3000, .inl K'_12)), (qp2, .inl (cI, 18000, .inl P'_13))] := hD
        refine W.eq (g2 := F0 m 99 ls [.int (-4)]) rfl ?_
        exact ct_reti hQ hx hb hr hlocks hP hD hS ((-4), a, b, qk, qp, n, K, P, fu, fa, qk2, qp2, n'_11, K'_12, P'_13, fu'_14, fa'_15) [(hm, .inr (1, [.ref a, .ref b, .ref qa, .ref qu, .ref qb, .ref qh, .ref qm])), (a, .inr (6, [.ref qk, .ref qp, .int (nI n), .int (bz fu), .int (bz fa)])), (qk, .inl (cB, 3000, .inl K)), (qp, .inl (cI, 18000, .inl P)), (b, .inr (6, [.ref qk2, .ref qp2, .int (nI n'_11), .int (bz fu'_14), .int (bz fa'_15)])), (qk2, .inl (cB, 3000, .inl K'_12)), (qp2, .inl (cI, 18000, .inl P'_13))] [0, 1, 2, 3, 4, 5, 6] (rfl) (⟨hn, by unfold rClose; rw [if_neg hz, setl_far hbg.2 h_21]⟩) (rfl) rfl rfl (by omega) (by omega) d_M_close_99
      · skip
        have hP : va_P D cl [(hm, .inr (1, [.ref a, .ref b, .ref qa, .ref qu, .ref qb, .ref qh, .ref qm])), (a, .inr (6, [.ref qk, .ref qp, .int (nI n), .int (bz fu), .int (bz fa)])), (qk, .inl (cB, 3000, .inl K)), (qp, .inl (cI, 18000, .inl P)), (b, .inr (6, [.ref qk2, .ref qp2, .int (nI n'_11), .int (bz fu'_14), .int (bz fa'_15)])), (qk2, .inl (cB, 3000, .inl K'_12)), (qp2, .inl (cI, 18000, .inl P'_13))] H := hP
        have hD : va_D A [(hm, .inr (1, [.ref a, .ref b, .ref qa, .ref qu, .ref qb, .ref qh, .ref qm])), (a, .inr (6, [.ref qk, .ref qp, .int (nI n), .int (bz fu), .int (bz fa)])), (qk, .inl (cB, 3000, .inl K)), (qp, .inl (cI, 18000, .inl P)), (b, .inr (6, [.ref qk2, .ref qp2, .int (nI n'_11), .int (bz fu'_14), .int (bz fa'_15)])), (qk2, .inl (cB, 3000, .inl K'_12)), (qp2, .inl (cI, 18000, .inl P'_13))] := hD
        refine W.eq (g2 := F0 m 99 ls [.int (-3)]) rfl ?_
        exact ct_reti hQ hx hb hr hlocks hP hD hS ((-3), a, b, qk, qp, n, K, P, fu, fa, qk2, qp2, n'_11, K'_12, P'_13, fu'_14, fa'_15) [(hm, .inr (1, [.ref a, .ref b, .ref qa, .ref qu, .ref qb, .ref qh, .ref qm])), (a, .inr (6, [.ref qk, .ref qp, .int (nI n), .int (bz fu), .int (bz fa)])), (qk, .inl (cB, 3000, .inl K)), (qp, .inl (cI, 18000, .inl P)), (b, .inr (6, [.ref qk2, .ref qp2, .int (nI n'_11), .int (bz fu'_14), .int (bz fa'_15)])), (qk2, .inl (cB, 3000, .inl K'_12)), (qp2, .inl (cI, 18000, .inl P'_13))] [0, 1, 2, 3, 4, 5, 6] (rfl) (⟨hn, by unfold rClose; rw [if_neg hz, setl_full hbg.2 h_22 h_23]⟩) (rfl) rfl rfl (by omega) (by omega) d_M_close_99
      · skip
        have hP : va_P D cl [(hm, .inr (1, [.ref b, .ref a, .ref qa, .ref qu, .ref qb, .ref qh, .ref qm])), (a, .inr (6, [.ref qk, .ref qp, .int (nI n), .int (bz fu), .int (bz fa)])), (qk, .inl (cB, 3000, .inl K)), (qp, .inl (cI, 18000, .inl P)), (b, .inr (6, [.ref qk2, .ref qp2, .int (nI n'_11), .int (bz fu'_14), .int (bz fa'_15)])), (qk2, .inl (cB, 3000, .inl K'_12)), (qp2, .inl (cI, 18000, .inl P'_13))] H := hP
        have hD : va_D A [(hm, .inr (1, [.ref b, .ref a, .ref qa, .ref qu, .ref qb, .ref qh, .ref qm])), (a, .inr (6, [.ref qk, .ref qp, .int (nI n), .int (bz fu), .int (bz fa)])), (qk, .inl (cB, 3000, .inl K)), (qp, .inl (cI, 18000, .inl P)), (b, .inr (6, [.ref qk2, .ref qp2, .int (nI n'_11), .int (bz fu'_14), .int (bz fa'_15)])), (qk2, .inl (cB, 3000, .inl K'_12)), (qp2, .inl (cI, 18000, .inl P'_13))] := hD
        refine W.eq (g2 := F0 m 99 ls [.int (nI n'_11)]) rfl ?_
        exact ct_reti hQ hx hb hr hlocks hP hD hS ((nI n'_11), b, a, qk2, qp2, n'_11, K'_12, P'_13, fu'_14, fa'_15, qk, qp, n, K, P, fu, fa) [(hm, .inr (1, [.ref b, .ref a, .ref qa, .ref qu, .ref qb, .ref qh, .ref qm])), (b, .inr (6, [.ref qk2, .ref qp2, .int (nI n'_11), .int (bz fu'_14), .int (bz fa'_15)])), (qk2, .inl (cB, 3000, .inl K'_12)), (qp2, .inl (cI, 18000, .inl P'_13)), (a, .inr (6, [.ref qk, .ref qp, .int (nI n), .int (bz fu), .int (bz fa)])), (qk, .inl (cB, 3000, .inl K)), (qp, .inl (cI, 18000, .inl P))] [0, 4, 5, 6, 1, 2, 3] (rfl) (⟨hbg.1, by unfold rClose; rw [if_neg hz, setl_ok hbg.2 h_24 h_25, lst_len]⟩) (rfl) rfl rfl (by omega) (by omega) d_M_close_99
    · skip
      refine lv_aload_n hx hb d_M_close_31 rfl (lv_at hl 0 rfl) ?_
      refine va_get (D := D) (ci := 1) (v := .ref a) (C := R_M) (T := T_M) (N := 7) hx hb hts (ui_M _) hown hK hP 0 rfl rfl 0 (by decide) (hts _ (gwc gw_509)) (fun _ h9 => h9) rfl d_M_close_32 ?_
      refine va_getN (D := D) (ci := 6) (v := .int (nI n)) (C := R_MPath) (T := T_MPath) (N := 5) hx hb hts (ui_MPath _) hown hK hP 1 rfl rfl 2 (by decide) ((amb_nw_10 hM).use rfl) (fun _ h9 => h9) rfl d_M_close_35 ?_
      exact ct_reti hQ hx hb hr hlocks hP hD hS (nI n, a, b, qk, qp, n, K, P, fu, fa, qk2, qp2, n2, K2, P2, fu2, fa2) [(hm, .inr (1, [.ref a, .ref b, .ref qa, .ref qu, .ref qb, .ref qh, .ref qm])), (a, .inr (6, [.ref qk, .ref qp, .int (nI n), .int (bz fu), .int (bz fa)])), (qk, .inl (cB, 3000, .inl K)), (qp, .inl (cI, 18000, .inl P)), (b, .inr (6, [.ref qk2, .ref qp2, .int (nI n2), .int (bz fu2), .int (bz fa2)])), (qk2, .inl (cB, 3000, .inl K2)), (qp2, .inl (cI, 18000, .inl P2))] [0, 1, 2, 3, 4, 5, 6] (rfl) (⟨hn, by unfold rClose; rw [if_pos (Or.inr (by rw [lk_n c_1]; exact c_2)), lst_len]⟩) (rfl) rfl rfl (by omega) (by omega) d_M_close_38
set_option maxHeartbeats 4000000 in
set_option maxRecDepth 100000 in
/-- point -/
theorem c_M_point (l : Launch) (D : va_G) (cI cB cJ : ClassId) (qQ : Nat) (hm : Nat) (a : Nat) (b : Nat) (qa : Nat) (qu : Nat) (qb : Nat) (qh : Nat) (qm : Nat) (qk : Nat) (qp : Nat) (n : Nat) (K : Nat → Int32) (P : Nat → Int32) (fu : Bool) (fa : Bool) (wh : Int32) (hn : n ≤ 3000) : ct l D cl [(cI, .int), (cB, .byte), (cJ, .long)] (amb qQ) y_M_point w_M_point 1 22 (0) (0) [.ref hm, .int wh] [(hm, .inr (1, [.ref a, .ref b, .ref qa, .ref qu, .ref qb, .ref qh, .ref qm])), (a, .inr (6, [.ref qk, .ref qp, .int (nI n), .int (bz fu), .int (bz fa)])), (qk, .inl (cB, 3000, .inl K)), (qp, .inl (cI, 18000, .inl P))] (fun _ : Unit => True) (fun _ : Unit => some (.int (rPoint (lst n K P) wh))) (fun _ : Unit => [(hm, .inr (1, [.ref a, .ref b, .ref qa, .ref qu, .ref qb, .ref qh, .ref qm])), (a, .inr (6, [.ref qk, .ref qp, .int (nI n), .int (bz fu), .int (bz fa)])), (qk, .inl (cB, 3000, .inl K)), (qp, .inl (cI, 18000, .inl P))]) := by
  refine ct_ofW (cc := b_M_point) (maxL := 2) (ret := (some .int)) (by decide) rfl (Nat.le_of_ble_eq_true rfl) ?_
  intro p e R s m args below meth c A Q ls hx hb hr hml hts hown hlocks hname hRf hRc hRs hRl hQ hK hP hD hS hA hM hl
  have hl : lv_has ls 2 [(0, .ref hm), (1, .int wh)] := hl
  refine lv_aload_n hx hb d_M_point_0 rfl (lv_at hl 0 rfl) ?_
  refine va_get (D := D) (ci := 1) (v := .ref a) (C := R_M) (T := T_M) (N := 7) hx hb hts (ui_M _) hown hK hP 0 rfl rfl 0 (by decide) (hts _ (gwc gw_509)) (fun _ h9 => h9) rfl d_M_point_1 ?_
  refine va_getN (D := D) (ci := 6) (v := .int (nI n)) (C := R_MPath) (T := T_MPath) (N := 5) hx hb hts (ui_MPath _) hown hK hP 1 rfl rfl 2 (by decide) ((amb_nw_10 hM).use rfl) (fun _ h9 => h9) rfl d_M_point_4 ?_
  refine bz_le (a1 := n) (tgt := 39) hx hb (by omega) d_M_point_7 (by decide) (fun c_1 => ?_) (fun c_1 => ?_)
  · skip
    refine lv_iconst (v := 0) hx hb d_M_point_39 (by decide) ?_
    exact ct_reti hQ hx hb hr hlocks hP hD hS () [(hm, .inr (1, [.ref a, .ref b, .ref qa, .ref qu, .ref qb, .ref qh, .ref qm])), (a, .inr (6, [.ref qk, .ref qp, .int (nI n), .int (bz fu), .int (bz fa)])), (qk, .inl (cB, 3000, .inl K)), (qp, .inl (cI, 18000, .inl P))] [0, 1, 2, 3] (by rw [rPoint, if_pos (by rw [lst_len]; exact c_1)]) (trivial) (rfl) rfl rfl (by omega) (by omega) d_M_point_40
  · skip
    refine lv_iload_n hx hb d_M_point_10 rfl (lv_at hl 1 rfl) ?_
    refine lv_if_eq (tgt := 19) hx hb d_M_point_11 (by decide) (fun c_2 => ?_) (fun c_2 => ?_)
    · skip
      refine lv_aload_n hx hb d_M_point_19 rfl (lv_at hl 0 rfl) ?_
      refine va_get (D := D) (ci := 1) (v := .ref a) (C := R_M) (T := T_M) (N := 7) hx hb hts (ui_M _) hown hK hP 0 rfl rfl 0 (by decide) (hts _ (gwc gw_509)) (fun _ h9 => h9) rfl d_M_point_20 ?_
      refine lv_aload_n hx hb d_M_point_23 rfl (lv_at hl 0 rfl) ?_
      refine va_get (D := D) (ci := 1) (v := .ref a) (C := R_M) (T := T_M) (N := 7) hx hb hts (ui_M _) hown hK hP 0 rfl rfl 0 (by decide) (hts _ (gwc gw_509)) (fun _ h9 => h9) rfl d_M_point_24 ?_
      refine va_getN (D := D) (ci := 6) (v := .int (nI n)) (C := R_MPath) (T := T_MPath) (N := 5) hx hb hts (ui_MPath _) hown hK hP 1 rfl rfl 2 (by decide) ((amb_nw_10 hM).use rfl) (fun _ h9 => h9) rfl d_M_point_27 ?_
      refine lv_iconst (v := 1) hx hb d_M_point_30 (by decide) ?_
      refine lv_isub hx hb d_M_point_31 ?_
      refine tp_i (nI (n - 1)) (pk_sub (a := n) (b := 1) (by omega)) ?_
      refine lv_iload_n hx hb d_M_point_32 rfl (lv_at hl 1 rfl) ?_
      refine tp_i (0) (c_2) ?_
      refine ct_callV (ci := 6) (q0 := 1) (As := [.int (nI (n - 1)), .int 0]) (rest := []) (wr := [(hm, .inr (1, [.ref a, .ref b, .ref qa, .ref qu, .ref qb, .ref qh, .ref qm]))]) (n := 2) (c_MPath_get l D cI cB cJ qQ  a qk qp n K P fu fa (n - 1) 0 (by omega) (by omega)) hx hb hml hown hts (amb_ok qQ) hK hP hD hS hA hM (gi_V gw_540 gw_541 gw_542 gw_34 gw_543) rfl (by decide +kernel) ⟨by omega, by omega⟩ [1, 2, 3] [0] rfl rfl rfl rfl (by decide) rfl rfl rfl hl.1 rfl (Nat.le_of_ble_eq_true rfl) d_M_point_33 ⟨by omega, by omega⟩ (fun u_3 H locs hok hP hD hS => ?_)
      have hP : va_P D cl [(hm, .inr (1, [.ref a, .ref b, .ref qa, .ref qu, .ref qb, .ref qh, .ref qm])), (a, .inr (6, [.ref qk, .ref qp, .int (nI n), .int (bz fu), .int (bz fa)])), (qk, .inl (cB, 3000, .inl K)), (qp, .inl (cI, 18000, .inl P))] H := hP
      have hD : va_D A [(hm, .inr (1, [.ref a, .ref b, .ref qa, .ref qu, .ref qb, .ref qh, .ref qm])), (a, .inr (6, [.ref qk, .ref qp, .int (nI n), .int (bz fu), .int (bz fa)])), (qk, .inl (cB, 3000, .inl K)), (qp, .inl (cI, 18000, .inl P))] := hD
      refine W.eq (g2 := F0 m 36 ls [.int (P (6 * (n - 1) + 0))]) rfl ?_
      refine lv_goto (tgt := 40) hx hb d_M_point_36 (by decide) ?_
      exact ct_reti hQ hx hb hr hlocks hP hD hS () [(hm, .inr (1, [.ref a, .ref b, .ref qa, .ref qu, .ref qb, .ref qh, .ref qm])), (a, .inr (6, [.ref qk, .ref qp, .int (nI n), .int (bz fu), .int (bz fa)])), (qk, .inl (cB, 3000, .inl K)), (qp, .inl (cI, 18000, .inl P))] [0, 1, 2, 3] (by rw [rPoint, if_neg (by rw [lst_len]; omega), if_pos c_2, lx_n c_1]; rfl) (trivial) (rfl) rfl rfl (by omega) (by omega) d_M_point_40
    · skip
      refine lv_iload_n hx hb d_M_point_14 rfl (lv_at hl 1 rfl) ?_
      refine lv_iconst (v := 1) hx hb d_M_point_15 (by decide) ?_
      refine lv_icmp_ne (tgt := 39) hx hb d_M_point_16 (by decide) (fun c_4 => ?_) (fun c_4 => ?_)
      · skip
        refine lv_iconst (v := 0) hx hb d_M_point_39 (by decide) ?_
        exact ct_reti hQ hx hb hr hlocks hP hD hS () [(hm, .inr (1, [.ref a, .ref b, .ref qa, .ref qu, .ref qb, .ref qh, .ref qm])), (a, .inr (6, [.ref qk, .ref qp, .int (nI n), .int (bz fu), .int (bz fa)])), (qk, .inl (cB, 3000, .inl K)), (qp, .inl (cI, 18000, .inl P))] [0, 1, 2, 3] (by rw [rPoint, if_neg (by rw [lst_len]; omega), if_neg c_2, if_neg c_4]) (trivial) (rfl) rfl rfl (by omega) (by omega) d_M_point_40
      · skip
        refine lv_aload_n hx hb d_M_point_19 rfl (lv_at hl 0 rfl) ?_
        refine va_get (D := D) (ci := 1) (v := .ref a) (C := R_M) (T := T_M) (N := 7) hx hb hts (ui_M _) hown hK hP 0 rfl rfl 0 (by decide) (hts _ (gwc gw_509)) (fun _ h9 => h9) rfl d_M_point_20 ?_
        refine lv_aload_n hx hb d_M_point_23 rfl (lv_at hl 0 rfl) ?_
        refine va_get (D := D) (ci := 1) (v := .ref a) (C := R_M) (T := T_M) (N := 7) hx hb hts (ui_M _) hown hK hP 0 rfl rfl 0 (by decide) (hts _ (gwc gw_509)) (fun _ h9 => h9) rfl d_M_point_24 ?_
        refine va_getN (D := D) (ci := 6) (v := .int (nI n)) (C := R_MPath) (T := T_MPath) (N := 5) hx hb hts (ui_MPath _) hown hK hP 1 rfl rfl 2 (by decide) ((amb_nw_10 hM).use rfl) (fun _ h9 => h9) rfl d_M_point_27 ?_
        refine lv_iconst (v := 1) hx hb d_M_point_30 (by decide) ?_
        refine lv_isub hx hb d_M_point_31 ?_
        refine tp_i (nI (n - 1)) (pk_sub (a := n) (b := 1) (by omega)) ?_
        refine lv_iload_n hx hb d_M_point_32 rfl (lv_at hl 1 rfl) ?_
        refine tp_i (1) (c_4) ?_
        refine ct_callV (ci := 6) (q0 := 1) (As := [.int (nI (n - 1)), .int 1]) (rest := []) (wr := [(hm, .inr (1, [.ref a, .ref b, .ref qa, .ref qu, .ref qb, .ref qh, .ref qm]))]) (n := 2) (c_MPath_get l D cI cB cJ qQ  a qk qp n K P fu fa (n - 1) 1 (by omega) (by omega)) hx hb hml hown hts (amb_ok qQ) hK hP hD hS hA hM (gi_V gw_540 gw_541 gw_542 gw_34 gw_543) rfl (by decide +kernel) ⟨by omega, by omega⟩ [1, 2, 3] [0] rfl rfl rfl rfl (by decide) rfl rfl rfl hl.1 rfl (Nat.le_of_ble_eq_true rfl) d_M_point_33 ⟨by omega, by omega⟩ (fun u_5 H locs hok hP hD hS => ?_)
        have hP : va_P D cl [(hm, .inr (1, [.ref a, .ref b, .ref qa, .ref qu, .ref qb, .ref qh, .ref qm])), (a, .inr (6, [.ref qk, .ref qp, .int (nI n), .int (bz fu), .int (bz fa)])), (qk, .inl (cB, 3000, .inl K)), (qp, .inl (cI, 18000, .inl P))] H := hP
        have hD : va_D A [(hm, .inr (1, [.ref a, .ref b, .ref qa, .ref qu, .ref qb, .ref qh, .ref qm])), (a, .inr (6, [.ref qk, .ref qp, .int (nI n), .int (bz fu), .int (bz fa)])), (qk, .inl (cB, 3000, .inl K)), (qp, .inl (cI, 18000, .inl P))] := hD
        refine W.eq (g2 := F0 m 36 ls [.int (P (6 * (n - 1) + 1))]) rfl ?_
        refine lv_goto (tgt := 40) hx hb d_M_point_36 (by decide) ?_
        exact ct_reti hQ hx hb hr hlocks hP hD hS () [(hm, .inr (1, [.ref a, .ref b, .ref qa, .ref qu, .ref qb, .ref qh, .ref qm])), (a, .inr (6, [.ref qk, .ref qp, .int (nI n), .int (bz fu), .int (bz fa)])), (qk, .inl (cB, 3000, .inl K)), (qp, .inl (cI, 18000, .inl P))] [0, 1, 2, 3] (by rw [rPoint, if_neg (by rw [lst_len]; omega), if_neg c_2, if_pos c_4, ly_n c_1]) (trivial) (rfl) rfl rfl (by omega) (by omega) d_M_point_40
set_option maxHeartbeats 4000000 in
set_option maxRecDepth 100000 in
/-- kind -/
theorem c_M_kind (l : Launch) (D : va_G) (cI cB cJ : ClassId) (qQ : Nat) (hm : Nat) (a : Nat) (b : Nat) (qa : Nat) (qu : Nat) (qb : Nat) (qh : Nat) (qm : Nat) (qk : Nat) (qp : Nat) (n : Nat) (K : Nat → Int32) (P : Nat → Int32) (fu : Bool) (fa : Bool) (i : Int32) (hn : n ≤ 3000) : ct l D cl [(cI, .int), (cB, .byte), (cJ, .long)] (amb qQ) y_M_kind w_M_kind 0 0 (0) (0) [.ref hm, .int i] [(hm, .inr (1, [.ref a, .ref b, .ref qa, .ref qu, .ref qb, .ref qh, .ref qm])), (a, .inr (6, [.ref qk, .ref qp, .int (nI n), .int (bz fu), .int (bz fa)])), (qk, .inl (cB, 3000, .inl K)), (qp, .inl (cI, 18000, .inl P))] (fun _ : Unit => True) (fun _ : Unit => some (.int (rKind (lst n K P) i))) (fun _ : Unit => [(hm, .inr (1, [.ref a, .ref b, .ref qa, .ref qu, .ref qb, .ref qh, .ref qm])), (a, .inr (6, [.ref qk, .ref qp, .int (nI n), .int (bz fu), .int (bz fa)])), (qk, .inl (cB, 3000, .inl K)), (qp, .inl (cI, 18000, .inl P))]) := by
  refine ct_ofW (cc := b_M_kind) (maxL := 2) (ret := (some .int)) (by decide) rfl (Nat.le_of_ble_eq_true rfl) ?_
  intro p e R s m args below meth c A Q ls hx hb hr hml hts hown hlocks hname hRf hRc hRs hRl hQ hK hP hD hS hA hM hl
  have hl : lv_has ls 2 [(0, .ref hm), (1, .int i)] := hl
  refine lv_iload_n hx hb d_M_kind_0 rfl (lv_at hl 1 rfl) ?_
  refine lv_if_lt (tgt := 27) hx hb d_M_kind_1 (by decide) (fun c_1 => ?_) (fun c_1 => ?_)
  · skip
    refine lv_iconst (v := (-1)) hx hb d_M_kind_27 (by decide) ?_
    exact ct_reti hQ hx hb hr hlocks hP hD hS () [(hm, .inr (1, [.ref a, .ref b, .ref qa, .ref qu, .ref qb, .ref qh, .ref qm])), (a, .inr (6, [.ref qk, .ref qp, .int (nI n), .int (bz fu), .int (bz fa)])), (qk, .inl (cB, 3000, .inl K)), (qp, .inl (cI, 18000, .inl P))] [0, 1, 2, 3] (by rw [rKind, if_pos (Or.inl c_1)]) (trivial) (rfl) rfl rfl (by omega) (by omega) d_M_kind_28
  · skip
    refine lv_iload_n hx hb d_M_kind_4 rfl (lv_at hl 1 rfl) ?_
    refine lv_aload_n hx hb d_M_kind_5 rfl (lv_at hl 0 rfl) ?_
    refine va_get (D := D) (ci := 1) (v := .ref a) (C := R_M) (T := T_M) (N := 7) hx hb hts (ui_M _) hown hK hP 0 rfl rfl 0 (by decide) (hts _ (gwc gw_509)) (fun _ h9 => h9) rfl d_M_kind_6 ?_
    refine va_getN (D := D) (ci := 6) (v := .int (nI n)) (C := R_MPath) (T := T_MPath) (N := 5) hx hb hts (ui_MPath _) hown hK hP 1 rfl rfl 2 (by decide) ((amb_nw_10 hM).use rfl) (fun _ h9 => h9) rfl d_M_kind_9 ?_
    refine lv_icmp_ge (tgt := 27) hx hb d_M_kind_12 (by decide) (fun c_2 => ?_) (fun c_2 => ?_)
    · skip
      refine lv_iconst (v := (-1)) hx hb d_M_kind_27 (by decide) ?_
      exact ct_reti hQ hx hb hr hlocks hP hD hS () [(hm, .inr (1, [.ref a, .ref b, .ref qa, .ref qu, .ref qb, .ref qh, .ref qm])), (a, .inr (6, [.ref qk, .ref qp, .int (nI n), .int (bz fu), .int (bz fa)])), (qk, .inl (cB, 3000, .inl K)), (qp, .inl (cI, 18000, .inl P))] [0, 1, 2, 3] (by rw [rKind, if_pos (Or.inr (by rw [lst_len]; exact c_2))]) (trivial) (rfl) rfl rfl (by omega) (by omega) d_M_kind_28
    · skip
      obtain ⟨j, hj, ej⟩ := ix_lt c_1 c_2 (by omega)
      refine lv_aload_n hx hb d_M_kind_15 rfl (lv_at hl 0 rfl) ?_
      refine va_get (D := D) (ci := 1) (v := .ref a) (C := R_M) (T := T_M) (N := 7) hx hb hts (ui_M _) hown hK hP 0 rfl rfl 0 (by decide) (hts _ (gwc gw_509)) (fun _ h9 => h9) rfl d_M_kind_16 ?_
      refine va_getN (D := D) (ci := 6) (v := .ref qk) (C := R_MPath) (T := T_MPath) (N := 5) hx hb hts (ui_MPath _) hown hK hP 1 rfl rfl 0 (by decide) ((amb_nw_9 hM).use rfl) (fun _ h9 => h9) rfl d_M_kind_19 ?_
      refine lv_iload_n hx hb d_M_kind_22 rfl (lv_at hl 1 rfl) ?_
      refine tp_i (nI j) (ej) ?_
      refine ld_b hx hb hK hP 2 1 rfl rfl j (by omega) (by omega) d_M_kind_23 ?_
      refine lv_goto (tgt := 28) hx hb d_M_kind_24 (by decide) ?_
      exact ct_reti hQ hx hb hr hlocks hP hD hS () [(hm, .inr (1, [.ref a, .ref b, .ref qa, .ref qu, .ref qb, .ref qh, .ref qm])), (a, .inr (6, [.ref qk, .ref qp, .int (nI n), .int (bz fu), .int (bz fa)])), (qk, .inl (cB, 3000, .inl K)), (qp, .inl (cI, 18000, .inl P))] [0, 1, 2, 3] (by rw [ej, rKind_j hj hn]) (trivial) (rfl) rfl rfl (by omega) (by omega) d_M_kind_28
set_option maxHeartbeats 4000000 in
set_option maxRecDepth 100000 in
/-- place -/
theorem c_M_place (l : Launch) (D : va_G) (cI cB cJ : ClassId) (qQ : Nat) (hm : Nat) (a : Nat) (b : Nat) (qa : Nat) (qu : Nat) (qb : Nat) (qh : Nat) (qm : Nat) (qk : Nat) (qp : Nat) (n : Nat) (K : Nat → Int32) (P : Nat → Int32) (fu : Bool) (fa : Bool) (i : Int32) (wh : Int32) (hn : n ≤ 3000) : ct l D cl [(cI, .int), (cB, .byte), (cJ, .long)] (amb qQ) y_M_place w_M_place 1 22 (0) (0) [.ref hm, .int i, .int wh] [(hm, .inr (1, [.ref a, .ref b, .ref qa, .ref qu, .ref qb, .ref qh, .ref qm])), (a, .inr (6, [.ref qk, .ref qp, .int (nI n), .int (bz fu), .int (bz fa)])), (qk, .inl (cB, 3000, .inl K)), (qp, .inl (cI, 18000, .inl P))] (fun _ : Unit => True) (fun _ : Unit => some (.int (rPlace (lst n K P) i wh))) (fun _ : Unit => [(hm, .inr (1, [.ref a, .ref b, .ref qa, .ref qu, .ref qb, .ref qh, .ref qm])), (a, .inr (6, [.ref qk, .ref qp, .int (nI n), .int (bz fu), .int (bz fa)])), (qk, .inl (cB, 3000, .inl K)), (qp, .inl (cI, 18000, .inl P))]) := by
  refine ct_ofW (cc := b_M_place) (maxL := 3) (ret := (some .int)) (by decide) rfl (Nat.le_of_ble_eq_true rfl) ?_
  intro p e R s m args below meth c A Q ls hx hb hr hml hts hown hlocks hname hRf hRc hRs hRl hQ hK hP hD hS hA hM hl
  have hl : lv_has ls 3 [(0, .ref hm), (1, .int i), (2, .int wh)] := hl
  refine lv_iload_n hx hb d_M_place_0 rfl (lv_at hl 1 rfl) ?_
  refine lv_if_lt (tgt := 42) hx hb d_M_place_1 (by decide) (fun c_1 => ?_) (fun c_1 => ?_)
  · skip
    refine lv_iconst (v := 0) hx hb d_M_place_42 (by decide) ?_
    exact ct_reti hQ hx hb hr hlocks hP hD hS () [(hm, .inr (1, [.ref a, .ref b, .ref qa, .ref qu, .ref qb, .ref qh, .ref qm])), (a, .inr (6, [.ref qk, .ref qp, .int (nI n), .int (bz fu), .int (bz fa)])), (qk, .inl (cB, 3000, .inl K)), (qp, .inl (cI, 18000, .inl P))] [0, 1, 2, 3] (by rw [rPlace, if_pos (Or.inl c_1)]) (trivial) (rfl) rfl rfl (by omega) (by omega) d_M_place_43
  · skip
    refine lv_iload_n hx hb d_M_place_4 rfl (lv_at hl 1 rfl) ?_
    refine lv_aload_n hx hb d_M_place_5 rfl (lv_at hl 0 rfl) ?_
    refine va_get (D := D) (ci := 1) (v := .ref a) (C := R_M) (T := T_M) (N := 7) hx hb hts (ui_M _) hown hK hP 0 rfl rfl 0 (by decide) (hts _ (gwc gw_509)) (fun _ h9 => h9) rfl d_M_place_6 ?_
    refine va_getN (D := D) (ci := 6) (v := .int (nI n)) (C := R_MPath) (T := T_MPath) (N := 5) hx hb hts (ui_MPath _) hown hK hP 1 rfl rfl 2 (by decide) ((amb_nw_10 hM).use rfl) (fun _ h9 => h9) rfl d_M_place_9 ?_
    refine lv_icmp_ge (tgt := 42) hx hb d_M_place_12 (by decide) (fun c_2 => ?_) (fun c_2 => ?_)
    · skip
      refine lv_iconst (v := 0) hx hb d_M_place_42 (by decide) ?_
      exact ct_reti hQ hx hb hr hlocks hP hD hS () [(hm, .inr (1, [.ref a, .ref b, .ref qa, .ref qu, .ref qb, .ref qh, .ref qm])), (a, .inr (6, [.ref qk, .ref qp, .int (nI n), .int (bz fu), .int (bz fa)])), (qk, .inl (cB, 3000, .inl K)), (qp, .inl (cI, 18000, .inl P))] [0, 1, 2, 3] (by rw [rPlace, if_pos (Or.inr (Or.inl (by rw [lst_len]; exact c_2)))]) (trivial) (rfl) rfl rfl (by omega) (by omega) d_M_place_43
    · skip
      obtain ⟨j, hj, ej⟩ := ix_lt c_1 c_2 (by omega)
      refine lv_iload_n hx hb d_M_place_15 rfl (lv_at hl 2 rfl) ?_
      refine lv_if_lt (tgt := 42) hx hb d_M_place_16 (by decide) (fun c_3 => ?_) (fun c_3 => ?_)
      · skip
        refine lv_iconst (v := 0) hx hb d_M_place_42 (by decide) ?_
        exact ct_reti hQ hx hb hr hlocks hP hD hS () [(hm, .inr (1, [.ref a, .ref b, .ref qa, .ref qu, .ref qb, .ref qh, .ref qm])), (a, .inr (6, [.ref qk, .ref qp, .int (nI n), .int (bz fu), .int (bz fa)])), (qk, .inl (cB, 3000, .inl K)), (qp, .inl (cI, 18000, .inl P))] [0, 1, 2, 3] (by rw [rPlace, if_pos (Or.inr (Or.inr (Or.inl c_3)))]) (trivial) (rfl) rfl rfl (by omega) (by omega) d_M_place_43
      · skip
        refine lv_iload_n hx hb d_M_place_19 rfl (lv_at hl 2 rfl) ?_
        refine lv_iconst (v := 5) hx hb d_M_place_20 (by decide) ?_
        refine lv_icmp_gt (tgt := 42) hx hb d_M_place_21 (by decide) (fun c_4 => ?_) (fun c_4 => ?_)
        · skip
          refine lv_iconst (v := 0) hx hb d_M_place_42 (by decide) ?_
          exact ct_reti hQ hx hb hr hlocks hP hD hS () [(hm, .inr (1, [.ref a, .ref b, .ref qa, .ref qu, .ref qb, .ref qh, .ref qm])), (a, .inr (6, [.ref qk, .ref qp, .int (nI n), .int (bz fu), .int (bz fa)])), (qk, .inl (cB, 3000, .inl K)), (qp, .inl (cI, 18000, .inl P))] [0, 1, 2, 3] (by rw [rPlace, if_pos (Or.inr (Or.inr (Or.inr c_4)))]) (trivial) (rfl) rfl rfl (by omega) (by omega) d_M_place_43
        · skip
          obtain ⟨k, hk5, ek⟩ := ix_le (n := 5) c_3 c_4 (by omega)
          refine lv_iload_n hx hb d_M_place_24 rfl (lv_at hl 2 rfl) ?_
          refine lv_iconst (v := 1) hx hb d_M_place_25 (by decide) ?_
          refine lv_icmp_le (tgt := 44) hx hb d_M_place_26 (by decide) (fun c_5 => ?_) (fun c_5 => ?_)
          · skip
            refine lv_aload_n hx hb d_M_place_44 rfl (lv_at hl 0 rfl) ?_
            refine va_get (D := D) (ci := 1) (v := .ref a) (C := R_M) (T := T_M) (N := 7) hx hb hts (ui_M _) hown hK hP 0 rfl rfl 0 (by decide) (hts _ (gwc gw_509)) (fun _ h9 => h9) rfl d_M_place_45 ?_
            refine lv_iload_n hx hb d_M_place_48 rfl (lv_at hl 1 rfl) ?_
            refine tp_i (nI j) (ej) ?_
            refine lv_iload_n hx hb d_M_place_49 rfl (lv_at hl 2 rfl) ?_
            refine tp_i (nI k) (ek) ?_
            refine ct_callV (ci := 6) (q0 := 1) (As := [.int (nI j), .int (nI k)]) (rest := []) (wr := [(hm, .inr (1, [.ref a, .ref b, .ref qa, .ref qu, .ref qb, .ref qh, .ref qm]))]) (n := 2) (c_MPath_get l D cI cB cJ qQ  a qk qp n K P fu fa j k (by omega) (by omega)) hx hb hml hown hts (amb_ok qQ) hK hP hD hS hA hM (gi_V gw_540 gw_541 gw_542 gw_34 gw_543) rfl (by decide +kernel) ⟨by omega, by omega⟩ [1, 2, 3] [0] rfl rfl rfl rfl (by decide) rfl rfl rfl hl.1 rfl (Nat.le_of_ble_eq_true rfl) d_M_place_50 ⟨by omega, by omega⟩ (fun u_6 H locs hok hP hD hS => ?_)
            have hP : va_P D cl [(hm, .inr (1, [.ref a, .ref b, .ref qa, .ref qu, .ref qb, .ref qh, .ref qm])), (a, .inr (6, [.ref qk, .ref qp, .int (nI n), .int (bz fu), .int (bz fa)])), (qk, .inl (cB, 3000, .inl K)), (qp, .inl (cI, 18000, .inl P))] H := hP
            have hD : va_D A [(hm, .inr (1, [.ref a, .ref b, .ref qa, .ref qu, .ref qb, .ref qh, .ref qm])), (a, .inr (6, [.ref qk, .ref qp, .int (nI n), .int (bz fu), .int (bz fa)])), (qk, .inl (cB, 3000, .inl K)), (qp, .inl (cI, 18000, .inl P))] := hD
            refine W.eq (g2 := F0 m 53 ls [.int (P (6 * j + k))]) rfl ?_
            exact ct_reti hQ hx hb hr hlocks hP hD hS () [(hm, .inr (1, [.ref a, .ref b, .ref qa, .ref qu, .ref qb, .ref qh, .ref qm])), (a, .inr (6, [.ref qk, .ref qp, .int (nI n), .int (bz fu), .int (bz fa)])), (qk, .inl (cB, 3000, .inl K)), (qp, .inl (cI, 18000, .inl P))] [0, 1, 2, 3] (by rw [ej, ek, rPlace_g hj hn hk5 (Or.inl (by rw [← ek]; exact c_5))]) (trivial) (rfl) rfl rfl (by omega) (by omega) d_M_place_53
          · skip
            refine lv_aload_n hx hb d_M_place_29 rfl (lv_at hl 0 rfl) ?_
            refine va_get (D := D) (ci := 1) (v := .ref a) (C := R_M) (T := T_M) (N := 7) hx hb hts (ui_M _) hown hK hP 0 rfl rfl 0 (by decide) (hts _ (gwc gw_509)) (fun _ h9 => h9) rfl d_M_place_30 ?_
            refine va_getN (D := D) (ci := 6) (v := .ref qk) (C := R_MPath) (T := T_MPath) (N := 5) hx hb hts (ui_MPath _) hown hK hP 1 rfl rfl 0 (by decide) ((amb_nw_9 hM).use rfl) (fun _ h9 => h9) rfl d_M_place_33 ?_
            refine lv_iload_n hx hb d_M_place_36 rfl (lv_at hl 1 rfl) ?_
            refine tp_i (nI j) (ej) ?_
            refine ld_b hx hb hK hP 2 1 rfl rfl j (by omega) (by omega) d_M_place_37 ?_
            refine lv_iconst (v := 2) hx hb d_M_place_38 (by decide) ?_
            refine lv_icmp_eq (tgt := 44) hx hb d_M_place_39 (by decide) (fun c_7 => ?_) (fun c_7 => ?_)
            · skip
              refine lv_aload_n hx hb d_M_place_44 rfl (lv_at hl 0 rfl) ?_
              refine va_get (D := D) (ci := 1) (v := .ref a) (C := R_M) (T := T_M) (N := 7) hx hb hts (ui_M _) hown hK hP 0 rfl rfl 0 (by decide) (hts _ (gwc gw_509)) (fun _ h9 => h9) rfl d_M_place_45 ?_
              refine lv_iload_n hx hb d_M_place_48 rfl (lv_at hl 1 rfl) ?_
              refine tp_i (nI j) (ej) ?_
              refine lv_iload_n hx hb d_M_place_49 rfl (lv_at hl 2 rfl) ?_
              refine tp_i (nI k) (ek) ?_
              refine ct_callV (ci := 6) (q0 := 1) (As := [.int (nI j), .int (nI k)]) (rest := []) (wr := [(hm, .inr (1, [.ref a, .ref b, .ref qa, .ref qu, .ref qb, .ref qh, .ref qm]))]) (n := 2) (c_MPath_get l D cI cB cJ qQ  a qk qp n K P fu fa j k (by omega) (by omega)) hx hb hml hown hts (amb_ok qQ) hK hP hD hS hA hM (gi_V gw_540 gw_541 gw_542 gw_34 gw_543) rfl (by decide +kernel) ⟨by omega, by omega⟩ [1, 2, 3] [0] rfl rfl rfl rfl (by decide) rfl rfl rfl hl.1 rfl (Nat.le_of_ble_eq_true rfl) d_M_place_50 ⟨by omega, by omega⟩ (fun u_8 H locs hok hP hD hS => ?_)
              have hP : va_P D cl [(hm, .inr (1, [.ref a, .ref b, .ref qa, .ref qu, .ref qb, .ref qh, .ref qm])), (a, .inr (6, [.ref qk, .ref qp, .int (nI n), .int (bz fu), .int (bz fa)])), (qk, .inl (cB, 3000, .inl K)), (qp, .inl (cI, 18000, .inl P))] H := hP
              have hD : va_D A [(hm, .inr (1, [.ref a, .ref b, .ref qa, .ref qu, .ref qb, .ref qh, .ref qm])), (a, .inr (6, [.ref qk, .ref qp, .int (nI n), .int (bz fu), .int (bz fa)])), (qk, .inl (cB, 3000, .inl K)), (qp, .inl (cI, 18000, .inl P))] := hD
              refine W.eq (g2 := F0 m 53 ls [.int (P (6 * j + k))]) rfl ?_
              exact ct_reti hQ hx hb hr hlocks hP hD hS () [(hm, .inr (1, [.ref a, .ref b, .ref qa, .ref qu, .ref qb, .ref qh, .ref qm])), (a, .inr (6, [.ref qk, .ref qp, .int (nI n), .int (bz fu), .int (bz fa)])), (qk, .inl (cB, 3000, .inl K)), (qp, .inl (cI, 18000, .inl P))] [0, 1, 2, 3] (by rw [ej, ek, rPlace_g hj hn hk5 (Or.inr c_7)]) (trivial) (rfl) rfl rfl (by omega) (by omega) d_M_place_53
            · skip
              refine lv_iconst (v := 0) hx hb d_M_place_42 (by decide) ?_
              exact ct_reti hQ hx hb hr hlocks hP hD hS () [(hm, .inr (1, [.ref a, .ref b, .ref qa, .ref qu, .ref qb, .ref qh, .ref qm])), (a, .inr (6, [.ref qk, .ref qp, .int (nI n), .int (bz fu), .int (bz fa)])), (qk, .inl (cB, 3000, .inl K)), (qp, .inl (cI, 18000, .inl P))] [0, 1, 2, 3] (by rw [ej, ek, rPlace_z hj hn hk5 (by rw [← ek]; exact c_5) c_7]) (trivial) (rfl) rfl rfl (by omega) (by omega) d_M_place_43
