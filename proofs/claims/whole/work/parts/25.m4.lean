set_option maxHeartbeats 4000000 in
set_option maxRecDepth 100000 in
/-- beginArc -/
theorem c_M_beginArc (l : Launch) (D : va_G) (cI cB cJ : ClassId) (qQ : Nat) (hm : Nat) (a : Nat) (b : Nat) (qa : Nat) (qu : Nat) (qb : Nat) (qh : Nat) (qm : Nat) (qk2 : Nat) (qp2 : Nat) (n2 : Nat) (K2 : Nat → Int32) (P2 : Nat → Int32) (fu2 : Bool) (fa2 : Bool) (ax0 : Int64) (ax1 : Int64) (ax2 : Int64) (ax3 : Int64) (x : Int64) (y : Int64) (a_ : Int64) (b_ : Int64) (hn2 : n2 ≤ 3000) : ct l D cl [(cI, .int), (cB, .byte), (cJ, .long)] (amb qQ) y_M_beginArc w_M_beginArc 4 103 (0) (0) [.ref hm, .long x, .long y, .long a_, .long b_] [(hm, .inr (1, [.ref a, .ref b, .ref qa, .ref qu, .ref qb, .ref qh, .ref qm])), (qa, .inl (cJ, 4, .inr (.inl (f4 ax0 ax1 ax2 ax3)))), (b, .inr (6, [.ref qk2, .ref qp2, .int (nI n2), .int (bz fu2), .int (bz fa2)])), (qk2, .inl (cB, 3000, .inl K2)), (qp2, .inl (cI, 18000, .inl P2))] (fun u_ : Nat × (Nat → Int32) × (Nat → Int32) × Bool × Bool => match u_ with | (n', K', P', fu', fa') => n' ≤ 3000 ∧ (lst n' K' P', fu', fa') = bArc (lst n2 K2 P2, fu2, fa2) (aro x a_ b_ ax0 ax2) (aro y a_ b_ ax1 ax3)) (fun u_ : Nat × (Nat → Int32) × (Nat → Int32) × Bool × Bool => match u_ with | (n', K', P', fu', fa') => none) (fun u_ : Nat × (Nat → Int32) × (Nat → Int32) × Bool × Bool => match u_ with | (n', K', P', fu', fa') => [(hm, .inr (1, [.ref a, .ref b, .ref qa, .ref qu, .ref qb, .ref qh, .ref qm])), (qa, .inl (cJ, 4, .inr (.inl (f4 ax0 ax1 ax2 ax3)))), (b, .inr (6, [.ref qk2, .ref qp2, .int (nI n'), .int (bz fu'), .int (bz fa')])), (qk2, .inl (cB, 3000, .inl K')), (qp2, .inl (cI, 18000, .inl P'))]) := by
  refine ct_ofW (cc := b_M_beginArc) (maxL := 13) (ret := none) (by decide) rfl (Nat.le_of_ble_eq_true rfl) ?_
  intro p e R s m args below meth c A Q ls hx hb hr hml hts hown hlocks hname hRf hRc hRs hRl hQ hK hP hD hS hA hM hl
  have hl : lv_has ls 13 [(0, .ref hm), (1, .long x), (3, .long y), (5, .long a_), (7, .long b_)] := hl
  refine lv_aload_n hx hb d_M_beginArc_0 rfl (lv_at hl 0 rfl) ?_
  refine lv_lload_n hx hb d_M_beginArc_1 rfl (lv_at hl 1 rfl) ?_
  refine lv_lload hx hb d_M_beginArc_2 (lv_at hl 3 rfl) ?_
  refine lv_lload hx hb d_M_beginArc_4 (lv_at hl 4 rfl) ?_
  refine lv_iconst (v := 0) hx hb d_M_beginArc_6 (by decide) ?_
  refine ct_callV (ci := 1) (q0 := 0) (As := [.long x, .long a_, .long b_, .int 0]) (rest := []) (wr := [(b, .inr (6, [.ref qk2, .ref qp2, .int (nI n2), .int (bz fu2), .int (bz fa2)])), (qk2, .inl (cB, 3000, .inl K2)), (qp2, .inl (cI, 18000, .inl P2))]) (n := 4) (c_M_around0 l D cI cB cJ qQ  hm a b qa qu qb qh qm ax0 ax1 ax2 ax3 x a_ b_ ) hx hb hml hown hts (amb_ok qQ) hK hP hD hS hA hM (gi_V gw_659 gw_661 gw_24 gw_33 gw_662) rfl (by decide +kernel) ⟨by omega, by omega⟩ [0, 1] [2, 3, 4] rfl rfl rfl rfl (by decide) rfl rfl rfl hl.1 rfl (Nat.le_of_ble_eq_true rfl) d_M_beginArc_7 ⟨by omega, by omega⟩ (fun u_1 H locs hok hP hD hS => ?_)
  have hP : va_P D cl [(b, .inr (6, [.ref qk2, .ref qp2, .int (nI n2), .int (bz fu2), .int (bz fa2)])), (qk2, .inl (cB, 3000, .inl K2)), (qp2, .inl (cI, 18000, .inl P2)), (hm, .inr (1, [.ref a, .ref b, .ref qa, .ref qu, .ref qb, .ref qh, .ref qm])), (qa, .inl (cJ, 4, .inr (.inl (f4 ax0 ax1 ax2 ax3))))] H := hP
  have hD : va_D A [(b, .inr (6, [.ref qk2, .ref qp2, .int (nI n2), .int (bz fu2), .int (bz fa2)])), (qk2, .inl (cB, 3000, .inl K2)), (qp2, .inl (cI, 18000, .inl P2)), (hm, .inr (1, [.ref a, .ref b, .ref qa, .ref qu, .ref qb, .ref qh, .ref qm])), (qa, .inl (cJ, 4, .inr (.inl (f4 ax0 ax1 ax2 ax3))))] := hD
  refine W.eq (g2 := F0 m 10 ls [.long (aro x a_ b_ ax0 ax2)]) rfl ?_
  refine lv_lstore (lv' := [(9, .long (aro x a_ b_ ax0 ax2)), (0, .ref hm), (1, .long x), (3, .long y), (5, .long a_), (7, .long b_)]) hx hb d_M_beginArc_10 hl (by decide) rfl (fun ls hl => ?_)
  refine lv_aload_n hx hb d_M_beginArc_12 rfl (lv_at hl 1 rfl) ?_
  refine lv_lload_n hx hb d_M_beginArc_13 rfl (lv_at hl 3 rfl) ?_
  refine lv_lload hx hb d_M_beginArc_14 (lv_at hl 4 rfl) ?_
  refine lv_lload hx hb d_M_beginArc_16 (lv_at hl 5 rfl) ?_
  refine lv_iconst (v := 1) hx hb d_M_beginArc_18 (by decide) ?_
  refine ct_callV (ci := 1) (q0 := 3) (As := [.long y, .long a_, .long b_, .int 1]) (rest := []) (wr := [(b, .inr (6, [.ref qk2, .ref qp2, .int (nI n2), .int (bz fu2), .int (bz fa2)])), (qk2, .inl (cB, 3000, .inl K2)), (qp2, .inl (cI, 18000, .inl P2))]) (n := 4) (c_M_around1 l D cI cB cJ qQ  hm a b qa qu qb qh qm ax0 ax1 ax2 ax3 y a_ b_ ) hx hb hml hown hts (amb_ok qQ) hK hP hD hS hA hM (gi_V gw_659 gw_661 gw_24 gw_33 gw_662) rfl (by decide +kernel) ⟨by omega, by omega⟩ [3, 4] [0, 1, 2] rfl rfl rfl rfl (by decide) rfl rfl rfl hl.1 rfl (Nat.le_of_ble_eq_true rfl) d_M_beginArc_19 ⟨by omega, by omega⟩ (fun u_2 H locs hok hP hD hS => ?_)
  have hP : va_P D cl [(b, .inr (6, [.ref qk2, .ref qp2, .int (nI n2), .int (bz fu2), .int (bz fa2)])), (qk2, .inl (cB, 3000, .inl K2)), (qp2, .inl (cI, 18000, .inl P2)), (hm, .inr (1, [.ref a, .ref b, .ref qa, .ref qu, .ref qb, .ref qh, .ref qm])), (qa, .inl (cJ, 4, .inr (.inl (f4 ax0 ax1 ax2 ax3))))] H := hP
  have hD : va_D A [(b, .inr (6, [.ref qk2, .ref qp2, .int (nI n2), .int (bz fu2), .int (bz fa2)])), (qk2, .inl (cB, 3000, .inl K2)), (qp2, .inl (cI, 18000, .inl P2)), (hm, .inr (1, [.ref a, .ref b, .ref qa, .ref qu, .ref qb, .ref qh, .ref qm])), (qa, .inl (cJ, 4, .inr (.inl (f4 ax0 ax1 ax2 ax3))))] := hD
  refine W.eq (g2 := F0 m 22 ls [.long (aro y a_ b_ ax1 ax3)]) rfl ?_
  refine lv_lstore (lv' := [(11, .long (aro y a_ b_ ax1 ax3)), (9, .long (aro x a_ b_ ax0 ax2)), (0, .ref hm), (1, .long x), (3, .long y), (5, .long a_), (7, .long b_)]) hx hb d_M_beginArc_22 hl (by decide) rfl (fun ls hl => ?_)
  refine lv_aload_n hx hb d_M_beginArc_24 rfl (lv_at hl 2 rfl) ?_
  refine va_get (D := D) (ci := 1) (v := .ref b) (C := R_M) (T := T_M) (N := 7) hx hb hts (ui_M _) hown hK hP 3 rfl rfl 1 (by decide) (hts _ (gwc gw_510)) (fun _ h9 => h9) rfl d_M_beginArc_25 ?_
  refine va_getN (D := D) (ci := 6) (v := .int (nI n2)) (C := R_MPath) (T := T_MPath) (N := 5) hx hb hts (ui_MPath _) hown hK hP 0 rfl rfl 2 (by decide) ((amb_nw_10 hM).use rfl) (fun _ h9 => h9) rfl d_M_beginArc_28 ?_
  refine bz_ne (a1 := n2) (tgt := 46) hx hb (by omega) d_M_beginArc_31 (by decide) (fun c_3 => ?_) (fun c_3 => ?_)
  · skip
    refine lv_aload_n hx hb d_M_beginArc_46 rfl (lv_at hl 2 rfl) ?_
    refine va_get (D := D) (ci := 1) (v := .ref b) (C := R_M) (T := T_M) (N := 7) hx hb hts (ui_M _) hown hK hP 3 rfl rfl 1 (by decide) (hts _ (gwc gw_510)) (fun _ h9 => h9) rfl d_M_beginArc_47 ?_
    refine ct_callV (ci := 6) (q0 := 0) (As := []) (rest := []) (wr := [(hm, .inr (1, [.ref a, .ref b, .ref qa, .ref qu, .ref qb, .ref qh, .ref qm])), (qa, .inl (cJ, 4, .inr (.inl (f4 ax0 ax1 ax2 ax3))))]) (n := 0) (c_MPath_open l D cI cB cJ qQ  b qk2 qp2 n2 K2 P2 fu2 fa2 (hn2)) hx hb hml hown hts (amb_ok qQ) hK hP hD hS hA hM (gi_V gw_582 gw_583 gw_584 gw_34 gw_585) rfl (by decide +kernel) ⟨by omega, by omega⟩ [0, 1, 2] [3, 4] rfl rfl rfl rfl (by decide) rfl rfl rfl hl.1 rfl (Nat.le_of_ble_eq_true rfl) d_M_beginArc_50 ⟨by omega, by omega⟩ (fun u_4 H locs hok hP hD hS => ?_)
    obtain ⟨n'_5, K'_6, P'_7, fu'_8, fa'_9⟩ := u_4
    have hop : n'_5 ≤ 3000 ∧ (lst n'_5 K'_6 P'_7, fu'_8, fa'_9) = openD (lst n2 K2 P2, fu2, fa2) := hok
    have hP : va_P D cl [(hm, .inr (1, [.ref a, .ref b, .ref qa, .ref qu, .ref qb, .ref qh, .ref qm])), (qa, .inl (cJ, 4, .inr (.inl (f4 ax0 ax1 ax2 ax3)))), (b, .inr (6, [.ref qk2, .ref qp2, .int (nI n'_5), .int (bz fu'_8), .int (bz fa'_9)])), (qk2, .inl (cB, 3000, .inl K'_6)), (qp2, .inl (cI, 18000, .inl P'_7))] H := hP
    have hD : va_D A [(hm, .inr (1, [.ref a, .ref b, .ref qa, .ref qu, .ref qb, .ref qh, .ref qm])), (qa, .inl (cJ, 4, .inr (.inl (f4 ax0 ax1 ax2 ax3)))), (b, .inr (6, [.ref qk2, .ref qp2, .int (nI n'_5), .int (bz fu'_8), .int (bz fa'_9)])), (qk2, .inl (cB, 3000, .inl K'_6)), (qp2, .inl (cI, 18000, .inl P'_7))] := hD
    refine W.eq (g2 := F0 m 53 ls []) rfl ?_
    refine lv_aload_n hx hb d_M_beginArc_53 rfl (lv_at hl 2 rfl) ?_
    refine va_get (D := D) (ci := 1) (v := .ref b) (C := R_M) (T := T_M) (N := 7) hx hb hts (ui_M _) hown hK hP 0 rfl rfl 1 (by decide) (hts _ (gwc gw_510)) (fun _ h9 => h9) rfl d_M_beginArc_54 ?_
    refine lv_iconst (v := 1) hx hb d_M_beginArc_57 (by decide) ?_
    refine lv_lload hx hb d_M_beginArc_58 (lv_at hl 1 rfl) ?_
    refine lv_lload hx hb d_M_beginArc_60 (lv_at hl 0 rfl) ?_
    refine ct_callV (ci := 6) (q0 := 2) (As := [.int 1, .long (aro x a_ b_ ax0 ax2), .long (aro y a_ b_ ax1 ax3)]) (rest := []) (wr := [(hm, .inr (1, [.ref a, .ref b, .ref qa, .ref qu, .ref qb, .ref qh, .ref qm])), (qa, .inl (cJ, 4, .inr (.inl (f4 ax0 ax1 ax2 ax3))))]) (n := 3) (c_MPath_addPoint l D cI cB cJ qQ  b qk2 qp2 n'_5 K'_6 P'_7 fu'_8 fa'_9 1 (aro x a_ b_ ax0 ax2) (aro y a_ b_ ax1 ax3) (hop.1) (kok1)) hx hb hml hown hts (amb_ok qQ) hK hP hD hS hA hM (gi_V gw_587 gw_561 gw_562 gw_34 gw_563) rfl (by decide +kernel) ⟨by omega, by omega⟩ [2, 3, 4] [0, 1] rfl rfl rfl rfl (by decide) rfl rfl rfl hl.1 rfl (Nat.le_of_ble_eq_true rfl) d_M_beginArc_62 ⟨by omega, by omega⟩ (fun u_10 H locs hok hP hD hS => ?_)
    obtain ⟨n'_11, K'_12, P'_13, fu'_14, fa'_15⟩ := u_10
    have hbg : n'_11 ≤ 3000 ∧ (lst n'_11 K'_12 P'_13, fu'_14, fa'_15) = addD (lst n'_5 K'_6 P'_7, fu'_8, fa'_9) 1 (aro x a_ b_ ax0 ax2) (aro y a_ b_ ax1 ax3) 0 0 0 0 := hok
    have hP : va_P D cl [(hm, .inr (1, [.ref a, .ref b, .ref qa, .ref qu, .ref qb, .ref qh, .ref qm])), (qa, .inl (cJ, 4, .inr (.inl (f4 ax0 ax1 ax2 ax3)))), (b, .inr (6, [.ref qk2, .ref qp2, .int (nI n'_11), .int (bz fu'_14), .int (bz fa'_15)])), (qk2, .inl (cB, 3000, .inl K'_12)), (qp2, .inl (cI, 18000, .inl P'_13))] H := hP
    have hD : va_D A [(hm, .inr (1, [.ref a, .ref b, .ref qa, .ref qu, .ref qb, .ref qh, .ref qm])), (qa, .inl (cJ, 4, .inr (.inl (f4 ax0 ax1 ax2 ax3)))), (b, .inr (6, [.ref qk2, .ref qp2, .int (nI n'_11), .int (bz fu'_14), .int (bz fa'_15)])), (qk2, .inl (cB, 3000, .inl K'_12)), (qp2, .inl (cI, 18000, .inl P'_13))] := hD
    refine W.eq (g2 := F0 m 65 ls []) rfl ?_
    rw [hop.2] at hbg
    exact ct_retv hQ hx hb hr hlocks hP hD hS (n'_11, K'_12, P'_13, fu'_14, fa'_15) [(hm, .inr (1, [.ref a, .ref b, .ref qa, .ref qu, .ref qb, .ref qh, .ref qm])), (qa, .inl (cJ, 4, .inr (.inl (f4 ax0 ax1 ax2 ax3)))), (b, .inr (6, [.ref qk2, .ref qp2, .int (nI n'_11), .int (bz fu'_14), .int (bz fa'_15)])), (qk2, .inl (cB, 3000, .inl K'_12)), (qp2, .inl (cI, 18000, .inl P'_13))] [0, 1, 2, 3, 4] (rfl) (⟨hbg.1, by rw [hbg.2, bArc_n c_3]⟩) (rfl) rfl rfl (by omega) (by omega) d_M_beginArc_65
  · skip
    refine lv_aload_n hx hb d_M_beginArc_34 rfl (lv_at hl 2 rfl) ?_
    refine va_get (D := D) (ci := 1) (v := .ref b) (C := R_M) (T := T_M) (N := 7) hx hb hts (ui_M _) hown hK hP 3 rfl rfl 1 (by decide) (hts _ (gwc gw_510)) (fun _ h9 => h9) rfl d_M_beginArc_35 ?_
    refine lv_lload hx hb d_M_beginArc_38 (lv_at hl 1 rfl) ?_
    refine lv_lload hx hb d_M_beginArc_40 (lv_at hl 0 rfl) ?_
    refine ct_callV (ci := 6) (q0 := 0) (As := [.long (aro x a_ b_ ax0 ax2), .long (aro y a_ b_ ax1 ax3)]) (rest := []) (wr := [(hm, .inr (1, [.ref a, .ref b, .ref qa, .ref qu, .ref qb, .ref qh, .ref qm])), (qa, .inl (cJ, 4, .inr (.inl (f4 ax0 ax1 ax2 ax3))))]) (n := 2) (c_MPath_begin l D cI cB cJ qQ  b qk2 qp2 n2 K2 P2 fu2 fa2 (aro x a_ b_ ax0 ax2) (aro y a_ b_ ax1 ax3) (hn2)) hx hb hml hown hts (amb_ok qQ) hK hP hD hS hA hM (gi_V gw_556 gw_557 gw_558 gw_34 gw_559) rfl (by decide +kernel) ⟨by omega, by omega⟩ [0, 1, 2] [3, 4] rfl rfl rfl rfl (by decide) rfl rfl rfl hl.1 rfl (Nat.le_of_ble_eq_true rfl) d_M_beginArc_42 ⟨by omega, by omega⟩ (fun u_16 H locs hok hP hD hS => ?_)
    obtain ⟨n'_17, K'_18, P'_19, fu'_20, fa'_21⟩ := u_16
    have hbg : n'_17 ≤ 3000 ∧ (lst n'_17 K'_18 P'_19, fu'_20, fa'_21) = beginD (lst n2 K2 P2, fu2, fa2) (aro x a_ b_ ax0 ax2) (aro y a_ b_ ax1 ax3) := hok
    have hP : va_P D cl [(hm, .inr (1, [.ref a, .ref b, .ref qa, .ref qu, .ref qb, .ref qh, .ref qm])), (qa, .inl (cJ, 4, .inr (.inl (f4 ax0 ax1 ax2 ax3)))), (b, .inr (6, [.ref qk2, .ref qp2, .int (nI n'_17), .int (bz fu'_20), .int (bz fa'_21)])), (qk2, .inl (cB, 3000, .inl K'_18)), (qp2, .inl (cI, 18000, .inl P'_19))] H := hP
    have hD : va_D A [(hm, .inr (1, [.ref a, .ref b, .ref qa, .ref qu, .ref qb, .ref qh, .ref qm])), (qa, .inl (cJ, 4, .inr (.inl (f4 ax0 ax1 ax2 ax3)))), (b, .inr (6, [.ref qk2, .ref qp2, .int (nI n'_17), .int (bz fu'_20), .int (bz fa'_21)])), (qk2, .inl (cB, 3000, .inl K'_18)), (qp2, .inl (cI, 18000, .inl P'_19))] := hD
    refine W.eq (g2 := F0 m 45 ls []) rfl ?_
    exact ct_retv hQ hx hb hr hlocks hP hD hS (n'_17, K'_18, P'_19, fu'_20, fa'_21) [(hm, .inr (1, [.ref a, .ref b, .ref qa, .ref qu, .ref qb, .ref qh, .ref qm])), (qa, .inl (cJ, 4, .inr (.inl (f4 ax0 ax1 ax2 ax3)))), (b, .inr (6, [.ref qk2, .ref qp2, .int (nI n'_17), .int (bz fu'_20), .int (bz fa'_21)])), (qk2, .inl (cB, 3000, .inl K'_18)), (qp2, .inl (cI, 18000, .inl P'_19))] [0, 1, 2, 3, 4] (rfl) (⟨hbg.1, by rw [hbg.2, bArc_0 c_3]⟩) (rfl) rfl rfl (by omega) (by omega) d_M_beginArc_45
set_option maxHeartbeats 4000000 in
set_option maxRecDepth 100000 in
/-- addCurve -/
theorem c_M_addCurve0 (l : Launch) (D : va_G) (cI cB cJ : ClassId) (qQ : Nat) (hm : Nat) (a : Nat) (b : Nat) (qa : Nat) (qu : Nat) (qb : Nat) (qh : Nat) (qm : Nat) (qk2 : Nat) (qp2 : Nat) (n2 : Nat) (K2 : Nat → Int32) (P2 : Nat → Int32) (fu2 : Bool) (fa2 : Bool) (ax0 : Int64) (ax1 : Int64) (ax2 : Int64) (ax3 : Int64) (u0 : Int64) (u1 : Int64) (u2 : Int64) (u3 : Int64) (u4 : Int64) (u5 : Int64) (u6 : Int64) (u7 : Int64) (x : Int64) (y : Int64) (hn2 : n2 ≤ 3000) : ct l D cl [(cI, .int), (cB, .byte), (cJ, .long)] (amb qQ) y_M_addCurve w_M_addCurve 2 56 (0) (0) [.ref hm, .long x, .long y, .int 0] [(hm, .inr (1, [.ref a, .ref b, .ref qa, .ref qu, .ref qb, .ref qh, .ref qm])), (qa, .inl (cJ, 4, .inr (.inl (f4 ax0 ax1 ax2 ax3)))), (qu, .inl (cJ, 8, .inr (.inl (f8 u0 u1 u2 u3 u4 u5 u6 u7)))), (b, .inr (6, [.ref qk2, .ref qp2, .int (nI n2), .int (bz fu2), .int (bz fa2)])), (qk2, .inl (cB, 3000, .inl K2)), (qp2, .inl (cI, 18000, .inl P2))] (fun u_ : Nat × (Nat → Int32) × (Nat → Int32) × Bool × Bool => match u_ with | (n', K', P', fu', fa') => n' ≤ 3000 ∧ (lst n' K' P', fu', fa') = cvD (lst n2 K2 P2, fu2, fa2) x y (ax0, ax1, ax2, ax3) (u0, u1, u2, u3, u4, u5, u6, u7) false) (fun u_ : Nat × (Nat → Int32) × (Nat → Int32) × Bool × Bool => match u_ with | (n', K', P', fu', fa') => none) (fun u_ : Nat × (Nat → Int32) × (Nat → Int32) × Bool × Bool => match u_ with | (n', K', P', fu', fa') => [(hm, .inr (1, [.ref a, .ref b, .ref qa, .ref qu, .ref qb, .ref qh, .ref qm])), (qa, .inl (cJ, 4, .inr (.inl (f4 ax0 ax1 ax2 ax3)))), (qu, .inl (cJ, 8, .inr (.inl (f8 u0 u1 u2 u3 u4 u5 u6 u7)))), (b, .inr (6, [.ref qk2, .ref qp2, .int (nI n'), .int (bz fu'), .int (bz fa')])), (qk2, .inl (cB, 3000, .inl K')), (qp2, .inl (cI, 18000, .inl P'))]) := by
  refine ct_ofW (cc := b_M_addCurve) (maxL := 9) (ret := none) (by decide) rfl (Nat.le_of_ble_eq_true rfl) ?_
  intro p e R s m args below meth c A Q ls hx hb hr hml hts hown hlocks hname hRf hRc hRs hRl hQ hK hP hD hS hA hM hl
  have hl : lv_has ls 9 [(0, .ref hm), (1, .long x), (3, .long y), (5, .int 0)] := hl
  refine lv_iload hx hb d_M_addCurve_0 (lv_at hl 3 rfl) ?_
  refine bz_eq (a1 := 0) (tgt := 9) hx hb (by omega) d_M_addCurve_2 (by decide) (fun c_1 => ?_) (fun c_1 => ?_)
  rotate_left
  · exact absurd c_1 (by decide)
  refine lv_iconst (v := 2) hx hb d_M_addCurve_9 (by decide) ?_
  refine lv_istore (lv' := [(6, .int 2), (0, .ref hm), (1, .long x), (3, .long y), (5, .int 0)]) hx hb d_M_addCurve_10 hl (by decide) rfl (fun ls hl => ?_)
  refine lv_iload hx hb d_M_addCurve_12 (lv_at hl 4 rfl) ?_
  refine bz_eq (a1 := 0) (tgt := 21) hx hb (by omega) d_M_addCurve_14 (by decide) (fun c_2 => ?_) (fun c_2 => ?_)
  rotate_left
  · exact absurd c_2 (by decide)
  refine lv_iconst (v := 4) hx hb d_M_addCurve_21 (by decide) ?_
  refine lv_istore (lv' := [(7, .int 4), (6, .int 2), (0, .ref hm), (1, .long x), (3, .long y), (5, .int 0)]) hx hb d_M_addCurve_22 hl (by decide) rfl (fun ls hl => ?_)
  refine lv_iload hx hb d_M_addCurve_24 (lv_at hl 5 rfl) ?_
  refine bz_eq (a1 := 0) (tgt := 33) hx hb (by omega) d_M_addCurve_26 (by decide) (fun c_3 => ?_) (fun c_3 => ?_)
  rotate_left
  · exact absurd c_3 (by decide)
  refine lv_bipush (v := 6) hx hb d_M_addCurve_33 (by decide) ?_
  refine lv_istore (lv' := [(8, .int 6), (7, .int 4), (6, .int 2), (0, .ref hm), (1, .long x), (3, .long y), (5, .int 0)]) hx hb d_M_addCurve_35 hl (by decide) rfl (fun ls hl => ?_)
  refine lv_aload_n hx hb d_M_addCurve_37 rfl (lv_at hl 3 rfl) ?_
  refine va_get (D := D) (ci := 1) (v := .ref b) (C := R_M) (T := T_M) (N := 7) hx hb hts (ui_M _) hown hK hP 0 rfl rfl 1 (by decide) (hts _ (gwc gw_510)) (fun _ h9 => h9) rfl d_M_addCurve_38 ?_
  refine lv_iconst (v := 2) hx hb d_M_addCurve_41 (by decide) ?_
  refine lv_aload_n hx hb d_M_addCurve_42 rfl (lv_at hl 3 rfl) ?_
  refine lv_lload_n hx hb d_M_addCurve_43 rfl (lv_at hl 4 rfl) ?_
  refine lv_aload_n hx hb d_M_addCurve_44 rfl (lv_at hl 3 rfl) ?_
  refine va_get (D := D) (ci := 1) (v := .ref qu) (C := R_M) (T := T_M) (N := 7) hx hb hts (ui_M _) hown hK hP 0 rfl rfl 3 (by decide) (hts _ (gwc gw_512)) (fun _ h9 => h9) rfl d_M_addCurve_45 ?_
  refine lv_iload hx hb d_M_addCurve_48 (lv_at hl 0 rfl) ?_
  refine ld_l hx hb hK hP 2 2 rfl rfl 6 (by omega) (by omega) d_M_addCurve_50 ?_
  refine tp_l (u6) (rfl) ?_
  refine lv_aload_n hx hb d_M_addCurve_51 rfl (lv_at hl 3 rfl) ?_
  refine va_get (D := D) (ci := 1) (v := .ref qu) (C := R_M) (T := T_M) (N := 7) hx hb hts (ui_M _) hown hK hP 0 rfl rfl 3 (by decide) (hts _ (gwc gw_512)) (fun _ h9 => h9) rfl d_M_addCurve_52 ?_
  refine lv_iload hx hb d_M_addCurve_55 (lv_at hl 0 rfl) ?_
  refine lv_iconst (v := 1) hx hb d_M_addCurve_57 (by decide) ?_
  refine lv_iadd hx hb d_M_addCurve_58 ?_
  refine tp_i (7) (by decide) ?_
  refine ld_l hx hb hK hP 2 2 rfl rfl 7 (by omega) (by omega) d_M_addCurve_59 ?_
  refine tp_l (u7) (rfl) ?_
  refine lv_iconst (v := 0) hx hb d_M_addCurve_60 (by decide) ?_
  refine ct_callV (ci := 1) (q0 := 0) (As := [.long x, .long u6, .long u7, .int 0]) (rest := [.int 2, .ref b]) (wr := [(qu, .inl (cJ, 8, .inr (.inl (f8 u0 u1 u2 u3 u4 u5 u6 u7)))), (b, .inr (6, [.ref qk2, .ref qp2, .int (nI n2), .int (bz fu2), .int (bz fa2)])), (qk2, .inl (cB, 3000, .inl K2)), (qp2, .inl (cI, 18000, .inl P2))]) (n := 4) (c_M_around0 l D cI cB cJ qQ  hm a b qa qu qb qh qm ax0 ax1 ax2 ax3 x u6 u7 ) hx hb hml hown hts (amb_ok qQ) hK hP hD hS hA hM (gi_V gw_659 gw_661 gw_24 gw_33 gw_662) rfl (by decide +kernel) ⟨by omega, by omega⟩ [0, 1] [2, 3, 4, 5] rfl rfl rfl rfl (by decide) rfl rfl rfl hl.1 rfl (Nat.le_of_ble_eq_true rfl) d_M_addCurve_61 ⟨by omega, by omega⟩ (fun u_4 H locs hok hP hD hS => ?_)
  have hP : va_P D cl [(qu, .inl (cJ, 8, .inr (.inl (f8 u0 u1 u2 u3 u4 u5 u6 u7)))), (b, .inr (6, [.ref qk2, .ref qp2, .int (nI n2), .int (bz fu2), .int (bz fa2)])), (qk2, .inl (cB, 3000, .inl K2)), (qp2, .inl (cI, 18000, .inl P2)), (hm, .inr (1, [.ref a, .ref b, .ref qa, .ref qu, .ref qb, .ref qh, .ref qm])), (qa, .inl (cJ, 4, .inr (.inl (f4 ax0 ax1 ax2 ax3))))] H := hP
  have hD : va_D A [(qu, .inl (cJ, 8, .inr (.inl (f8 u0 u1 u2 u3 u4 u5 u6 u7)))), (b, .inr (6, [.ref qk2, .ref qp2, .int (nI n2), .int (bz fu2), .int (bz fa2)])), (qk2, .inl (cB, 3000, .inl K2)), (qp2, .inl (cI, 18000, .inl P2)), (hm, .inr (1, [.ref a, .ref b, .ref qa, .ref qu, .ref qb, .ref qh, .ref qm])), (qa, .inl (cJ, 4, .inr (.inl (f4 ax0 ax1 ax2 ax3))))] := hD
  refine W.eq (g2 := F0 m 64 ls [.long (aro x u6 u7 ax0 ax2), .int 2, .ref b]) rfl ?_
  refine lv_aload_n hx hb d_M_addCurve_64 rfl (lv_at hl 3 rfl) ?_
  refine lv_lload_n hx hb d_M_addCurve_65 rfl (lv_at hl 5 rfl) ?_
  refine lv_aload_n hx hb d_M_addCurve_66 rfl (lv_at hl 3 rfl) ?_
  refine va_get (D := D) (ci := 1) (v := .ref qu) (C := R_M) (T := T_M) (N := 7) hx hb hts (ui_M _) hown hK hP 4 rfl rfl 3 (by decide) (hts _ (gwc gw_512)) (fun _ h9 => h9) rfl d_M_addCurve_67 ?_
  refine lv_iload hx hb d_M_addCurve_70 (lv_at hl 0 rfl) ?_
  refine ld_l hx hb hK hP 0 2 rfl rfl 6 (by omega) (by omega) d_M_addCurve_72 ?_
  refine tp_l (u6) (rfl) ?_
  refine lv_aload_n hx hb d_M_addCurve_73 rfl (lv_at hl 3 rfl) ?_
  refine va_get (D := D) (ci := 1) (v := .ref qu) (C := R_M) (T := T_M) (N := 7) hx hb hts (ui_M _) hown hK hP 4 rfl rfl 3 (by decide) (hts _ (gwc gw_512)) (fun _ h9 => h9) rfl d_M_addCurve_74 ?_
  refine lv_iload hx hb d_M_addCurve_77 (lv_at hl 0 rfl) ?_
  refine lv_iconst (v := 1) hx hb d_M_addCurve_79 (by decide) ?_
  refine lv_iadd hx hb d_M_addCurve_80 ?_
  refine tp_i (7) (by decide) ?_
  refine ld_l hx hb hK hP 0 2 rfl rfl 7 (by omega) (by omega) d_M_addCurve_81 ?_
  refine tp_l (u7) (rfl) ?_
  refine lv_iconst (v := 1) hx hb d_M_addCurve_82 (by decide) ?_
  refine ct_callV (ci := 1) (q0 := 4) (As := [.long y, .long u6, .long u7, .int 1]) (rest := [.long (aro x u6 u7 ax0 ax2), .int 2, .ref b]) (wr := [(qu, .inl (cJ, 8, .inr (.inl (f8 u0 u1 u2 u3 u4 u5 u6 u7)))), (b, .inr (6, [.ref qk2, .ref qp2, .int (nI n2), .int (bz fu2), .int (bz fa2)])), (qk2, .inl (cB, 3000, .inl K2)), (qp2, .inl (cI, 18000, .inl P2))]) (n := 4) (c_M_around1 l D cI cB cJ qQ  hm a b qa qu qb qh qm ax0 ax1 ax2 ax3 y u6 u7 ) hx hb hml hown hts (amb_ok qQ) hK hP hD hS hA hM (gi_V gw_659 gw_661 gw_24 gw_33 gw_662) rfl (by decide +kernel) ⟨by omega, by omega⟩ [4, 5] [0, 1, 2, 3] rfl rfl rfl rfl (by decide) rfl rfl rfl hl.1 rfl (Nat.le_of_ble_eq_true rfl) d_M_addCurve_83 ⟨by omega, by omega⟩ (fun u_5 H locs hok hP hD hS => ?_)
  have hP : va_P D cl [(qu, .inl (cJ, 8, .inr (.inl (f8 u0 u1 u2 u3 u4 u5 u6 u7)))), (b, .inr (6, [.ref qk2, .ref qp2, .int (nI n2), .int (bz fu2), .int (bz fa2)])), (qk2, .inl (cB, 3000, .inl K2)), (qp2, .inl (cI, 18000, .inl P2)), (hm, .inr (1, [.ref a, .ref b, .ref qa, .ref qu, .ref qb, .ref qh, .ref qm])), (qa, .inl (cJ, 4, .inr (.inl (f4 ax0 ax1 ax2 ax3))))] H := hP
  have hD : va_D A [(qu, .inl (cJ, 8, .inr (.inl (f8 u0 u1 u2 u3 u4 u5 u6 u7)))), (b, .inr (6, [.ref qk2, .ref qp2, .int (nI n2), .int (bz fu2), .int (bz fa2)])), (qk2, .inl (cB, 3000, .inl K2)), (qp2, .inl (cI, 18000, .inl P2)), (hm, .inr (1, [.ref a, .ref b, .ref qa, .ref qu, .ref qb, .ref qh, .ref qm])), (qa, .inl (cJ, 4, .inr (.inl (f4 ax0 ax1 ax2 ax3))))] := hD
  refine W.eq (g2 := F0 m 86 ls [.long (aro y u6 u7 ax1 ax3), .long (aro x u6 u7 ax0 ax2), .int 2, .ref b]) rfl ?_
  refine lv_aload_n hx hb d_M_addCurve_86 rfl (lv_at hl 3 rfl) ?_
  refine lv_lload_n hx hb d_M_addCurve_87 rfl (lv_at hl 4 rfl) ?_
  refine lv_aload_n hx hb d_M_addCurve_88 rfl (lv_at hl 3 rfl) ?_
  refine va_get (D := D) (ci := 1) (v := .ref qu) (C := R_M) (T := T_M) (N := 7) hx hb hts (ui_M _) hown hK hP 4 rfl rfl 3 (by decide) (hts _ (gwc gw_512)) (fun _ h9 => h9) rfl d_M_addCurve_89 ?_
  refine lv_iload hx hb d_M_addCurve_92 (lv_at hl 2 rfl) ?_
  refine ld_l hx hb hK hP 0 2 rfl rfl 2 (by omega) (by omega) d_M_addCurve_94 ?_
  refine tp_l (u2) (rfl) ?_
  refine lv_aload_n hx hb d_M_addCurve_95 rfl (lv_at hl 3 rfl) ?_
  refine va_get (D := D) (ci := 1) (v := .ref qu) (C := R_M) (T := T_M) (N := 7) hx hb hts (ui_M _) hown hK hP 4 rfl rfl 3 (by decide) (hts _ (gwc gw_512)) (fun _ h9 => h9) rfl d_M_addCurve_96 ?_
  refine lv_iload hx hb d_M_addCurve_99 (lv_at hl 2 rfl) ?_
  refine lv_iconst (v := 1) hx hb d_M_addCurve_101 (by decide) ?_
  refine lv_iadd hx hb d_M_addCurve_102 ?_
  refine tp_i (3) (by decide) ?_
  refine ld_l hx hb hK hP 0 2 rfl rfl 3 (by omega) (by omega) d_M_addCurve_103 ?_
  refine tp_l (u3) (rfl) ?_
  refine lv_iconst (v := 0) hx hb d_M_addCurve_104 (by decide) ?_
  refine ct_callV (ci := 1) (q0 := 4) (As := [.long x, .long u2, .long u3, .int 0]) (rest := [.long (aro y u6 u7 ax1 ax3), .long (aro x u6 u7 ax0 ax2), .int 2, .ref b]) (wr := [(qu, .inl (cJ, 8, .inr (.inl (f8 u0 u1 u2 u3 u4 u5 u6 u7)))), (b, .inr (6, [.ref qk2, .ref qp2, .int (nI n2), .int (bz fu2), .int (bz fa2)])), (qk2, .inl (cB, 3000, .inl K2)), (qp2, .inl (cI, 18000, .inl P2))]) (n := 4) (c_M_around0 l D cI cB cJ qQ  hm a b qa qu qb qh qm ax0 ax1 ax2 ax3 x u2 u3 ) hx hb hml hown hts (amb_ok qQ) hK hP hD hS hA hM (gi_V gw_659 gw_661 gw_24 gw_33 gw_662) rfl (by decide +kernel) ⟨by omega, by omega⟩ [4, 5] [0, 1, 2, 3] rfl rfl rfl rfl (by decide) rfl rfl rfl hl.1 rfl (Nat.le_of_ble_eq_true rfl) d_M_addCurve_105 ⟨by omega, by omega⟩ (fun u_6 H locs hok hP hD hS => ?_)
  have hP : va_P D cl [(qu, .inl (cJ, 8, .inr (.inl (f8 u0 u1 u2 u3 u4 u5 u6 u7)))), (b, .inr (6, [.ref qk2, .ref qp2, .int (nI n2), .int (bz fu2), .int (bz fa2)])), (qk2, .inl (cB, 3000, .inl K2)), (qp2, .inl (cI, 18000, .inl P2)), (hm, .inr (1, [.ref a, .ref b, .ref qa, .ref qu, .ref qb, .ref qh, .ref qm])), (qa, .inl (cJ, 4, .inr (.inl (f4 ax0 ax1 ax2 ax3))))] H := hP
  have hD : va_D A [(qu, .inl (cJ, 8, .inr (.inl (f8 u0 u1 u2 u3 u4 u5 u6 u7)))), (b, .inr (6, [.ref qk2, .ref qp2, .int (nI n2), .int (bz fu2), .int (bz fa2)])), (qk2, .inl (cB, 3000, .inl K2)), (qp2, .inl (cI, 18000, .inl P2)), (hm, .inr (1, [.ref a, .ref b, .ref qa, .ref qu, .ref qb, .ref qh, .ref qm])), (qa, .inl (cJ, 4, .inr (.inl (f4 ax0 ax1 ax2 ax3))))] := hD
  refine W.eq (g2 := F0 m 108 ls [.long (aro x u2 u3 ax0 ax2), .long (aro y u6 u7 ax1 ax3), .long (aro x u6 u7 ax0 ax2), .int 2, .ref b]) rfl ?_
  refine lv_aload_n hx hb d_M_addCurve_108 rfl (lv_at hl 3 rfl) ?_
  refine lv_lload_n hx hb d_M_addCurve_109 rfl (lv_at hl 5 rfl) ?_
  refine lv_aload_n hx hb d_M_addCurve_110 rfl (lv_at hl 3 rfl) ?_
  refine va_get (D := D) (ci := 1) (v := .ref qu) (C := R_M) (T := T_M) (N := 7) hx hb hts (ui_M _) hown hK hP 4 rfl rfl 3 (by decide) (hts _ (gwc gw_512)) (fun _ h9 => h9) rfl d_M_addCurve_111 ?_
  refine lv_iload hx hb d_M_addCurve_114 (lv_at hl 2 rfl) ?_
  refine ld_l hx hb hK hP 0 2 rfl rfl 2 (by omega) (by omega) d_M_addCurve_116 ?_
  refine tp_l (u2) (rfl) ?_
  refine lv_aload_n hx hb d_M_addCurve_117 rfl (lv_at hl 3 rfl) ?_
  refine va_get (D := D) (ci := 1) (v := .ref qu) (C := R_M) (T := T_M) (N := 7) hx hb hts (ui_M _) hown hK hP 4 rfl rfl 3 (by decide) (hts _ (gwc gw_512)) (fun _ h9 => h9) rfl d_M_addCurve_118 ?_
  refine lv_iload hx hb d_M_addCurve_121 (lv_at hl 2 rfl) ?_
  refine lv_iconst (v := 1) hx hb d_M_addCurve_123 (by decide) ?_
  refine lv_iadd hx hb d_M_addCurve_124 ?_
  refine tp_i (3) (by decide) ?_
  refine ld_l hx hb hK hP 0 2 rfl rfl 3 (by omega) (by omega) d_M_addCurve_125 ?_
  refine tp_l (u3) (rfl) ?_
  refine lv_iconst (v := 1) hx hb d_M_addCurve_126 (by decide) ?_
  refine ct_callV (ci := 1) (q0 := 4) (As := [.long y, .long u2, .long u3, .int 1]) (rest := [.long (aro x u2 u3 ax0 ax2), .long (aro y u6 u7 ax1 ax3), .long (aro x u6 u7 ax0 ax2), .int 2, .ref b]) (wr := [(qu, .inl (cJ, 8, .inr (.inl (f8 u0 u1 u2 u3 u4 u5 u6 u7)))), (b, .inr (6, [.ref qk2, .ref qp2, .int (nI n2), .int (bz fu2), .int (bz fa2)])), (qk2, .inl (cB, 3000, .inl K2)), (qp2, .inl (cI, 18000, .inl P2))]) (n := 4) (c_M_around1 l D cI cB cJ qQ  hm a b qa qu qb qh qm ax0 ax1 ax2 ax3 y u2 u3 ) hx hb hml hown hts (amb_ok qQ) hK hP hD hS hA hM (gi_V gw_659 gw_661 gw_24 gw_33 gw_662) rfl (by decide +kernel) ⟨by omega, by omega⟩ [4, 5] [0, 1, 2, 3] rfl rfl rfl rfl (by decide) rfl rfl rfl hl.1 rfl (Nat.le_of_ble_eq_true rfl) d_M_addCurve_127 ⟨by omega, by omega⟩ (fun u_7 H locs hok hP hD hS => ?_)
  have hP : va_P D cl [(qu, .inl (cJ, 8, .inr (.inl (f8 u0 u1 u2 u3 u4 u5 u6 u7)))), (b, .inr (6, [.ref qk2, .ref qp2, .int (nI n2), .int (bz fu2), .int (bz fa2)])), (qk2, .inl (cB, 3000, .inl K2)), (qp2, .inl (cI, 18000, .inl P2)), (hm, .inr (1, [.ref a, .ref b, .ref qa, .ref qu, .ref qb, .ref qh, .ref qm])), (qa, .inl (cJ, 4, .inr (.inl (f4 ax0 ax1 ax2 ax3))))] H := hP
  have hD : va_D A [(qu, .inl (cJ, 8, .inr (.inl (f8 u0 u1 u2 u3 u4 u5 u6 u7)))), (b, .inr (6, [.ref qk2, .ref qp2, .int (nI n2), .int (bz fu2), .int (bz fa2)])), (qk2, .inl (cB, 3000, .inl K2)), (qp2, .inl (cI, 18000, .inl P2)), (hm, .inr (1, [.ref a, .ref b, .ref qa, .ref qu, .ref qb, .ref qh, .ref qm])), (qa, .inl (cJ, 4, .inr (.inl (f4 ax0 ax1 ax2 ax3))))] := hD
  refine W.eq (g2 := F0 m 130 ls [.long (aro y u2 u3 ax1 ax3), .long (aro x u2 u3 ax0 ax2), .long (aro y u6 u7 ax1 ax3), .long (aro x u6 u7 ax0 ax2), .int 2, .ref b]) rfl ?_
  refine lv_aload_n hx hb d_M_addCurve_130 rfl (lv_at hl 3 rfl) ?_
  refine lv_lload_n hx hb d_M_addCurve_131 rfl (lv_at hl 4 rfl) ?_
  refine lv_aload_n hx hb d_M_addCurve_132 rfl (lv_at hl 3 rfl) ?_
  refine va_get (D := D) (ci := 1) (v := .ref qu) (C := R_M) (T := T_M) (N := 7) hx hb hts (ui_M _) hown hK hP 4 rfl rfl 3 (by decide) (hts _ (gwc gw_512)) (fun _ h9 => h9) rfl d_M_addCurve_133 ?_
  refine lv_iload hx hb d_M_addCurve_136 (lv_at hl 1 rfl) ?_
  refine ld_l hx hb hK hP 0 2 rfl rfl 4 (by omega) (by omega) d_M_addCurve_138 ?_
  refine tp_l (u4) (rfl) ?_
  refine lv_aload_n hx hb d_M_addCurve_139 rfl (lv_at hl 3 rfl) ?_
  refine va_get (D := D) (ci := 1) (v := .ref qu) (C := R_M) (T := T_M) (N := 7) hx hb hts (ui_M _) hown hK hP 4 rfl rfl 3 (by decide) (hts _ (gwc gw_512)) (fun _ h9 => h9) rfl d_M_addCurve_140 ?_
  refine lv_iload hx hb d_M_addCurve_143 (lv_at hl 1 rfl) ?_
  refine lv_iconst (v := 1) hx hb d_M_addCurve_145 (by decide) ?_
  refine lv_iadd hx hb d_M_addCurve_146 ?_
  refine tp_i (5) (by decide) ?_
  refine ld_l hx hb hK hP 0 2 rfl rfl 5 (by omega) (by omega) d_M_addCurve_147 ?_
  refine tp_l (u5) (rfl) ?_
  refine lv_iconst (v := 0) hx hb d_M_addCurve_148 (by decide) ?_
  refine ct_callVW (ci := 1) (q0 := 4) (As := [.long x, .long u4, .long u5, .int 0]) (rest := [.long (aro y u2 u3 ax1 ax3), .long (aro x u2 u3 ax0 ax2), .long (aro y u6 u7 ax1 ax3), .long (aro x u6 u7 ax0 ax2), .int 2, .ref b]) (wr := [(qu, .inl (cJ, 8, .inr (.inl (f8 u0 u1 u2 u3 u4 u5 u6 u7)))), (b, .inr (6, [.ref qk2, .ref qp2, .int (nI n2), .int (bz fu2), .int (bz fa2)])), (qk2, .inl (cB, 3000, .inl K2)), (qp2, .inl (cI, 18000, .inl P2))]) (n := 4) 10 (by decide) (c_M_around0 l D cI cB cJ qQ  hm a b qa qu qb qh qm ax0 ax1 ax2 ax3 x u4 u5 ) hx hb hml hown hts (amb_ok qQ) hK hP hD hS hA hM (gi_V gw_659 gw_661 gw_24 gw_33 gw_662) rfl (by decide +kernel) ⟨by omega, by omega⟩ [4, 5] [0, 1, 2, 3] rfl rfl rfl rfl (by decide) rfl rfl rfl hl.1 rfl (Nat.le_of_ble_eq_true rfl) d_M_addCurve_149 ⟨by omega, by omega⟩ (fun u_8 H locs hok hP hD hS => ?_)
  have hP : va_P D cl [(qu, .inl (cJ, 8, .inr (.inl (f8 u0 u1 u2 u3 u4 u5 u6 u7)))), (b, .inr (6, [.ref qk2, .ref qp2, .int (nI n2), .int (bz fu2), .int (bz fa2)])), (qk2, .inl (cB, 3000, .inl K2)), (qp2, .inl (cI, 18000, .inl P2)), (hm, .inr (1, [.ref a, .ref b, .ref qa, .ref qu, .ref qb, .ref qh, .ref qm])), (qa, .inl (cJ, 4, .inr (.inl (f4 ax0 ax1 ax2 ax3))))] H := hP
  have hD : va_D A [(qu, .inl (cJ, 8, .inr (.inl (f8 u0 u1 u2 u3 u4 u5 u6 u7)))), (b, .inr (6, [.ref qk2, .ref qp2, .int (nI n2), .int (bz fu2), .int (bz fa2)])), (qk2, .inl (cB, 3000, .inl K2)), (qp2, .inl (cI, 18000, .inl P2)), (hm, .inr (1, [.ref a, .ref b, .ref qa, .ref qu, .ref qb, .ref qh, .ref qm])), (qa, .inl (cJ, 4, .inr (.inl (f4 ax0 ax1 ax2 ax3))))] := hD
  refine W.eq (g2 := F0 m 152 ls [.long (aro x u4 u5 ax0 ax2), .long (aro y u2 u3 ax1 ax3), .long (aro x u2 u3 ax0 ax2), .long (aro y u6 u7 ax1 ax3), .long (aro x u6 u7 ax0 ax2), .int 2, .ref b]) rfl ?_
  refine lv_aload_n hx hb d_M_addCurve_152 rfl (lv_at hl 3 rfl) ?_
  refine lv_lload_n hx hb d_M_addCurve_153 rfl (lv_at hl 5 rfl) ?_
  refine lv_aload_n hx hb d_M_addCurve_154 rfl (lv_at hl 3 rfl) ?_
  refine va_get (D := D) (ci := 1) (v := .ref qu) (C := R_M) (T := T_M) (N := 7) hx hb hts (ui_M _) hown hK hP 4 rfl rfl 3 (by decide) (hts _ (gwc gw_512)) (fun _ h9 => h9) rfl d_M_addCurve_155 ?_
  refine lv_iload hx hb d_M_addCurve_158 (lv_at hl 1 rfl) ?_
  refine ld_l hx hb hK hP 0 2 rfl rfl 4 (by omega) (by omega) d_M_addCurve_160 ?_
  refine tp_l (u4) (rfl) ?_
  refine lv_aload_n hx hb d_M_addCurve_161 rfl (lv_at hl 3 rfl) ?_
  refine va_get (D := D) (ci := 1) (v := .ref qu) (C := R_M) (T := T_M) (N := 7) hx hb hts (ui_M _) hown hK hP 4 rfl rfl 3 (by decide) (hts _ (gwc gw_512)) (fun _ h9 => h9) rfl d_M_addCurve_162 ?_
  refine lv_iload hx hb d_M_addCurve_165 (lv_at hl 1 rfl) ?_
  refine lv_iconst (v := 1) hx hb d_M_addCurve_167 (by decide) ?_
  refine lv_iadd hx hb d_M_addCurve_168 ?_
  refine tp_i (5) (by decide) ?_
  refine ld_l hx hb hK hP 0 2 rfl rfl 5 (by omega) (by omega) d_M_addCurve_169 ?_
  refine tp_l (u5) (rfl) ?_
  refine lv_iconst (v := 1) hx hb d_M_addCurve_170 (by decide) ?_
  refine ct_callVW (ci := 1) (q0 := 4) (As := [.long y, .long u4, .long u5, .int 1]) (rest := [.long (aro x u4 u5 ax0 ax2), .long (aro y u2 u3 ax1 ax3), .long (aro x u2 u3 ax0 ax2), .long (aro y u6 u7 ax1 ax3), .long (aro x u6 u7 ax0 ax2), .int 2, .ref b]) (wr := [(qu, .inl (cJ, 8, .inr (.inl (f8 u0 u1 u2 u3 u4 u5 u6 u7)))), (b, .inr (6, [.ref qk2, .ref qp2, .int (nI n2), .int (bz fu2), .int (bz fa2)])), (qk2, .inl (cB, 3000, .inl K2)), (qp2, .inl (cI, 18000, .inl P2))]) (n := 4) 12 (by decide) (c_M_around1 l D cI cB cJ qQ  hm a b qa qu qb qh qm ax0 ax1 ax2 ax3 y u4 u5 ) hx hb hml hown hts (amb_ok qQ) hK hP hD hS hA hM (gi_V gw_659 gw_661 gw_24 gw_33 gw_662) rfl (by decide +kernel) ⟨by omega, by omega⟩ [4, 5] [0, 1, 2, 3] rfl rfl rfl rfl (by decide) rfl rfl rfl hl.1 rfl (Nat.le_of_ble_eq_true rfl) d_M_addCurve_171 ⟨by omega, by omega⟩ (fun u_9 H locs hok hP hD hS => ?_)
  have hP : va_P D cl [(qu, .inl (cJ, 8, .inr (.inl (f8 u0 u1 u2 u3 u4 u5 u6 u7)))), (b, .inr (6, [.ref qk2, .ref qp2, .int (nI n2), .int (bz fu2), .int (bz fa2)])), (qk2, .inl (cB, 3000, .inl K2)), (qp2, .inl (cI, 18000, .inl P2)), (hm, .inr (1, [.ref a, .ref b, .ref qa, .ref qu, .ref qb, .ref qh, .ref qm])), (qa, .inl (cJ, 4, .inr (.inl (f4 ax0 ax1 ax2 ax3))))] H := hP
  have hD : va_D A [(qu, .inl (cJ, 8, .inr (.inl (f8 u0 u1 u2 u3 u4 u5 u6 u7)))), (b, .inr (6, [.ref qk2, .ref qp2, .int (nI n2), .int (bz fu2), .int (bz fa2)])), (qk2, .inl (cB, 3000, .inl K2)), (qp2, .inl (cI, 18000, .inl P2)), (hm, .inr (1, [.ref a, .ref b, .ref qa, .ref qu, .ref qb, .ref qh, .ref qm])), (qa, .inl (cJ, 4, .inr (.inl (f4 ax0 ax1 ax2 ax3))))] := hD
  refine W.eq (g2 := F0 m 174 ls [.long (aro y u4 u5 ax1 ax3), .long (aro x u4 u5 ax0 ax2), .long (aro y u2 u3 ax1 ax3), .long (aro x u2 u3 ax0 ax2), .long (aro y u6 u7 ax1 ax3), .long (aro x u6 u7 ax0 ax2), .int 2, .ref b]) rfl ?_
  refine ct_callV (ci := 6) (q0 := 1) (As := [.int 2, .long (aro x u6 u7 ax0 ax2), .long (aro y u6 u7 ax1 ax3), .long (aro x u2 u3 ax0 ax2), .long (aro y u2 u3 ax1 ax3), .long (aro x u4 u5 ax0 ax2), .long (aro y u4 u5 ax1 ax3)]) (rest := []) (wr := [(qu, .inl (cJ, 8, .inr (.inl (f8 u0 u1 u2 u3 u4 u5 u6 u7)))), (hm, .inr (1, [.ref a, .ref b, .ref qa, .ref qu, .ref qb, .ref qh, .ref qm])), (qa, .inl (cJ, 4, .inr (.inl (f4 ax0 ax1 ax2 ax3))))]) (n := 7) (c_MPath_add l D cI cB cJ qQ  b qk2 qp2 n2 K2 P2 fu2 fa2 2 (aro x u6 u7 ax0 ax2) (aro y u6 u7 ax1 ax3) (aro x u2 u3 ax0 ax2) (aro y u2 u3 ax1 ax3) (aro x u4 u5 ax0 ax2) (aro y u4 u5 ax1 ax3) (hn2) (kok2)) hx hb hml hown hts (amb_ok qQ) hK hP hD hS hA hM (gi_V gw_592 gw_565 gw_566 gw_34 gw_567) rfl (by decide +kernel) ⟨by omega, by omega⟩ [1, 2, 3] [0, 4, 5] rfl rfl rfl rfl (by decide) rfl rfl rfl hl.1 rfl (Nat.le_of_ble_eq_true rfl) d_M_addCurve_174 ⟨by omega, by omega⟩ (fun u_10 H locs hok hP hD hS => ?_)
  obtain ⟨n'_11, K'_12, P'_13, fu'_14, fa'_15⟩ := u_10
  have hbg : n'_11 ≤ 3000 ∧ (lst n'_11 K'_12 P'_13, fu'_14, fa'_15) = addD (lst n2 K2 P2, fu2, fa2) 2 (aro x u6 u7 ax0 ax2) (aro y u6 u7 ax1 ax3) (aro x u2 u3 ax0 ax2) (aro y u2 u3 ax1 ax3) (aro x u4 u5 ax0 ax2) (aro y u4 u5 ax1 ax3) := hok
  have hP : va_P D cl [(qu, .inl (cJ, 8, .inr (.inl (f8 u0 u1 u2 u3 u4 u5 u6 u7)))), (hm, .inr (1, [.ref a, .ref b, .ref qa, .ref qu, .ref qb, .ref qh, .ref qm])), (qa, .inl (cJ, 4, .inr (.inl (f4 ax0 ax1 ax2 ax3)))), (b, .inr (6, [.ref qk2, .ref qp2, .int (nI n'_11), .int (bz fu'_14), .int (bz fa'_15)])), (qk2, .inl (cB, 3000, .inl K'_12)), (qp2, .inl (cI, 18000, .inl P'_13))] H := hP
  have hD : va_D A [(qu, .inl (cJ, 8, .inr (.inl (f8 u0 u1 u2 u3 u4 u5 u6 u7)))), (hm, .inr (1, [.ref a, .ref b, .ref qa, .ref qu, .ref qb, .ref qh, .ref qm])), (qa, .inl (cJ, 4, .inr (.inl (f4 ax0 ax1 ax2 ax3)))), (b, .inr (6, [.ref qk2, .ref qp2, .int (nI n'_11), .int (bz fu'_14), .int (bz fa'_15)])), (qk2, .inl (cB, 3000, .inl K'_12)), (qp2, .inl (cI, 18000, .inl P'_13))] := hD
  refine W.eq (g2 := F0 m 177 ls []) rfl ?_
  exact ct_retv hQ hx hb hr hlocks hP hD hS (n'_11, K'_12, P'_13, fu'_14, fa'_15) [(hm, .inr (1, [.ref a, .ref b, .ref qa, .ref qu, .ref qb, .ref qh, .ref qm])), (qa, .inl (cJ, 4, .inr (.inl (f4 ax0 ax1 ax2 ax3)))), (qu, .inl (cJ, 8, .inr (.inl (f8 u0 u1 u2 u3 u4 u5 u6 u7)))), (b, .inr (6, [.ref qk2, .ref qp2, .int (nI n'_11), .int (bz fu'_14), .int (bz fa'_15)])), (qk2, .inl (cB, 3000, .inl K'_12)), (qp2, .inl (cI, 18000, .inl P'_13))] [1, 2, 0, 3, 4, 5] (rfl) (hbg) (rfl) rfl rfl (by omega) (by omega) d_M_addCurve_177
set_option maxHeartbeats 4000000 in
set_option maxRecDepth 100000 in
/-- addCurve -/
theorem c_M_addCurve1 (l : Launch) (D : va_G) (cI cB cJ : ClassId) (qQ : Nat) (hm : Nat) (a : Nat) (b : Nat) (qa : Nat) (qu : Nat) (qb : Nat) (qh : Nat) (qm : Nat) (qk2 : Nat) (qp2 : Nat) (n2 : Nat) (K2 : Nat → Int32) (P2 : Nat → Int32) (fu2 : Bool) (fa2 : Bool) (ax0 : Int64) (ax1 : Int64) (ax2 : Int64) (ax3 : Int64) (u0 : Int64) (u1 : Int64) (u2 : Int64) (u3 : Int64) (u4 : Int64) (u5 : Int64) (u6 : Int64) (u7 : Int64) (x : Int64) (y : Int64) (hn2 : n2 ≤ 3000) : ct l D cl [(cI, .int), (cB, .byte), (cJ, .long)] (amb qQ) y_M_addCurve w_M_addCurve 2 56 (0) (0) [.ref hm, .long x, .long y, .int 1] [(hm, .inr (1, [.ref a, .ref b, .ref qa, .ref qu, .ref qb, .ref qh, .ref qm])), (qa, .inl (cJ, 4, .inr (.inl (f4 ax0 ax1 ax2 ax3)))), (qu, .inl (cJ, 8, .inr (.inl (f8 u0 u1 u2 u3 u4 u5 u6 u7)))), (b, .inr (6, [.ref qk2, .ref qp2, .int (nI n2), .int (bz fu2), .int (bz fa2)])), (qk2, .inl (cB, 3000, .inl K2)), (qp2, .inl (cI, 18000, .inl P2))] (fun u_ : Nat × (Nat → Int32) × (Nat → Int32) × Bool × Bool => match u_ with | (n', K', P', fu', fa') => n' ≤ 3000 ∧ (lst n' K' P', fu', fa') = cvD (lst n2 K2 P2, fu2, fa2) x y (ax0, ax1, ax2, ax3) (u0, u1, u2, u3, u4, u5, u6, u7) true) (fun u_ : Nat × (Nat → Int32) × (Nat → Int32) × Bool × Bool => match u_ with | (n', K', P', fu', fa') => none) (fun u_ : Nat × (Nat → Int32) × (Nat → Int32) × Bool × Bool => match u_ with | (n', K', P', fu', fa') => [(hm, .inr (1, [.ref a, .ref b, .ref qa, .ref qu, .ref qb, .ref qh, .ref qm])), (qa, .inl (cJ, 4, .inr (.inl (f4 ax0 ax1 ax2 ax3)))), (qu, .inl (cJ, 8, .inr (.inl (f8 u0 u1 u2 u3 u4 u5 u6 u7)))), (b, .inr (6, [.ref qk2, .ref qp2, .int (nI n'), .int (bz fu'), .int (bz fa')])), (qk2, .inl (cB, 3000, .inl K')), (qp2, .inl (cI, 18000, .inl P'))]) := by
  refine ct_ofW (cc := b_M_addCurve) (maxL := 9) (ret := none) (by decide) rfl (Nat.le_of_ble_eq_true rfl) ?_
  intro p e R s m args below meth c A Q ls hx hb hr hml hts hown hlocks hname hRf hRc hRs hRl hQ hK hP hD hS hA hM hl
  have hl : lv_has ls 9 [(0, .ref hm), (1, .long x), (3, .long y), (5, .int 1)] := hl
  refine lv_iload hx hb d_M_addCurve_0 (lv_at hl 3 rfl) ?_
  refine bz_eq (a1 := 1) (tgt := 9) hx hb (by omega) d_M_addCurve_2 (by decide) (fun c_1 => ?_) (fun c_1 => ?_)
  · exact absurd c_1 (by decide)
  refine lv_iconst (v := 4) hx hb d_M_addCurve_5 (by decide) ?_
  refine lv_goto (tgt := 10) hx hb d_M_addCurve_6 (by decide) ?_
  refine lv_istore (lv' := [(6, .int 4), (0, .ref hm), (1, .long x), (3, .long y), (5, .int 1)]) hx hb d_M_addCurve_10 hl (by decide) rfl (fun ls hl => ?_)
  refine lv_iload hx hb d_M_addCurve_12 (lv_at hl 4 rfl) ?_
  refine bz_eq (a1 := 1) (tgt := 21) hx hb (by omega) d_M_addCurve_14 (by decide) (fun c_2 => ?_) (fun c_2 => ?_)
  · exact absurd c_2 (by decide)
  refine lv_iconst (v := 2) hx hb d_M_addCurve_17 (by decide) ?_
  refine lv_goto (tgt := 22) hx hb d_M_addCurve_18 (by decide) ?_
  refine lv_istore (lv' := [(7, .int 2), (6, .int 4), (0, .ref hm), (1, .long x), (3, .long y), (5, .int 1)]) hx hb d_M_addCurve_22 hl (by decide) rfl (fun ls hl => ?_)
  refine lv_iload hx hb d_M_addCurve_24 (lv_at hl 5 rfl) ?_
  refine bz_eq (a1 := 1) (tgt := 33) hx hb (by omega) d_M_addCurve_26 (by decide) (fun c_3 => ?_) (fun c_3 => ?_)
  · exact absurd c_3 (by decide)
  refine lv_iconst (v := 0) hx hb d_M_addCurve_29 (by decide) ?_
  refine lv_goto (tgt := 35) hx hb d_M_addCurve_30 (by decide) ?_
  refine lv_istore (lv' := [(8, .int 0), (7, .int 2), (6, .int 4), (0, .ref hm), (1, .long x), (3, .long y), (5, .int 1)]) hx hb d_M_addCurve_35 hl (by decide) rfl (fun ls hl => ?_)
  refine lv_aload_n hx hb d_M_addCurve_37 rfl (lv_at hl 3 rfl) ?_
  refine va_get (D := D) (ci := 1) (v := .ref b) (C := R_M) (T := T_M) (N := 7) hx hb hts (ui_M _) hown hK hP 0 rfl rfl 1 (by decide) (hts _ (gwc gw_510)) (fun _ h9 => h9) rfl d_M_addCurve_38 ?_
  refine lv_iconst (v := 2) hx hb d_M_addCurve_41 (by decide) ?_
  refine lv_aload_n hx hb d_M_addCurve_42 rfl (lv_at hl 3 rfl) ?_
  refine lv_lload_n hx hb d_M_addCurve_43 rfl (lv_at hl 4 rfl) ?_
  refine lv_aload_n hx hb d_M_addCurve_44 rfl (lv_at hl 3 rfl) ?_
  refine va_get (D := D) (ci := 1) (v := .ref qu) (C := R_M) (T := T_M) (N := 7) hx hb hts (ui_M _) hown hK hP 0 rfl rfl 3 (by decide) (hts _ (gwc gw_512)) (fun _ h9 => h9) rfl d_M_addCurve_45 ?_
  refine lv_iload hx hb d_M_addCurve_48 (lv_at hl 0 rfl) ?_
  refine ld_l hx hb hK hP 2 2 rfl rfl 0 (by omega) (by omega) d_M_addCurve_50 ?_
  refine tp_l (u0) (rfl) ?_
  refine lv_aload_n hx hb d_M_addCurve_51 rfl (lv_at hl 3 rfl) ?_
  refine va_get (D := D) (ci := 1) (v := .ref qu) (C := R_M) (T := T_M) (N := 7) hx hb hts (ui_M _) hown hK hP 0 rfl rfl 3 (by decide) (hts _ (gwc gw_512)) (fun _ h9 => h9) rfl d_M_addCurve_52 ?_
  refine lv_iload hx hb d_M_addCurve_55 (lv_at hl 0 rfl) ?_
  refine lv_iconst (v := 1) hx hb d_M_addCurve_57 (by decide) ?_
  refine lv_iadd hx hb d_M_addCurve_58 ?_
  refine tp_i (1) (by decide) ?_
  refine ld_l hx hb hK hP 2 2 rfl rfl 1 (by omega) (by omega) d_M_addCurve_59 ?_
  refine tp_l (u1) (rfl) ?_
  refine lv_iconst (v := 0) hx hb d_M_addCurve_60 (by decide) ?_
  refine ct_callV (ci := 1) (q0 := 0) (As := [.long x, .long u0, .long u1, .int 0]) (rest := [.int 2, .ref b]) (wr := [(qu, .inl (cJ, 8, .inr (.inl (f8 u0 u1 u2 u3 u4 u5 u6 u7)))), (b, .inr (6, [.ref qk2, .ref qp2, .int (nI n2), .int (bz fu2), .int (bz fa2)])), (qk2, .inl (cB, 3000, .inl K2)), (qp2, .inl (cI, 18000, .inl P2))]) (n := 4) (c_M_around0 l D cI cB cJ qQ  hm a b qa qu qb qh qm ax0 ax1 ax2 ax3 x u0 u1 ) hx hb hml hown hts (amb_ok qQ) hK hP hD hS hA hM (gi_V gw_659 gw_661 gw_24 gw_33 gw_662) rfl (by decide +kernel) ⟨by omega, by omega⟩ [0, 1] [2, 3, 4, 5] rfl rfl rfl rfl (by decide) rfl rfl rfl hl.1 rfl (Nat.le_of_ble_eq_true rfl) d_M_addCurve_61 ⟨by omega, by omega⟩ (fun u_4 H locs hok hP hD hS => ?_)
  have hP : va_P D cl [(qu, .inl (cJ, 8, .inr (.inl (f8 u0 u1 u2 u3 u4 u5 u6 u7)))), (b, .inr (6, [.ref qk2, .ref qp2, .int (nI n2), .int (bz fu2), .int (bz fa2)])), (qk2, .inl (cB, 3000, .inl K2)), (qp2, .inl (cI, 18000, .inl P2)), (hm, .inr (1, [.ref a, .ref b, .ref qa, .ref qu, .ref qb, .ref qh, .ref qm])), (qa, .inl (cJ, 4, .inr (.inl (f4 ax0 ax1 ax2 ax3))))] H := hP
  have hD : va_D A [(qu, .inl (cJ, 8, .inr (.inl (f8 u0 u1 u2 u3 u4 u5 u6 u7)))), (b, .inr (6, [.ref qk2, .ref qp2, .int (nI n2), .int (bz fu2), .int (bz fa2)])), (qk2, .inl (cB, 3000, .inl K2)), (qp2, .inl (cI, 18000, .inl P2)), (hm, .inr (1, [.ref a, .ref b, .ref qa, .ref qu, .ref qb, .ref qh, .ref qm])), (qa, .inl (cJ, 4, .inr (.inl (f4 ax0 ax1 ax2 ax3))))] := hD
  refine W.eq (g2 := F0 m 64 ls [.long (aro x u0 u1 ax0 ax2), .int 2, .ref b]) rfl ?_
  refine lv_aload_n hx hb d_M_addCurve_64 rfl (lv_at hl 3 rfl) ?_
  refine lv_lload_n hx hb d_M_addCurve_65 rfl (lv_at hl 5 rfl) ?_
  refine lv_aload_n hx hb d_M_addCurve_66 rfl (lv_at hl 3 rfl) ?_
  refine va_get (D := D) (ci := 1) (v := .ref qu) (C := R_M) (T := T_M) (N := 7) hx hb hts (ui_M _) hown hK hP 4 rfl rfl 3 (by decide) (hts _ (gwc gw_512)) (fun _ h9 => h9) rfl d_M_addCurve_67 ?_
  refine lv_iload hx hb d_M_addCurve_70 (lv_at hl 0 rfl) ?_
  refine ld_l hx hb hK hP 0 2 rfl rfl 0 (by omega) (by omega) d_M_addCurve_72 ?_
  refine tp_l (u0) (rfl) ?_
  refine lv_aload_n hx hb d_M_addCurve_73 rfl (lv_at hl 3 rfl) ?_
  refine va_get (D := D) (ci := 1) (v := .ref qu) (C := R_M) (T := T_M) (N := 7) hx hb hts (ui_M _) hown hK hP 4 rfl rfl 3 (by decide) (hts _ (gwc gw_512)) (fun _ h9 => h9) rfl d_M_addCurve_74 ?_
  refine lv_iload hx hb d_M_addCurve_77 (lv_at hl 0 rfl) ?_
  refine lv_iconst (v := 1) hx hb d_M_addCurve_79 (by decide) ?_
  refine lv_iadd hx hb d_M_addCurve_80 ?_
  refine tp_i (1) (by decide) ?_
  refine ld_l hx hb hK hP 0 2 rfl rfl 1 (by omega) (by omega) d_M_addCurve_81 ?_
  refine tp_l (u1) (rfl) ?_
  refine lv_iconst (v := 1) hx hb d_M_addCurve_82 (by decide) ?_
  refine ct_callV (ci := 1) (q0 := 4) (As := [.long y, .long u0, .long u1, .int 1]) (rest := [.long (aro x u0 u1 ax0 ax2), .int 2, .ref b]) (wr := [(qu, .inl (cJ, 8, .inr (.inl (f8 u0 u1 u2 u3 u4 u5 u6 u7)))), (b, .inr (6, [.ref qk2, .ref qp2, .int (nI n2), .int (bz fu2), .int (bz fa2)])), (qk2, .inl (cB, 3000, .inl K2)), (qp2, .inl (cI, 18000, .inl P2))]) (n := 4) (c_M_around1 l D cI cB cJ qQ  hm a b qa qu qb qh qm ax0 ax1 ax2 ax3 y u0 u1 ) hx hb hml hown hts (amb_ok qQ) hK hP hD hS hA hM (gi_V gw_659 gw_661 gw_24 gw_33 gw_662) rfl (by decide +kernel) ⟨by omega, by omega⟩ [4, 5] [0, 1, 2, 3] rfl rfl rfl rfl (by decide) rfl rfl rfl hl.1 rfl (Nat.le_of_ble_eq_true rfl) d_M_addCurve_83 ⟨by omega, by omega⟩ (fun u_5 H locs hok hP hD hS => ?_)
  have hP : va_P D cl [(qu, .inl (cJ, 8, .inr (.inl (f8 u0 u1 u2 u3 u4 u5 u6 u7)))), (b, .inr (6, [.ref qk2, .ref qp2, .int (nI n2), .int (bz fu2), .int (bz fa2)])), (qk2, .inl (cB, 3000, .inl K2)), (qp2, .inl (cI, 18000, .inl P2)), (hm, .inr (1, [.ref a, .ref b, .ref qa, .ref qu, .ref qb, .ref qh, .ref qm])), (qa, .inl (cJ, 4, .inr (.inl (f4 ax0 ax1 ax2 ax3))))] H := hP
  have hD : va_D A [(qu, .inl (cJ, 8, .inr (.inl (f8 u0 u1 u2 u3 u4 u5 u6 u7)))), (b, .inr (6, [.ref qk2, .ref qp2, .int (nI n2), .int (bz fu2), .int (bz fa2)])), (qk2, .inl (cB, 3000, .inl K2)), (qp2, .inl (cI, 18000, .inl P2)), (hm, .inr (1, [.ref a, .ref b, .ref qa, .ref qu, .ref qb, .ref qh, .ref qm])), (qa, .inl (cJ, 4, .inr (.inl (f4 ax0 ax1 ax2 ax3))))] := hD
  refine W.eq (g2 := F0 m 86 ls [.long (aro y u0 u1 ax1 ax3), .long (aro x u0 u1 ax0 ax2), .int 2, .ref b]) rfl ?_
  refine lv_aload_n hx hb d_M_addCurve_86 rfl (lv_at hl 3 rfl) ?_
  refine lv_lload_n hx hb d_M_addCurve_87 rfl (lv_at hl 4 rfl) ?_
  refine lv_aload_n hx hb d_M_addCurve_88 rfl (lv_at hl 3 rfl) ?_
  refine va_get (D := D) (ci := 1) (v := .ref qu) (C := R_M) (T := T_M) (N := 7) hx hb hts (ui_M _) hown hK hP 4 rfl rfl 3 (by decide) (hts _ (gwc gw_512)) (fun _ h9 => h9) rfl d_M_addCurve_89 ?_
  refine lv_iload hx hb d_M_addCurve_92 (lv_at hl 2 rfl) ?_
  refine ld_l hx hb hK hP 0 2 rfl rfl 4 (by omega) (by omega) d_M_addCurve_94 ?_
  refine tp_l (u4) (rfl) ?_
  refine lv_aload_n hx hb d_M_addCurve_95 rfl (lv_at hl 3 rfl) ?_
  refine va_get (D := D) (ci := 1) (v := .ref qu) (C := R_M) (T := T_M) (N := 7) hx hb hts (ui_M _) hown hK hP 4 rfl rfl 3 (by decide) (hts _ (gwc gw_512)) (fun _ h9 => h9) rfl d_M_addCurve_96 ?_
  refine lv_iload hx hb d_M_addCurve_99 (lv_at hl 2 rfl) ?_
  refine lv_iconst (v := 1) hx hb d_M_addCurve_101 (by decide) ?_
  refine lv_iadd hx hb d_M_addCurve_102 ?_
  refine tp_i (5) (by decide) ?_
  refine ld_l hx hb hK hP 0 2 rfl rfl 5 (by omega) (by omega) d_M_addCurve_103 ?_
  refine tp_l (u5) (rfl) ?_
  refine lv_iconst (v := 0) hx hb d_M_addCurve_104 (by decide) ?_
  refine ct_callV (ci := 1) (q0 := 4) (As := [.long x, .long u4, .long u5, .int 0]) (rest := [.long (aro y u0 u1 ax1 ax3), .long (aro x u0 u1 ax0 ax2), .int 2, .ref b]) (wr := [(qu, .inl (cJ, 8, .inr (.inl (f8 u0 u1 u2 u3 u4 u5 u6 u7)))), (b, .inr (6, [.ref qk2, .ref qp2, .int (nI n2), .int (bz fu2), .int (bz fa2)])), (qk2, .inl (cB, 3000, .inl K2)), (qp2, .inl (cI, 18000, .inl P2))]) (n := 4) (c_M_around0 l D cI cB cJ qQ  hm a b qa qu qb qh qm ax0 ax1 ax2 ax3 x u4 u5 ) hx hb hml hown hts (amb_ok qQ) hK hP hD hS hA hM (gi_V gw_659 gw_661 gw_24 gw_33 gw_662) rfl (by decide +kernel) ⟨by omega, by omega⟩ [4, 5] [0, 1, 2, 3] rfl rfl rfl rfl (by decide) rfl rfl rfl hl.1 rfl (Nat.le_of_ble_eq_true rfl) d_M_addCurve_105 ⟨by omega, by omega⟩ (fun u_6 H locs hok hP hD hS => ?_)
  have hP : va_P D cl [(qu, .inl (cJ, 8, .inr (.inl (f8 u0 u1 u2 u3 u4 u5 u6 u7)))), (b, .inr (6, [.ref qk2, .ref qp2, .int (nI n2), .int (bz fu2), .int (bz fa2)])), (qk2, .inl (cB, 3000, .inl K2)), (qp2, .inl (cI, 18000, .inl P2)), (hm, .inr (1, [.ref a, .ref b, .ref qa, .ref qu, .ref qb, .ref qh, .ref qm])), (qa, .inl (cJ, 4, .inr (.inl (f4 ax0 ax1 ax2 ax3))))] H := hP
  have hD : va_D A [(qu, .inl (cJ, 8, .inr (.inl (f8 u0 u1 u2 u3 u4 u5 u6 u7)))), (b, .inr (6, [.ref qk2, .ref qp2, .int (nI n2), .int (bz fu2), .int (bz fa2)])), (qk2, .inl (cB, 3000, .inl K2)), (qp2, .inl (cI, 18000, .inl P2)), (hm, .inr (1, [.ref a, .ref b, .ref qa, .ref qu, .ref qb, .ref qh, .ref qm])), (qa, .inl (cJ, 4, .inr (.inl (f4 ax0 ax1 ax2 ax3))))] := hD
  refine W.eq (g2 := F0 m 108 ls [.long (aro x u4 u5 ax0 ax2), .long (aro y u0 u1 ax1 ax3), .long (aro x u0 u1 ax0 ax2), .int 2, .ref b]) rfl ?_
  refine lv_aload_n hx hb d_M_addCurve_108 rfl (lv_at hl 3 rfl) ?_
  refine lv_lload_n hx hb d_M_addCurve_109 rfl (lv_at hl 5 rfl) ?_
  refine lv_aload_n hx hb d_M_addCurve_110 rfl (lv_at hl 3 rfl) ?_
  refine va_get (D := D) (ci := 1) (v := .ref qu) (C := R_M) (T := T_M) (N := 7) hx hb hts (ui_M _) hown hK hP 4 rfl rfl 3 (by decide) (hts _ (gwc gw_512)) (fun _ h9 => h9) rfl d_M_addCurve_111 ?_
  refine lv_iload hx hb d_M_addCurve_114 (lv_at hl 2 rfl) ?_
  refine ld_l hx hb hK hP 0 2 rfl rfl 4 (by omega) (by omega) d_M_addCurve_116 ?_
  refine tp_l (u4) (rfl) ?_
  refine lv_aload_n hx hb d_M_addCurve_117 rfl (lv_at hl 3 rfl) ?_
  refine va_get (D := D) (ci := 1) (v := .ref qu) (C := R_M) (T := T_M) (N := 7) hx hb hts (ui_M _) hown hK hP 4 rfl rfl 3 (by decide) (hts _ (gwc gw_512)) (fun _ h9 => h9) rfl d_M_addCurve_118 ?_
  refine lv_iload hx hb d_M_addCurve_121 (lv_at hl 2 rfl) ?_
  refine lv_iconst (v := 1) hx hb d_M_addCurve_123 (by decide) ?_
  refine lv_iadd hx hb d_M_addCurve_124 ?_
  refine tp_i (5) (by decide) ?_
  refine ld_l hx hb hK hP 0 2 rfl rfl 5 (by omega) (by omega) d_M_addCurve_125 ?_
  refine tp_l (u5) (rfl) ?_
  refine lv_iconst (v := 1) hx hb d_M_addCurve_126 (by decide) ?_
  refine ct_callV (ci := 1) (q0 := 4) (As := [.long y, .long u4, .long u5, .int 1]) (rest := [.long (aro x u4 u5 ax0 ax2), .long (aro y u0 u1 ax1 ax3), .long (aro x u0 u1 ax0 ax2), .int 2, .ref b]) (wr := [(qu, .inl (cJ, 8, .inr (.inl (f8 u0 u1 u2 u3 u4 u5 u6 u7)))), (b, .inr (6, [.ref qk2, .ref qp2, .int (nI n2), .int (bz fu2), .int (bz fa2)])), (qk2, .inl (cB, 3000, .inl K2)), (qp2, .inl (cI, 18000, .inl P2))]) (n := 4) (c_M_around1 l D cI cB cJ qQ  hm a b qa qu qb qh qm ax0 ax1 ax2 ax3 y u4 u5 ) hx hb hml hown hts (amb_ok qQ) hK hP hD hS hA hM (gi_V gw_659 gw_661 gw_24 gw_33 gw_662) rfl (by decide +kernel) ⟨by omega, by omega⟩ [4, 5] [0, 1, 2, 3] rfl rfl rfl rfl (by decide) rfl rfl rfl hl.1 rfl (Nat.le_of_ble_eq_true rfl) d_M_addCurve_127 ⟨by omega, by omega⟩ (fun u_7 H locs hok hP hD hS => ?_)
  have hP : va_P D cl [(qu, .inl (cJ, 8, .inr (.inl (f8 u0 u1 u2 u3 u4 u5 u6 u7)))), (b, .inr (6, [.ref qk2, .ref qp2, .int (nI n2), .int (bz fu2), .int (bz fa2)])), (qk2, .inl (cB, 3000, .inl K2)), (qp2, .inl (cI, 18000, .inl P2)), (hm, .inr (1, [.ref a, .ref b, .ref qa, .ref qu, .ref qb, .ref qh, .ref qm])), (qa, .inl (cJ, 4, .inr (.inl (f4 ax0 ax1 ax2 ax3))))] H := hP
  have hD : va_D A [(qu, .inl (cJ, 8, .inr (.inl (f8 u0 u1 u2 u3 u4 u5 u6 u7)))), (b, .inr (6, [.ref qk2, .ref qp2, .int (nI n2), .int (bz fu2), .int (bz fa2)])), (qk2, .inl (cB, 3000, .inl K2)), (qp2, .inl (cI, 18000, .inl P2)), (hm, .inr (1, [.ref a, .ref b, .ref qa, .ref qu, .ref qb, .ref qh, .ref qm])), (qa, .inl (cJ, 4, .inr (.inl (f4 ax0 ax1 ax2 ax3))))] := hD
  refine W.eq (g2 := F0 m 130 ls [.long (aro y u4 u5 ax1 ax3), .long (aro x u4 u5 ax0 ax2), .long (aro y u0 u1 ax1 ax3), .long (aro x u0 u1 ax0 ax2), .int 2, .ref b]) rfl ?_
  refine lv_aload_n hx hb d_M_addCurve_130 rfl (lv_at hl 3 rfl) ?_
  refine lv_lload_n hx hb d_M_addCurve_131 rfl (lv_at hl 4 rfl) ?_
  refine lv_aload_n hx hb d_M_addCurve_132 rfl (lv_at hl 3 rfl) ?_
  refine va_get (D := D) (ci := 1) (v := .ref qu) (C := R_M) (T := T_M) (N := 7) hx hb hts (ui_M _) hown hK hP 4 rfl rfl 3 (by decide) (hts _ (gwc gw_512)) (fun _ h9 => h9) rfl d_M_addCurve_133 ?_
  refine lv_iload hx hb d_M_addCurve_136 (lv_at hl 1 rfl) ?_
  refine ld_l hx hb hK hP 0 2 rfl rfl 2 (by omega) (by omega) d_M_addCurve_138 ?_
  refine tp_l (u2) (rfl) ?_
  refine lv_aload_n hx hb d_M_addCurve_139 rfl (lv_at hl 3 rfl) ?_
  refine va_get (D := D) (ci := 1) (v := .ref qu) (C := R_M) (T := T_M) (N := 7) hx hb hts (ui_M _) hown hK hP 4 rfl rfl 3 (by decide) (hts _ (gwc gw_512)) (fun _ h9 => h9) rfl d_M_addCurve_140 ?_
  refine lv_iload hx hb d_M_addCurve_143 (lv_at hl 1 rfl) ?_
  refine lv_iconst (v := 1) hx hb d_M_addCurve_145 (by decide) ?_
  refine lv_iadd hx hb d_M_addCurve_146 ?_
  refine tp_i (3) (by decide) ?_
  refine ld_l hx hb hK hP 0 2 rfl rfl 3 (by omega) (by omega) d_M_addCurve_147 ?_
  refine tp_l (u3) (rfl) ?_
  refine lv_iconst (v := 0) hx hb d_M_addCurve_148 (by decide) ?_
  refine ct_callVW (ci := 1) (q0 := 4) (As := [.long x, .long u2, .long u3, .int 0]) (rest := [.long (aro y u4 u5 ax1 ax3), .long (aro x u4 u5 ax0 ax2), .long (aro y u0 u1 ax1 ax3), .long (aro x u0 u1 ax0 ax2), .int 2, .ref b]) (wr := [(qu, .inl (cJ, 8, .inr (.inl (f8 u0 u1 u2 u3 u4 u5 u6 u7)))), (b, .inr (6, [.ref qk2, .ref qp2, .int (nI n2), .int (bz fu2), .int (bz fa2)])), (qk2, .inl (cB, 3000, .inl K2)), (qp2, .inl (cI, 18000, .inl P2))]) (n := 4) 10 (by decide) (c_M_around0 l D cI cB cJ qQ  hm a b qa qu qb qh qm ax0 ax1 ax2 ax3 x u2 u3 ) hx hb hml hown hts (amb_ok qQ) hK hP hD hS hA hM (gi_V gw_659 gw_661 gw_24 gw_33 gw_662) rfl (by decide +kernel) ⟨by omega, by omega⟩ [4, 5] [0, 1, 2, 3] rfl rfl rfl rfl (by decide) rfl rfl rfl hl.1 rfl (Nat.le_of_ble_eq_true rfl) d_M_addCurve_149 ⟨by omega, by omega⟩ (fun u_8 H locs hok hP hD hS => ?_)
  have hP : va_P D cl [(qu, .inl (cJ, 8, .inr (.inl (f8 u0 u1 u2 u3 u4 u5 u6 u7)))), (b, .inr (6, [.ref qk2, .ref qp2, .int (nI n2), .int (bz fu2), .int (bz fa2)])), (qk2, .inl (cB, 3000, .inl K2)), (qp2, .inl (cI, 18000, .inl P2)), (hm, .inr (1, [.ref a, .ref b, .ref qa, .ref qu, .ref qb, .ref qh, .ref qm])), (qa, .inl (cJ, 4, .inr (.inl (f4 ax0 ax1 ax2 ax3))))] H := hP
  have hD : va_D A [(qu, .inl (cJ, 8, .inr (.inl (f8 u0 u1 u2 u3 u4 u5 u6 u7)))), (b, .inr (6, [.ref qk2, .ref qp2, .int (nI n2), .int (bz fu2), .int (bz fa2)])), (qk2, .inl (cB, 3000, .inl K2)), (qp2, .inl (cI, 18000, .inl P2)), (hm, .inr (1, [.ref a, .ref b, .ref qa, .ref qu, .ref qb, .ref qh, .ref qm])), (qa, .inl (cJ, 4, .inr (.inl (f4 ax0 ax1 ax2 ax3))))] := hD
  refine W.eq (g2 := F0 m 152 ls [.long (aro x u2 u3 ax0 ax2), .long (aro y u4 u5 ax1 ax3), .long (aro x u4 u5 ax0 ax2), .long (aro y u0 u1 ax1 ax3), .long (aro x u0 u1 ax0 ax2), .int 2, .ref b]) rfl ?_
  refine lv_aload_n hx hb d_M_addCurve_152 rfl (lv_at hl 3 rfl) ?_
  refine lv_lload_n hx hb d_M_addCurve_153 rfl (lv_at hl 5 rfl) ?_
  refine lv_aload_n hx hb d_M_addCurve_154 rfl (lv_at hl 3 rfl) ?_
  refine va_get (D := D) (ci := 1) (v := .ref qu) (C := R_M) (T := T_M) (N := 7) hx hb hts (ui_M _) hown hK hP 4 rfl rfl 3 (by decide) (hts _ (gwc gw_512)) (fun _ h9 => h9) rfl d_M_addCurve_155 ?_
  refine lv_iload hx hb d_M_addCurve_158 (lv_at hl 1 rfl) ?_
  refine ld_l hx hb hK hP 0 2 rfl rfl 2 (by omega) (by omega) d_M_addCurve_160 ?_
  refine tp_l (u2) (rfl) ?_
  refine lv_aload_n hx hb d_M_addCurve_161 rfl (lv_at hl 3 rfl) ?_
  refine va_get (D := D) (ci := 1) (v := .ref qu) (C := R_M) (T := T_M) (N := 7) hx hb hts (ui_M _) hown hK hP 4 rfl rfl 3 (by decide) (hts _ (gwc gw_512)) (fun _ h9 => h9) rfl d_M_addCurve_162 ?_
  refine lv_iload hx hb d_M_addCurve_165 (lv_at hl 1 rfl) ?_
  refine lv_iconst (v := 1) hx hb d_M_addCurve_167 (by decide) ?_
  refine lv_iadd hx hb d_M_addCurve_168 ?_
  refine tp_i (3) (by decide) ?_
  refine ld_l hx hb hK hP 0 2 rfl rfl 3 (by omega) (by omega) d_M_addCurve_169 ?_
  refine tp_l (u3) (rfl) ?_
  refine lv_iconst (v := 1) hx hb d_M_addCurve_170 (by decide) ?_
  refine ct_callVW (ci := 1) (q0 := 4) (As := [.long y, .long u2, .long u3, .int 1]) (rest := [.long (aro x u2 u3 ax0 ax2), .long (aro y u4 u5 ax1 ax3), .long (aro x u4 u5 ax0 ax2), .long (aro y u0 u1 ax1 ax3), .long (aro x u0 u1 ax0 ax2), .int 2, .ref b]) (wr := [(qu, .inl (cJ, 8, .inr (.inl (f8 u0 u1 u2 u3 u4 u5 u6 u7)))), (b, .inr (6, [.ref qk2, .ref qp2, .int (nI n2), .int (bz fu2), .int (bz fa2)])), (qk2, .inl (cB, 3000, .inl K2)), (qp2, .inl (cI, 18000, .inl P2))]) (n := 4) 12 (by decide) (c_M_around1 l D cI cB cJ qQ  hm a b qa qu qb qh qm ax0 ax1 ax2 ax3 y u2 u3 ) hx hb hml hown hts (amb_ok qQ) hK hP hD hS hA hM (gi_V gw_659 gw_661 gw_24 gw_33 gw_662) rfl (by decide +kernel) ⟨by omega, by omega⟩ [4, 5] [0, 1, 2, 3] rfl rfl rfl rfl (by decide) rfl rfl rfl hl.1 rfl (Nat.le_of_ble_eq_true rfl) d_M_addCurve_171 ⟨by omega, by omega⟩ (fun u_9 H locs hok hP hD hS => ?_)
  have hP : va_P D cl [(qu, .inl (cJ, 8, .inr (.inl (f8 u0 u1 u2 u3 u4 u5 u6 u7)))), (b, .inr (6, [.ref qk2, .ref qp2, .int (nI n2), .int (bz fu2), .int (bz fa2)])), (qk2, .inl (cB, 3000, .inl K2)), (qp2, .inl (cI, 18000, .inl P2)), (hm, .inr (1, [.ref a, .ref b, .ref qa, .ref qu, .ref qb, .ref qh, .ref qm])), (qa, .inl (cJ, 4, .inr (.inl (f4 ax0 ax1 ax2 ax3))))] H := hP
  have hD : va_D A [(qu, .inl (cJ, 8, .inr (.inl (f8 u0 u1 u2 u3 u4 u5 u6 u7)))), (b, .inr (6, [.ref qk2, .ref qp2, .int (nI n2), .int (bz fu2), .int (bz fa2)])), (qk2, .inl (cB, 3000, .inl K2)), (qp2, .inl (cI, 18000, .inl P2)), (hm, .inr (1, [.ref a, .ref b, .ref qa, .ref qu, .ref qb, .ref qh, .ref qm])), (qa, .inl (cJ, 4, .inr (.inl (f4 ax0 ax1 ax2 ax3))))] := hD
  refine W.eq (g2 := F0 m 174 ls [.long (aro y u2 u3 ax1 ax3), .long (aro x u2 u3 ax0 ax2), .long (aro y u4 u5 ax1 ax3), .long (aro x u4 u5 ax0 ax2), .long (aro y u0 u1 ax1 ax3), .long (aro x u0 u1 ax0 ax2), .int 2, .ref b]) rfl ?_
  refine ct_callV (ci := 6) (q0 := 1) (As := [.int 2, .long (aro x u0 u1 ax0 ax2), .long (aro y u0 u1 ax1 ax3), .long (aro x u4 u5 ax0 ax2), .long (aro y u4 u5 ax1 ax3), .long (aro x u2 u3 ax0 ax2), .long (aro y u2 u3 ax1 ax3)]) (rest := []) (wr := [(qu, .inl (cJ, 8, .inr (.inl (f8 u0 u1 u2 u3 u4 u5 u6 u7)))), (hm, .inr (1, [.ref a, .ref b, .ref qa, .ref qu, .ref qb, .ref qh, .ref qm])), (qa, .inl (cJ, 4, .inr (.inl (f4 ax0 ax1 ax2 ax3))))]) (n := 7) (c_MPath_add l D cI cB cJ qQ  b qk2 qp2 n2 K2 P2 fu2 fa2 2 (aro x u0 u1 ax0 ax2) (aro y u0 u1 ax1 ax3) (aro x u4 u5 ax0 ax2) (aro y u4 u5 ax1 ax3) (aro x u2 u3 ax0 ax2) (aro y u2 u3 ax1 ax3) (hn2) (kok2)) hx hb hml hown hts (amb_ok qQ) hK hP hD hS hA hM (gi_V gw_592 gw_565 gw_566 gw_34 gw_567) rfl (by decide +kernel) ⟨by omega, by omega⟩ [1, 2, 3] [0, 4, 5] rfl rfl rfl rfl (by decide) rfl rfl rfl hl.1 rfl (Nat.le_of_ble_eq_true rfl) d_M_addCurve_174 ⟨by omega, by omega⟩ (fun u_10 H locs hok hP hD hS => ?_)
  obtain ⟨n'_11, K'_12, P'_13, fu'_14, fa'_15⟩ := u_10
  have hbg : n'_11 ≤ 3000 ∧ (lst n'_11 K'_12 P'_13, fu'_14, fa'_15) = addD (lst n2 K2 P2, fu2, fa2) 2 (aro x u0 u1 ax0 ax2) (aro y u0 u1 ax1 ax3) (aro x u4 u5 ax0 ax2) (aro y u4 u5 ax1 ax3) (aro x u2 u3 ax0 ax2) (aro y u2 u3 ax1 ax3) := hok
  have hP : va_P D cl [(qu, .inl (cJ, 8, .inr (.inl (f8 u0 u1 u2 u3 u4 u5 u6 u7)))), (hm, .inr (1, [.ref a, .ref b, .ref qa, .ref qu, .ref qb, .ref qh, .ref qm])), (qa, .inl (cJ, 4, .inr (.inl (f4 ax0 ax1 ax2 ax3)))), (b, .inr (6, [.ref qk2, .ref qp2, .int (nI n'_11), .int (bz fu'_14), .int (bz fa'_15)])), (qk2, .inl (cB, 3000, .inl K'_12)), (qp2, .inl (cI, 18000, .inl P'_13))] H := hP
  have hD : va_D A [(qu, .inl (cJ, 8, .inr (.inl (f8 u0 u1 u2 u3 u4 u5 u6 u7)))), (hm, .inr (1, [.ref a, .ref b, .ref qa, .ref qu, .ref qb, .ref qh, .ref qm])), (qa, .inl (cJ, 4, .inr (.inl (f4 ax0 ax1 ax2 ax3)))), (b, .inr (6, [.ref qk2, .ref qp2, .int (nI n'_11), .int (bz fu'_14), .int (bz fa'_15)])), (qk2, .inl (cB, 3000, .inl K'_12)), (qp2, .inl (cI, 18000, .inl P'_13))] := hD
  refine W.eq (g2 := F0 m 177 ls []) rfl ?_
  exact ct_retv hQ hx hb hr hlocks hP hD hS (n'_11, K'_12, P'_13, fu'_14, fa'_15) [(hm, .inr (1, [.ref a, .ref b, .ref qa, .ref qu, .ref qb, .ref qh, .ref qm])), (qa, .inl (cJ, 4, .inr (.inl (f4 ax0 ax1 ax2 ax3)))), (qu, .inl (cJ, 8, .inr (.inl (f8 u0 u1 u2 u3 u4 u5 u6 u7)))), (b, .inr (6, [.ref qk2, .ref qp2, .int (nI n'_11), .int (bz fu'_14), .int (bz fa'_15)])), (qk2, .inl (cB, 3000, .inl K'_12)), (qp2, .inl (cI, 18000, .inl P'_13))] [1, 2, 0, 3, 4, 5] (rfl) (hbg) (rfl) rfl rfl (by omega) (by omega) d_M_addCurve_177
