set_option maxHeartbeats 4000000 in
set_option maxRecDepth 100000 in
/-- isStraight -/
theorem c_M_isStraight (l : Launch) (D : va_G) (cI cB cJ : ClassId) (qQ : Nat) (a_ : Int64) (b_ : Int64) (c_ : Int64) (bd : Int32)  : ct l D cl [(cI, .int), (cB, .byte), (cJ, .long)] (amb qQ) y_M_isStraight w_M_isStraight 1 21 (0) (0) [.long a_, .long b_, .long c_, .int bd] [] (fun _ : Unit => True) (fun _ : Unit => some (.int (bz (strt a_ b_ c_ bd)))) (fun _ : Unit => []) := by
  refine ct_ofW (cc := b_M_isStraight) (maxL := 7) (ret := (some .boolean)) (by decide) rfl (Nat.le_of_ble_eq_true rfl) ?_
  intro p e R s m args below meth c A Q ls hx hb hr hml hts hown hlocks hname hRf hRc hRs hRl hQ hK hP hD hS hA hM hl
  have hl : lv_has ls 7 [(0, .long a_), (2, .long b_), (4, .long c_), (6, .int bd)] := hl
  refine lv_ldc2 (v := 3) hx hb hown (hts _ (gwc gw_690)) d_M_isStraight_0 ?_
  refine lv_lload_n hx hb d_M_isStraight_3 rfl (lv_at hl 0 rfl) ?_
  refine lv_ldc2 (v := 2) hx hb hown (hts _ (gwc gw_654)) d_M_isStraight_4 ?_
  refine lv_lload_n hx hb d_M_isStraight_7 rfl (lv_at hl 1 rfl) ?_
  refine lv_lmul hx hb d_M_isStraight_8 ?_
  refine lv_lsub hx hb d_M_isStraight_9 ?_
  refine lv_lload hx hb d_M_isStraight_10 (lv_at hl 2 rfl) ?_
  refine lv_ladd hx hb d_M_isStraight_12 ?_
  refine ct_callS (av := [.long ((a_ - (2 * b_)) + c_)]) (rest := [.long 3]) (wr := []) (n := 1) (c_abs l D cI cB cJ qQ  ((a_ - (2 * b_)) + c_) ) hx hb hml hown hts (amb_ok qQ) hK hP hD hS hA hM (gi_S gw_691 gw_256 gw_35 gw_257) rfl (by decide +kernel) ⟨by omega, by omega⟩ [] [] rfl rfl rfl rfl (by decide) rfl hl.1 rfl (Nat.le_of_ble_eq_true rfl) d_M_isStraight_13 ⟨by omega, by omega⟩ (fun u_1 H locs hok hP hD hS => ?_)
  have hP : va_P D cl [] H := hP
  have hD : va_D A [] := hD
  refine W.eq (g2 := F0 m 16 ls [.long (if 0 ≤ ((a_ - (2 * b_)) + c_) then ((a_ - (2 * b_)) + c_) else -((a_ - (2 * b_)) + c_)), .long 3]) rfl ?_
  refine tp_l (absL (a_ - 2 * b_ + c_)) (rfl) ?_
  refine lv_lmul hx hb d_M_isStraight_16 ?_
  refine lv_ldc2 (v := 2) hx hb hown (hts _ (gwc gw_654)) d_M_isStraight_17 ?_
  refine lv_iload hx hb d_M_isStraight_20 (lv_at hl 3 rfl) ?_
  refine lv_i2l (v := bd.toInt64) hx hb d_M_isStraight_22 rfl ?_
  refine lv_lmul hx hb d_M_isStraight_23 ?_
  refine W.lcmp hx hb d_M_isStraight_24 ?_
  refine lc_gt (tgt := 32) hx hb d_M_isStraight_25 (by decide) (fun c_2 => ?_) (fun c_2 => ?_)
  · skip
    refine lv_iconst (v := 0) hx hb d_M_isStraight_32 (by decide) ?_
    exact ct_retz hQ hx hb hr hlocks hP hD hS () [] [] (by rw [strt, decide_eq_false (Int64.not_le.mpr c_2)]; rfl) (trivial) (rfl) rfl rfl (by decide) (by omega) (by omega) d_M_isStraight_33
  · skip
    refine lv_iconst (v := 1) hx hb d_M_isStraight_28 (by decide) ?_
    refine lv_goto (tgt := 33) hx hb d_M_isStraight_29 (by decide) ?_
    exact ct_retz hQ hx hb hr hlocks hP hD hS () [] [] (by rw [strt, decide_eq_true (Int64.not_lt.mp c_2)]; rfl) (trivial) (rfl) rfl rfl (by decide) (by omega) (by omega) d_M_isStraight_33
set_option maxHeartbeats 4000000 in
set_option maxRecDepth 100000 in
/-- lay, halved ten times -/
theorem c_M_lay_z (l : Launch) (D : va_G) (cI cB cJ : ClassId) (qQ : Nat) (h : Nat) (qk : Nat) (qp : Nat) (n : Nat) (K : Nat → Int32) (P : Nat → Int32) (fu : Bool) (fa : Bool) (ax : Int64) (ay : Int64) (bx : Int64) (by_ : Int64) (cx : Int64) (cy : Int64) (dx : Int64) (dy : Int64) (bd : Int32) (hv : Nat) (hn : n ≤ 3000) (hd : hv + 0 = 10) : ct l D cl [(cI, .int), (cB, .byte), (cJ, .long)] (amb qQ) y_M_lay w_M_lay (3 + 0) (79 + 0 * 62) (0) (0) [.ref h, .long ax, .long ay, .long bx, .long by_, .long cx, .long cy, .long dx, .long dy, .int bd, .int (nI hv)] [(h, .inr (6, [.ref qk, .ref qp, .int (nI n), .int (bz fu), .int (bz fa)])), (qk, .inl (cB, 3000, .inl K)), (qp, .inl (cI, 18000, .inl P))] (fun u_ : Nat × (Nat → Int32) × (Nat → Int32) × Bool × Bool => match u_ with | (n', K', P', fu', fa') => n' ≤ 3000 ∧ (lst n' K' P', fu', fa') = layD bd 0 (lst n K P, fu, fa) ax ay bx by_ cx cy dx dy) (fun u_ : Nat × (Nat → Int32) × (Nat → Int32) × Bool × Bool => match u_ with | (n', K', P', fu', fa') => none) (fun u_ : Nat × (Nat → Int32) × (Nat → Int32) × Bool × Bool => match u_ with | (n', K', P', fu', fa') => [(h, .inr (6, [.ref qk, .ref qp, .int (nI n'), .int (bz fu'), .int (bz fa')])), (qk, .inl (cB, 3000, .inl K')), (qp, .inl (cI, 18000, .inl P'))]) := by
  refine ct_ofW (cc := b_M_lay) (maxL := 43) (ret := none) (by decide) rfl (Nat.le_of_ble_eq_true rfl) ?_
  intro p e R s m args below meth c A Q ls hx hb hr hml hts hown hlocks hname hRf hRc hRs hRl hQ hK hP hD hS hA hM hl
  have hl : lv_has ls 43 [(0, .ref h), (1, .long ax), (3, .long ay), (5, .long bx), (7, .long by_), (9, .long cx), (11, .long cy), (13, .long dx), (15, .long dy), (17, .int bd), (18, .int (nI hv))] := hl
  refine lv_iload hx hb d_M_lay_0 (lv_at hl 10 rfl) ?_
  refine lv_bipush (v := 10) hx hb d_M_lay_2 (by decide) ?_
  refine bn_eq (a1 := hv) (b1 := 10) (tgt := 61) hx hb (by omega) (by omega) d_M_lay_4 (by decide) (fun c_1 => ?_) (fun c_1 => ?_)
  · skip
    refine lv_aload_n hx hb d_M_lay_61 rfl (lv_at hl 0 rfl) ?_
    refine lv_iconst (v := 1) hx hb d_M_lay_62 (by decide) ?_
    refine lv_lload hx hb d_M_lay_63 (lv_at hl 7 rfl) ?_
    refine lv_lload hx hb d_M_lay_65 (lv_at hl 8 rfl) ?_
    refine ct_callV (ci := 6) (q0 := 0) (As := [.int 1, .long dx, .long dy]) (rest := []) (wr := []) (n := 3) (c_MPath_addPoint l D cI cB cJ qQ  h qk qp n K P fu fa 1 dx dy (hn) (kok1)) hx hb hml hown hts (amb_ok qQ) hK hP hD hS hA hM (gi_V gw_587 gw_561 gw_562 gw_34 gw_563) rfl (by decide +kernel) ⟨by omega, by omega⟩ [0, 1, 2] [] rfl rfl rfl rfl (by decide) rfl rfl rfl hl.1 rfl (Nat.le_of_ble_eq_true rfl) d_M_lay_67 ⟨by omega, by omega⟩ (fun u_2 H locs hok hP hD hS => ?_)
    obtain ⟨n'_3, K'_4, P'_5, fu'_6, fa'_7⟩ := u_2
    have hbg : n'_3 ≤ 3000 ∧ (lst n'_3 K'_4 P'_5, fu'_6, fa'_7) = addD (lst n K P, fu, fa) 1 dx dy 0 0 0 0 := hok
    have hP : va_P D cl [(h, .inr (6, [.ref qk, .ref qp, .int (nI n'_3), .int (bz fu'_6), .int (bz fa'_7)])), (qk, .inl (cB, 3000, .inl K'_4)), (qp, .inl (cI, 18000, .inl P'_5))] H := hP
    have hD : va_D A [(h, .inr (6, [.ref qk, .ref qp, .int (nI n'_3), .int (bz fu'_6), .int (bz fa'_7)])), (qk, .inl (cB, 3000, .inl K'_4)), (qp, .inl (cI, 18000, .inl P'_5))] := hD
    refine W.eq (g2 := F0 m 70 ls []) rfl ?_
    exact ct_retv hQ hx hb hr hlocks hP hD hS (n'_3, K'_4, P'_5, fu'_6, fa'_7) [(h, .inr (6, [.ref qk, .ref qp, .int (nI n'_3), .int (bz fu'_6), .int (bz fa'_7)])), (qk, .inl (cB, 3000, .inl K'_4)), (qp, .inl (cI, 18000, .inl P'_5))] [0, 1, 2] (rfl) (hbg) (rfl) rfl rfl (by omega) (by omega) d_M_lay_70
  · skip
    exact absurd (show hv = 10 by omega) c_1
set_option maxHeartbeats 40000000 in
set_option maxRecDepth 100000 in
/-- lay, halved less often -/
theorem c_M_lay_s (l : Launch) (D : va_G) (cI cB cJ : ClassId) (qQ : Nat) (dd : Nat) (ih : ∀ (h : Nat) (qk : Nat) (qp : Nat) (n : Nat) (K : Nat → Int32) (P : Nat → Int32) (fu : Bool) (fa : Bool) (ax : Int64) (ay : Int64) (bx : Int64) (by_ : Int64) (cx : Int64) (cy : Int64) (dx : Int64) (dy : Int64) (bd : Int32) (hv : Nat) (hn : n ≤ 3000) (hd : hv + dd = 10), ct l D cl [(cI, .int), (cB, .byte), (cJ, .long)] (amb qQ) y_M_lay w_M_lay (3 + dd) (79 + dd * 62) (0) (0) [.ref h, .long ax, .long ay, .long bx, .long by_, .long cx, .long cy, .long dx, .long dy, .int bd, .int (nI hv)] [(h, .inr (6, [.ref qk, .ref qp, .int (nI n), .int (bz fu), .int (bz fa)])), (qk, .inl (cB, 3000, .inl K)), (qp, .inl (cI, 18000, .inl P))] (fun u_ : Nat × (Nat → Int32) × (Nat → Int32) × Bool × Bool => match u_ with | (n', K', P', fu', fa') => n' ≤ 3000 ∧ (lst n' K' P', fu', fa') = layD bd dd (lst n K P, fu, fa) ax ay bx by_ cx cy dx dy) (fun u_ : Nat × (Nat → Int32) × (Nat → Int32) × Bool × Bool => match u_ with | (n', K', P', fu', fa') => none) (fun u_ : Nat × (Nat → Int32) × (Nat → Int32) × Bool × Bool => match u_ with | (n', K', P', fu', fa') => [(h, .inr (6, [.ref qk, .ref qp, .int (nI n'), .int (bz fu'), .int (bz fa')])), (qk, .inl (cB, 3000, .inl K')), (qp, .inl (cI, 18000, .inl P'))])) (h : Nat) (qk : Nat) (qp : Nat) (n : Nat) (K : Nat → Int32) (P : Nat → Int32) (fu : Bool) (fa : Bool) (ax : Int64) (ay : Int64) (bx : Int64) (by_ : Int64) (cx : Int64) (cy : Int64) (dx : Int64) (dy : Int64) (bd : Int32) (hv : Nat) (hn : n ≤ 3000) (hd : hv + (dd + 1) = 10) : ct l D cl [(cI, .int), (cB, .byte), (cJ, .long)] (amb qQ) y_M_lay w_M_lay (3 + (dd + 1)) (79 + (dd + 1) * 62) (0) (0) [.ref h, .long ax, .long ay, .long bx, .long by_, .long cx, .long cy, .long dx, .long dy, .int bd, .int (nI hv)] [(h, .inr (6, [.ref qk, .ref qp, .int (nI n), .int (bz fu), .int (bz fa)])), (qk, .inl (cB, 3000, .inl K)), (qp, .inl (cI, 18000, .inl P))] (fun u_ : Nat × (Nat → Int32) × (Nat → Int32) × Bool × Bool => match u_ with | (n', K', P', fu', fa') => n' ≤ 3000 ∧ (lst n' K' P', fu', fa') = layD bd (dd + 1) (lst n K P, fu, fa) ax ay bx by_ cx cy dx dy) (fun u_ : Nat × (Nat → Int32) × (Nat → Int32) × Bool × Bool => match u_ with | (n', K', P', fu', fa') => none) (fun u_ : Nat × (Nat → Int32) × (Nat → Int32) × Bool × Bool => match u_ with | (n', K', P', fu', fa') => [(h, .inr (6, [.ref qk, .ref qp, .int (nI n'), .int (bz fu'), .int (bz fa')])), (qk, .inl (cB, 3000, .inl K')), (qp, .inl (cI, 18000, .inl P'))]) := by
  refine ct_ofW (cc := b_M_lay) (maxL := 43) (ret := none) (by decide) rfl (Nat.le_of_ble_eq_true rfl) ?_
  intro p e R s m args below meth c A Q ls hx hb hr hml hts hown hlocks hname hRf hRc hRs hRl hQ hK hP hD hS hA hM hl
  have hl : lv_has ls 43 [(0, .ref h), (1, .long ax), (3, .long ay), (5, .long bx), (7, .long by_), (9, .long cx), (11, .long cy), (13, .long dx), (15, .long dy), (17, .int bd), (18, .int (nI hv))] := hl
  refine lv_iload hx hb d_M_lay_0 (lv_at hl 10 rfl) ?_
  refine lv_bipush (v := 10) hx hb d_M_lay_2 (by decide) ?_
  refine bn_eq (a1 := hv) (b1 := 10) (tgt := 61) hx hb (by omega) (by omega) d_M_lay_4 (by decide) (fun c_1 => ?_) (fun c_1 => ?_)
  · skip
    exact absurd c_1 (show ¬ hv = 10 by omega)
  · skip
    refine lv_lload_n hx hb d_M_lay_7 rfl (lv_at hl 1 rfl) ?_
    refine lv_lload hx hb d_M_lay_8 (lv_at hl 3 rfl) ?_
    refine lv_lload hx hb d_M_lay_10 (lv_at hl 5 rfl) ?_
    refine lv_iload hx hb d_M_lay_12 (lv_at hl 9 rfl) ?_
    refine ct_callS (av := [.long ax, .long bx, .long cx, .int bd]) (rest := []) (wr := [(h, .inr (6, [.ref qk, .ref qp, .int (nI n), .int (bz fu), .int (bz fa)])), (qk, .inl (cB, 3000, .inl K)), (qp, .inl (cI, 18000, .inl P))]) (n := 4) (c_M_isStraight l D cI cB cJ qQ  ax bx cx bd ) hx hb hml hown hts (amb_ok qQ) hK hP hD hS hA hM (gi_S gw_687 gw_688 gw_33 gw_689) rfl (by decide +kernel) ⟨by omega, by omega⟩ [] [0, 1, 2] rfl rfl rfl rfl (by decide) rfl hl.1 rfl (Nat.le_of_ble_eq_true rfl) d_M_lay_14 ⟨by omega, by omega⟩ (fun u_2 H locs hok hP hD hS => ?_)
    have hP : va_P D cl [(h, .inr (6, [.ref qk, .ref qp, .int (nI n), .int (bz fu), .int (bz fa)])), (qk, .inl (cB, 3000, .inl K)), (qp, .inl (cI, 18000, .inl P))] H := hP
    have hD : va_D A [(h, .inr (6, [.ref qk, .ref qp, .int (nI n), .int (bz fu), .int (bz fa)])), (qk, .inl (cB, 3000, .inl K)), (qp, .inl (cI, 18000, .inl P))] := hD
    refine W.eq (g2 := F0 m 17 ls [.int (bz (strt ax bx cx bd))]) rfl ?_
    refine bb_eq (tgt := 71) hx hb d_M_lay_17 (by decide) (fun c_3 => ?_) (fun c_3 => ?_)
    · skip
      refine lv_lload_n hx hb d_M_lay_71 rfl (lv_at hl 1 rfl) ?_
      refine lv_lload hx hb d_M_lay_72 (lv_at hl 3 rfl) ?_
      refine lv_ladd hx hb d_M_lay_74 ?_
      refine lv_iconst (v := 1) hx hb d_M_lay_75 (by decide) ?_
      refine lv_lshr (v := hvL ax bx) hx hb d_M_lay_76 rfl ?_
      refine lv_lstore (lv' := [(19, .long (hvL ax bx)), (0, .ref h), (1, .long ax), (3, .long ay), (5, .long bx), (7, .long by_), (9, .long cx), (11, .long cy), (13, .long dx), (15, .long dy), (17, .int bd), (18, .int (nI hv))]) hx hb d_M_lay_77 hl (by decide) rfl (fun ls hl => ?_)
      refine lv_lload_n hx hb d_M_lay_79 rfl (lv_at hl 3 rfl) ?_
      refine lv_lload hx hb d_M_lay_80 (lv_at hl 5 rfl) ?_
      refine lv_ladd hx hb d_M_lay_82 ?_
      refine lv_iconst (v := 1) hx hb d_M_lay_83 (by decide) ?_
      refine lv_lshr (v := hvL ay by_) hx hb d_M_lay_84 rfl ?_
      refine lv_lstore (lv' := [(21, .long (hvL ay by_)), (19, .long (hvL ax bx)), (0, .ref h), (1, .long ax), (3, .long ay), (5, .long bx), (7, .long by_), (9, .long cx), (11, .long cy), (13, .long dx), (15, .long dy), (17, .int bd), (18, .int (nI hv))]) hx hb d_M_lay_85 hl (by decide) rfl (fun ls hl => ?_)
      refine lv_lload hx hb d_M_lay_87 (lv_at hl 5 rfl) ?_
      refine lv_lload hx hb d_M_lay_89 (lv_at hl 7 rfl) ?_
      refine lv_ladd hx hb d_M_lay_91 ?_
      refine lv_iconst (v := 1) hx hb d_M_lay_92 (by decide) ?_
      refine lv_lshr (v := hvL bx cx) hx hb d_M_lay_93 rfl ?_
      refine lv_lstore (lv' := [(23, .long (hvL bx cx)), (21, .long (hvL ay by_)), (19, .long (hvL ax bx)), (0, .ref h), (1, .long ax), (3, .long ay), (5, .long bx), (7, .long by_), (9, .long cx), (11, .long cy), (13, .long dx), (15, .long dy), (17, .int bd), (18, .int (nI hv))]) hx hb d_M_lay_94 hl (by decide) rfl (fun ls hl => ?_)
      refine lv_lload hx hb d_M_lay_96 (lv_at hl 7 rfl) ?_
      refine lv_lload hx hb d_M_lay_98 (lv_at hl 9 rfl) ?_
      refine lv_ladd hx hb d_M_lay_100 ?_
      refine lv_iconst (v := 1) hx hb d_M_lay_101 (by decide) ?_
      refine lv_lshr (v := hvL by_ cy) hx hb d_M_lay_102 rfl ?_
      refine lv_lstore (lv' := [(25, .long (hvL by_ cy)), (23, .long (hvL bx cx)), (21, .long (hvL ay by_)), (19, .long (hvL ax bx)), (0, .ref h), (1, .long ax), (3, .long ay), (5, .long bx), (7, .long by_), (9, .long cx), (11, .long cy), (13, .long dx), (15, .long dy), (17, .int bd), (18, .int (nI hv))]) hx hb d_M_lay_103 hl (by decide) rfl (fun ls hl => ?_)
      refine lv_lload hx hb d_M_lay_105 (lv_at hl 9 rfl) ?_
      refine lv_lload hx hb d_M_lay_107 (lv_at hl 11 rfl) ?_
      refine lv_ladd hx hb d_M_lay_109 ?_
      refine lv_iconst (v := 1) hx hb d_M_lay_110 (by decide) ?_
      refine lv_lshr (v := hvL cx dx) hx hb d_M_lay_111 rfl ?_
      refine lv_lstore (lv' := [(27, .long (hvL cx dx)), (25, .long (hvL by_ cy)), (23, .long (hvL bx cx)), (21, .long (hvL ay by_)), (19, .long (hvL ax bx)), (0, .ref h), (1, .long ax), (3, .long ay), (5, .long bx), (7, .long by_), (9, .long cx), (11, .long cy), (13, .long dx), (15, .long dy), (17, .int bd), (18, .int (nI hv))]) hx hb d_M_lay_112 hl (by decide) rfl (fun ls hl => ?_)
      refine lv_lload hx hb d_M_lay_114 (lv_at hl 11 rfl) ?_
      refine lv_lload hx hb d_M_lay_116 (lv_at hl 13 rfl) ?_
      refine lv_ladd hx hb d_M_lay_118 ?_
      refine lv_iconst (v := 1) hx hb d_M_lay_119 (by decide) ?_
      refine lv_lshr (v := hvL cy dy) hx hb d_M_lay_120 rfl ?_
      refine lv_lstore (lv' := [(29, .long (hvL cy dy)), (27, .long (hvL cx dx)), (25, .long (hvL by_ cy)), (23, .long (hvL bx cx)), (21, .long (hvL ay by_)), (19, .long (hvL ax bx)), (0, .ref h), (1, .long ax), (3, .long ay), (5, .long bx), (7, .long by_), (9, .long cx), (11, .long cy), (13, .long dx), (15, .long dy), (17, .int bd), (18, .int (nI hv))]) hx hb d_M_lay_121 hl (by decide) rfl (fun ls hl => ?_)
      refine lv_lload hx hb d_M_lay_123 (lv_at hl 5 rfl) ?_
      refine lv_lload hx hb d_M_lay_125 (lv_at hl 3 rfl) ?_
      refine lv_ladd hx hb d_M_lay_127 ?_
      refine lv_iconst (v := 1) hx hb d_M_lay_128 (by decide) ?_
      refine lv_lshr (v := hvL (hvL ax bx) (hvL bx cx)) hx hb d_M_lay_129 rfl ?_
      refine lv_lstore (lv' := [(31, .long (hvL (hvL ax bx) (hvL bx cx))), (29, .long (hvL cy dy)), (27, .long (hvL cx dx)), (25, .long (hvL by_ cy)), (23, .long (hvL bx cx)), (21, .long (hvL ay by_)), (19, .long (hvL ax bx)), (0, .ref h), (1, .long ax), (3, .long ay), (5, .long bx), (7, .long by_), (9, .long cx), (11, .long cy), (13, .long dx), (15, .long dy), (17, .int bd), (18, .int (nI hv))]) hx hb d_M_lay_130 hl (by decide) rfl (fun ls hl => ?_)
      refine lv_lload hx hb d_M_lay_132 (lv_at hl 5 rfl) ?_
      refine lv_lload hx hb d_M_lay_134 (lv_at hl 3 rfl) ?_
      refine lv_ladd hx hb d_M_lay_136 ?_
      refine lv_iconst (v := 1) hx hb d_M_lay_137 (by decide) ?_
      refine lv_lshr (v := hvL (hvL ay by_) (hvL by_ cy)) hx hb d_M_lay_138 rfl ?_
      refine lv_lstore (lv' := [(33, .long (hvL (hvL ay by_) (hvL by_ cy))), (31, .long (hvL (hvL ax bx) (hvL bx cx))), (29, .long (hvL cy dy)), (27, .long (hvL cx dx)), (25, .long (hvL by_ cy)), (23, .long (hvL bx cx)), (21, .long (hvL ay by_)), (19, .long (hvL ax bx)), (0, .ref h), (1, .long ax), (3, .long ay), (5, .long bx), (7, .long by_), (9, .long cx), (11, .long cy), (13, .long dx), (15, .long dy), (17, .int bd), (18, .int (nI hv))]) hx hb d_M_lay_139 hl (by decide) rfl (fun ls hl => ?_)
      refine lv_lload hx hb d_M_lay_141 (lv_at hl 5 rfl) ?_
      refine lv_lload hx hb d_M_lay_143 (lv_at hl 3 rfl) ?_
      refine lv_ladd hx hb d_M_lay_145 ?_
      refine lv_iconst (v := 1) hx hb d_M_lay_146 (by decide) ?_
      refine lv_lshr (v := hvL (hvL bx cx) (hvL cx dx)) hx hb d_M_lay_147 rfl ?_
      refine lv_lstore (lv' := [(35, .long (hvL (hvL bx cx) (hvL cx dx))), (33, .long (hvL (hvL ay by_) (hvL by_ cy))), (31, .long (hvL (hvL ax bx) (hvL bx cx))), (29, .long (hvL cy dy)), (27, .long (hvL cx dx)), (25, .long (hvL by_ cy)), (23, .long (hvL bx cx)), (21, .long (hvL ay by_)), (19, .long (hvL ax bx)), (0, .ref h), (1, .long ax), (3, .long ay), (5, .long bx), (7, .long by_), (9, .long cx), (11, .long cy), (13, .long dx), (15, .long dy), (17, .int bd), (18, .int (nI hv))]) hx hb d_M_lay_148 hl (by decide) rfl (fun ls hl => ?_)
      refine lv_lload hx hb d_M_lay_150 (lv_at hl 5 rfl) ?_
      refine lv_lload hx hb d_M_lay_152 (lv_at hl 3 rfl) ?_
      refine lv_ladd hx hb d_M_lay_154 ?_
      refine lv_iconst (v := 1) hx hb d_M_lay_155 (by decide) ?_
      refine lv_lshr (v := hvL (hvL by_ cy) (hvL cy dy)) hx hb d_M_lay_156 rfl ?_
      refine lv_lstore (lv' := [(37, .long (hvL (hvL by_ cy) (hvL cy dy))), (35, .long (hvL (hvL bx cx) (hvL cx dx))), (33, .long (hvL (hvL ay by_) (hvL by_ cy))), (31, .long (hvL (hvL ax bx) (hvL bx cx))), (29, .long (hvL cy dy)), (27, .long (hvL cx dx)), (25, .long (hvL by_ cy)), (23, .long (hvL bx cx)), (21, .long (hvL ay by_)), (19, .long (hvL ax bx)), (0, .ref h), (1, .long ax), (3, .long ay), (5, .long bx), (7, .long by_), (9, .long cx), (11, .long cy), (13, .long dx), (15, .long dy), (17, .int bd), (18, .int (nI hv))]) hx hb d_M_lay_157 hl (by decide) rfl (fun ls hl => ?_)
      refine lv_lload hx hb d_M_lay_159 (lv_at hl 3 rfl) ?_
      refine lv_lload hx hb d_M_lay_161 (lv_at hl 1 rfl) ?_
      refine lv_ladd hx hb d_M_lay_163 ?_
      refine lv_iconst (v := 1) hx hb d_M_lay_164 (by decide) ?_
      refine lv_lshr (v := hvL (hvL (hvL ax bx) (hvL bx cx)) (hvL (hvL bx cx) (hvL cx dx))) hx hb d_M_lay_165 rfl ?_
      refine lv_lstore (lv' := [(39, .long (hvL (hvL (hvL ax bx) (hvL bx cx)) (hvL (hvL bx cx) (hvL cx dx)))), (37, .long (hvL (hvL by_ cy) (hvL cy dy))), (35, .long (hvL (hvL bx cx) (hvL cx dx))), (33, .long (hvL (hvL ay by_) (hvL by_ cy))), (31, .long (hvL (hvL ax bx) (hvL bx cx))), (29, .long (hvL cy dy)), (27, .long (hvL cx dx)), (25, .long (hvL by_ cy)), (23, .long (hvL bx cx)), (21, .long (hvL ay by_)), (19, .long (hvL ax bx)), (0, .ref h), (1, .long ax), (3, .long ay), (5, .long bx), (7, .long by_), (9, .long cx), (11, .long cy), (13, .long dx), (15, .long dy), (17, .int bd), (18, .int (nI hv))]) hx hb d_M_lay_166 hl (by decide) rfl (fun ls hl => ?_)
      refine lv_lload hx hb d_M_lay_168 (lv_at hl 3 rfl) ?_
      refine lv_lload hx hb d_M_lay_170 (lv_at hl 1 rfl) ?_
      refine lv_ladd hx hb d_M_lay_172 ?_
      refine lv_iconst (v := 1) hx hb d_M_lay_173 (by decide) ?_
      refine lv_lshr (v := hvL (hvL (hvL ay by_) (hvL by_ cy)) (hvL (hvL by_ cy) (hvL cy dy))) hx hb d_M_lay_174 rfl ?_
      refine lv_lstore (lv' := [(41, .long (hvL (hvL (hvL ay by_) (hvL by_ cy)) (hvL (hvL by_ cy) (hvL cy dy)))), (39, .long (hvL (hvL (hvL ax bx) (hvL bx cx)) (hvL (hvL bx cx) (hvL cx dx)))), (37, .long (hvL (hvL by_ cy) (hvL cy dy))), (35, .long (hvL (hvL bx cx) (hvL cx dx))), (33, .long (hvL (hvL ay by_) (hvL by_ cy))), (31, .long (hvL (hvL ax bx) (hvL bx cx))), (29, .long (hvL cy dy)), (27, .long (hvL cx dx)), (25, .long (hvL by_ cy)), (23, .long (hvL bx cx)), (21, .long (hvL ay by_)), (19, .long (hvL ax bx)), (0, .ref h), (1, .long ax), (3, .long ay), (5, .long bx), (7, .long by_), (9, .long cx), (11, .long cy), (13, .long dx), (15, .long dy), (17, .int bd), (18, .int (nI hv))]) hx hb d_M_lay_175 hl (by decide) rfl (fun ls hl => ?_)
      refine lv_aload_n hx hb d_M_lay_177 rfl (lv_at hl 12 rfl) ?_
      refine lv_lload_n hx hb d_M_lay_178 rfl (lv_at hl 13 rfl) ?_
      refine lv_lload_n hx hb d_M_lay_179 rfl (lv_at hl 14 rfl) ?_
      refine lv_lload hx hb d_M_lay_180 (lv_at hl 11 rfl) ?_
      refine lv_lload hx hb d_M_lay_182 (lv_at hl 10 rfl) ?_
      refine lv_lload hx hb d_M_lay_184 (lv_at hl 5 rfl) ?_
      refine lv_lload hx hb d_M_lay_186 (lv_at hl 4 rfl) ?_
      refine lv_lload hx hb d_M_lay_188 (lv_at hl 1 rfl) ?_
      refine lv_lload hx hb d_M_lay_190 (lv_at hl 0 rfl) ?_
      refine lv_iload hx hb d_M_lay_192 (lv_at hl 21 rfl) ?_
      refine lv_iload hx hb d_M_lay_194 (lv_at hl 22 rfl) ?_
      refine lv_iconst (v := 1) hx hb d_M_lay_196 (by decide) ?_
      refine lv_iadd hx hb d_M_lay_197 ?_
      refine tp_i (nI (hv + 1)) (nI_add _ _) ?_
      refine ct_callS (av := [.ref h, .long ax, .long ay, .long (hvL ax bx), .long (hvL ay by_), .long (hvL (hvL ax bx) (hvL bx cx)), .long (hvL (hvL ay by_) (hvL by_ cy)), .long (hvL (hvL (hvL ax bx) (hvL bx cx)) (hvL (hvL bx cx) (hvL cx dx))), .long (hvL (hvL (hvL ay by_) (hvL by_ cy)) (hvL (hvL by_ cy) (hvL cy dy))), .int bd, .int (nI (hv + 1))]) (rest := []) (wr := []) (n := 11) (ih  h qk qp n K P fu fa ax ay (hvL ax bx) (hvL ay by_) (hvL (hvL ax bx) (hvL bx cx)) (hvL (hvL ay by_) (hvL by_ cy)) (hvL (hvL (hvL ax bx) (hvL bx cx)) (hvL (hvL bx cx) (hvL cx dx))) (hvL (hvL (hvL ay by_) (hvL by_ cy)) (hvL (hvL by_ cy) (hvL cy dy))) bd (hv + 1) (hn) (by omega)) hx hb hml hown hts (amb_ok qQ) hK hP hD hS hA hM (gi_S gw_684 gw_685 gw_33 gw_686) rfl (by decide +kernel) ⟨by omega, by omega⟩ [0, 1, 2] [] rfl rfl rfl rfl (by decide) rfl hl.1 rfl (Nat.le_of_ble_eq_true rfl) d_M_lay_198 ⟨by omega, by omega⟩ (fun u_4 H locs hok hP hD hS => ?_)
      obtain ⟨n'_5, K'_6, P'_7, fu'_8, fa'_9⟩ := u_4
      have h1 : n'_5 ≤ 3000 ∧ (lst n'_5 K'_6 P'_7, fu'_8, fa'_9) = layD bd dd (lst n K P, fu, fa) ax ay (hvL ax bx) (hvL ay by_) (hvL (hvL ax bx) (hvL bx cx)) (hvL (hvL ay by_) (hvL by_ cy)) (hvL (hvL (hvL ax bx) (hvL bx cx)) (hvL (hvL bx cx) (hvL cx dx))) (hvL (hvL (hvL ay by_) (hvL by_ cy)) (hvL (hvL by_ cy) (hvL cy dy))) := hok
      have hP : va_P D cl [(h, .inr (6, [.ref qk, .ref qp, .int (nI n'_5), .int (bz fu'_8), .int (bz fa'_9)])), (qk, .inl (cB, 3000, .inl K'_6)), (qp, .inl (cI, 18000, .inl P'_7))] H := hP
      have hD : va_D A [(h, .inr (6, [.ref qk, .ref qp, .int (nI n'_5), .int (bz fu'_8), .int (bz fa'_9)])), (qk, .inl (cB, 3000, .inl K'_6)), (qp, .inl (cI, 18000, .inl P'_7))] := hD
      refine W.eq (g2 := F0 m 201 ls []) rfl ?_
      refine lv_aload_n hx hb d_M_lay_201 rfl (lv_at hl 12 rfl) ?_
      refine lv_lload hx hb d_M_lay_202 (lv_at hl 1 rfl) ?_
      refine lv_lload hx hb d_M_lay_204 (lv_at hl 0 rfl) ?_
      refine lv_lload hx hb d_M_lay_206 (lv_at hl 3 rfl) ?_
      refine lv_lload hx hb d_M_lay_208 (lv_at hl 2 rfl) ?_
      refine lv_lload hx hb d_M_lay_210 (lv_at hl 7 rfl) ?_
      refine lv_lload hx hb d_M_lay_212 (lv_at hl 6 rfl) ?_
      refine lv_lload hx hb d_M_lay_214 (lv_at hl 19 rfl) ?_
      refine lv_lload hx hb d_M_lay_216 (lv_at hl 20 rfl) ?_
      refine lv_iload hx hb d_M_lay_218 (lv_at hl 21 rfl) ?_
      refine lv_iload hx hb d_M_lay_220 (lv_at hl 22 rfl) ?_
      refine lv_iconst (v := 1) hx hb d_M_lay_222 (by decide) ?_
      refine lv_iadd hx hb d_M_lay_223 ?_
      refine tp_i (nI (hv + 1)) (nI_add _ _) ?_
      refine ct_callS (av := [.ref h, .long (hvL (hvL (hvL ax bx) (hvL bx cx)) (hvL (hvL bx cx) (hvL cx dx))), .long (hvL (hvL (hvL ay by_) (hvL by_ cy)) (hvL (hvL by_ cy) (hvL cy dy))), .long (hvL (hvL bx cx) (hvL cx dx)), .long (hvL (hvL by_ cy) (hvL cy dy)), .long (hvL cx dx), .long (hvL cy dy), .long dx, .long dy, .int bd, .int (nI (hv + 1))]) (rest := []) (wr := []) (n := 11) (ih  h qk qp n'_5 K'_6 P'_7 fu'_8 fa'_9 (hvL (hvL (hvL ax bx) (hvL bx cx)) (hvL (hvL bx cx) (hvL cx dx))) (hvL (hvL (hvL ay by_) (hvL by_ cy)) (hvL (hvL by_ cy) (hvL cy dy))) (hvL (hvL bx cx) (hvL cx dx)) (hvL (hvL by_ cy) (hvL cy dy)) (hvL cx dx) (hvL cy dy) dx dy bd (hv + 1) (h1.1) (by omega)) hx hb hml hown hts (amb_ok qQ) hK hP hD hS hA hM (gi_S gw_684 gw_685 gw_33 gw_686) rfl (by decide +kernel) ⟨by omega, by omega⟩ [0, 1, 2] [] rfl rfl rfl rfl (by decide) rfl hl.1 rfl (Nat.le_of_ble_eq_true rfl) d_M_lay_224 ⟨by omega, by omega⟩ (fun u_10 H locs hok hP hD hS => ?_)
      obtain ⟨n'_11, K'_12, P'_13, fu'_14, fa'_15⟩ := u_10
      have h2 : n'_11 ≤ 3000 ∧ (lst n'_11 K'_12 P'_13, fu'_14, fa'_15) = layD bd dd (lst n'_5 K'_6 P'_7, fu'_8, fa'_9) (hvL (hvL (hvL ax bx) (hvL bx cx)) (hvL (hvL bx cx) (hvL cx dx))) (hvL (hvL (hvL ay by_) (hvL by_ cy)) (hvL (hvL by_ cy) (hvL cy dy))) (hvL (hvL bx cx) (hvL cx dx)) (hvL (hvL by_ cy) (hvL cy dy)) (hvL cx dx) (hvL cy dy) dx dy := hok
      have hP : va_P D cl [(h, .inr (6, [.ref qk, .ref qp, .int (nI n'_11), .int (bz fu'_14), .int (bz fa'_15)])), (qk, .inl (cB, 3000, .inl K'_12)), (qp, .inl (cI, 18000, .inl P'_13))] H := hP
      have hD : va_D A [(h, .inr (6, [.ref qk, .ref qp, .int (nI n'_11), .int (bz fu'_14), .int (bz fa'_15)])), (qk, .inl (cB, 3000, .inl K'_12)), (qp, .inl (cI, 18000, .inl P'_13))] := hD
      refine W.eq (g2 := F0 m 227 ls []) rfl ?_
      exact ct_retv hQ hx hb hr hlocks hP hD hS (n'_11, K'_12, P'_13, fu'_14, fa'_15) [(h, .inr (6, [.ref qk, .ref qp, .int (nI n'_11), .int (bz fu'_14), .int (bz fa'_15)])), (qk, .inl (cB, 3000, .inl K'_12)), (qp, .inl (cI, 18000, .inl P'_13))] [0, 1, 2] (rfl) (⟨h2.1, by rw [h2.2, h1.2, layD, if_neg (by simp [flatQ, c_1, c_3])]⟩) (rfl) rfl rfl (by omega) (by omega) d_M_lay_227
    · skip
      refine lv_lload_n hx hb d_M_lay_20 rfl (lv_at hl 2 rfl) ?_
      refine lv_lload hx hb d_M_lay_21 (lv_at hl 4 rfl) ?_
      refine lv_lload hx hb d_M_lay_23 (lv_at hl 6 rfl) ?_
      refine lv_iload hx hb d_M_lay_25 (lv_at hl 9 rfl) ?_
      refine ct_callS (av := [.long ay, .long by_, .long cy, .int bd]) (rest := []) (wr := [(h, .inr (6, [.ref qk, .ref qp, .int (nI n), .int (bz fu), .int (bz fa)])), (qk, .inl (cB, 3000, .inl K)), (qp, .inl (cI, 18000, .inl P))]) (n := 4) (c_M_isStraight l D cI cB cJ qQ  ay by_ cy bd ) hx hb hml hown hts (amb_ok qQ) hK hP hD hS hA hM (gi_S gw_687 gw_688 gw_33 gw_689) rfl (by decide +kernel) ⟨by omega, by omega⟩ [] [0, 1, 2] rfl rfl rfl rfl (by decide) rfl hl.1 rfl (Nat.le_of_ble_eq_true rfl) d_M_lay_27 ⟨by omega, by omega⟩ (fun u_16 H locs hok hP hD hS => ?_)
      have hP : va_P D cl [(h, .inr (6, [.ref qk, .ref qp, .int (nI n), .int (bz fu), .int (bz fa)])), (qk, .inl (cB, 3000, .inl K)), (qp, .inl (cI, 18000, .inl P))] H := hP
      have hD : va_D A [(h, .inr (6, [.ref qk, .ref qp, .int (nI n), .int (bz fu), .int (bz fa)])), (qk, .inl (cB, 3000, .inl K)), (qp, .inl (cI, 18000, .inl P))] := hD
      refine W.eq (g2 := F0 m 30 ls [.int (bz (strt ay by_ cy bd))]) rfl ?_
      refine bb_eq (tgt := 71) hx hb d_M_lay_30 (by decide) (fun c_17 => ?_) (fun c_17 => ?_)
      · skip
        refine lv_lload_n hx hb d_M_lay_71 rfl (lv_at hl 1 rfl) ?_
        refine lv_lload hx hb d_M_lay_72 (lv_at hl 3 rfl) ?_
        refine lv_ladd hx hb d_M_lay_74 ?_
        refine lv_iconst (v := 1) hx hb d_M_lay_75 (by decide) ?_
        refine lv_lshr (v := hvL ax bx) hx hb d_M_lay_76 rfl ?_
        refine lv_lstore (lv' := [(19, .long (hvL ax bx)), (0, .ref h), (1, .long ax), (3, .long ay), (5, .long bx), (7, .long by_), (9, .long cx), (11, .long cy), (13, .long dx), (15, .long dy), (17, .int bd), (18, .int (nI hv))]) hx hb d_M_lay_77 hl (by decide) rfl (fun ls hl => ?_)
        refine lv_lload_n hx hb d_M_lay_79 rfl (lv_at hl 3 rfl) ?_
        refine lv_lload hx hb d_M_lay_80 (lv_at hl 5 rfl) ?_
        refine lv_ladd hx hb d_M_lay_82 ?_
        refine lv_iconst (v := 1) hx hb d_M_lay_83 (by decide) ?_
        refine lv_lshr (v := hvL ay by_) hx hb d_M_lay_84 rfl ?_
        refine lv_lstore (lv' := [(21, .long (hvL ay by_)), (19, .long (hvL ax bx)), (0, .ref h), (1, .long ax), (3, .long ay), (5, .long bx), (7, .long by_), (9, .long cx), (11, .long cy), (13, .long dx), (15, .long dy), (17, .int bd), (18, .int (nI hv))]) hx hb d_M_lay_85 hl (by decide) rfl (fun ls hl => ?_)
        refine lv_lload hx hb d_M_lay_87 (lv_at hl 5 rfl) ?_
        refine lv_lload hx hb d_M_lay_89 (lv_at hl 7 rfl) ?_
        refine lv_ladd hx hb d_M_lay_91 ?_
        refine lv_iconst (v := 1) hx hb d_M_lay_92 (by decide) ?_
        refine lv_lshr (v := hvL bx cx) hx hb d_M_lay_93 rfl ?_
        refine lv_lstore (lv' := [(23, .long (hvL bx cx)), (21, .long (hvL ay by_)), (19, .long (hvL ax bx)), (0, .ref h), (1, .long ax), (3, .long ay), (5, .long bx), (7, .long by_), (9, .long cx), (11, .long cy), (13, .long dx), (15, .long dy), (17, .int bd), (18, .int (nI hv))]) hx hb d_M_lay_94 hl (by decide) rfl (fun ls hl => ?_)
        refine lv_lload hx hb d_M_lay_96 (lv_at hl 7 rfl) ?_
        refine lv_lload hx hb d_M_lay_98 (lv_at hl 9 rfl) ?_
        refine lv_ladd hx hb d_M_lay_100 ?_
        refine lv_iconst (v := 1) hx hb d_M_lay_101 (by decide) ?_
        refine lv_lshr (v := hvL by_ cy) hx hb d_M_lay_102 rfl ?_
        refine lv_lstore (lv' := [(25, .long (hvL by_ cy)), (23, .long (hvL bx cx)), (21, .long (hvL ay by_)), (19, .long (hvL ax bx)), (0, .ref h), (1, .long ax), (3, .long ay), (5, .long bx), (7, .long by_), (9, .long cx), (11, .long cy), (13, .long dx), (15, .long dy), (17, .int bd), (18, .int (nI hv))]) hx hb d_M_lay_103 hl (by decide) rfl (fun ls hl => ?_)
        refine lv_lload hx hb d_M_lay_105 (lv_at hl 9 rfl) ?_
        refine lv_lload hx hb d_M_lay_107 (lv_at hl 11 rfl) ?_
        refine lv_ladd hx hb d_M_lay_109 ?_
        refine lv_iconst (v := 1) hx hb d_M_lay_110 (by decide) ?_
        refine lv_lshr (v := hvL cx dx) hx hb d_M_lay_111 rfl ?_
        refine lv_lstore (lv' := [(27, .long (hvL cx dx)), (25, .long (hvL by_ cy)), (23, .long (hvL bx cx)), (21, .long (hvL ay by_)), (19, .long (hvL ax bx)), (0, .ref h), (1, .long ax), (3, .long ay), (5, .long bx), (7, .long by_), (9, .long cx), (11, .long cy), (13, .long dx), (15, .long dy), (17, .int bd), (18, .int (nI hv))]) hx hb d_M_lay_112 hl (by decide) rfl (fun ls hl => ?_)
        refine lv_lload hx hb d_M_lay_114 (lv_at hl 11 rfl) ?_
        refine lv_lload hx hb d_M_lay_116 (lv_at hl 13 rfl) ?_
        refine lv_ladd hx hb d_M_lay_118 ?_
        refine lv_iconst (v := 1) hx hb d_M_lay_119 (by decide) ?_
        refine lv_lshr (v := hvL cy dy) hx hb d_M_lay_120 rfl ?_
        refine lv_lstore (lv' := [(29, .long (hvL cy dy)), (27, .long (hvL cx dx)), (25, .long (hvL by_ cy)), (23, .long (hvL bx cx)), (21, .long (hvL ay by_)), (19, .long (hvL ax bx)), (0, .ref h), (1, .long ax), (3, .long ay), (5, .long bx), (7, .long by_), (9, .long cx), (11, .long cy), (13, .long dx), (15, .long dy), (17, .int bd), (18, .int (nI hv))]) hx hb d_M_lay_121 hl (by decide) rfl (fun ls hl => ?_)
        refine lv_lload hx hb d_M_lay_123 (lv_at hl 5 rfl) ?_
        refine lv_lload hx hb d_M_lay_125 (lv_at hl 3 rfl) ?_
        refine lv_ladd hx hb d_M_lay_127 ?_
        refine lv_iconst (v := 1) hx hb d_M_lay_128 (by decide) ?_
        refine lv_lshr (v := hvL (hvL ax bx) (hvL bx cx)) hx hb d_M_lay_129 rfl ?_
        refine lv_lstore (lv' := [(31, .long (hvL (hvL ax bx) (hvL bx cx))), (29, .long (hvL cy dy)), (27, .long (hvL cx dx)), (25, .long (hvL by_ cy)), (23, .long (hvL bx cx)), (21, .long (hvL ay by_)), (19, .long (hvL ax bx)), (0, .ref h), (1, .long ax), (3, .long ay), (5, .long bx), (7, .long by_), (9, .long cx), (11, .long cy), (13, .long dx), (15, .long dy), (17, .int bd), (18, .int (nI hv))]) hx hb d_M_lay_130 hl (by decide) rfl (fun ls hl => ?_)
        refine lv_lload hx hb d_M_lay_132 (lv_at hl 5 rfl) ?_
        refine lv_lload hx hb d_M_lay_134 (lv_at hl 3 rfl) ?_
        refine lv_ladd hx hb d_M_lay_136 ?_
        refine lv_iconst (v := 1) hx hb d_M_lay_137 (by decide) ?_
        refine lv_lshr (v := hvL (hvL ay by_) (hvL by_ cy)) hx hb d_M_lay_138 rfl ?_
        refine lv_lstore (lv' := [(33, .long (hvL (hvL ay by_) (hvL by_ cy))), (31, .long (hvL (hvL ax bx) (hvL bx cx))), (29, .long (hvL cy dy)), (27, .long (hvL cx dx)), (25, .long (hvL by_ cy)), (23, .long (hvL bx cx)), (21, .long (hvL ay by_)), (19, .long (hvL ax bx)), (0, .ref h), (1, .long ax), (3, .long ay), (5, .long bx), (7, .long by_), (9, .long cx), (11, .long cy), (13, .long dx), (15, .long dy), (17, .int bd), (18, .int (nI hv))]) hx hb d_M_lay_139 hl (by decide) rfl (fun ls hl => ?_)
        refine lv_lload hx hb d_M_lay_141 (lv_at hl 5 rfl) ?_
        refine lv_lload hx hb d_M_lay_143 (lv_at hl 3 rfl) ?_
        refine lv_ladd hx hb d_M_lay_145 ?_
        refine lv_iconst (v := 1) hx hb d_M_lay_146 (by decide) ?_
        refine lv_lshr (v := hvL (hvL bx cx) (hvL cx dx)) hx hb d_M_lay_147 rfl ?_
        refine lv_lstore (lv' := [(35, .long (hvL (hvL bx cx) (hvL cx dx))), (33, .long (hvL (hvL ay by_) (hvL by_ cy))), (31, .long (hvL (hvL ax bx) (hvL bx cx))), (29, .long (hvL cy dy)), (27, .long (hvL cx dx)), (25, .long (hvL by_ cy)), (23, .long (hvL bx cx)), (21, .long (hvL ay by_)), (19, .long (hvL ax bx)), (0, .ref h), (1, .long ax), (3, .long ay), (5, .long bx), (7, .long by_), (9, .long cx), (11, .long cy), (13, .long dx), (15, .long dy), (17, .int bd), (18, .int (nI hv))]) hx hb d_M_lay_148 hl (by decide) rfl (fun ls hl => ?_)
        refine lv_lload hx hb d_M_lay_150 (lv_at hl 5 rfl) ?_
        refine lv_lload hx hb d_M_lay_152 (lv_at hl 3 rfl) ?_
        refine lv_ladd hx hb d_M_lay_154 ?_
        refine lv_iconst (v := 1) hx hb d_M_lay_155 (by decide) ?_
        refine lv_lshr (v := hvL (hvL by_ cy) (hvL cy dy)) hx hb d_M_lay_156 rfl ?_
        refine lv_lstore (lv' := [(37, .long (hvL (hvL by_ cy) (hvL cy dy))), (35, .long (hvL (hvL bx cx) (hvL cx dx))), (33, .long (hvL (hvL ay by_) (hvL by_ cy))), (31, .long (hvL (hvL ax bx) (hvL bx cx))), (29, .long (hvL cy dy)), (27, .long (hvL cx dx)), (25, .long (hvL by_ cy)), (23, .long (hvL bx cx)), (21, .long (hvL ay by_)), (19, .long (hvL ax bx)), (0, .ref h), (1, .long ax), (3, .long ay), (5, .long bx), (7, .long by_), (9, .long cx), (11, .long cy), (13, .long dx), (15, .long dy), (17, .int bd), (18, .int (nI hv))]) hx hb d_M_lay_157 hl (by decide) rfl (fun ls hl => ?_)
        refine lv_lload hx hb d_M_lay_159 (lv_at hl 3 rfl) ?_
        refine lv_lload hx hb d_M_lay_161 (lv_at hl 1 rfl) ?_
        refine lv_ladd hx hb d_M_lay_163 ?_
        refine lv_iconst (v := 1) hx hb d_M_lay_164 (by decide) ?_
        refine lv_lshr (v := hvL (hvL (hvL ax bx) (hvL bx cx)) (hvL (hvL bx cx) (hvL cx dx))) hx hb d_M_lay_165 rfl ?_
        refine lv_lstore (lv' := [(39, .long (hvL (hvL (hvL ax bx) (hvL bx cx)) (hvL (hvL bx cx) (hvL cx dx)))), (37, .long (hvL (hvL by_ cy) (hvL cy dy))), (35, .long (hvL (hvL bx cx) (hvL cx dx))), (33, .long (hvL (hvL ay by_) (hvL by_ cy))), (31, .long (hvL (hvL ax bx) (hvL bx cx))), (29, .long (hvL cy dy)), (27, .long (hvL cx dx)), (25, .long (hvL by_ cy)), (23, .long (hvL bx cx)), (21, .long (hvL ay by_)), (19, .long (hvL ax bx)), (0, .ref h), (1, .long ax), (3, .long ay), (5, .long bx), (7, .long by_), (9, .long cx), (11, .long cy), (13, .long dx), (15, .long dy), (17, .int bd), (18, .int (nI hv))]) hx hb d_M_lay_166 hl (by decide) rfl (fun ls hl => ?_)
        refine lv_lload hx hb d_M_lay_168 (lv_at hl 3 rfl) ?_
        refine lv_lload hx hb d_M_lay_170 (lv_at hl 1 rfl) ?_
        refine lv_ladd hx hb d_M_lay_172 ?_
        refine lv_iconst (v := 1) hx hb d_M_lay_173 (by decide) ?_
        refine lv_lshr (v := hvL (hvL (hvL ay by_) (hvL by_ cy)) (hvL (hvL by_ cy) (hvL cy dy))) hx hb d_M_lay_174 rfl ?_
        refine lv_lstore (lv' := [(41, .long (hvL (hvL (hvL ay by_) (hvL by_ cy)) (hvL (hvL by_ cy) (hvL cy dy)))), (39, .long (hvL (hvL (hvL ax bx) (hvL bx cx)) (hvL (hvL bx cx) (hvL cx dx)))), (37, .long (hvL (hvL by_ cy) (hvL cy dy))), (35, .long (hvL (hvL bx cx) (hvL cx dx))), (33, .long (hvL (hvL ay by_) (hvL by_ cy))), (31, .long (hvL (hvL ax bx) (hvL bx cx))), (29, .long (hvL cy dy)), (27, .long (hvL cx dx)), (25, .long (hvL by_ cy)), (23, .long (hvL bx cx)), (21, .long (hvL ay by_)), (19, .long (hvL ax bx)), (0, .ref h), (1, .long ax), (3, .long ay), (5, .long bx), (7, .long by_), (9, .long cx), (11, .long cy), (13, .long dx), (15, .long dy), (17, .int bd), (18, .int (nI hv))]) hx hb d_M_lay_175 hl (by decide) rfl (fun ls hl => ?_)
        refine lv_aload_n hx hb d_M_lay_177 rfl (lv_at hl 12 rfl) ?_
        refine lv_lload_n hx hb d_M_lay_178 rfl (lv_at hl 13 rfl) ?_
        refine lv_lload_n hx hb d_M_lay_179 rfl (lv_at hl 14 rfl) ?_
        refine lv_lload hx hb d_M_lay_180 (lv_at hl 11 rfl) ?_
        refine lv_lload hx hb d_M_lay_182 (lv_at hl 10 rfl) ?_
        refine lv_lload hx hb d_M_lay_184 (lv_at hl 5 rfl) ?_
        refine lv_lload hx hb d_M_lay_186 (lv_at hl 4 rfl) ?_
        refine lv_lload hx hb d_M_lay_188 (lv_at hl 1 rfl) ?_
        refine lv_lload hx hb d_M_lay_190 (lv_at hl 0 rfl) ?_
        refine lv_iload hx hb d_M_lay_192 (lv_at hl 21 rfl) ?_
        refine lv_iload hx hb d_M_lay_194 (lv_at hl 22 rfl) ?_
        refine lv_iconst (v := 1) hx hb d_M_lay_196 (by decide) ?_
        refine lv_iadd hx hb d_M_lay_197 ?_
        refine tp_i (nI (hv + 1)) (nI_add _ _) ?_
        refine ct_callS (av := [.ref h, .long ax, .long ay, .long (hvL ax bx), .long (hvL ay by_), .long (hvL (hvL ax bx) (hvL bx cx)), .long (hvL (hvL ay by_) (hvL by_ cy)), .long (hvL (hvL (hvL ax bx) (hvL bx cx)) (hvL (hvL bx cx) (hvL cx dx))), .long (hvL (hvL (hvL ay by_) (hvL by_ cy)) (hvL (hvL by_ cy) (hvL cy dy))), .int bd, .int (nI (hv + 1))]) (rest := []) (wr := []) (n := 11) (ih  h qk qp n K P fu fa ax ay (hvL ax bx) (hvL ay by_) (hvL (hvL ax bx) (hvL bx cx)) (hvL (hvL ay by_) (hvL by_ cy)) (hvL (hvL (hvL ax bx) (hvL bx cx)) (hvL (hvL bx cx) (hvL cx dx))) (hvL (hvL (hvL ay by_) (hvL by_ cy)) (hvL (hvL by_ cy) (hvL cy dy))) bd (hv + 1) (hn) (by omega)) hx hb hml hown hts (amb_ok qQ) hK hP hD hS hA hM (gi_S gw_684 gw_685 gw_33 gw_686) rfl (by decide +kernel) ⟨by omega, by omega⟩ [0, 1, 2] [] rfl rfl rfl rfl (by decide) rfl hl.1 rfl (Nat.le_of_ble_eq_true rfl) d_M_lay_198 ⟨by omega, by omega⟩ (fun u_18 H locs hok hP hD hS => ?_)
        obtain ⟨n'_19, K'_20, P'_21, fu'_22, fa'_23⟩ := u_18
        have h1 : n'_19 ≤ 3000 ∧ (lst n'_19 K'_20 P'_21, fu'_22, fa'_23) = layD bd dd (lst n K P, fu, fa) ax ay (hvL ax bx) (hvL ay by_) (hvL (hvL ax bx) (hvL bx cx)) (hvL (hvL ay by_) (hvL by_ cy)) (hvL (hvL (hvL ax bx) (hvL bx cx)) (hvL (hvL bx cx) (hvL cx dx))) (hvL (hvL (hvL ay by_) (hvL by_ cy)) (hvL (hvL by_ cy) (hvL cy dy))) := hok
        have hP : va_P D cl [(h, .inr (6, [.ref qk, .ref qp, .int (nI n'_19), .int (bz fu'_22), .int (bz fa'_23)])), (qk, .inl (cB, 3000, .inl K'_20)), (qp, .inl (cI, 18000, .inl P'_21))] H := hP
        have hD : va_D A [(h, .inr (6, [.ref qk, .ref qp, .int (nI n'_19), .int (bz fu'_22), .int (bz fa'_23)])), (qk, .inl (cB, 3000, .inl K'_20)), (qp, .inl (cI, 18000, .inl P'_21))] := hD
        refine W.eq (g2 := F0 m 201 ls []) rfl ?_
        refine lv_aload_n hx hb d_M_lay_201 rfl (lv_at hl 12 rfl) ?_
        refine lv_lload hx hb d_M_lay_202 (lv_at hl 1 rfl) ?_
        refine lv_lload hx hb d_M_lay_204 (lv_at hl 0 rfl) ?_
        refine lv_lload hx hb d_M_lay_206 (lv_at hl 3 rfl) ?_
        refine lv_lload hx hb d_M_lay_208 (lv_at hl 2 rfl) ?_
        refine lv_lload hx hb d_M_lay_210 (lv_at hl 7 rfl) ?_
        refine lv_lload hx hb d_M_lay_212 (lv_at hl 6 rfl) ?_
        refine lv_lload hx hb d_M_lay_214 (lv_at hl 19 rfl) ?_
        refine lv_lload hx hb d_M_lay_216 (lv_at hl 20 rfl) ?_
        refine lv_iload hx hb d_M_lay_218 (lv_at hl 21 rfl) ?_
        refine lv_iload hx hb d_M_lay_220 (lv_at hl 22 rfl) ?_
        refine lv_iconst (v := 1) hx hb d_M_lay_222 (by decide) ?_
        refine lv_iadd hx hb d_M_lay_223 ?_
        refine tp_i (nI (hv + 1)) (nI_add _ _) ?_
        refine ct_callS (av := [.ref h, .long (hvL (hvL (hvL ax bx) (hvL bx cx)) (hvL (hvL bx cx) (hvL cx dx))), .long (hvL (hvL (hvL ay by_) (hvL by_ cy)) (hvL (hvL by_ cy) (hvL cy dy))), .long (hvL (hvL bx cx) (hvL cx dx)), .long (hvL (hvL by_ cy) (hvL cy dy)), .long (hvL cx dx), .long (hvL cy dy), .long dx, .long dy, .int bd, .int (nI (hv + 1))]) (rest := []) (wr := []) (n := 11) (ih  h qk qp n'_19 K'_20 P'_21 fu'_22 fa'_23 (hvL (hvL (hvL ax bx) (hvL bx cx)) (hvL (hvL bx cx) (hvL cx dx))) (hvL (hvL (hvL ay by_) (hvL by_ cy)) (hvL (hvL by_ cy) (hvL cy dy))) (hvL (hvL bx cx) (hvL cx dx)) (hvL (hvL by_ cy) (hvL cy dy)) (hvL cx dx) (hvL cy dy) dx dy bd (hv + 1) (h1.1) (by omega)) hx hb hml hown hts (amb_ok qQ) hK hP hD hS hA hM (gi_S gw_684 gw_685 gw_33 gw_686) rfl (by decide +kernel) ⟨by omega, by omega⟩ [0, 1, 2] [] rfl rfl rfl rfl (by decide) rfl hl.1 rfl (Nat.le_of_ble_eq_true rfl) d_M_lay_224 ⟨by omega, by omega⟩ (fun u_24 H locs hok hP hD hS => ?_)
        obtain ⟨n'_25, K'_26, P'_27, fu'_28, fa'_29⟩ := u_24
        have h2 : n'_25 ≤ 3000 ∧ (lst n'_25 K'_26 P'_27, fu'_28, fa'_29) = layD bd dd (lst n'_19 K'_20 P'_21, fu'_22, fa'_23) (hvL (hvL (hvL ax bx) (hvL bx cx)) (hvL (hvL bx cx) (hvL cx dx))) (hvL (hvL (hvL ay by_) (hvL by_ cy)) (hvL (hvL by_ cy) (hvL cy dy))) (hvL (hvL bx cx) (hvL cx dx)) (hvL (hvL by_ cy) (hvL cy dy)) (hvL cx dx) (hvL cy dy) dx dy := hok
        have hP : va_P D cl [(h, .inr (6, [.ref qk, .ref qp, .int (nI n'_25), .int (bz fu'_28), .int (bz fa'_29)])), (qk, .inl (cB, 3000, .inl K'_26)), (qp, .inl (cI, 18000, .inl P'_27))] H := hP
        have hD : va_D A [(h, .inr (6, [.ref qk, .ref qp, .int (nI n'_25), .int (bz fu'_28), .int (bz fa'_29)])), (qk, .inl (cB, 3000, .inl K'_26)), (qp, .inl (cI, 18000, .inl P'_27))] := hD
        refine W.eq (g2 := F0 m 227 ls []) rfl ?_
        exact ct_retv hQ hx hb hr hlocks hP hD hS (n'_25, K'_26, P'_27, fu'_28, fa'_29) [(h, .inr (6, [.ref qk, .ref qp, .int (nI n'_25), .int (bz fu'_28), .int (bz fa'_29)])), (qk, .inl (cB, 3000, .inl K'_26)), (qp, .inl (cI, 18000, .inl P'_27))] [0, 1, 2] (rfl) (⟨h2.1, by rw [h2.2, h1.2, layD, if_neg (by simp [flatQ, c_1, c_3, c_17])]⟩) (rfl) rfl rfl (by omega) (by omega) d_M_lay_227
      · skip
        refine lv_lload hx hb d_M_lay_33 (lv_at hl 3 rfl) ?_
        refine lv_lload hx hb d_M_lay_35 (lv_at hl 5 rfl) ?_
        refine lv_lload hx hb d_M_lay_37 (lv_at hl 7 rfl) ?_
        refine lv_iload hx hb d_M_lay_39 (lv_at hl 9 rfl) ?_
        refine ct_callS (av := [.long bx, .long cx, .long dx, .int bd]) (rest := []) (wr := [(h, .inr (6, [.ref qk, .ref qp, .int (nI n), .int (bz fu), .int (bz fa)])), (qk, .inl (cB, 3000, .inl K)), (qp, .inl (cI, 18000, .inl P))]) (n := 4) (c_M_isStraight l D cI cB cJ qQ  bx cx dx bd ) hx hb hml hown hts (amb_ok qQ) hK hP hD hS hA hM (gi_S gw_687 gw_688 gw_33 gw_689) rfl (by decide +kernel) ⟨by omega, by omega⟩ [] [0, 1, 2] rfl rfl rfl rfl (by decide) rfl hl.1 rfl (Nat.le_of_ble_eq_true rfl) d_M_lay_41 ⟨by omega, by omega⟩ (fun u_30 H locs hok hP hD hS => ?_)
        have hP : va_P D cl [(h, .inr (6, [.ref qk, .ref qp, .int (nI n), .int (bz fu), .int (bz fa)])), (qk, .inl (cB, 3000, .inl K)), (qp, .inl (cI, 18000, .inl P))] H := hP
        have hD : va_D A [(h, .inr (6, [.ref qk, .ref qp, .int (nI n), .int (bz fu), .int (bz fa)])), (qk, .inl (cB, 3000, .inl K)), (qp, .inl (cI, 18000, .inl P))] := hD
        refine W.eq (g2 := F0 m 44 ls [.int (bz (strt bx cx dx bd))]) rfl ?_
        refine bb_eq (tgt := 71) hx hb d_M_lay_44 (by decide) (fun c_31 => ?_) (fun c_31 => ?_)
        · skip
          refine lv_lload_n hx hb d_M_lay_71 rfl (lv_at hl 1 rfl) ?_
          refine lv_lload hx hb d_M_lay_72 (lv_at hl 3 rfl) ?_
          refine lv_ladd hx hb d_M_lay_74 ?_
          refine lv_iconst (v := 1) hx hb d_M_lay_75 (by decide) ?_
          refine lv_lshr (v := hvL ax bx) hx hb d_M_lay_76 rfl ?_
          refine lv_lstore (lv' := [(19, .long (hvL ax bx)), (0, .ref h), (1, .long ax), (3, .long ay), (5, .long bx), (7, .long by_), (9, .long cx), (11, .long cy), (13, .long dx), (15, .long dy), (17, .int bd), (18, .int (nI hv))]) hx hb d_M_lay_77 hl (by decide) rfl (fun ls hl => ?_)
          refine lv_lload_n hx hb d_M_lay_79 rfl (lv_at hl 3 rfl) ?_
          refine lv_lload hx hb d_M_lay_80 (lv_at hl 5 rfl) ?_
          refine lv_ladd hx hb d_M_lay_82 ?_
          refine lv_iconst (v := 1) hx hb d_M_lay_83 (by decide) ?_
          refine lv_lshr (v := hvL ay by_) hx hb d_M_lay_84 rfl ?_
          refine lv_lstore (lv' := [(21, .long (hvL ay by_)), (19, .long (hvL ax bx)), (0, .ref h), (1, .long ax), (3, .long ay), (5, .long bx), (7, .long by_), (9, .long cx), (11, .long cy), (13, .long dx), (15, .long dy), (17, .int bd), (18, .int (nI hv))]) hx hb d_M_lay_85 hl (by decide) rfl (fun ls hl => ?_)
          refine lv_lload hx hb d_M_lay_87 (lv_at hl 5 rfl) ?_
          refine lv_lload hx hb d_M_lay_89 (lv_at hl 7 rfl) ?_
          refine lv_ladd hx hb d_M_lay_91 ?_
          refine lv_iconst (v := 1) hx hb d_M_lay_92 (by decide) ?_
          refine lv_lshr (v := hvL bx cx) hx hb d_M_lay_93 rfl ?_
          refine lv_lstore (lv' := [(23, .long (hvL bx cx)), (21, .long (hvL ay by_)), (19, .long (hvL ax bx)), (0, .ref h), (1, .long ax), (3, .long ay), (5, .long bx), (7, .long by_), (9, .long cx), (11, .long cy), (13, .long dx), (15, .long dy), (17, .int bd), (18, .int (nI hv))]) hx hb d_M_lay_94 hl (by decide) rfl (fun ls hl => ?_)
          refine lv_lload hx hb d_M_lay_96 (lv_at hl 7 rfl) ?_
          refine lv_lload hx hb d_M_lay_98 (lv_at hl 9 rfl) ?_
          refine lv_ladd hx hb d_M_lay_100 ?_
          refine lv_iconst (v := 1) hx hb d_M_lay_101 (by decide) ?_
          refine lv_lshr (v := hvL by_ cy) hx hb d_M_lay_102 rfl ?_
          refine lv_lstore (lv' := [(25, .long (hvL by_ cy)), (23, .long (hvL bx cx)), (21, .long (hvL ay by_)), (19, .long (hvL ax bx)), (0, .ref h), (1, .long ax), (3, .long ay), (5, .long bx), (7, .long by_), (9, .long cx), (11, .long cy), (13, .long dx), (15, .long dy), (17, .int bd), (18, .int (nI hv))]) hx hb d_M_lay_103 hl (by decide) rfl (fun ls hl => ?_)
          refine lv_lload hx hb d_M_lay_105 (lv_at hl 9 rfl) ?_
          refine lv_lload hx hb d_M_lay_107 (lv_at hl 11 rfl) ?_
          refine lv_ladd hx hb d_M_lay_109 ?_
          refine lv_iconst (v := 1) hx hb d_M_lay_110 (by decide) ?_
          refine lv_lshr (v := hvL cx dx) hx hb d_M_lay_111 rfl ?_
          refine lv_lstore (lv' := [(27, .long (hvL cx dx)), (25, .long (hvL by_ cy)), (23, .long (hvL bx cx)), (21, .long (hvL ay by_)), (19, .long (hvL ax bx)), (0, .ref h), (1, .long ax), (3, .long ay), (5, .long bx), (7, .long by_), (9, .long cx), (11, .long cy), (13, .long dx), (15, .long dy), (17, .int bd), (18, .int (nI hv))]) hx hb d_M_lay_112 hl (by decide) rfl (fun ls hl => ?_)
          refine lv_lload hx hb d_M_lay_114 (lv_at hl 11 rfl) ?_
          refine lv_lload hx hb d_M_lay_116 (lv_at hl 13 rfl) ?_
          refine lv_ladd hx hb d_M_lay_118 ?_
          refine lv_iconst (v := 1) hx hb d_M_lay_119 (by decide) ?_
          refine lv_lshr (v := hvL cy dy) hx hb d_M_lay_120 rfl ?_
          refine lv_lstore (lv' := [(29, .long (hvL cy dy)), (27, .long (hvL cx dx)), (25, .long (hvL by_ cy)), (23, .long (hvL bx cx)), (21, .long (hvL ay by_)), (19, .long (hvL ax bx)), (0, .ref h), (1, .long ax), (3, .long ay), (5, .long bx), (7, .long by_), (9, .long cx), (11, .long cy), (13, .long dx), (15, .long dy), (17, .int bd), (18, .int (nI hv))]) hx hb d_M_lay_121 hl (by decide) rfl (fun ls hl => ?_)
          refine lv_lload hx hb d_M_lay_123 (lv_at hl 5 rfl) ?_
          refine lv_lload hx hb d_M_lay_125 (lv_at hl 3 rfl) ?_
          refine lv_ladd hx hb d_M_lay_127 ?_
          refine lv_iconst (v := 1) hx hb d_M_lay_128 (by decide) ?_
          refine lv_lshr (v := hvL (hvL ax bx) (hvL bx cx)) hx hb d_M_lay_129 rfl ?_
          refine lv_lstore (lv' := [(31, .long (hvL (hvL ax bx) (hvL bx cx))), (29, .long (hvL cy dy)), (27, .long (hvL cx dx)), (25, .long (hvL by_ cy)), (23, .long (hvL bx cx)), (21, .long (hvL ay by_)), (19, .long (hvL ax bx)), (0, .ref h), (1, .long ax), (3, .long ay), (5, .long bx), (7, .long by_), (9, .long cx), (11, .long cy), (13, .long dx), (15, .long dy), (17, .int bd), (18, .int (nI hv))]) hx hb d_M_lay_130 hl (by decide) rfl (fun ls hl => ?_)
          refine lv_lload hx hb d_M_lay_132 (lv_at hl 5 rfl) ?_
          refine lv_lload hx hb d_M_lay_134 (lv_at hl 3 rfl) ?_
          refine lv_ladd hx hb d_M_lay_136 ?_
          refine lv_iconst (v := 1) hx hb d_M_lay_137 (by decide) ?_
          refine lv_lshr (v := hvL (hvL ay by_) (hvL by_ cy)) hx hb d_M_lay_138 rfl ?_
          refine lv_lstore (lv' := [(33, .long (hvL (hvL ay by_) (hvL by_ cy))), (31, .long (hvL (hvL ax bx) (hvL bx cx))), (29, .long (hvL cy dy)), (27, .long (hvL cx dx)), (25, .long (hvL by_ cy)), (23, .long (hvL bx cx)), (21, .long (hvL ay by_)), (19, .long (hvL ax bx)), (0, .ref h), (1, .long ax), (3, .long ay), (5, .long bx), (7, .long by_), (9, .long cx), (11, .long cy), (13, .long dx), (15, .long dy), (17, .int bd), (18, .int (nI hv))]) hx hb d_M_lay_139 hl (by decide) rfl (fun ls hl => ?_)
          refine lv_lload hx hb d_M_lay_141 (lv_at hl 5 rfl) ?_
          refine lv_lload hx hb d_M_lay_143 (lv_at hl 3 rfl) ?_
          refine lv_ladd hx hb d_M_lay_145 ?_
          refine lv_iconst (v := 1) hx hb d_M_lay_146 (by decide) ?_
          refine lv_lshr (v := hvL (hvL bx cx) (hvL cx dx)) hx hb d_M_lay_147 rfl ?_
          refine lv_lstore (lv' := [(35, .long (hvL (hvL bx cx) (hvL cx dx))), (33, .long (hvL (hvL ay by_) (hvL by_ cy))), (31, .long (hvL (hvL ax bx) (hvL bx cx))), (29, .long (hvL cy dy)), (27, .long (hvL cx dx)), (25, .long (hvL by_ cy)), (23, .long (hvL bx cx)), (21, .long (hvL ay by_)), (19, .long (hvL ax bx)), (0, .ref h), (1, .long ax), (3, .long ay), (5, .long bx), (7, .long by_), (9, .long cx), (11, .long cy), (13, .long dx), (15, .long dy), (17, .int bd), (18, .int (nI hv))]) hx hb d_M_lay_148 hl (by decide) rfl (fun ls hl => ?_)
          refine lv_lload hx hb d_M_lay_150 (lv_at hl 5 rfl) ?_
          refine lv_lload hx hb d_M_lay_152 (lv_at hl 3 rfl) ?_
          refine lv_ladd hx hb d_M_lay_154 ?_
          refine lv_iconst (v := 1) hx hb d_M_lay_155 (by decide) ?_
          refine lv_lshr (v := hvL (hvL by_ cy) (hvL cy dy)) hx hb d_M_lay_156 rfl ?_
          refine lv_lstore (lv' := [(37, .long (hvL (hvL by_ cy) (hvL cy dy))), (35, .long (hvL (hvL bx cx) (hvL cx dx))), (33, .long (hvL (hvL ay by_) (hvL by_ cy))), (31, .long (hvL (hvL ax bx) (hvL bx cx))), (29, .long (hvL cy dy)), (27, .long (hvL cx dx)), (25, .long (hvL by_ cy)), (23, .long (hvL bx cx)), (21, .long (hvL ay by_)), (19, .long (hvL ax bx)), (0, .ref h), (1, .long ax), (3, .long ay), (5, .long bx), (7, .long by_), (9, .long cx), (11, .long cy), (13, .long dx), (15, .long dy), (17, .int bd), (18, .int (nI hv))]) hx hb d_M_lay_157 hl (by decide) rfl (fun ls hl => ?_)
          refine lv_lload hx hb d_M_lay_159 (lv_at hl 3 rfl) ?_
          refine lv_lload hx hb d_M_lay_161 (lv_at hl 1 rfl) ?_
          refine lv_ladd hx hb d_M_lay_163 ?_
          refine lv_iconst (v := 1) hx hb d_M_lay_164 (by decide) ?_
          refine lv_lshr (v := hvL (hvL (hvL ax bx) (hvL bx cx)) (hvL (hvL bx cx) (hvL cx dx))) hx hb d_M_lay_165 rfl ?_
          refine lv_lstore (lv' := [(39, .long (hvL (hvL (hvL ax bx) (hvL bx cx)) (hvL (hvL bx cx) (hvL cx dx)))), (37, .long (hvL (hvL by_ cy) (hvL cy dy))), (35, .long (hvL (hvL bx cx) (hvL cx dx))), (33, .long (hvL (hvL ay by_) (hvL by_ cy))), (31, .long (hvL (hvL ax bx) (hvL bx cx))), (29, .long (hvL cy dy)), (27, .long (hvL cx dx)), (25, .long (hvL by_ cy)), (23, .long (hvL bx cx)), (21, .long (hvL ay by_)), (19, .long (hvL ax bx)), (0, .ref h), (1, .long ax), (3, .long ay), (5, .long bx), (7, .long by_), (9, .long cx), (11, .long cy), (13, .long dx), (15, .long dy), (17, .int bd), (18, .int (nI hv))]) hx hb d_M_lay_166 hl (by decide) rfl (fun ls hl => ?_)
          refine lv_lload hx hb d_M_lay_168 (lv_at hl 3 rfl) ?_
          refine lv_lload hx hb d_M_lay_170 (lv_at hl 1 rfl) ?_
          refine lv_ladd hx hb d_M_lay_172 ?_
          refine lv_iconst (v := 1) hx hb d_M_lay_173 (by decide) ?_
          refine lv_lshr (v := hvL (hvL (hvL ay by_) (hvL by_ cy)) (hvL (hvL by_ cy) (hvL cy dy))) hx hb d_M_lay_174 rfl ?_
          refine lv_lstore (lv' := [(41, .long (hvL (hvL (hvL ay by_) (hvL by_ cy)) (hvL (hvL by_ cy) (hvL cy dy)))), (39, .long (hvL (hvL (hvL ax bx) (hvL bx cx)) (hvL (hvL bx cx) (hvL cx dx)))), (37, .long (hvL (hvL by_ cy) (hvL cy dy))), (35, .long (hvL (hvL bx cx) (hvL cx dx))), (33, .long (hvL (hvL ay by_) (hvL by_ cy))), (31, .long (hvL (hvL ax bx) (hvL bx cx))), (29, .long (hvL cy dy)), (27, .long (hvL cx dx)), (25, .long (hvL by_ cy)), (23, .long (hvL bx cx)), (21, .long (hvL ay by_)), (19, .long (hvL ax bx)), (0, .ref h), (1, .long ax), (3, .long ay), (5, .long bx), (7, .long by_), (9, .long cx), (11, .long cy), (13, .long dx), (15, .long dy), (17, .int bd), (18, .int (nI hv))]) hx hb d_M_lay_175 hl (by decide) rfl (fun ls hl => ?_)
          refine lv_aload_n hx hb d_M_lay_177 rfl (lv_at hl 12 rfl) ?_
          refine lv_lload_n hx hb d_M_lay_178 rfl (lv_at hl 13 rfl) ?_
          refine lv_lload_n hx hb d_M_lay_179 rfl (lv_at hl 14 rfl) ?_
          refine lv_lload hx hb d_M_lay_180 (lv_at hl 11 rfl) ?_
          refine lv_lload hx hb d_M_lay_182 (lv_at hl 10 rfl) ?_
          refine lv_lload hx hb d_M_lay_184 (lv_at hl 5 rfl) ?_
          refine lv_lload hx hb d_M_lay_186 (lv_at hl 4 rfl) ?_
          refine lv_lload hx hb d_M_lay_188 (lv_at hl 1 rfl) ?_
          refine lv_lload hx hb d_M_lay_190 (lv_at hl 0 rfl) ?_
          refine lv_iload hx hb d_M_lay_192 (lv_at hl 21 rfl) ?_
          refine lv_iload hx hb d_M_lay_194 (lv_at hl 22 rfl) ?_
          refine lv_iconst (v := 1) hx hb d_M_lay_196 (by decide) ?_
          refine lv_iadd hx hb d_M_lay_197 ?_
          refine tp_i (nI (hv + 1)) (nI_add _ _) ?_
          refine ct_callS (av := [.ref h, .long ax, .long ay, .long (hvL ax bx), .long (hvL ay by_), .long (hvL (hvL ax bx) (hvL bx cx)), .long (hvL (hvL ay by_) (hvL by_ cy)), .long (hvL (hvL (hvL ax bx) (hvL bx cx)) (hvL (hvL bx cx) (hvL cx dx))), .long (hvL (hvL (hvL ay by_) (hvL by_ cy)) (hvL (hvL by_ cy) (hvL cy dy))), .int bd, .int (nI (hv + 1))]) (rest := []) (wr := []) (n := 11) (ih  h qk qp n K P fu fa ax ay (hvL ax bx) (hvL ay by_) (hvL (hvL ax bx) (hvL bx cx)) (hvL (hvL ay by_) (hvL by_ cy)) (hvL (hvL (hvL ax bx) (hvL bx cx)) (hvL (hvL bx cx) (hvL cx dx))) (hvL (hvL (hvL ay by_) (hvL by_ cy)) (hvL (hvL by_ cy) (hvL cy dy))) bd (hv + 1) (hn) (by omega)) hx hb hml hown hts (amb_ok qQ) hK hP hD hS hA hM (gi_S gw_684 gw_685 gw_33 gw_686) rfl (by decide +kernel) ⟨by omega, by omega⟩ [0, 1, 2] [] rfl rfl rfl rfl (by decide) rfl hl.1 rfl (Nat.le_of_ble_eq_true rfl) d_M_lay_198 ⟨by omega, by omega⟩ (fun u_32 H locs hok hP hD hS => ?_)
          obtain ⟨n'_33, K'_34, P'_35, fu'_36, fa'_37⟩ := u_32
          have h1 : n'_33 ≤ 3000 ∧ (lst n'_33 K'_34 P'_35, fu'_36, fa'_37) = layD bd dd (lst n K P, fu, fa) ax ay (hvL ax bx) (hvL ay by_) (hvL (hvL ax bx) (hvL bx cx)) (hvL (hvL ay by_) (hvL by_ cy)) (hvL (hvL (hvL ax bx) (hvL bx cx)) (hvL (hvL bx cx) (hvL cx dx))) (hvL (hvL (hvL ay by_) (hvL by_ cy)) (hvL (hvL by_ cy) (hvL cy dy))) := hok
          have hP : va_P D cl [(h, .inr (6, [.ref qk, .ref qp, .int (nI n'_33), .int (bz fu'_36), .int (bz fa'_37)])), (qk, .inl (cB, 3000, .inl K'_34)), (qp, .inl (cI, 18000, .inl P'_35))] H := hP
          have hD : va_D A [(h, .inr (6, [.ref qk, .ref qp, .int (nI n'_33), .int (bz fu'_36), .int (bz fa'_37)])), (qk, .inl (cB, 3000, .inl K'_34)), (qp, .inl (cI, 18000, .inl P'_35))] := hD
          refine W.eq (g2 := F0 m 201 ls []) rfl ?_
          refine lv_aload_n hx hb d_M_lay_201 rfl (lv_at hl 12 rfl) ?_
          refine lv_lload hx hb d_M_lay_202 (lv_at hl 1 rfl) ?_
          refine lv_lload hx hb d_M_lay_204 (lv_at hl 0 rfl) ?_
          refine lv_lload hx hb d_M_lay_206 (lv_at hl 3 rfl) ?_
          refine lv_lload hx hb d_M_lay_208 (lv_at hl 2 rfl) ?_
          refine lv_lload hx hb d_M_lay_210 (lv_at hl 7 rfl) ?_
          refine lv_lload hx hb d_M_lay_212 (lv_at hl 6 rfl) ?_
          refine lv_lload hx hb d_M_lay_214 (lv_at hl 19 rfl) ?_
          refine lv_lload hx hb d_M_lay_216 (lv_at hl 20 rfl) ?_
          refine lv_iload hx hb d_M_lay_218 (lv_at hl 21 rfl) ?_
          refine lv_iload hx hb d_M_lay_220 (lv_at hl 22 rfl) ?_
          refine lv_iconst (v := 1) hx hb d_M_lay_222 (by decide) ?_
          refine lv_iadd hx hb d_M_lay_223 ?_
          refine tp_i (nI (hv + 1)) (nI_add _ _) ?_
          refine ct_callS (av := [.ref h, .long (hvL (hvL (hvL ax bx) (hvL bx cx)) (hvL (hvL bx cx) (hvL cx dx))), .long (hvL (hvL (hvL ay by_) (hvL by_ cy)) (hvL (hvL by_ cy) (hvL cy dy))), .long (hvL (hvL bx cx) (hvL cx dx)), .long (hvL (hvL by_ cy) (hvL cy dy)), .long (hvL cx dx), .long (hvL cy dy), .long dx, .long dy, .int bd, .int (nI (hv + 1))]) (rest := []) (wr := []) (n := 11) (ih  h qk qp n'_33 K'_34 P'_35 fu'_36 fa'_37 (hvL (hvL (hvL ax bx) (hvL bx cx)) (hvL (hvL bx cx) (hvL cx dx))) (hvL (hvL (hvL ay by_) (hvL by_ cy)) (hvL (hvL by_ cy) (hvL cy dy))) (hvL (hvL bx cx) (hvL cx dx)) (hvL (hvL by_ cy) (hvL cy dy)) (hvL cx dx) (hvL cy dy) dx dy bd (hv + 1) (h1.1) (by omega)) hx hb hml hown hts (amb_ok qQ) hK hP hD hS hA hM (gi_S gw_684 gw_685 gw_33 gw_686) rfl (by decide +kernel) ⟨by omega, by omega⟩ [0, 1, 2] [] rfl rfl rfl rfl (by decide) rfl hl.1 rfl (Nat.le_of_ble_eq_true rfl) d_M_lay_224 ⟨by omega, by omega⟩ (fun u_38 H locs hok hP hD hS => ?_)
          obtain ⟨n'_39, K'_40, P'_41, fu'_42, fa'_43⟩ := u_38
          have h2 : n'_39 ≤ 3000 ∧ (lst n'_39 K'_40 P'_41, fu'_42, fa'_43) = layD bd dd (lst n'_33 K'_34 P'_35, fu'_36, fa'_37) (hvL (hvL (hvL ax bx) (hvL bx cx)) (hvL (hvL bx cx) (hvL cx dx))) (hvL (hvL (hvL ay by_) (hvL by_ cy)) (hvL (hvL by_ cy) (hvL cy dy))) (hvL (hvL bx cx) (hvL cx dx)) (hvL (hvL by_ cy) (hvL cy dy)) (hvL cx dx) (hvL cy dy) dx dy := hok
          have hP : va_P D cl [(h, .inr (6, [.ref qk, .ref qp, .int (nI n'_39), .int (bz fu'_42), .int (bz fa'_43)])), (qk, .inl (cB, 3000, .inl K'_40)), (qp, .inl (cI, 18000, .inl P'_41))] H := hP
          have hD : va_D A [(h, .inr (6, [.ref qk, .ref qp, .int (nI n'_39), .int (bz fu'_42), .int (bz fa'_43)])), (qk, .inl (cB, 3000, .inl K'_40)), (qp, .inl (cI, 18000, .inl P'_41))] := hD
          refine W.eq (g2 := F0 m 227 ls []) rfl ?_
          exact ct_retv hQ hx hb hr hlocks hP hD hS (n'_39, K'_40, P'_41, fu'_42, fa'_43) [(h, .inr (6, [.ref qk, .ref qp, .int (nI n'_39), .int (bz fu'_42), .int (bz fa'_43)])), (qk, .inl (cB, 3000, .inl K'_40)), (qp, .inl (cI, 18000, .inl P'_41))] [0, 1, 2] (rfl) (⟨h2.1, by rw [h2.2, h1.2, layD, if_neg (by simp [flatQ, c_1, c_3, c_17, c_31])]⟩) (rfl) rfl rfl (by omega) (by omega) d_M_lay_227
        · skip
          refine lv_lload hx hb d_M_lay_47 (lv_at hl 4 rfl) ?_
          refine lv_lload hx hb d_M_lay_49 (lv_at hl 6 rfl) ?_
          refine lv_lload hx hb d_M_lay_51 (lv_at hl 8 rfl) ?_
          refine lv_iload hx hb d_M_lay_53 (lv_at hl 9 rfl) ?_
          refine ct_callS (av := [.long by_, .long cy, .long dy, .int bd]) (rest := []) (wr := [(h, .inr (6, [.ref qk, .ref qp, .int (nI n), .int (bz fu), .int (bz fa)])), (qk, .inl (cB, 3000, .inl K)), (qp, .inl (cI, 18000, .inl P))]) (n := 4) (c_M_isStraight l D cI cB cJ qQ  by_ cy dy bd ) hx hb hml hown hts (amb_ok qQ) hK hP hD hS hA hM (gi_S gw_687 gw_688 gw_33 gw_689) rfl (by decide +kernel) ⟨by omega, by omega⟩ [] [0, 1, 2] rfl rfl rfl rfl (by decide) rfl hl.1 rfl (Nat.le_of_ble_eq_true rfl) d_M_lay_55 ⟨by omega, by omega⟩ (fun u_44 H locs hok hP hD hS => ?_)
          have hP : va_P D cl [(h, .inr (6, [.ref qk, .ref qp, .int (nI n), .int (bz fu), .int (bz fa)])), (qk, .inl (cB, 3000, .inl K)), (qp, .inl (cI, 18000, .inl P))] H := hP
          have hD : va_D A [(h, .inr (6, [.ref qk, .ref qp, .int (nI n), .int (bz fu), .int (bz fa)])), (qk, .inl (cB, 3000, .inl K)), (qp, .inl (cI, 18000, .inl P))] := hD
          refine W.eq (g2 := F0 m 58 ls [.int (bz (strt by_ cy dy bd))]) rfl ?_
          refine bb_eq (tgt := 71) hx hb d_M_lay_58 (by decide) (fun c_45 => ?_) (fun c_45 => ?_)
          · skip
            refine lv_lload_n hx hb d_M_lay_71 rfl (lv_at hl 1 rfl) ?_
            refine lv_lload hx hb d_M_lay_72 (lv_at hl 3 rfl) ?_
            refine lv_ladd hx hb d_M_lay_74 ?_
            refine lv_iconst (v := 1) hx hb d_M_lay_75 (by decide) ?_
            refine lv_lshr (v := hvL ax bx) hx hb d_M_lay_76 rfl ?_
            refine lv_lstore (lv' := [(19, .long (hvL ax bx)), (0, .ref h), (1, .long ax), (3, .long ay), (5, .long bx), (7, .long by_), (9, .long cx), (11, .long cy), (13, .long dx), (15, .long dy), (17, .int bd), (18, .int (nI hv))]) hx hb d_M_lay_77 hl (by decide) rfl (fun ls hl => ?_)
            refine lv_lload_n hx hb d_M_lay_79 rfl (lv_at hl 3 rfl) ?_
            refine lv_lload hx hb d_M_lay_80 (lv_at hl 5 rfl) ?_
            refine lv_ladd hx hb d_M_lay_82 ?_
            refine lv_iconst (v := 1) hx hb d_M_lay_83 (by decide) ?_
            refine lv_lshr (v := hvL ay by_) hx hb d_M_lay_84 rfl ?_
            refine lv_lstore (lv' := [(21, .long (hvL ay by_)), (19, .long (hvL ax bx)), (0, .ref h), (1, .long ax), (3, .long ay), (5, .long bx), (7, .long by_), (9, .long cx), (11, .long cy), (13, .long dx), (15, .long dy), (17, .int bd), (18, .int (nI hv))]) hx hb d_M_lay_85 hl (by decide) rfl (fun ls hl => ?_)
            refine lv_lload hx hb d_M_lay_87 (lv_at hl 5 rfl) ?_
            refine lv_lload hx hb d_M_lay_89 (lv_at hl 7 rfl) ?_
            refine lv_ladd hx hb d_M_lay_91 ?_
            refine lv_iconst (v := 1) hx hb d_M_lay_92 (by decide) ?_
            refine lv_lshr (v := hvL bx cx) hx hb d_M_lay_93 rfl ?_
            refine lv_lstore (lv' := [(23, .long (hvL bx cx)), (21, .long (hvL ay by_)), (19, .long (hvL ax bx)), (0, .ref h), (1, .long ax), (3, .long ay), (5, .long bx), (7, .long by_), (9, .long cx), (11, .long cy), (13, .long dx), (15, .long dy), (17, .int bd), (18, .int (nI hv))]) hx hb d_M_lay_94 hl (by decide) rfl (fun ls hl => ?_)
            refine lv_lload hx hb d_M_lay_96 (lv_at hl 7 rfl) ?_
            refine lv_lload hx hb d_M_lay_98 (lv_at hl 9 rfl) ?_
            refine lv_ladd hx hb d_M_lay_100 ?_
            refine lv_iconst (v := 1) hx hb d_M_lay_101 (by decide) ?_
            refine lv_lshr (v := hvL by_ cy) hx hb d_M_lay_102 rfl ?_
            refine lv_lstore (lv' := [(25, .long (hvL by_ cy)), (23, .long (hvL bx cx)), (21, .long (hvL ay by_)), (19, .long (hvL ax bx)), (0, .ref h), (1, .long ax), (3, .long ay), (5, .long bx), (7, .long by_), (9, .long cx), (11, .long cy), (13, .long dx), (15, .long dy), (17, .int bd), (18, .int (nI hv))]) hx hb d_M_lay_103 hl (by decide) rfl (fun ls hl => ?_)
            refine lv_lload hx hb d_M_lay_105 (lv_at hl 9 rfl) ?_
            refine lv_lload hx hb d_M_lay_107 (lv_at hl 11 rfl) ?_
            refine lv_ladd hx hb d_M_lay_109 ?_
            refine lv_iconst (v := 1) hx hb d_M_lay_110 (by decide) ?_
            refine lv_lshr (v := hvL cx dx) hx hb d_M_lay_111 rfl ?_
            refine lv_lstore (lv' := [(27, .long (hvL cx dx)), (25, .long (hvL by_ cy)), (23, .long (hvL bx cx)), (21, .long (hvL ay by_)), (19, .long (hvL ax bx)), (0, .ref h), (1, .long ax), (3, .long ay), (5, .long bx), (7, .long by_), (9, .long cx), (11, .long cy), (13, .long dx), (15, .long dy), (17, .int bd), (18, .int (nI hv))]) hx hb d_M_lay_112 hl (by decide) rfl (fun ls hl => ?_)
            refine lv_lload hx hb d_M_lay_114 (lv_at hl 11 rfl) ?_
            refine lv_lload hx hb d_M_lay_116 (lv_at hl 13 rfl) ?_
            refine lv_ladd hx hb d_M_lay_118 ?_
            refine lv_iconst (v := 1) hx hb d_M_lay_119 (by decide) ?_
            refine lv_lshr (v := hvL cy dy) hx hb d_M_lay_120 rfl ?_
            refine lv_lstore (lv' := [(29, .long (hvL cy dy)), (27, .long (hvL cx dx)), (25, .long (hvL by_ cy)), (23, .long (hvL bx cx)), (21, .long (hvL ay by_)), (19, .long (hvL ax bx)), (0, .ref h), (1, .long ax), (3, .long ay), (5, .long bx), (7, .long by_), (9, .long cx), (11, .long cy), (13, .long dx), (15, .long dy), (17, .int bd), (18, .int (nI hv))]) hx hb d_M_lay_121 hl (by decide) rfl (fun ls hl => ?_)
            refine lv_lload hx hb d_M_lay_123 (lv_at hl 5 rfl) ?_
            refine lv_lload hx hb d_M_lay_125 (lv_at hl 3 rfl) ?_
            refine lv_ladd hx hb d_M_lay_127 ?_
            refine lv_iconst (v := 1) hx hb d_M_lay_128 (by decide) ?_
            refine lv_lshr (v := hvL (hvL ax bx) (hvL bx cx)) hx hb d_M_lay_129 rfl ?_
            refine lv_lstore (lv' := [(31, .long (hvL (hvL ax bx) (hvL bx cx))), (29, .long (hvL cy dy)), (27, .long (hvL cx dx)), (25, .long (hvL by_ cy)), (23, .long (hvL bx cx)), (21, .long (hvL ay by_)), (19, .long (hvL ax bx)), (0, .ref h), (1, .long ax), (3, .long ay), (5, .long bx), (7, .long by_), (9, .long cx), (11, .long cy), (13, .long dx), (15, .long dy), (17, .int bd), (18, .int (nI hv))]) hx hb d_M_lay_130 hl (by decide) rfl (fun ls hl => ?_)
            refine lv_lload hx hb d_M_lay_132 (lv_at hl 5 rfl) ?_
            refine lv_lload hx hb d_M_lay_134 (lv_at hl 3 rfl) ?_
            refine lv_ladd hx hb d_M_lay_136 ?_
            refine lv_iconst (v := 1) hx hb d_M_lay_137 (by decide) ?_
            refine lv_lshr (v := hvL (hvL ay by_) (hvL by_ cy)) hx hb d_M_lay_138 rfl ?_
            refine lv_lstore (lv' := [(33, .long (hvL (hvL ay by_) (hvL by_ cy))), (31, .long (hvL (hvL ax bx) (hvL bx cx))), (29, .long (hvL cy dy)), (27, .long (hvL cx dx)), (25, .long (hvL by_ cy)), (23, .long (hvL bx cx)), (21, .long (hvL ay by_)), (19, .long (hvL ax bx)), (0, .ref h), (1, .long ax), (3, .long ay), (5, .long bx), (7, .long by_), (9, .long cx), (11, .long cy), (13, .long dx), (15, .long dy), (17, .int bd), (18, .int (nI hv))]) hx hb d_M_lay_139 hl (by decide) rfl (fun ls hl => ?_)
            refine lv_lload hx hb d_M_lay_141 (lv_at hl 5 rfl) ?_
            refine lv_lload hx hb d_M_lay_143 (lv_at hl 3 rfl) ?_
            refine lv_ladd hx hb d_M_lay_145 ?_
            refine lv_iconst (v := 1) hx hb d_M_lay_146 (by decide) ?_
            refine lv_lshr (v := hvL (hvL bx cx) (hvL cx dx)) hx hb d_M_lay_147 rfl ?_
            refine lv_lstore (lv' := [(35, .long (hvL (hvL bx cx) (hvL cx dx))), (33, .long (hvL (hvL ay by_) (hvL by_ cy))), (31, .long (hvL (hvL ax bx) (hvL bx cx))), (29, .long (hvL cy dy)), (27, .long (hvL cx dx)), (25, .long (hvL by_ cy)), (23, .long (hvL bx cx)), (21, .long (hvL ay by_)), (19, .long (hvL ax bx)), (0, .ref h), (1, .long ax), (3, .long ay), (5, .long bx), (7, .long by_), (9, .long cx), (11, .long cy), (13, .long dx), (15, .long dy), (17, .int bd), (18, .int (nI hv))]) hx hb d_M_lay_148 hl (by decide) rfl (fun ls hl => ?_)
            refine lv_lload hx hb d_M_lay_150 (lv_at hl 5 rfl) ?_
            refine lv_lload hx hb d_M_lay_152 (lv_at hl 3 rfl) ?_
            refine lv_ladd hx hb d_M_lay_154 ?_
            refine lv_iconst (v := 1) hx hb d_M_lay_155 (by decide) ?_
            refine lv_lshr (v := hvL (hvL by_ cy) (hvL cy dy)) hx hb d_M_lay_156 rfl ?_
            refine lv_lstore (lv' := [(37, .long (hvL (hvL by_ cy) (hvL cy dy))), (35, .long (hvL (hvL bx cx) (hvL cx dx))), (33, .long (hvL (hvL ay by_) (hvL by_ cy))), (31, .long (hvL (hvL ax bx) (hvL bx cx))), (29, .long (hvL cy dy)), (27, .long (hvL cx dx)), (25, .long (hvL by_ cy)), (23, .long (hvL bx cx)), (21, .long (hvL ay by_)), (19, .long (hvL ax bx)), (0, .ref h), (1, .long ax), (3, .long ay), (5, .long bx), (7, .long by_), (9, .long cx), (11, .long cy), (13, .long dx), (15, .long dy), (17, .int bd), (18, .int (nI hv))]) hx hb d_M_lay_157 hl (by decide) rfl (fun ls hl => ?_)
            refine lv_lload hx hb d_M_lay_159 (lv_at hl 3 rfl) ?_
            refine lv_lload hx hb d_M_lay_161 (lv_at hl 1 rfl) ?_
            refine lv_ladd hx hb d_M_lay_163 ?_
            refine lv_iconst (v := 1) hx hb d_M_lay_164 (by decide) ?_
            refine lv_lshr (v := hvL (hvL (hvL ax bx) (hvL bx cx)) (hvL (hvL bx cx) (hvL cx dx))) hx hb d_M_lay_165 rfl ?_
            refine lv_lstore (lv' := [(39, .long (hvL (hvL (hvL ax bx) (hvL bx cx)) (hvL (hvL bx cx) (hvL cx dx)))), (37, .long (hvL (hvL by_ cy) (hvL cy dy))), (35, .long (hvL (hvL bx cx) (hvL cx dx))), (33, .long (hvL (hvL ay by_) (hvL by_ cy))), (31, .long (hvL (hvL ax bx) (hvL bx cx))), (29, .long (hvL cy dy)), (27, .long (hvL cx dx)), (25, .long (hvL by_ cy)), (23, .long (hvL bx cx)), (21, .long (hvL ay by_)), (19, .long (hvL ax bx)), (0, .ref h), (1, .long ax), (3, .long ay), (5, .long bx), (7, .long by_), (9, .long cx), (11, .long cy), (13, .long dx), (15, .long dy), (17, .int bd), (18, .int (nI hv))]) hx hb d_M_lay_166 hl (by decide) rfl (fun ls hl => ?_)
            refine lv_lload hx hb d_M_lay_168 (lv_at hl 3 rfl) ?_
            refine lv_lload hx hb d_M_lay_170 (lv_at hl 1 rfl) ?_
            refine lv_ladd hx hb d_M_lay_172 ?_
            refine lv_iconst (v := 1) hx hb d_M_lay_173 (by decide) ?_
            refine lv_lshr (v := hvL (hvL (hvL ay by_) (hvL by_ cy)) (hvL (hvL by_ cy) (hvL cy dy))) hx hb d_M_lay_174 rfl ?_
            refine lv_lstore (lv' := [(41, .long (hvL (hvL (hvL ay by_) (hvL by_ cy)) (hvL (hvL by_ cy) (hvL cy dy)))), (39, .long (hvL (hvL (hvL ax bx) (hvL bx cx)) (hvL (hvL bx cx) (hvL cx dx)))), (37, .long (hvL (hvL by_ cy) (hvL cy dy))), (35, .long (hvL (hvL bx cx) (hvL cx dx))), (33, .long (hvL (hvL ay by_) (hvL by_ cy))), (31, .long (hvL (hvL ax bx) (hvL bx cx))), (29, .long (hvL cy dy)), (27, .long (hvL cx dx)), (25, .long (hvL by_ cy)), (23, .long (hvL bx cx)), (21, .long (hvL ay by_)), (19, .long (hvL ax bx)), (0, .ref h), (1, .long ax), (3, .long ay), (5, .long bx), (7, .long by_), (9, .long cx), (11, .long cy), (13, .long dx), (15, .long dy), (17, .int bd), (18, .int (nI hv))]) hx hb d_M_lay_175 hl (by decide) rfl (fun ls hl => ?_)
            refine lv_aload_n hx hb d_M_lay_177 rfl (lv_at hl 12 rfl) ?_
            refine lv_lload_n hx hb d_M_lay_178 rfl (lv_at hl 13 rfl) ?_
            refine lv_lload_n hx hb d_M_lay_179 rfl (lv_at hl 14 rfl) ?_
            refine lv_lload hx hb d_M_lay_180 (lv_at hl 11 rfl) ?_
            refine lv_lload hx hb d_M_lay_182 (lv_at hl 10 rfl) ?_
            refine lv_lload hx hb d_M_lay_184 (lv_at hl 5 rfl) ?_
            refine lv_lload hx hb d_M_lay_186 (lv_at hl 4 rfl) ?_
            refine lv_lload hx hb d_M_lay_188 (lv_at hl 1 rfl) ?_
            refine lv_lload hx hb d_M_lay_190 (lv_at hl 0 rfl) ?_
            refine lv_iload hx hb d_M_lay_192 (lv_at hl 21 rfl) ?_
            refine lv_iload hx hb d_M_lay_194 (lv_at hl 22 rfl) ?_
            refine lv_iconst (v := 1) hx hb d_M_lay_196 (by decide) ?_
            refine lv_iadd hx hb d_M_lay_197 ?_
            refine tp_i (nI (hv + 1)) (nI_add _ _) ?_
            refine ct_callS (av := [.ref h, .long ax, .long ay, .long (hvL ax bx), .long (hvL ay by_), .long (hvL (hvL ax bx) (hvL bx cx)), .long (hvL (hvL ay by_) (hvL by_ cy)), .long (hvL (hvL (hvL ax bx) (hvL bx cx)) (hvL (hvL bx cx) (hvL cx dx))), .long (hvL (hvL (hvL ay by_) (hvL by_ cy)) (hvL (hvL by_ cy) (hvL cy dy))), .int bd, .int (nI (hv + 1))]) (rest := []) (wr := []) (n := 11) (ih  h qk qp n K P fu fa ax ay (hvL ax bx) (hvL ay by_) (hvL (hvL ax bx) (hvL bx cx)) (hvL (hvL ay by_) (hvL by_ cy)) (hvL (hvL (hvL ax bx) (hvL bx cx)) (hvL (hvL bx cx) (hvL cx dx))) (hvL (hvL (hvL ay by_) (hvL by_ cy)) (hvL (hvL by_ cy) (hvL cy dy))) bd (hv + 1) (hn) (by omega)) hx hb hml hown hts (amb_ok qQ) hK hP hD hS hA hM (gi_S gw_684 gw_685 gw_33 gw_686) rfl (by decide +kernel) ⟨by omega, by omega⟩ [0, 1, 2] [] rfl rfl rfl rfl (by decide) rfl hl.1 rfl (Nat.le_of_ble_eq_true rfl) d_M_lay_198 ⟨by omega, by omega⟩ (fun u_46 H locs hok hP hD hS => ?_)
            obtain ⟨n'_47, K'_48, P'_49, fu'_50, fa'_51⟩ := u_46
            have h1 : n'_47 ≤ 3000 ∧ (lst n'_47 K'_48 P'_49, fu'_50, fa'_51) = layD bd dd (lst n K P, fu, fa) ax ay (hvL ax bx) (hvL ay by_) (hvL (hvL ax bx) (hvL bx cx)) (hvL (hvL ay by_) (hvL by_ cy)) (hvL (hvL (hvL ax bx) (hvL bx cx)) (hvL (hvL bx cx) (hvL cx dx))) (hvL (hvL (hvL ay by_) (hvL by_ cy)) (hvL (hvL by_ cy) (hvL cy dy))) := hok
            have hP : va_P D cl [(h, .inr (6, [.ref qk, .ref qp, .int (nI n'_47), .int (bz fu'_50), .int (bz fa'_51)])), (qk, .inl (cB, 3000, .inl K'_48)), (qp, .inl (cI, 18000, .inl P'_49))] H := hP
            have hD : va_D A [(h, .inr (6, [.ref qk, .ref qp, .int (nI n'_47), .int (bz fu'_50), .int (bz fa'_51)])), (qk, .inl (cB, 3000, .inl K'_48)), (qp, .inl (cI, 18000, .inl P'_49))] := hD
            refine W.eq (g2 := F0 m 201 ls []) rfl ?_
            refine lv_aload_n hx hb d_M_lay_201 rfl (lv_at hl 12 rfl) ?_
            refine lv_lload hx hb d_M_lay_202 (lv_at hl 1 rfl) ?_
            refine lv_lload hx hb d_M_lay_204 (lv_at hl 0 rfl) ?_
            refine lv_lload hx hb d_M_lay_206 (lv_at hl 3 rfl) ?_
            refine lv_lload hx hb d_M_lay_208 (lv_at hl 2 rfl) ?_
            refine lv_lload hx hb d_M_lay_210 (lv_at hl 7 rfl) ?_
            refine lv_lload hx hb d_M_lay_212 (lv_at hl 6 rfl) ?_
            refine lv_lload hx hb d_M_lay_214 (lv_at hl 19 rfl) ?_
            refine lv_lload hx hb d_M_lay_216 (lv_at hl 20 rfl) ?_
            refine lv_iload hx hb d_M_lay_218 (lv_at hl 21 rfl) ?_
            refine lv_iload hx hb d_M_lay_220 (lv_at hl 22 rfl) ?_
            refine lv_iconst (v := 1) hx hb d_M_lay_222 (by decide) ?_
            refine lv_iadd hx hb d_M_lay_223 ?_
            refine tp_i (nI (hv + 1)) (nI_add _ _) ?_
            refine ct_callS (av := [.ref h, .long (hvL (hvL (hvL ax bx) (hvL bx cx)) (hvL (hvL bx cx) (hvL cx dx))), .long (hvL (hvL (hvL ay by_) (hvL by_ cy)) (hvL (hvL by_ cy) (hvL cy dy))), .long (hvL (hvL bx cx) (hvL cx dx)), .long (hvL (hvL by_ cy) (hvL cy dy)), .long (hvL cx dx), .long (hvL cy dy), .long dx, .long dy, .int bd, .int (nI (hv + 1))]) (rest := []) (wr := []) (n := 11) (ih  h qk qp n'_47 K'_48 P'_49 fu'_50 fa'_51 (hvL (hvL (hvL ax bx) (hvL bx cx)) (hvL (hvL bx cx) (hvL cx dx))) (hvL (hvL (hvL ay by_) (hvL by_ cy)) (hvL (hvL by_ cy) (hvL cy dy))) (hvL (hvL bx cx) (hvL cx dx)) (hvL (hvL by_ cy) (hvL cy dy)) (hvL cx dx) (hvL cy dy) dx dy bd (hv + 1) (h1.1) (by omega)) hx hb hml hown hts (amb_ok qQ) hK hP hD hS hA hM (gi_S gw_684 gw_685 gw_33 gw_686) rfl (by decide +kernel) ⟨by omega, by omega⟩ [0, 1, 2] [] rfl rfl rfl rfl (by decide) rfl hl.1 rfl (Nat.le_of_ble_eq_true rfl) d_M_lay_224 ⟨by omega, by omega⟩ (fun u_52 H locs hok hP hD hS => ?_)
            obtain ⟨n'_53, K'_54, P'_55, fu'_56, fa'_57⟩ := u_52
            have h2 : n'_53 ≤ 3000 ∧ (lst n'_53 K'_54 P'_55, fu'_56, fa'_57) = layD bd dd (lst n'_47 K'_48 P'_49, fu'_50, fa'_51) (hvL (hvL (hvL ax bx) (hvL bx cx)) (hvL (hvL bx cx) (hvL cx dx))) (hvL (hvL (hvL ay by_) (hvL by_ cy)) (hvL (hvL by_ cy) (hvL cy dy))) (hvL (hvL bx cx) (hvL cx dx)) (hvL (hvL by_ cy) (hvL cy dy)) (hvL cx dx) (hvL cy dy) dx dy := hok
            have hP : va_P D cl [(h, .inr (6, [.ref qk, .ref qp, .int (nI n'_53), .int (bz fu'_56), .int (bz fa'_57)])), (qk, .inl (cB, 3000, .inl K'_54)), (qp, .inl (cI, 18000, .inl P'_55))] H := hP
            have hD : va_D A [(h, .inr (6, [.ref qk, .ref qp, .int (nI n'_53), .int (bz fu'_56), .int (bz fa'_57)])), (qk, .inl (cB, 3000, .inl K'_54)), (qp, .inl (cI, 18000, .inl P'_55))] := hD
            refine W.eq (g2 := F0 m 227 ls []) rfl ?_
            exact ct_retv hQ hx hb hr hlocks hP hD hS (n'_53, K'_54, P'_55, fu'_56, fa'_57) [(h, .inr (6, [.ref qk, .ref qp, .int (nI n'_53), .int (bz fu'_56), .int (bz fa'_57)])), (qk, .inl (cB, 3000, .inl K'_54)), (qp, .inl (cI, 18000, .inl P'_55))] [0, 1, 2] (rfl) (⟨h2.1, by rw [h2.2, h1.2, layD, if_neg (by simp [flatQ, c_1, c_3, c_17, c_31, c_45])]⟩) (rfl) rfl rfl (by omega) (by omega) d_M_lay_227
          · skip
            refine lv_aload_n hx hb d_M_lay_61 rfl (lv_at hl 0 rfl) ?_
            refine lv_iconst (v := 1) hx hb d_M_lay_62 (by decide) ?_
            refine lv_lload hx hb d_M_lay_63 (lv_at hl 7 rfl) ?_
            refine lv_lload hx hb d_M_lay_65 (lv_at hl 8 rfl) ?_
            refine ct_callV (ci := 6) (q0 := 0) (As := [.int 1, .long dx, .long dy]) (rest := []) (wr := []) (n := 3) (c_MPath_addPoint l D cI cB cJ qQ  h qk qp n K P fu fa 1 dx dy (hn) (kok1)) hx hb hml hown hts (amb_ok qQ) hK hP hD hS hA hM (gi_V gw_587 gw_561 gw_562 gw_34 gw_563) rfl (by decide +kernel) ⟨by omega, by omega⟩ [0, 1, 2] [] rfl rfl rfl rfl (by decide) rfl rfl rfl hl.1 rfl (Nat.le_of_ble_eq_true rfl) d_M_lay_67 ⟨by omega, by omega⟩ (fun u_58 H locs hok hP hD hS => ?_)
            obtain ⟨n'_59, K'_60, P'_61, fu'_62, fa'_63⟩ := u_58
            have hbg : n'_59 ≤ 3000 ∧ (lst n'_59 K'_60 P'_61, fu'_62, fa'_63) = addD (lst n K P, fu, fa) 1 dx dy 0 0 0 0 := hok
            have hP : va_P D cl [(h, .inr (6, [.ref qk, .ref qp, .int (nI n'_59), .int (bz fu'_62), .int (bz fa'_63)])), (qk, .inl (cB, 3000, .inl K'_60)), (qp, .inl (cI, 18000, .inl P'_61))] H := hP
            have hD : va_D A [(h, .inr (6, [.ref qk, .ref qp, .int (nI n'_59), .int (bz fu'_62), .int (bz fa'_63)])), (qk, .inl (cB, 3000, .inl K'_60)), (qp, .inl (cI, 18000, .inl P'_61))] := hD
            refine W.eq (g2 := F0 m 70 ls []) rfl ?_
            exact ct_retv hQ hx hb hr hlocks hP hD hS (n'_59, K'_60, P'_61, fu'_62, fa'_63) [(h, .inr (6, [.ref qk, .ref qp, .int (nI n'_59), .int (bz fu'_62), .int (bz fa'_63)])), (qk, .inl (cB, 3000, .inl K'_60)), (qp, .inl (cI, 18000, .inl P'_61))] [0, 1, 2] (rfl) (⟨hbg.1, by rw [hbg.2, layD, if_pos (by simp [flatQ, c_3, c_17, c_31, c_45])]⟩) (rfl) rfl rfl (by omega) (by omega) d_M_lay_70
theorem c_M_lay (l : Launch) (D : va_G) (cI cB cJ : ClassId) (qQ : Nat) : ∀ (dd : Nat) (h : Nat) (qk : Nat) (qp : Nat) (n : Nat) (K : Nat → Int32) (P : Nat → Int32) (fu : Bool) (fa : Bool) (ax : Int64) (ay : Int64) (bx : Int64) (by_ : Int64) (cx : Int64) (cy : Int64) (dx : Int64) (dy : Int64) (bd : Int32) (hv : Nat) (hn : n ≤ 3000) (hd : hv + dd = 10), ct l D cl [(cI, .int), (cB, .byte), (cJ, .long)] (amb qQ) y_M_lay w_M_lay (3 + dd) (79 + dd * 62) (0) (0) [.ref h, .long ax, .long ay, .long bx, .long by_, .long cx, .long cy, .long dx, .long dy, .int bd, .int (nI hv)] [(h, .inr (6, [.ref qk, .ref qp, .int (nI n), .int (bz fu), .int (bz fa)])), (qk, .inl (cB, 3000, .inl K)), (qp, .inl (cI, 18000, .inl P))] (fun u_ : Nat × (Nat → Int32) × (Nat → Int32) × Bool × Bool => match u_ with | (n', K', P', fu', fa') => n' ≤ 3000 ∧ (lst n' K' P', fu', fa') = layD bd dd (lst n K P, fu, fa) ax ay bx by_ cx cy dx dy) (fun u_ : Nat × (Nat → Int32) × (Nat → Int32) × Bool × Bool => match u_ with | (n', K', P', fu', fa') => none) (fun u_ : Nat × (Nat → Int32) × (Nat → Int32) × Bool × Bool => match u_ with | (n', K', P', fu', fa') => [(h, .inr (6, [.ref qk, .ref qp, .int (nI n'), .int (bz fu'), .int (bz fa')])), (qk, .inl (cB, 3000, .inl K')), (qp, .inl (cI, 18000, .inl P'))]) := by
  intro dd
  induction dd with
  | zero => intro h qk qp n K P fu fa ax ay bx by_ cx cy dx dy bd hv hn hd; exact c_M_lay_z l D cI cB cJ qQ h qk qp n K P fu fa ax ay bx by_ cx cy dx dy bd hv hn hd
  | succ dd ih => intro h qk qp n K P fu fa ax ay bx by_ cx cy dx dy bd hv hn hd; exact c_M_lay_s l D cI cB cJ qQ dd ih h qk qp n K P fu fa ax ay bx by_ cx cy dx dy bd hv hn hd
