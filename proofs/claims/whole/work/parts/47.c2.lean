set_option maxHeartbeats 4000000 in
set_option maxRecDepth 100000 in
/-- addPoint -/
theorem c_Arc_addPoint (l : Launch) (D : va_G) (cI cB cJ : ClassId) (qQ : Nat) (ha_ : Nat) (qx : Nat) (qy : Nat) (qa : Nat) (qb : Nat) (n : Nat) (X : Nat → Int32) (Y : Nat → Int32) (x : Int32) (y : Int32) (hn : n ≤ 124) : ct l D cl [(cI, .int), (cB, .byte), (cJ, .long)] (amb qQ) y_Arc_addPoint w_Arc_addPoint 0 0 (0) (0) [.ref ha_, .int x, .int y] [(ha_, .inr (2, [.ref qx, .ref qy, .ref qa, .ref qb, .int (nI n)])), (qx, .inl (cI, 124, .inl X)), (qy, .inl (cI, 124, .inl Y))] (fun u_ : Nat × (Nat → Int32) × (Nat → Int32) => match u_ with | (n', X', Y') => n' ≤ 124 ∧ plst n' X' Y' = apP (plst n X Y) (x, y)) (fun u_ : Nat × (Nat → Int32) × (Nat → Int32) => match u_ with | (n', X', Y') => none) (fun u_ : Nat × (Nat → Int32) × (Nat → Int32) => match u_ with | (n', X', Y') => [(ha_, .inr (2, [.ref qx, .ref qy, .ref qa, .ref qb, .int (nI n')])), (qx, .inl (cI, 124, .inl X')), (qy, .inl (cI, 124, .inl Y'))]) := by
  refine ct_ofW (cc := b_Arc_addPoint) (maxL := 3) (ret := none) (by decide) rfl (Nat.le_of_ble_eq_true rfl) ?_
  intro p e R s m args below meth c A Q ls hx hb hr hml hts hown hlocks hname hRf hRc hRs hRl hQ hK hP hD hS hA hM hl
  have hl : lv_has ls 3 [(0, .ref ha_), (1, .int x), (2, .int y)] := hl
  refine lv_aload_n hx hb d_Arc_addPoint_0 rfl (lv_at hl 0 rfl) ?_
  refine va_get (D := D) (ci := 2) (v := .int (nI n)) (C := R_Arc) (T := T_Arc) (N := 5) hx hb hts (ui_Arc _) hown hK hP 0 rfl rfl 4 (by decide) (hts _ (gwc gw_75)) (fun _ h9 => h9) rfl d_Arc_addPoint_1 ?_
  refine lv_bipush (v := 124) hx hb d_Arc_addPoint_4 (by decide) ?_
  refine bn_ge (a1 := n) (b1 := 124) (tgt := 39) hx hb (by omega) (by omega) d_Arc_addPoint_6 (by decide) (fun c_1 => ?_) (fun c_1 => ?_)
  · skip
    exact ct_retv hQ hx hb hr hlocks hP hD hS (n, X, Y) [(ha_, .inr (2, [.ref qx, .ref qy, .ref qa, .ref qb, .int (nI n)])), (qx, .inl (cI, 124, .inl X)), (qy, .inl (cI, 124, .inl Y))] [0, 1, 2] (rfl) (⟨hn, by rw [apP, if_neg (by rw [plst_len]; omega)]⟩) (rfl) rfl rfl (by omega) (by omega) d_Arc_addPoint_39
  · skip
    refine lv_aload_n hx hb d_Arc_addPoint_9 rfl (lv_at hl 0 rfl) ?_
    refine va_get (D := D) (ci := 2) (v := .ref qx) (C := R_Arc) (T := T_Arc) (N := 5) hx hb hts (ui_Arc _) hown hK hP 0 rfl rfl 0 (by decide) (hts _ (gwc gw_69)) (fun _ h9 => h9) rfl d_Arc_addPoint_10 ?_
    refine lv_aload_n hx hb d_Arc_addPoint_13 rfl (lv_at hl 0 rfl) ?_
    refine va_get (D := D) (ci := 2) (v := .int (nI n)) (C := R_Arc) (T := T_Arc) (N := 5) hx hb hts (ui_Arc _) hown hK hP 0 rfl rfl 4 (by decide) (hts _ (gwc gw_75)) (fun _ h9 => h9) rfl d_Arc_addPoint_14 ?_
    refine lv_iload_n hx hb d_Arc_addPoint_17 rfl (lv_at hl 1 rfl) ?_
    refine st_i hx hb hK hP hD hS 1 0 rfl rfl n (by omega) (by omega) d_Arc_addPoint_18 (fun H locs hP hD hS => ?_)
    have hP : va_P D cl [(ha_, .inr (2, [.ref qx, .ref qy, .ref qa, .ref qb, .int (nI n)])), (qx, .inl (cI, 124, .inl (upd X n x))), (qy, .inl (cI, 124, .inl Y))] H := hP
    have hD : va_D A [(ha_, .inr (2, [.ref qx, .ref qy, .ref qa, .ref qb, .int (nI n)])), (qx, .inl (cI, 124, .inl (upd X n x))), (qy, .inl (cI, 124, .inl Y))] := hD
    refine lv_aload_n hx hb d_Arc_addPoint_19 rfl (lv_at hl 0 rfl) ?_
    refine va_get (D := D) (ci := 2) (v := .ref qy) (C := R_Arc) (T := T_Arc) (N := 5) hx hb hts (ui_Arc _) hown hK hP 0 rfl rfl 1 (by decide) (hts _ (gwc gw_71)) (fun _ h9 => h9) rfl d_Arc_addPoint_20 ?_
    refine lv_aload_n hx hb d_Arc_addPoint_23 rfl (lv_at hl 0 rfl) ?_
    refine va_get (D := D) (ci := 2) (v := .int (nI n)) (C := R_Arc) (T := T_Arc) (N := 5) hx hb hts (ui_Arc _) hown hK hP 0 rfl rfl 4 (by decide) (hts _ (gwc gw_75)) (fun _ h9 => h9) rfl d_Arc_addPoint_24 ?_
    refine lv_iload_n hx hb d_Arc_addPoint_27 rfl (lv_at hl 2 rfl) ?_
    refine st_i hx hb hK hP hD hS 2 0 rfl rfl n (by omega) (by omega) d_Arc_addPoint_28 (fun H locs hP hD hS => ?_)
    have hP : va_P D cl [(ha_, .inr (2, [.ref qx, .ref qy, .ref qa, .ref qb, .int (nI n)])), (qx, .inl (cI, 124, .inl (upd X n x))), (qy, .inl (cI, 124, .inl (upd Y n y)))] H := hP
    have hD : va_D A [(ha_, .inr (2, [.ref qx, .ref qy, .ref qa, .ref qb, .int (nI n)])), (qx, .inl (cI, 124, .inl (upd X n x))), (qy, .inl (cI, 124, .inl (upd Y n y)))] := hD
    refine lv_aload_n hx hb d_Arc_addPoint_29 rfl (lv_at hl 0 rfl) ?_
    refine lv_dup hx hb d_Arc_addPoint_30 rfl ?_
    refine va_get (D := D) (ci := 2) (v := .int (nI n)) (C := R_Arc) (T := T_Arc) (N := 5) hx hb hts (ui_Arc _) hown hK hP 0 rfl rfl 4 (by decide) (hts _ (gwc gw_75)) (fun _ h9 => h9) rfl d_Arc_addPoint_31 ?_
    refine lv_iconst (v := 1) hx hb d_Arc_addPoint_34 (by decide) ?_
    refine lv_iadd hx hb d_Arc_addPoint_35 ?_
    refine tp_i (nI (n + 1)) (nI_add _ _) ?_
    refine va_put (D := D) (ci := 2) (v := .int (nI (n + 1))) (ty := .int) (C := R_Arc) (T := T_Arc) (N := 5) hx hb hts (ui_Arc _) t_Arc tk_Arc nk_Arc hown hK hP hD hS 0 rfl rfl 4 (by decide) (hts _ (gwc gw_75)) (fun _ h9 => h9) rfl (by decide +kernel) rfl rfl (Nat.le_of_ble_eq_true rfl) d_Arc_addPoint_36 (fun H locs hP hD hS => ?_)
    have hP : va_P D cl [(ha_, .inr (2, [.ref qx, .ref qy, .ref qa, .ref qb, .int (nI (n + 1))])), (qx, .inl (cI, 124, .inl (upd X n x))), (qy, .inl (cI, 124, .inl (upd Y n y)))] H := hP
    have hD : va_D A [(ha_, .inr (2, [.ref qx, .ref qy, .ref qa, .ref qb, .int (nI (n + 1))])), (qx, .inl (cI, 124, .inl (upd X n x))), (qy, .inl (cI, 124, .inl (upd Y n y)))] := hD
    exact ct_retv hQ hx hb hr hlocks hP hD hS (n + 1, upd X n x, upd Y n y) [(ha_, .inr (2, [.ref qx, .ref qy, .ref qa, .ref qb, .int (nI (n + 1))])), (qx, .inl (cI, 124, .inl (upd X n x))), (qy, .inl (cI, 124, .inl (upd Y n y)))] [0, 1, 2] (rfl) (⟨by omega, by rw [plst_snoc, apP, if_pos (by rw [plst_len]; exact c_1)]⟩) (rfl) rfl rfl (by omega) (by omega) d_Arc_addPoint_39
set_option maxHeartbeats 40000000 in
set_option maxRecDepth 100000 in
/-- addTaken -/
theorem c_Arc_addTaken (l : Launch) (D : va_G) (cI cB cJ : ClassId) (qQ : Nat) (ha_ : Nat) (qx : Nat) (qy : Nat) (qa : Nat) (qb : Nat) (n : Nat) (X : Nat → Int32) (Y : Nat → Int32) (a0 : Int32) (a1 : Int32) (a2 : Int32) (a3 : Int32) (b0 : Int32) (b1 : Int32) (b2 : Int32) (b3 : Int32) (hn : n ≤ 124) : ct l D cl [(cI, .int), (cB, .byte), (cJ, .long)] (amb qQ) y_Arc_addTaken w_Arc_addTaken 1 22 (0) (0) [.ref ha_] [(ha_, .inr (2, [.ref qx, .ref qy, .ref qa, .ref qb, .int (nI n)])), (qx, .inl (cI, 124, .inl X)), (qy, .inl (cI, 124, .inl Y)), (qa, .inl (cI, 4, .inl (j4 a0 a1 a2 a3))), (qb, .inl (cI, 4, .inl (j4 b0 b1 b2 b3)))] (fun u_ : Nat × (Nat → Int32) × (Nat → Int32) => match u_ with | (n', X', Y') => n' ≤ 124 ∧ plst n' X' Y' = apT (plst n X Y) (a0, a1, a2, a3) (b0, b1, b2, b3)) (fun u_ : Nat × (Nat → Int32) × (Nat → Int32) => match u_ with | (n', X', Y') => none) (fun u_ : Nat × (Nat → Int32) × (Nat → Int32) => match u_ with | (n', X', Y') => [(ha_, .inr (2, [.ref qx, .ref qy, .ref qa, .ref qb, .int (nI n')])), (qx, .inl (cI, 124, .inl X')), (qy, .inl (cI, 124, .inl Y')), (qa, .inl (cI, 4, .inl (j4 a0 a1 a2 a3))), (qb, .inl (cI, 4, .inl (j4 b0 b1 b2 b3)))]) := by
  refine ct_ofW (cc := b_Arc_addTaken) (maxL := 2) (ret := none) (by decide) rfl (Nat.le_of_ble_eq_true rfl) ?_
  intro p e R s m args below meth c A Q ls hx hb hr hml hts hown hlocks hname hRf hRc hRs hRl hQ hK hP hD hS hA hM hl
  have hl : lv_has ls 2 [(0, .ref ha_)] := hl
  refine lv_aload_n hx hb d_Arc_addTaken_0 rfl (lv_at hl 0 rfl) ?_
  refine va_get (D := D) (ci := 2) (v := .int (nI n)) (C := R_Arc) (T := T_Arc) (N := 5) hx hb hts (ui_Arc _) hown hK hP 0 rfl rfl 4 (by decide) (hts _ (gwc gw_75)) (fun _ h9 => h9) rfl d_Arc_addTaken_1 ?_
  refine bz_ne (a1 := n) (tgt := 11) hx hb (by omega) d_Arc_addTaken_4 (by decide) (fun c_1 => ?_) (fun c_1 => ?_)
  · skip
    refine lv_iconst (v := 1) hx hb d_Arc_addTaken_11 (by decide) ?_
    refine lv_istore_n (lv' := [(1, .int 1), (0, .ref ha_)]) hx hb d_Arc_addTaken_12 rfl hl (by decide) rfl (fun ls hl => ?_)
    refine lv_iload_n hx hb d_Arc_addTaken_13 rfl (lv_at hl 0 rfl) ?_
    refine lv_iconst (v := 4) hx hb d_Arc_addTaken_14 (by decide) ?_
    refine bn_ge (a1 := 1) (b1 := 4) (tgt := 40) hx hb (by omega) (by omega) d_Arc_addTaken_15 (by decide) (fun c_2 => ?_) (fun c_2 => ?_)
    · exact absurd c_2 (by decide)
    refine lv_aload_n hx hb d_Arc_addTaken_18 rfl (lv_at hl 1 rfl) ?_
    refine lv_aload_n hx hb d_Arc_addTaken_19 rfl (lv_at hl 1 rfl) ?_
    refine va_get (D := D) (ci := 2) (v := .ref qa) (C := R_Arc) (T := T_Arc) (N := 5) hx hb hts (ui_Arc _) hown hK hP 0 rfl rfl 2 (by decide) (hts _ (gwc gw_73)) (fun _ h9 => h9) rfl d_Arc_addTaken_20 ?_
    refine lv_iload_n hx hb d_Arc_addTaken_23 rfl (lv_at hl 0 rfl) ?_
    refine ld_i hx hb hK hP 3 0 rfl rfl 1 (by omega) (by omega) d_Arc_addTaken_24 ?_
    refine tp_i (a1) (rfl) ?_
    refine lv_aload_n hx hb d_Arc_addTaken_25 rfl (lv_at hl 1 rfl) ?_
    refine va_get (D := D) (ci := 2) (v := .ref qb) (C := R_Arc) (T := T_Arc) (N := 5) hx hb hts (ui_Arc _) hown hK hP 0 rfl rfl 3 (by decide) (hts _ (gwc gw_74)) (fun _ h9 => h9) rfl d_Arc_addTaken_26 ?_
    refine lv_iload_n hx hb d_Arc_addTaken_29 rfl (lv_at hl 0 rfl) ?_
    refine ld_i hx hb hK hP 4 0 rfl rfl 1 (by omega) (by omega) d_Arc_addTaken_30 ?_
    refine tp_i (b1) (rfl) ?_
    refine ct_callV (ci := 2) (q0 := 0) (As := [.int a1, .int b1]) (rest := []) (wr := [(qa, .inl (cI, 4, .inl (j4 a0 a1 a2 a3))), (qb, .inl (cI, 4, .inl (j4 b0 b1 b2 b3)))]) (n := 2) (c_Arc_addPoint l D cI cB cJ qQ  ha_ qx qy qa qb n X Y a1 b1 (hn)) hx hb hml hown hts (amb_ok qQ) hK hP hD hS hA hM (gi_V gw_307 gw_309 gw_8 gw_30 gw_310) rfl (by decide +kernel) ⟨by omega, by omega⟩ [0, 1, 2] [3, 4] rfl rfl rfl rfl (by decide) rfl rfl rfl hl.1 rfl (Nat.le_of_ble_eq_true rfl) d_Arc_addTaken_31 ⟨by omega, by omega⟩ (fun u_3 H locs hok hP hD hS => ?_)
    obtain ⟨n'_4, X'_5, Y'_6⟩ := u_3
    have hp_7 : n'_4 ≤ 124 ∧ plst n'_4 X'_5 Y'_6 = apP (plst n X Y) (a1, b1) := hok
    have hP : va_P D cl [(qa, .inl (cI, 4, .inl (j4 a0 a1 a2 a3))), (qb, .inl (cI, 4, .inl (j4 b0 b1 b2 b3))), (ha_, .inr (2, [.ref qx, .ref qy, .ref qa, .ref qb, .int (nI n'_4)])), (qx, .inl (cI, 124, .inl X'_5)), (qy, .inl (cI, 124, .inl Y'_6))] H := hP
    have hD : va_D A [(qa, .inl (cI, 4, .inl (j4 a0 a1 a2 a3))), (qb, .inl (cI, 4, .inl (j4 b0 b1 b2 b3))), (ha_, .inr (2, [.ref qx, .ref qy, .ref qa, .ref qb, .int (nI n'_4)])), (qx, .inl (cI, 124, .inl X'_5)), (qy, .inl (cI, 124, .inl Y'_6))] := hD
    refine W.eq (g2 := F0 m 34 ls []) rfl ?_
    refine lv_iinc (v := 2) (lv' := [(1, .int 2), (0, .ref ha_)]) hx hb d_Arc_addTaken_34 hl (k := 0) rfl (by first | exact nI_add _ 1 | rfl | decide) (by decide) rfl (fun ls hl => ?_)
    refine lv_goto (tgt := 13) hx hb d_Arc_addTaken_37 (by decide) ?_
    refine lv_iload_n hx hb d_Arc_addTaken_13 rfl (lv_at hl 0 rfl) ?_
    refine lv_iconst (v := 4) hx hb d_Arc_addTaken_14 (by decide) ?_
    refine bn_ge (a1 := 2) (b1 := 4) (tgt := 40) hx hb (by omega) (by omega) d_Arc_addTaken_15 (by decide) (fun c_8 => ?_) (fun c_8 => ?_)
    · exact absurd c_8 (by decide)
    refine lv_aload_n hx hb d_Arc_addTaken_18 rfl (lv_at hl 1 rfl) ?_
    refine lv_aload_n hx hb d_Arc_addTaken_19 rfl (lv_at hl 1 rfl) ?_
    refine va_get (D := D) (ci := 2) (v := .ref qa) (C := R_Arc) (T := T_Arc) (N := 5) hx hb hts (ui_Arc _) hown hK hP 2 rfl rfl 2 (by decide) (hts _ (gwc gw_73)) (fun _ h9 => h9) rfl d_Arc_addTaken_20 ?_
    refine lv_iload_n hx hb d_Arc_addTaken_23 rfl (lv_at hl 0 rfl) ?_
    refine ld_i hx hb hK hP 0 0 rfl rfl 2 (by omega) (by omega) d_Arc_addTaken_24 ?_
    refine tp_i (a2) (rfl) ?_
    refine lv_aload_n hx hb d_Arc_addTaken_25 rfl (lv_at hl 1 rfl) ?_
    refine va_get (D := D) (ci := 2) (v := .ref qb) (C := R_Arc) (T := T_Arc) (N := 5) hx hb hts (ui_Arc _) hown hK hP 2 rfl rfl 3 (by decide) (hts _ (gwc gw_74)) (fun _ h9 => h9) rfl d_Arc_addTaken_26 ?_
    refine lv_iload_n hx hb d_Arc_addTaken_29 rfl (lv_at hl 0 rfl) ?_
    refine ld_i hx hb hK hP 1 0 rfl rfl 2 (by omega) (by omega) d_Arc_addTaken_30 ?_
    refine tp_i (b2) (rfl) ?_
    refine ct_callV (ci := 2) (q0 := 2) (As := [.int a2, .int b2]) (rest := []) (wr := [(qa, .inl (cI, 4, .inl (j4 a0 a1 a2 a3))), (qb, .inl (cI, 4, .inl (j4 b0 b1 b2 b3)))]) (n := 2) (c_Arc_addPoint l D cI cB cJ qQ  ha_ qx qy qa qb n'_4 X'_5 Y'_6 a2 b2 (hp_7.1)) hx hb hml hown hts (amb_ok qQ) hK hP hD hS hA hM (gi_V gw_307 gw_309 gw_8 gw_30 gw_310) rfl (by decide +kernel) ⟨by omega, by omega⟩ [2, 3, 4] [0, 1] rfl rfl rfl rfl (by decide) rfl rfl rfl hl.1 rfl (Nat.le_of_ble_eq_true rfl) d_Arc_addTaken_31 ⟨by omega, by omega⟩ (fun u_9 H locs hok hP hD hS => ?_)
    obtain ⟨n'_10, X'_11, Y'_12⟩ := u_9
    have hp_13 : n'_10 ≤ 124 ∧ plst n'_10 X'_11 Y'_12 = apP (plst n'_4 X'_5 Y'_6) (a2, b2) := hok
    have hP : va_P D cl [(qa, .inl (cI, 4, .inl (j4 a0 a1 a2 a3))), (qb, .inl (cI, 4, .inl (j4 b0 b1 b2 b3))), (ha_, .inr (2, [.ref qx, .ref qy, .ref qa, .ref qb, .int (nI n'_10)])), (qx, .inl (cI, 124, .inl X'_11)), (qy, .inl (cI, 124, .inl Y'_12))] H := hP
    have hD : va_D A [(qa, .inl (cI, 4, .inl (j4 a0 a1 a2 a3))), (qb, .inl (cI, 4, .inl (j4 b0 b1 b2 b3))), (ha_, .inr (2, [.ref qx, .ref qy, .ref qa, .ref qb, .int (nI n'_10)])), (qx, .inl (cI, 124, .inl X'_11)), (qy, .inl (cI, 124, .inl Y'_12))] := hD
    refine W.eq (g2 := F0 m 34 ls []) rfl ?_
    refine lv_iinc (v := 3) (lv' := [(1, .int 3), (0, .ref ha_)]) hx hb d_Arc_addTaken_34 hl (k := 0) rfl (by first | exact nI_add _ 1 | rfl | decide) (by decide) rfl (fun ls hl => ?_)
    refine lv_goto (tgt := 13) hx hb d_Arc_addTaken_37 (by decide) ?_
    refine lv_iload_n hx hb d_Arc_addTaken_13 rfl (lv_at hl 0 rfl) ?_
    refine lv_iconst (v := 4) hx hb d_Arc_addTaken_14 (by decide) ?_
    refine bn_ge (a1 := 3) (b1 := 4) (tgt := 40) hx hb (by omega) (by omega) d_Arc_addTaken_15 (by decide) (fun c_14 => ?_) (fun c_14 => ?_)
    · exact absurd c_14 (by decide)
    refine lv_aload_n hx hb d_Arc_addTaken_18 rfl (lv_at hl 1 rfl) ?_
    refine lv_aload_n hx hb d_Arc_addTaken_19 rfl (lv_at hl 1 rfl) ?_
    refine va_get (D := D) (ci := 2) (v := .ref qa) (C := R_Arc) (T := T_Arc) (N := 5) hx hb hts (ui_Arc _) hown hK hP 2 rfl rfl 2 (by decide) (hts _ (gwc gw_73)) (fun _ h9 => h9) rfl d_Arc_addTaken_20 ?_
    refine lv_iload_n hx hb d_Arc_addTaken_23 rfl (lv_at hl 0 rfl) ?_
    refine ld_i hx hb hK hP 0 0 rfl rfl 3 (by omega) (by omega) d_Arc_addTaken_24 ?_
    refine tp_i (a3) (rfl) ?_
    refine lv_aload_n hx hb d_Arc_addTaken_25 rfl (lv_at hl 1 rfl) ?_
    refine va_get (D := D) (ci := 2) (v := .ref qb) (C := R_Arc) (T := T_Arc) (N := 5) hx hb hts (ui_Arc _) hown hK hP 2 rfl rfl 3 (by decide) (hts _ (gwc gw_74)) (fun _ h9 => h9) rfl d_Arc_addTaken_26 ?_
    refine lv_iload_n hx hb d_Arc_addTaken_29 rfl (lv_at hl 0 rfl) ?_
    refine ld_i hx hb hK hP 1 0 rfl rfl 3 (by omega) (by omega) d_Arc_addTaken_30 ?_
    refine tp_i (b3) (rfl) ?_
    refine ct_callV (ci := 2) (q0 := 2) (As := [.int a3, .int b3]) (rest := []) (wr := [(qa, .inl (cI, 4, .inl (j4 a0 a1 a2 a3))), (qb, .inl (cI, 4, .inl (j4 b0 b1 b2 b3)))]) (n := 2) (c_Arc_addPoint l D cI cB cJ qQ  ha_ qx qy qa qb n'_10 X'_11 Y'_12 a3 b3 (hp_13.1)) hx hb hml hown hts (amb_ok qQ) hK hP hD hS hA hM (gi_V gw_307 gw_309 gw_8 gw_30 gw_310) rfl (by decide +kernel) ⟨by omega, by omega⟩ [2, 3, 4] [0, 1] rfl rfl rfl rfl (by decide) rfl rfl rfl hl.1 rfl (Nat.le_of_ble_eq_true rfl) d_Arc_addTaken_31 ⟨by omega, by omega⟩ (fun u_15 H locs hok hP hD hS => ?_)
    obtain ⟨n'_16, X'_17, Y'_18⟩ := u_15
    have hp_19 : n'_16 ≤ 124 ∧ plst n'_16 X'_17 Y'_18 = apP (plst n'_10 X'_11 Y'_12) (a3, b3) := hok
    have hP : va_P D cl [(qa, .inl (cI, 4, .inl (j4 a0 a1 a2 a3))), (qb, .inl (cI, 4, .inl (j4 b0 b1 b2 b3))), (ha_, .inr (2, [.ref qx, .ref qy, .ref qa, .ref qb, .int (nI n'_16)])), (qx, .inl (cI, 124, .inl X'_17)), (qy, .inl (cI, 124, .inl Y'_18))] H := hP
    have hD : va_D A [(qa, .inl (cI, 4, .inl (j4 a0 a1 a2 a3))), (qb, .inl (cI, 4, .inl (j4 b0 b1 b2 b3))), (ha_, .inr (2, [.ref qx, .ref qy, .ref qa, .ref qb, .int (nI n'_16)])), (qx, .inl (cI, 124, .inl X'_17)), (qy, .inl (cI, 124, .inl Y'_18))] := hD
    refine W.eq (g2 := F0 m 34 ls []) rfl ?_
    refine lv_iinc (v := 4) (lv' := [(1, .int 4), (0, .ref ha_)]) hx hb d_Arc_addTaken_34 hl (k := 0) rfl (by first | exact nI_add _ 1 | rfl | decide) (by decide) rfl (fun ls hl => ?_)
    refine lv_goto (tgt := 13) hx hb d_Arc_addTaken_37 (by decide) ?_
    refine lv_iload_n hx hb d_Arc_addTaken_13 rfl (lv_at hl 0 rfl) ?_
    refine lv_iconst (v := 4) hx hb d_Arc_addTaken_14 (by decide) ?_
    refine bn_ge (a1 := 4) (b1 := 4) (tgt := 40) hx hb (by omega) (by omega) d_Arc_addTaken_15 (by decide) (fun c_20 => ?_) (fun c_20 => ?_)
    rotate_left
    · exact absurd c_20 (by decide)
    exact ct_retv hQ hx hb hr hlocks hP hD hS (n'_16, X'_17, Y'_18) [(ha_, .inr (2, [.ref qx, .ref qy, .ref qa, .ref qb, .int (nI n'_16)])), (qx, .inl (cI, 124, .inl X'_17)), (qy, .inl (cI, 124, .inl Y'_18)), (qa, .inl (cI, 4, .inl (j4 a0 a1 a2 a3))), (qb, .inl (cI, 4, .inl (j4 b0 b1 b2 b3)))] [2, 3, 4, 0, 1] (rfl) (⟨hp_19.1, by rw [apT, if_neg (by rw [plst_len]; omega), ← hp_7.2, ← hp_13.2, ← hp_19.2]⟩) (rfl) rfl rfl (by omega) (by omega) d_Arc_addTaken_40
  · skip
    refine lv_iconst (v := 0) hx hb d_Arc_addTaken_7 (by decide) ?_
    refine lv_goto (tgt := 12) hx hb d_Arc_addTaken_8 (by decide) ?_
    refine lv_istore_n (lv' := [(1, .int 0), (0, .ref ha_)]) hx hb d_Arc_addTaken_12 rfl hl (by decide) rfl (fun ls hl => ?_)
    refine lv_iload_n hx hb d_Arc_addTaken_13 rfl (lv_at hl 0 rfl) ?_
    refine lv_iconst (v := 4) hx hb d_Arc_addTaken_14 (by decide) ?_
    refine bn_ge (a1 := 0) (b1 := 4) (tgt := 40) hx hb (by omega) (by omega) d_Arc_addTaken_15 (by decide) (fun c_21 => ?_) (fun c_21 => ?_)
    · exact absurd c_21 (by decide)
    refine lv_aload_n hx hb d_Arc_addTaken_18 rfl (lv_at hl 1 rfl) ?_
    refine lv_aload_n hx hb d_Arc_addTaken_19 rfl (lv_at hl 1 rfl) ?_
    refine va_get (D := D) (ci := 2) (v := .ref qa) (C := R_Arc) (T := T_Arc) (N := 5) hx hb hts (ui_Arc _) hown hK hP 0 rfl rfl 2 (by decide) (hts _ (gwc gw_73)) (fun _ h9 => h9) rfl d_Arc_addTaken_20 ?_
    refine lv_iload_n hx hb d_Arc_addTaken_23 rfl (lv_at hl 0 rfl) ?_
    refine ld_i hx hb hK hP 3 0 rfl rfl 0 (by omega) (by omega) d_Arc_addTaken_24 ?_
    refine tp_i (a0) (rfl) ?_
    refine lv_aload_n hx hb d_Arc_addTaken_25 rfl (lv_at hl 1 rfl) ?_
    refine va_get (D := D) (ci := 2) (v := .ref qb) (C := R_Arc) (T := T_Arc) (N := 5) hx hb hts (ui_Arc _) hown hK hP 0 rfl rfl 3 (by decide) (hts _ (gwc gw_74)) (fun _ h9 => h9) rfl d_Arc_addTaken_26 ?_
    refine lv_iload_n hx hb d_Arc_addTaken_29 rfl (lv_at hl 0 rfl) ?_
    refine ld_i hx hb hK hP 4 0 rfl rfl 0 (by omega) (by omega) d_Arc_addTaken_30 ?_
    refine tp_i (b0) (rfl) ?_
    refine ct_callV (ci := 2) (q0 := 0) (As := [.int a0, .int b0]) (rest := []) (wr := [(qa, .inl (cI, 4, .inl (j4 a0 a1 a2 a3))), (qb, .inl (cI, 4, .inl (j4 b0 b1 b2 b3)))]) (n := 2) (c_Arc_addPoint l D cI cB cJ qQ  ha_ qx qy qa qb n X Y a0 b0 (hn)) hx hb hml hown hts (amb_ok qQ) hK hP hD hS hA hM (gi_V gw_307 gw_309 gw_8 gw_30 gw_310) rfl (by decide +kernel) ⟨by omega, by omega⟩ [0, 1, 2] [3, 4] rfl rfl rfl rfl (by decide) rfl rfl rfl hl.1 rfl (Nat.le_of_ble_eq_true rfl) d_Arc_addTaken_31 ⟨by omega, by omega⟩ (fun u_22 H locs hok hP hD hS => ?_)
    obtain ⟨n'_23, X'_24, Y'_25⟩ := u_22
    have hp_26 : n'_23 ≤ 124 ∧ plst n'_23 X'_24 Y'_25 = apP (plst n X Y) (a0, b0) := hok
    have hP : va_P D cl [(qa, .inl (cI, 4, .inl (j4 a0 a1 a2 a3))), (qb, .inl (cI, 4, .inl (j4 b0 b1 b2 b3))), (ha_, .inr (2, [.ref qx, .ref qy, .ref qa, .ref qb, .int (nI n'_23)])), (qx, .inl (cI, 124, .inl X'_24)), (qy, .inl (cI, 124, .inl Y'_25))] H := hP
    have hD : va_D A [(qa, .inl (cI, 4, .inl (j4 a0 a1 a2 a3))), (qb, .inl (cI, 4, .inl (j4 b0 b1 b2 b3))), (ha_, .inr (2, [.ref qx, .ref qy, .ref qa, .ref qb, .int (nI n'_23)])), (qx, .inl (cI, 124, .inl X'_24)), (qy, .inl (cI, 124, .inl Y'_25))] := hD
    refine W.eq (g2 := F0 m 34 ls []) rfl ?_
    refine lv_iinc (v := 1) (lv' := [(1, .int 1), (0, .ref ha_)]) hx hb d_Arc_addTaken_34 hl (k := 0) rfl (by first | exact nI_add _ 1 | rfl | decide) (by decide) rfl (fun ls hl => ?_)
    refine lv_goto (tgt := 13) hx hb d_Arc_addTaken_37 (by decide) ?_
    refine lv_iload_n hx hb d_Arc_addTaken_13 rfl (lv_at hl 0 rfl) ?_
    refine lv_iconst (v := 4) hx hb d_Arc_addTaken_14 (by decide) ?_
    refine bn_ge (a1 := 1) (b1 := 4) (tgt := 40) hx hb (by omega) (by omega) d_Arc_addTaken_15 (by decide) (fun c_27 => ?_) (fun c_27 => ?_)
    · exact absurd c_27 (by decide)
    refine lv_aload_n hx hb d_Arc_addTaken_18 rfl (lv_at hl 1 rfl) ?_
    refine lv_aload_n hx hb d_Arc_addTaken_19 rfl (lv_at hl 1 rfl) ?_
    refine va_get (D := D) (ci := 2) (v := .ref qa) (C := R_Arc) (T := T_Arc) (N := 5) hx hb hts (ui_Arc _) hown hK hP 2 rfl rfl 2 (by decide) (hts _ (gwc gw_73)) (fun _ h9 => h9) rfl d_Arc_addTaken_20 ?_
    refine lv_iload_n hx hb d_Arc_addTaken_23 rfl (lv_at hl 0 rfl) ?_
    refine ld_i hx hb hK hP 0 0 rfl rfl 1 (by omega) (by omega) d_Arc_addTaken_24 ?_
    refine tp_i (a1) (rfl) ?_
    refine lv_aload_n hx hb d_Arc_addTaken_25 rfl (lv_at hl 1 rfl) ?_
    refine va_get (D := D) (ci := 2) (v := .ref qb) (C := R_Arc) (T := T_Arc) (N := 5) hx hb hts (ui_Arc _) hown hK hP 2 rfl rfl 3 (by decide) (hts _ (gwc gw_74)) (fun _ h9 => h9) rfl d_Arc_addTaken_26 ?_
    refine lv_iload_n hx hb d_Arc_addTaken_29 rfl (lv_at hl 0 rfl) ?_
    refine ld_i hx hb hK hP 1 0 rfl rfl 1 (by omega) (by omega) d_Arc_addTaken_30 ?_
    refine tp_i (b1) (rfl) ?_
    refine ct_callV (ci := 2) (q0 := 2) (As := [.int a1, .int b1]) (rest := []) (wr := [(qa, .inl (cI, 4, .inl (j4 a0 a1 a2 a3))), (qb, .inl (cI, 4, .inl (j4 b0 b1 b2 b3)))]) (n := 2) (c_Arc_addPoint l D cI cB cJ qQ  ha_ qx qy qa qb n'_23 X'_24 Y'_25 a1 b1 (hp_26.1)) hx hb hml hown hts (amb_ok qQ) hK hP hD hS hA hM (gi_V gw_307 gw_309 gw_8 gw_30 gw_310) rfl (by decide +kernel) ⟨by omega, by omega⟩ [2, 3, 4] [0, 1] rfl rfl rfl rfl (by decide) rfl rfl rfl hl.1 rfl (Nat.le_of_ble_eq_true rfl) d_Arc_addTaken_31 ⟨by omega, by omega⟩ (fun u_28 H locs hok hP hD hS => ?_)
    obtain ⟨n'_29, X'_30, Y'_31⟩ := u_28
    have hp_32 : n'_29 ≤ 124 ∧ plst n'_29 X'_30 Y'_31 = apP (plst n'_23 X'_24 Y'_25) (a1, b1) := hok
    have hP : va_P D cl [(qa, .inl (cI, 4, .inl (j4 a0 a1 a2 a3))), (qb, .inl (cI, 4, .inl (j4 b0 b1 b2 b3))), (ha_, .inr (2, [.ref qx, .ref qy, .ref qa, .ref qb, .int (nI n'_29)])), (qx, .inl (cI, 124, .inl X'_30)), (qy, .inl (cI, 124, .inl Y'_31))] H := hP
    have hD : va_D A [(qa, .inl (cI, 4, .inl (j4 a0 a1 a2 a3))), (qb, .inl (cI, 4, .inl (j4 b0 b1 b2 b3))), (ha_, .inr (2, [.ref qx, .ref qy, .ref qa, .ref qb, .int (nI n'_29)])), (qx, .inl (cI, 124, .inl X'_30)), (qy, .inl (cI, 124, .inl Y'_31))] := hD
    refine W.eq (g2 := F0 m 34 ls []) rfl ?_
    refine lv_iinc (v := 2) (lv' := [(1, .int 2), (0, .ref ha_)]) hx hb d_Arc_addTaken_34 hl (k := 0) rfl (by first | exact nI_add _ 1 | rfl | decide) (by decide) rfl (fun ls hl => ?_)
    refine lv_goto (tgt := 13) hx hb d_Arc_addTaken_37 (by decide) ?_
    refine lv_iload_n hx hb d_Arc_addTaken_13 rfl (lv_at hl 0 rfl) ?_
    refine lv_iconst (v := 4) hx hb d_Arc_addTaken_14 (by decide) ?_
    refine bn_ge (a1 := 2) (b1 := 4) (tgt := 40) hx hb (by omega) (by omega) d_Arc_addTaken_15 (by decide) (fun c_33 => ?_) (fun c_33 => ?_)
    · exact absurd c_33 (by decide)
    refine lv_aload_n hx hb d_Arc_addTaken_18 rfl (lv_at hl 1 rfl) ?_
    refine lv_aload_n hx hb d_Arc_addTaken_19 rfl (lv_at hl 1 rfl) ?_
    refine va_get (D := D) (ci := 2) (v := .ref qa) (C := R_Arc) (T := T_Arc) (N := 5) hx hb hts (ui_Arc _) hown hK hP 2 rfl rfl 2 (by decide) (hts _ (gwc gw_73)) (fun _ h9 => h9) rfl d_Arc_addTaken_20 ?_
    refine lv_iload_n hx hb d_Arc_addTaken_23 rfl (lv_at hl 0 rfl) ?_
    refine ld_i hx hb hK hP 0 0 rfl rfl 2 (by omega) (by omega) d_Arc_addTaken_24 ?_
    refine tp_i (a2) (rfl) ?_
    refine lv_aload_n hx hb d_Arc_addTaken_25 rfl (lv_at hl 1 rfl) ?_
    refine va_get (D := D) (ci := 2) (v := .ref qb) (C := R_Arc) (T := T_Arc) (N := 5) hx hb hts (ui_Arc _) hown hK hP 2 rfl rfl 3 (by decide) (hts _ (gwc gw_74)) (fun _ h9 => h9) rfl d_Arc_addTaken_26 ?_
    refine lv_iload_n hx hb d_Arc_addTaken_29 rfl (lv_at hl 0 rfl) ?_
    refine ld_i hx hb hK hP 1 0 rfl rfl 2 (by omega) (by omega) d_Arc_addTaken_30 ?_
    refine tp_i (b2) (rfl) ?_
    refine ct_callV (ci := 2) (q0 := 2) (As := [.int a2, .int b2]) (rest := []) (wr := [(qa, .inl (cI, 4, .inl (j4 a0 a1 a2 a3))), (qb, .inl (cI, 4, .inl (j4 b0 b1 b2 b3)))]) (n := 2) (c_Arc_addPoint l D cI cB cJ qQ  ha_ qx qy qa qb n'_29 X'_30 Y'_31 a2 b2 (hp_32.1)) hx hb hml hown hts (amb_ok qQ) hK hP hD hS hA hM (gi_V gw_307 gw_309 gw_8 gw_30 gw_310) rfl (by decide +kernel) ⟨by omega, by omega⟩ [2, 3, 4] [0, 1] rfl rfl rfl rfl (by decide) rfl rfl rfl hl.1 rfl (Nat.le_of_ble_eq_true rfl) d_Arc_addTaken_31 ⟨by omega, by omega⟩ (fun u_34 H locs hok hP hD hS => ?_)
    obtain ⟨n'_35, X'_36, Y'_37⟩ := u_34
    have hp_38 : n'_35 ≤ 124 ∧ plst n'_35 X'_36 Y'_37 = apP (plst n'_29 X'_30 Y'_31) (a2, b2) := hok
    have hP : va_P D cl [(qa, .inl (cI, 4, .inl (j4 a0 a1 a2 a3))), (qb, .inl (cI, 4, .inl (j4 b0 b1 b2 b3))), (ha_, .inr (2, [.ref qx, .ref qy, .ref qa, .ref qb, .int (nI n'_35)])), (qx, .inl (cI, 124, .inl X'_36)), (qy, .inl (cI, 124, .inl Y'_37))] H := hP
    have hD : va_D A [(qa, .inl (cI, 4, .inl (j4 a0 a1 a2 a3))), (qb, .inl (cI, 4, .inl (j4 b0 b1 b2 b3))), (ha_, .inr (2, [.ref qx, .ref qy, .ref qa, .ref qb, .int (nI n'_35)])), (qx, .inl (cI, 124, .inl X'_36)), (qy, .inl (cI, 124, .inl Y'_37))] := hD
    refine W.eq (g2 := F0 m 34 ls []) rfl ?_
    refine lv_iinc (v := 3) (lv' := [(1, .int 3), (0, .ref ha_)]) hx hb d_Arc_addTaken_34 hl (k := 0) rfl (by first | exact nI_add _ 1 | rfl | decide) (by decide) rfl (fun ls hl => ?_)
    refine lv_goto (tgt := 13) hx hb d_Arc_addTaken_37 (by decide) ?_
    refine lv_iload_n hx hb d_Arc_addTaken_13 rfl (lv_at hl 0 rfl) ?_
    refine lv_iconst (v := 4) hx hb d_Arc_addTaken_14 (by decide) ?_
    refine bn_ge (a1 := 3) (b1 := 4) (tgt := 40) hx hb (by omega) (by omega) d_Arc_addTaken_15 (by decide) (fun c_39 => ?_) (fun c_39 => ?_)
    · exact absurd c_39 (by decide)
    refine lv_aload_n hx hb d_Arc_addTaken_18 rfl (lv_at hl 1 rfl) ?_
    refine lv_aload_n hx hb d_Arc_addTaken_19 rfl (lv_at hl 1 rfl) ?_
    refine va_get (D := D) (ci := 2) (v := .ref qa) (C := R_Arc) (T := T_Arc) (N := 5) hx hb hts (ui_Arc _) hown hK hP 2 rfl rfl 2 (by decide) (hts _ (gwc gw_73)) (fun _ h9 => h9) rfl d_Arc_addTaken_20 ?_
    refine lv_iload_n hx hb d_Arc_addTaken_23 rfl (lv_at hl 0 rfl) ?_
    refine ld_i hx hb hK hP 0 0 rfl rfl 3 (by omega) (by omega) d_Arc_addTaken_24 ?_
    refine tp_i (a3) (rfl) ?_
    refine lv_aload_n hx hb d_Arc_addTaken_25 rfl (lv_at hl 1 rfl) ?_
    refine va_get (D := D) (ci := 2) (v := .ref qb) (C := R_Arc) (T := T_Arc) (N := 5) hx hb hts (ui_Arc _) hown hK hP 2 rfl rfl 3 (by decide) (hts _ (gwc gw_74)) (fun _ h9 => h9) rfl d_Arc_addTaken_26 ?_
    refine lv_iload_n hx hb d_Arc_addTaken_29 rfl (lv_at hl 0 rfl) ?_
    refine ld_i hx hb hK hP 1 0 rfl rfl 3 (by omega) (by omega) d_Arc_addTaken_30 ?_
    refine tp_i (b3) (rfl) ?_
    refine ct_callV (ci := 2) (q0 := 2) (As := [.int a3, .int b3]) (rest := []) (wr := [(qa, .inl (cI, 4, .inl (j4 a0 a1 a2 a3))), (qb, .inl (cI, 4, .inl (j4 b0 b1 b2 b3)))]) (n := 2) (c_Arc_addPoint l D cI cB cJ qQ  ha_ qx qy qa qb n'_35 X'_36 Y'_37 a3 b3 (hp_38.1)) hx hb hml hown hts (amb_ok qQ) hK hP hD hS hA hM (gi_V gw_307 gw_309 gw_8 gw_30 gw_310) rfl (by decide +kernel) ⟨by omega, by omega⟩ [2, 3, 4] [0, 1] rfl rfl rfl rfl (by decide) rfl rfl rfl hl.1 rfl (Nat.le_of_ble_eq_true rfl) d_Arc_addTaken_31 ⟨by omega, by omega⟩ (fun u_40 H locs hok hP hD hS => ?_)
    obtain ⟨n'_41, X'_42, Y'_43⟩ := u_40
    have hp_44 : n'_41 ≤ 124 ∧ plst n'_41 X'_42 Y'_43 = apP (plst n'_35 X'_36 Y'_37) (a3, b3) := hok
    have hP : va_P D cl [(qa, .inl (cI, 4, .inl (j4 a0 a1 a2 a3))), (qb, .inl (cI, 4, .inl (j4 b0 b1 b2 b3))), (ha_, .inr (2, [.ref qx, .ref qy, .ref qa, .ref qb, .int (nI n'_41)])), (qx, .inl (cI, 124, .inl X'_42)), (qy, .inl (cI, 124, .inl Y'_43))] H := hP
    have hD : va_D A [(qa, .inl (cI, 4, .inl (j4 a0 a1 a2 a3))), (qb, .inl (cI, 4, .inl (j4 b0 b1 b2 b3))), (ha_, .inr (2, [.ref qx, .ref qy, .ref qa, .ref qb, .int (nI n'_41)])), (qx, .inl (cI, 124, .inl X'_42)), (qy, .inl (cI, 124, .inl Y'_43))] := hD
    refine W.eq (g2 := F0 m 34 ls []) rfl ?_
    refine lv_iinc (v := 4) (lv' := [(1, .int 4), (0, .ref ha_)]) hx hb d_Arc_addTaken_34 hl (k := 0) rfl (by first | exact nI_add _ 1 | rfl | decide) (by decide) rfl (fun ls hl => ?_)
    refine lv_goto (tgt := 13) hx hb d_Arc_addTaken_37 (by decide) ?_
    refine lv_iload_n hx hb d_Arc_addTaken_13 rfl (lv_at hl 0 rfl) ?_
    refine lv_iconst (v := 4) hx hb d_Arc_addTaken_14 (by decide) ?_
    refine bn_ge (a1 := 4) (b1 := 4) (tgt := 40) hx hb (by omega) (by omega) d_Arc_addTaken_15 (by decide) (fun c_45 => ?_) (fun c_45 => ?_)
    rotate_left
    · exact absurd c_45 (by decide)
    exact ct_retv hQ hx hb hr hlocks hP hD hS (n'_41, X'_42, Y'_43) [(ha_, .inr (2, [.ref qx, .ref qy, .ref qa, .ref qb, .int (nI n'_41)])), (qx, .inl (cI, 124, .inl X'_42)), (qy, .inl (cI, 124, .inl Y'_43)), (qa, .inl (cI, 4, .inl (j4 a0 a1 a2 a3))), (qb, .inl (cI, 4, .inl (j4 b0 b1 b2 b3)))] [2, 3, 4, 0, 1] (rfl) (⟨hp_44.1, by rw [apT, if_pos (by rw [plst_len]; exact c_1), ← hp_26.2, ← hp_32.2, ← hp_38.2, ← hp_44.2]⟩) (rfl) rfl rfl (by omega) (by omega) d_Arc_addTaken_40
set_option maxHeartbeats 40000000 in
set_option maxRecDepth 100000 in
/-- takePart -/
theorem c_Arc_takePart (l : Launch) (D : va_G) (cI cB cJ : ClassId) (qQ : Nat) (ha_ : Nat) (qx : Nat) (qy : Nat) (qa : Nat) (qb : Nat) (n : Nat) (a0 : Int32) (a1 : Int32) (a2 : Int32) (a3 : Int32) (b0 : Int32) (b1 : Int32) (b2 : Int32) (b3 : Int32) (q : Int64) (u : Int32) (v : Int32)  : ct l D cl [(cI, .int), (cB, .byte), (cJ, .long)] (amb qQ) y_Arc_takePart w_Arc_takePart 2 49 (0) (0) [.ref ha_, .long q, .int u, .int v] [(ha_, .inr (2, [.ref qx, .ref qy, .ref qa, .ref qb, .int (nI n)])), (qa, .inl (cI, 4, .inl (j4 a0 a1 a2 a3))), (qb, .inl (cI, 4, .inl (j4 b0 b1 b2 b3)))] (fun u_ : Int32 × Int32 × Int32 × Int32 × Int32 × Int32 × Int32 × Int32 => match u_ with | (a0', a1', a2', a3', b0', b1', b2', b3') => (a0', a1', a2', a3') = tkA q u v ∧ (b0', b1', b2', b3') = tkB q u v) (fun u_ : Int32 × Int32 × Int32 × Int32 × Int32 × Int32 × Int32 × Int32 => match u_ with | (a0', a1', a2', a3', b0', b1', b2', b3') => none) (fun u_ : Int32 × Int32 × Int32 × Int32 × Int32 × Int32 × Int32 × Int32 => match u_ with | (a0', a1', a2', a3', b0', b1', b2', b3') => [(ha_, .inr (2, [.ref qx, .ref qy, .ref qa, .ref qb, .int (nI n)])), (qa, .inl (cI, 4, .inl (j4 a0' a1' a2' a3'))), (qb, .inl (cI, 4, .inl (j4 b0' b1' b2' b3')))]) := by
  refine ct_ofW (cc := b_Arc_takePart) (maxL := 5) (ret := none) (by decide) rfl (Nat.le_of_ble_eq_true rfl) ?_
  intro p e R s m args below meth c A Q ls hx hb hr hml hts hown hlocks hname hRf hRc hRs hRl hQ hK hP hD hS hA hM hl
  have hl : lv_has ls 5 [(0, .ref ha_), (1, .long q), (3, .int u), (4, .int v)] := hl
  refine lv_aload_n hx hb d_Arc_takePart_0 rfl (lv_at hl 0 rfl) ?_
  refine lv_lload_n hx hb d_Arc_takePart_1 rfl (lv_at hl 1 rfl) ?_
  refine ct_callV (ci := 2) (q0 := 0) (As := [.long q]) (rest := []) (wr := []) (n := 1) (c_Arc_takeQuarter l D cI cB cJ qQ  ha_ qx qy qa qb n a0 a1 a2 a3 b0 b1 b2 b3 q ) hx hb hml hown hts (amb_ok qQ) hK hP hD hS hA hM (gi_V gw_277 gw_279 gw_3 gw_30 gw_280) rfl (by decide +kernel) ⟨by omega, by omega⟩ [0, 1, 2] [] rfl rfl rfl rfl (by decide) rfl rfl rfl hl.1 rfl (Nat.le_of_ble_eq_true rfl) d_Arc_takePart_2 ⟨by omega, by omega⟩ (fun u_1 H locs hok hP hD hS => ?_)
  obtain ⟨a0'_2, a1'_3, a2'_4, a3'_5, b0'_6, b1'_7, b2'_8, b3'_9⟩ := u_1
  have hq_ : (a0'_2, a1'_3, a2'_4, a3'_5) = qa4 (fmd q 4) ∧ (b0'_6, b1'_7, b2'_8, b3'_9) = qb4 (fmd q 4) := hok
  have hP : va_P D cl [(ha_, .inr (2, [.ref qx, .ref qy, .ref qa, .ref qb, .int (nI n)])), (qa, .inl (cI, 4, .inl (j4 a0'_2 a1'_3 a2'_4 a3'_5))), (qb, .inl (cI, 4, .inl (j4 b0'_6 b1'_7 b2'_8 b3'_9)))] H := hP
  have hD : va_D A [(ha_, .inr (2, [.ref qx, .ref qy, .ref qa, .ref qb, .int (nI n)])), (qa, .inl (cI, 4, .inl (j4 a0'_2 a1'_3 a2'_4 a3'_5))), (qb, .inl (cI, 4, .inl (j4 b0'_6 b1'_7 b2'_8 b3'_9)))] := hD
  refine W.eq (g2 := F0 m 5 ls []) rfl ?_
  refine lv_aload_n hx hb d_Arc_takePart_5 rfl (lv_at hl 0 rfl) ?_
  refine lv_iload hx hb d_Arc_takePart_6 (lv_at hl 3 rfl) ?_
  refine ct_callV (ci := 2) (q0 := 0) (As := [.int v]) (rest := []) (wr := []) (n := 1) (c_Arc_keepBefore l D cI cB cJ qQ  ha_ qx qy qa qb n a0'_2 a1'_3 a2'_4 a3'_5 b0'_6 b1'_7 b2'_8 b3'_9 v ) hx hb hml hown hts (amb_ok qQ) hK hP hD hS hA hM (gi_V gw_289 gw_291 gw_5 gw_30 gw_292) rfl (by decide +kernel) ⟨by omega, by omega⟩ [0, 1, 2] [] rfl rfl rfl rfl (by decide) rfl rfl rfl hl.1 rfl (Nat.le_of_ble_eq_true rfl) d_Arc_takePart_8 ⟨by omega, by omega⟩ (fun u_10 H locs hok hP hD hS => ?_)
  have hP : va_P D cl [(ha_, .inr (2, [.ref qx, .ref qy, .ref qa, .ref qb, .int (nI n)])), (qa, .inl (cI, 4, .inl (j4 a0'_2 (mixI a0'_2 a1'_3 v) (my2 a0'_2 a1'_3 a2'_4 v) (my3 a0'_2 a1'_3 a2'_4 a3'_5 v)))), (qb, .inl (cI, 4, .inl (j4 b0'_6 (mixI b0'_6 b1'_7 v) (my2 b0'_6 b1'_7 b2'_8 v) (my3 b0'_6 b1'_7 b2'_8 b3'_9 v))))] H := hP
  have hD : va_D A [(ha_, .inr (2, [.ref qx, .ref qy, .ref qa, .ref qb, .int (nI n)])), (qa, .inl (cI, 4, .inl (j4 a0'_2 (mixI a0'_2 a1'_3 v) (my2 a0'_2 a1'_3 a2'_4 v) (my3 a0'_2 a1'_3 a2'_4 a3'_5 v)))), (qb, .inl (cI, 4, .inl (j4 b0'_6 (mixI b0'_6 b1'_7 v) (my2 b0'_6 b1'_7 b2'_8 v) (my3 b0'_6 b1'_7 b2'_8 b3'_9 v))))] := hD
  refine W.eq (g2 := F0 m 11 ls []) rfl ?_
  refine lv_iload_n hx hb d_Arc_takePart_11 rfl (lv_at hl 2 rfl) ?_
  refine lv_if_le (tgt := 43) hx hb d_Arc_takePart_12 (by decide) (fun c_11 => ?_) (fun c_11 => ?_)
  · skip
    exact ct_retv hQ hx hb hr hlocks hP hD hS (a0'_2, mixI a0'_2 a1'_3 v, my2 a0'_2 a1'_3 a2'_4 v, my3 a0'_2 a1'_3 a2'_4 a3'_5 v, b0'_6, mixI b0'_6 b1'_7 v, my2 b0'_6 b1'_7 b2'_8 v, my3 b0'_6 b1'_7 b2'_8 b3'_9 v) [(ha_, .inr (2, [.ref qx, .ref qy, .ref qa, .ref qb, .int (nI n)])), (qa, .inl (cI, 4, .inl (j4 a0'_2 (mixI a0'_2 a1'_3 v) (my2 a0'_2 a1'_3 a2'_4 v) (my3 a0'_2 a1'_3 a2'_4 a3'_5 v)))), (qb, .inl (cI, 4, .inl (j4 b0'_6 (mixI b0'_6 b1'_7 v) (my2 b0'_6 b1'_7 b2'_8 v) (my3 b0'_6 b1'_7 b2'_8 b3'_9 v))))] [0, 1, 2] (rfl) (⟨by rw [tkA, if_pos (Or.inl c_11), ← hq_.1]; rfl, by rw [tkB, if_pos (Or.inl c_11), ← hq_.2]; rfl⟩) (rfl) rfl rfl (by omega) (by omega) d_Arc_takePart_43
  · skip
    refine lv_iload hx hb d_Arc_takePart_15 (lv_at hl 3 rfl) ?_
    refine lv_if_le (tgt := 43) hx hb d_Arc_takePart_17 (by decide) (fun c_12 => ?_) (fun c_12 => ?_)
    · skip
      exact ct_retv hQ hx hb hr hlocks hP hD hS (a0'_2, mixI a0'_2 a1'_3 v, my2 a0'_2 a1'_3 a2'_4 v, my3 a0'_2 a1'_3 a2'_4 a3'_5 v, b0'_6, mixI b0'_6 b1'_7 v, my2 b0'_6 b1'_7 b2'_8 v, my3 b0'_6 b1'_7 b2'_8 b3'_9 v) [(ha_, .inr (2, [.ref qx, .ref qy, .ref qa, .ref qb, .int (nI n)])), (qa, .inl (cI, 4, .inl (j4 a0'_2 (mixI a0'_2 a1'_3 v) (my2 a0'_2 a1'_3 a2'_4 v) (my3 a0'_2 a1'_3 a2'_4 a3'_5 v)))), (qb, .inl (cI, 4, .inl (j4 b0'_6 (mixI b0'_6 b1'_7 v) (my2 b0'_6 b1'_7 b2'_8 v) (my3 b0'_6 b1'_7 b2'_8 b3'_9 v))))] [0, 1, 2] (rfl) (⟨by rw [tkA, if_pos (Or.inr c_12), ← hq_.1]; rfl, by rw [tkB, if_pos (Or.inr c_12), ← hq_.2]; rfl⟩) (rfl) rfl rfl (by omega) (by omega) d_Arc_takePart_43
    · skip
      refine lv_aload_n hx hb d_Arc_takePart_20 rfl (lv_at hl 0 rfl) ?_
      refine lv_ldc2 (v := 131072) hx hb hown (hts _ (gwc gw_297)) d_Arc_takePart_21 ?_
      refine lv_iload_n hx hb d_Arc_takePart_24 rfl (lv_at hl 2 rfl) ?_
      refine lv_i2l (v := u.toInt64) hx hb d_Arc_takePart_25 rfl ?_
      refine lv_lmul hx hb d_Arc_takePart_26 ?_
      refine lv_iload hx hb d_Arc_takePart_27 (lv_at hl 3 rfl) ?_
      refine lv_i2l (v := v.toInt64) hx hb d_Arc_takePart_29 rfl ?_
      refine lv_ladd hx hb d_Arc_takePart_30 ?_
      refine lv_ldc2 (v := 2) hx hb hown (hts _ (gwc gw_298)) d_Arc_takePart_31 ?_
      refine lv_iload hx hb d_Arc_takePart_34 (lv_at hl 3 rfl) ?_
      refine lv_i2l (v := v.toInt64) hx hb d_Arc_takePart_36 rfl ?_
      refine lv_lmul hx hb d_Arc_takePart_37 ?_
      refine lv_ldiv hx hb d_Arc_takePart_38 (two_ne32 c_12) ?_
      refine lv_l2i (v := (((131072 * u.toInt64) + v.toInt64) / (2 * v.toInt64)).toInt32) hx hb d_Arc_takePart_39 rfl ?_
      refine ct_callV (ci := 2) (q0 := 0) (As := [.int ((((131072 * u.toInt64) + v.toInt64) / (2 * v.toInt64)).toInt32)]) (rest := []) (wr := []) (n := 1) (c_Arc_keepBehind l D cI cB cJ qQ  ha_ qx qy qa qb n a0'_2 (mixI a0'_2 a1'_3 v) (my2 a0'_2 a1'_3 a2'_4 v) (my3 a0'_2 a1'_3 a2'_4 a3'_5 v) b0'_6 (mixI b0'_6 b1'_7 v) (my2 b0'_6 b1'_7 b2'_8 v) (my3 b0'_6 b1'_7 b2'_8 b3'_9 v) ((((131072 * u.toInt64) + v.toInt64) / (2 * v.toInt64)).toInt32) ) hx hb hml hown hts (amb_ok qQ) hK hP hD hS hA hM (gi_V gw_299 gw_301 gw_6 gw_30 gw_302) rfl (by decide +kernel) ⟨by omega, by omega⟩ [0, 1, 2] [] rfl rfl rfl rfl (by decide) rfl rfl rfl hl.1 rfl (Nat.le_of_ble_eq_true rfl) d_Arc_takePart_40 ⟨by omega, by omega⟩ (fun u_13 H locs hok hP hD hS => ?_)
      have hP : va_P D cl [(ha_, .inr (2, [.ref qx, .ref qy, .ref qa, .ref qb, .int (nI n)])), (qa, .inl (cI, 4, .inl (j4 (my3 a0'_2 (mixI a0'_2 a1'_3 v) (my2 a0'_2 a1'_3 a2'_4 v) (my3 a0'_2 a1'_3 a2'_4 a3'_5 v) ((((131072 * u.toInt64) + v.toInt64) / (2 * v.toInt64)).toInt32)) (my2 (mixI a0'_2 a1'_3 v) (my2 a0'_2 a1'_3 a2'_4 v) (my3 a0'_2 a1'_3 a2'_4 a3'_5 v) ((((131072 * u.toInt64) + v.toInt64) / (2 * v.toInt64)).toInt32)) (mixI (my2 a0'_2 a1'_3 a2'_4 v) (my3 a0'_2 a1'_3 a2'_4 a3'_5 v) ((((131072 * u.toInt64) + v.toInt64) / (2 * v.toInt64)).toInt32)) (my3 a0'_2 a1'_3 a2'_4 a3'_5 v)))), (qb, .inl (cI, 4, .inl (j4 (my3 b0'_6 (mixI b0'_6 b1'_7 v) (my2 b0'_6 b1'_7 b2'_8 v) (my3 b0'_6 b1'_7 b2'_8 b3'_9 v) ((((131072 * u.toInt64) + v.toInt64) / (2 * v.toInt64)).toInt32)) (my2 (mixI b0'_6 b1'_7 v) (my2 b0'_6 b1'_7 b2'_8 v) (my3 b0'_6 b1'_7 b2'_8 b3'_9 v) ((((131072 * u.toInt64) + v.toInt64) / (2 * v.toInt64)).toInt32)) (mixI (my2 b0'_6 b1'_7 b2'_8 v) (my3 b0'_6 b1'_7 b2'_8 b3'_9 v) ((((131072 * u.toInt64) + v.toInt64) / (2 * v.toInt64)).toInt32)) (my3 b0'_6 b1'_7 b2'_8 b3'_9 v))))] H := hP
      have hD : va_D A [(ha_, .inr (2, [.ref qx, .ref qy, .ref qa, .ref qb, .int (nI n)])), (qa, .inl (cI, 4, .inl (j4 (my3 a0'_2 (mixI a0'_2 a1'_3 v) (my2 a0'_2 a1'_3 a2'_4 v) (my3 a0'_2 a1'_3 a2'_4 a3'_5 v) ((((131072 * u.toInt64) + v.toInt64) / (2 * v.toInt64)).toInt32)) (my2 (mixI a0'_2 a1'_3 v) (my2 a0'_2 a1'_3 a2'_4 v) (my3 a0'_2 a1'_3 a2'_4 a3'_5 v) ((((131072 * u.toInt64) + v.toInt64) / (2 * v.toInt64)).toInt32)) (mixI (my2 a0'_2 a1'_3 a2'_4 v) (my3 a0'_2 a1'_3 a2'_4 a3'_5 v) ((((131072 * u.toInt64) + v.toInt64) / (2 * v.toInt64)).toInt32)) (my3 a0'_2 a1'_3 a2'_4 a3'_5 v)))), (qb, .inl (cI, 4, .inl (j4 (my3 b0'_6 (mixI b0'_6 b1'_7 v) (my2 b0'_6 b1'_7 b2'_8 v) (my3 b0'_6 b1'_7 b2'_8 b3'_9 v) ((((131072 * u.toInt64) + v.toInt64) / (2 * v.toInt64)).toInt32)) (my2 (mixI b0'_6 b1'_7 v) (my2 b0'_6 b1'_7 b2'_8 v) (my3 b0'_6 b1'_7 b2'_8 b3'_9 v) ((((131072 * u.toInt64) + v.toInt64) / (2 * v.toInt64)).toInt32)) (mixI (my2 b0'_6 b1'_7 b2'_8 v) (my3 b0'_6 b1'_7 b2'_8 b3'_9 v) ((((131072 * u.toInt64) + v.toInt64) / (2 * v.toInt64)).toInt32)) (my3 b0'_6 b1'_7 b2'_8 b3'_9 v))))] := hD
      refine W.eq (g2 := F0 m 43 ls []) rfl ?_
      exact ct_retv hQ hx hb hr hlocks hP hD hS (my3 a0'_2 (mixI a0'_2 a1'_3 v) (my2 a0'_2 a1'_3 a2'_4 v) (my3 a0'_2 a1'_3 a2'_4 a3'_5 v) ((((131072 * u.toInt64) + v.toInt64) / (2 * v.toInt64)).toInt32), my2 (mixI a0'_2 a1'_3 v) (my2 a0'_2 a1'_3 a2'_4 v) (my3 a0'_2 a1'_3 a2'_4 a3'_5 v) ((((131072 * u.toInt64) + v.toInt64) / (2 * v.toInt64)).toInt32), mixI (my2 a0'_2 a1'_3 a2'_4 v) (my3 a0'_2 a1'_3 a2'_4 a3'_5 v) ((((131072 * u.toInt64) + v.toInt64) / (2 * v.toInt64)).toInt32), my3 a0'_2 a1'_3 a2'_4 a3'_5 v, my3 b0'_6 (mixI b0'_6 b1'_7 v) (my2 b0'_6 b1'_7 b2'_8 v) (my3 b0'_6 b1'_7 b2'_8 b3'_9 v) ((((131072 * u.toInt64) + v.toInt64) / (2 * v.toInt64)).toInt32), my2 (mixI b0'_6 b1'_7 v) (my2 b0'_6 b1'_7 b2'_8 v) (my3 b0'_6 b1'_7 b2'_8 b3'_9 v) ((((131072 * u.toInt64) + v.toInt64) / (2 * v.toInt64)).toInt32), mixI (my2 b0'_6 b1'_7 b2'_8 v) (my3 b0'_6 b1'_7 b2'_8 b3'_9 v) ((((131072 * u.toInt64) + v.toInt64) / (2 * v.toInt64)).toInt32), my3 b0'_6 b1'_7 b2'_8 b3'_9 v) [(ha_, .inr (2, [.ref qx, .ref qy, .ref qa, .ref qb, .int (nI n)])), (qa, .inl (cI, 4, .inl (j4 (my3 a0'_2 (mixI a0'_2 a1'_3 v) (my2 a0'_2 a1'_3 a2'_4 v) (my3 a0'_2 a1'_3 a2'_4 a3'_5 v) ((((131072 * u.toInt64) + v.toInt64) / (2 * v.toInt64)).toInt32)) (my2 (mixI a0'_2 a1'_3 v) (my2 a0'_2 a1'_3 a2'_4 v) (my3 a0'_2 a1'_3 a2'_4 a3'_5 v) ((((131072 * u.toInt64) + v.toInt64) / (2 * v.toInt64)).toInt32)) (mixI (my2 a0'_2 a1'_3 a2'_4 v) (my3 a0'_2 a1'_3 a2'_4 a3'_5 v) ((((131072 * u.toInt64) + v.toInt64) / (2 * v.toInt64)).toInt32)) (my3 a0'_2 a1'_3 a2'_4 a3'_5 v)))), (qb, .inl (cI, 4, .inl (j4 (my3 b0'_6 (mixI b0'_6 b1'_7 v) (my2 b0'_6 b1'_7 b2'_8 v) (my3 b0'_6 b1'_7 b2'_8 b3'_9 v) ((((131072 * u.toInt64) + v.toInt64) / (2 * v.toInt64)).toInt32)) (my2 (mixI b0'_6 b1'_7 v) (my2 b0'_6 b1'_7 b2'_8 v) (my3 b0'_6 b1'_7 b2'_8 b3'_9 v) ((((131072 * u.toInt64) + v.toInt64) / (2 * v.toInt64)).toInt32)) (mixI (my2 b0'_6 b1'_7 b2'_8 v) (my3 b0'_6 b1'_7 b2'_8 b3'_9 v) ((((131072 * u.toInt64) + v.toInt64) / (2 * v.toInt64)).toInt32)) (my3 b0'_6 b1'_7 b2'_8 b3'_9 v))))] [0, 1, 2] (rfl) (⟨by rw [tkA, if_neg (by rintro (z | z); exact c_11 z; exact c_12 z), ← hq_.1]; rfl, by rw [tkB, if_neg (by rintro (z | z); exact c_11 z; exact c_12 z), ← hq_.2]; rfl⟩) (rfl) rfl rfl (by omega) (by omega) d_Arc_takePart_43
set_option maxHeartbeats 4000000 in
set_option maxRecDepth 100000 in
/-- curveCount -/
theorem c_Arc_curveCount (l : Launch) (D : va_G) (cI cB cJ : ClassId) (qQ : Nat) (ha_ : Nat) (qx : Nat) (qy : Nat) (qa : Nat) (qb : Nat) (n : Nat) (hn1 : 1 ≤ n) (hn : n ≤ 124) : ct l D cl [(cI, .int), (cB, .byte), (cJ, .long)] (amb qQ) y_Arc_curveCount w_Arc_curveCount 0 0 (0) (0) [.ref ha_] [(ha_, .inr (2, [.ref qx, .ref qy, .ref qa, .ref qb, .int (nI n)]))] (fun _ : Unit => True) (fun _ : Unit => some (.int (nI ((n - 1) / 3)))) (fun _ : Unit => [(ha_, .inr (2, [.ref qx, .ref qy, .ref qa, .ref qb, .int (nI n)]))]) := by
  refine ct_ofW (cc := b_Arc_curveCount) (maxL := 1) (ret := (some .int)) (by decide) rfl (Nat.le_of_ble_eq_true rfl) ?_
  intro p e R s m args below meth c A Q ls hx hb hr hml hts hown hlocks hname hRf hRc hRs hRl hQ hK hP hD hS hA hM hl
  have hl : lv_has ls 1 [(0, .ref ha_)] := hl
  refine lv_aload_n hx hb d_Arc_curveCount_0 rfl (lv_at hl 0 rfl) ?_
  refine va_get (D := D) (ci := 2) (v := .int (nI n)) (C := R_Arc) (T := T_Arc) (N := 5) hx hb hts (ui_Arc _) hown hK hP 0 rfl rfl 4 (by decide) (hts _ (gwc gw_75)) (fun _ h9 => h9) rfl d_Arc_curveCount_1 ?_
  refine lv_iconst (v := 1) hx hb d_Arc_curveCount_4 (by decide) ?_
  refine lv_isub hx hb d_Arc_curveCount_5 ?_
  refine tp_i (nI (n - 1)) (pk_sub (a := n) (b := 1) (by omega)) ?_
  refine lv_iconst (v := 3) hx hb d_Arc_curveCount_6 (by decide) ?_
  refine lv_idiv hx hb d_Arc_curveCount_7 (by decide) ?_
  refine tp_i (nI ((n - 1) / 3)) (pk_div (a := n - 1) (d := 3) (by omega) (by decide) (by decide)) ?_
  exact ct_reti hQ hx hb hr hlocks hP hD hS () [(ha_, .inr (2, [.ref qx, .ref qy, .ref qa, .ref qb, .int (nI n)]))] [0] (rfl) (trivial) (rfl) rfl rfl (by omega) (by omega) d_Arc_curveCount_8
set_option maxHeartbeats 4000000 in
set_option maxRecDepth 100000 in
/-- turnRound -/
theorem c_Arc_turnRound (l : Launch) (D : va_G) (cI cB cJ : ClassId) (qQ : Nat) (ha_ : Nat) (qx : Nat) (qy : Nat) (qa : Nat) (qb : Nat) (n : Nat) (X : Nat → Int32) (Y : Nat → Int32) (hn1 : 1 ≤ n) (hn : n ≤ 124) : ct l D cl [(cI, .int), (cB, .byte), (cJ, .long)] (amb qQ) y_Arc_turnRound w_Arc_turnRound 1 25 (0) (0) [.ref ha_] [(ha_, .inr (2, [.ref qx, .ref qy, .ref qa, .ref qb, .int (nI n)])), (qx, .inl (cI, 124, .inl X)), (qy, .inl (cI, 124, .inl Y))] (fun u_ : (Nat → Int32) × (Nat → Int32) => match u_ with | (X', Y') => (∀ k, X' k = tr X 0 (n - 1) k) ∧ ∀ k, Y' k = tr Y 0 (n - 1) k) (fun u_ : (Nat → Int32) × (Nat → Int32) => match u_ with | (X', Y') => none) (fun u_ : (Nat → Int32) × (Nat → Int32) => match u_ with | (X', Y') => [(ha_, .inr (2, [.ref qx, .ref qy, .ref qa, .ref qb, .int (nI n)])), (qx, .inl (cI, 124, .inl X')), (qy, .inl (cI, 124, .inl Y'))]) := by
  refine ct_ofW (cc := b_Arc_turnRound) (maxL := 1) (ret := none) (by decide) rfl (Nat.le_of_ble_eq_true rfl) ?_
  intro p e R s m args below meth c A Q ls hx hb hr hml hts hown hlocks hname hRf hRc hRs hRl hQ hK hP hD hS hA hM hl
  have hl : lv_has ls 1 [(0, .ref ha_)] := hl
  refine lv_aload_n hx hb d_Arc_turnRound_0 rfl (lv_at hl 0 rfl) ?_
  refine va_get (D := D) (ci := 2) (v := .ref qx) (C := R_Arc) (T := T_Arc) (N := 5) hx hb hts (ui_Arc _) hown hK hP 0 rfl rfl 0 (by decide) (hts _ (gwc gw_69)) (fun _ h9 => h9) rfl d_Arc_turnRound_1 ?_
  refine lv_iconst (v := 0) hx hb d_Arc_turnRound_4 (by decide) ?_
  refine lv_aload_n hx hb d_Arc_turnRound_5 rfl (lv_at hl 0 rfl) ?_
  refine va_get (D := D) (ci := 2) (v := .int (nI n)) (C := R_Arc) (T := T_Arc) (N := 5) hx hb hts (ui_Arc _) hown hK hP 0 rfl rfl 4 (by decide) (hts _ (gwc gw_75)) (fun _ h9 => h9) rfl d_Arc_turnRound_6 ?_
  refine lv_iconst (v := 1) hx hb d_Arc_turnRound_9 (by decide) ?_
  refine lv_isub hx hb d_Arc_turnRound_10 ?_
  refine tp_i (nI (n - 1)) (pk_sub (a := n) (b := 1) (by omega)) ?_
  refine ct_callSN (av := [.ref qx, .int 0, .int (nI (n - 1))]) (rest := []) (wr := [(ha_, .inr (2, [.ref qx, .ref qy, .ref qa, .ref qb, .int (nI n)])), (qy, .inl (cI, 124, .inl Y))]) (n := 3) (c_CP_turnRow l D cI cB cJ qQ  qx 124 X 0 (n - 1) (by omega) (by omega) (by decide)) hx hb hml hown hts (amb_ok qQ) hK hP hD hS hA hM (gi_N gw_317) rfl (amb_nw_5 hM) (hts _ (gwc gw_28)) (hts _ (gwc gw_316)) (by decide +kernel) ⟨by omega, by omega⟩ [1] [0, 2] rfl rfl rfl rfl (by decide) rfl hl.1 rfl (Nat.le_of_ble_eq_true rfl) d_Arc_turnRound_11 ⟨by omega, by omega⟩ (fun u_1 H locs hok hP hD hS => ?_)
  obtain ⟨X'_2, eX'_2⟩ : ∃ z, z = u_1 := ⟨_, rfl⟩
  subst eX'_2
  have h1 : ∀ k, X'_2 k = tr X 0 (n - 1) k := hok
  have hP : va_P D cl [(ha_, .inr (2, [.ref qx, .ref qy, .ref qa, .ref qb, .int (nI n)])), (qy, .inl (cI, 124, .inl Y)), (qx, .inl (cI, 124, .inl X'_2))] H := hP
  have hD : va_D A [(ha_, .inr (2, [.ref qx, .ref qy, .ref qa, .ref qb, .int (nI n)])), (qy, .inl (cI, 124, .inl Y)), (qx, .inl (cI, 124, .inl X'_2))] := hD
  refine W.eq (g2 := F0 m 14 ls []) rfl ?_
  refine lv_aload_n hx hb d_Arc_turnRound_14 rfl (lv_at hl 0 rfl) ?_
  refine va_get (D := D) (ci := 2) (v := .ref qy) (C := R_Arc) (T := T_Arc) (N := 5) hx hb hts (ui_Arc _) hown hK hP 0 rfl rfl 1 (by decide) (hts _ (gwc gw_71)) (fun _ h9 => h9) rfl d_Arc_turnRound_15 ?_
  refine lv_iconst (v := 0) hx hb d_Arc_turnRound_18 (by decide) ?_
  refine lv_aload_n hx hb d_Arc_turnRound_19 rfl (lv_at hl 0 rfl) ?_
  refine va_get (D := D) (ci := 2) (v := .int (nI n)) (C := R_Arc) (T := T_Arc) (N := 5) hx hb hts (ui_Arc _) hown hK hP 0 rfl rfl 4 (by decide) (hts _ (gwc gw_75)) (fun _ h9 => h9) rfl d_Arc_turnRound_20 ?_
  refine lv_iconst (v := 1) hx hb d_Arc_turnRound_23 (by decide) ?_
  refine lv_isub hx hb d_Arc_turnRound_24 ?_
  refine tp_i (nI (n - 1)) (pk_sub (a := n) (b := 1) (by omega)) ?_
  refine ct_callSN (av := [.ref qy, .int 0, .int (nI (n - 1))]) (rest := []) (wr := [(ha_, .inr (2, [.ref qx, .ref qy, .ref qa, .ref qb, .int (nI n)])), (qx, .inl (cI, 124, .inl X'_2))]) (n := 3) (c_CP_turnRow l D cI cB cJ qQ  qy 124 Y 0 (n - 1) (by omega) (by omega) (by decide)) hx hb hml hown hts (amb_ok qQ) hK hP hD hS hA hM (gi_N gw_317) rfl (amb_nw_5 hM) (hts _ (gwc gw_28)) (hts _ (gwc gw_316)) (by decide +kernel) ⟨by omega, by omega⟩ [1] [0, 2] rfl rfl rfl rfl (by decide) rfl hl.1 rfl (Nat.le_of_ble_eq_true rfl) d_Arc_turnRound_25 ⟨by omega, by omega⟩ (fun u_3 H locs hok hP hD hS => ?_)
  obtain ⟨X'_4, eX'_4⟩ : ∃ z, z = u_3 := ⟨_, rfl⟩
  subst eX'_4
  have h2 : ∀ k, X'_4 k = tr Y 0 (n - 1) k := hok
  have hP : va_P D cl [(ha_, .inr (2, [.ref qx, .ref qy, .ref qa, .ref qb, .int (nI n)])), (qx, .inl (cI, 124, .inl X'_2)), (qy, .inl (cI, 124, .inl X'_4))] H := hP
  have hD : va_D A [(ha_, .inr (2, [.ref qx, .ref qy, .ref qa, .ref qb, .int (nI n)])), (qx, .inl (cI, 124, .inl X'_2)), (qy, .inl (cI, 124, .inl X'_4))] := hD
  refine W.eq (g2 := F0 m 28 ls []) rfl ?_
  exact ct_retv hQ hx hb hr hlocks hP hD hS (X'_2, X'_4) [(ha_, .inr (2, [.ref qx, .ref qy, .ref qa, .ref qb, .int (nI n)])), (qx, .inl (cI, 124, .inl X'_2)), (qy, .inl (cI, 124, .inl X'_4))] [0, 1, 2] (rfl) (⟨h1, h2⟩) (rfl) rfl rfl (by omega) (by omega) d_Arc_turnRound_28
set_option maxHeartbeats 40000000 in
set_option maxRecDepth 100000 in
/-- reckon -/
theorem c_Arc_reckon (l : Launch) (D : va_G) (cI cB cJ : ClassId) (qQ : Nat) (ha_ : Nat) (qx : Nat) (qy : Nat) (qa : Nat) (qb : Nat) (n : Nat) (X : Nat → Int32) (Y : Nat → Int32) (a0 : Int32) (a1 : Int32) (a2 : Int32) (a3 : Int32) (b0 : Int32) (b1 : Int32) (b2 : Int32) (b3 : Int32) (lo : Int64) (hi_ : Int64)  : ct l D cl [(cI, .int), (cB, .byte), (cJ, .long)] (amb qQ) y_Arc_reckon w_Arc_reckon 3 73 (0) (0) [.ref ha_, .long lo, .long hi_] [(ha_, .inr (2, [.ref qx, .ref qy, .ref qa, .ref qb, .int (nI n)])), (qx, .inl (cI, 124, .inl X)), (qy, .inl (cI, 124, .inl Y)), (qa, .inl (cI, 4, .inl (j4 a0 a1 a2 a3))), (qb, .inl (cI, 4, .inl (j4 b0 b1 b2 b3)))] (fun u_ : Nat × (Nat → Int32) × (Nat → Int32) × Int32 × Int32 × Int32 × Int32 × Int32 × Int32 × Int32 × Int32 => match u_ with | (n', X', Y', a0', a1', a2', a3', b0', b1', b2', b3') => n' ≤ 124 ∧ plst n' X' Y' = reck lo hi_) (fun u_ : Nat × (Nat → Int32) × (Nat → Int32) × Int32 × Int32 × Int32 × Int32 × Int32 × Int32 × Int32 × Int32 => match u_ with | (n', X', Y', a0', a1', a2', a3', b0', b1', b2', b3') => none) (fun u_ : Nat × (Nat → Int32) × (Nat → Int32) × Int32 × Int32 × Int32 × Int32 × Int32 × Int32 × Int32 × Int32 => match u_ with | (n', X', Y', a0', a1', a2', a3', b0', b1', b2', b3') => [(ha_, .inr (2, [.ref qx, .ref qy, .ref qa, .ref qb, .int (nI n')])), (qx, .inl (cI, 124, .inl X')), (qy, .inl (cI, 124, .inl Y')), (qa, .inl (cI, 4, .inl (j4 a0' a1' a2' a3'))), (qb, .inl (cI, 4, .inl (j4 b0' b1' b2' b3')))]) := by
  refine ct_ofW (cc := b_Arc_reckon) (maxL := 16) (ret := none) (by decide) rfl (Nat.le_of_ble_eq_true rfl) ?_
  intro p e R s m args below meth c A Q ls hx hb hr hml hts hown hlocks hname hRf hRc hRs hRl hQ hK hP hD hS hA hM hl
  have hl : lv_has ls 16 [(0, .ref ha_), (1, .long lo), (3, .long hi_)] := hl
  refine lv_lload_n hx hb d_Arc_reckon_0 rfl (lv_at hl 1 rfl) ?_
  refine lv_ldc2 (v := 5898240) hx hb hown (hts _ (gwc gw_263)) d_Arc_reckon_1 ?_
  refine ct_callS (av := [.long lo, .long 5898240]) (rest := []) (wr := [(ha_, .inr (2, [.ref qx, .ref qy, .ref qa, .ref qb, .int (nI n)])), (qx, .inl (cI, 124, .inl X)), (qy, .inl (cI, 124, .inl Y)), (qa, .inl (cI, 4, .inl (j4 a0 a1 a2 a3))), (qb, .inl (cI, 4, .inl (j4 b0 b1 b2 b3)))]) (n := 2) (c_floorDiv l D cI cB cJ qQ  lo 5898240 (by decide)) hx hb hml hown hts (amb_ok qQ) hK hP hD hS hA hM (gi_S gw_264 gw_265 gw_35 gw_266) rfl (by decide +kernel) ⟨by omega, by omega⟩ [] [0, 1, 2, 3, 4] rfl rfl rfl rfl (by decide) rfl hl.1 rfl (Nat.le_of_ble_eq_true rfl) d_Arc_reckon_4 ⟨by omega, by omega⟩ (fun u_1 H locs hok hP hD hS => ?_)
  have hP : va_P D cl [(ha_, .inr (2, [.ref qx, .ref qy, .ref qa, .ref qb, .int (nI n)])), (qx, .inl (cI, 124, .inl X)), (qy, .inl (cI, 124, .inl Y)), (qa, .inl (cI, 4, .inl (j4 a0 a1 a2 a3))), (qb, .inl (cI, 4, .inl (j4 b0 b1 b2 b3)))] H := hP
  have hD : va_D A [(ha_, .inr (2, [.ref qx, .ref qy, .ref qa, .ref qb, .int (nI n)])), (qx, .inl (cI, 124, .inl X)), (qy, .inl (cI, 124, .inl Y)), (qa, .inl (cI, 4, .inl (j4 a0 a1 a2 a3))), (qb, .inl (cI, 4, .inl (j4 b0 b1 b2 b3)))] := hD
  refine W.eq (g2 := F0 m 7 ls [.long (fdv lo 5898240)]) rfl ?_
  refine lv_topl (fun fq efq => ?_)
  refine lv_lstore (lv' := [(5, .long fq), (0, .ref ha_), (1, .long lo), (3, .long hi_)]) hx hb d_Arc_reckon_7 hl (by decide) rfl (fun ls hl => ?_)
  refine lv_lload_n hx hb d_Arc_reckon_9 rfl (lv_at hl 3 rfl) ?_
  refine lv_ldc2 (v := 5898240) hx hb hown (hts _ (gwc gw_263)) d_Arc_reckon_10 ?_
  refine ct_callS (av := [.long hi_, .long 5898240]) (rest := []) (wr := [(ha_, .inr (2, [.ref qx, .ref qy, .ref qa, .ref qb, .int (nI n)])), (qx, .inl (cI, 124, .inl X)), (qy, .inl (cI, 124, .inl Y)), (qa, .inl (cI, 4, .inl (j4 a0 a1 a2 a3))), (qb, .inl (cI, 4, .inl (j4 b0 b1 b2 b3)))]) (n := 2) (c_floorDiv l D cI cB cJ qQ  hi_ 5898240 (by decide)) hx hb hml hown hts (amb_ok qQ) hK hP hD hS hA hM (gi_S gw_264 gw_265 gw_35 gw_266) rfl (by decide +kernel) ⟨by omega, by omega⟩ [] [0, 1, 2, 3, 4] rfl rfl rfl rfl (by decide) rfl hl.1 rfl (Nat.le_of_ble_eq_true rfl) d_Arc_reckon_13 ⟨by omega, by omega⟩ (fun u_2 H locs hok hP hD hS => ?_)
  have hP : va_P D cl [(ha_, .inr (2, [.ref qx, .ref qy, .ref qa, .ref qb, .int (nI n)])), (qx, .inl (cI, 124, .inl X)), (qy, .inl (cI, 124, .inl Y)), (qa, .inl (cI, 4, .inl (j4 a0 a1 a2 a3))), (qb, .inl (cI, 4, .inl (j4 b0 b1 b2 b3)))] H := hP
  have hD : va_D A [(ha_, .inr (2, [.ref qx, .ref qy, .ref qa, .ref qb, .int (nI n)])), (qx, .inl (cI, 124, .inl X)), (qy, .inl (cI, 124, .inl Y)), (qa, .inl (cI, 4, .inl (j4 a0 a1 a2 a3))), (qb, .inl (cI, 4, .inl (j4 b0 b1 b2 b3)))] := hD
  refine W.eq (g2 := F0 m 16 ls [.long (fdv hi_ 5898240)]) rfl ?_
  refine lv_topl (fun lq elq => ?_)
  refine lv_lstore (lv' := [(7, .long lq), (5, .long fq), (0, .ref ha_), (1, .long lo), (3, .long hi_)]) hx hb d_Arc_reckon_16 hl (by decide) rfl (fun ls hl => ?_)
  refine lv_lload hx hb d_Arc_reckon_18 (lv_at hl 1 rfl) ?_
  refine lv_lload_n hx hb d_Arc_reckon_20 rfl (lv_at hl 3 rfl) ?_
  refine ct_callS (av := [.long fq, .long lo]) (rest := []) (wr := [(ha_, .inr (2, [.ref qx, .ref qy, .ref qa, .ref qb, .int (nI n)])), (qx, .inl (cI, 124, .inl X)), (qy, .inl (cI, 124, .inl Y)), (qa, .inl (cI, 4, .inl (j4 a0 a1 a2 a3))), (qb, .inl (cI, 4, .inl (j4 b0 b1 b2 b3)))]) (n := 2) (c_Arc_placeIn l D cI cB cJ qQ  fq lo ) hx hb hml hown hts (amb_ok qQ) hK hP hD hS hA hM (gi_S gw_267 gw_268 gw_30 gw_269) rfl (by decide +kernel) ⟨by omega, by omega⟩ [] [0, 1, 2, 3, 4] rfl rfl rfl rfl (by decide) rfl hl.1 rfl (Nat.le_of_ble_eq_true rfl) d_Arc_reckon_21 ⟨by omega, by omega⟩ (fun u_3 H locs hok hP hD hS => ?_)
  have hP : va_P D cl [(ha_, .inr (2, [.ref qx, .ref qy, .ref qa, .ref qb, .int (nI n)])), (qx, .inl (cI, 124, .inl X)), (qy, .inl (cI, 124, .inl Y)), (qa, .inl (cI, 4, .inl (j4 a0 a1 a2 a3))), (qb, .inl (cI, 4, .inl (j4 b0 b1 b2 b3)))] H := hP
  have hD : va_D A [(ha_, .inr (2, [.ref qx, .ref qy, .ref qa, .ref qb, .int (nI n)])), (qx, .inl (cI, 124, .inl X)), (qy, .inl (cI, 124, .inl Y)), (qa, .inl (cI, 4, .inl (j4 a0 a1 a2 a3))), (qb, .inl (cI, 4, .inl (j4 b0 b1 b2 b3)))] := hD
  refine W.eq (g2 := F0 m 24 ls [.int (plI fq lo)]) rfl ?_
  refine lv_topi (fun bg ebg => ?_)
  refine lv_istore (lv' := [(9, .int bg), (7, .long lq), (5, .long fq), (0, .ref ha_), (1, .long lo), (3, .long hi_)]) hx hb d_Arc_reckon_24 hl (by decide) rfl (fun ls hl => ?_)
  refine lv_lload hx hb d_Arc_reckon_26 (lv_at hl 1 rfl) ?_
  refine lv_lload_n hx hb d_Arc_reckon_28 rfl (lv_at hl 5 rfl) ?_
  refine ct_callS (av := [.long lq, .long hi_]) (rest := []) (wr := [(ha_, .inr (2, [.ref qx, .ref qy, .ref qa, .ref qb, .int (nI n)])), (qx, .inl (cI, 124, .inl X)), (qy, .inl (cI, 124, .inl Y)), (qa, .inl (cI, 4, .inl (j4 a0 a1 a2 a3))), (qb, .inl (cI, 4, .inl (j4 b0 b1 b2 b3)))]) (n := 2) (c_Arc_placeIn l D cI cB cJ qQ  lq hi_ ) hx hb hml hown hts (amb_ok qQ) hK hP hD hS hA hM (gi_S gw_267 gw_268 gw_30 gw_269) rfl (by decide +kernel) ⟨by omega, by omega⟩ [] [0, 1, 2, 3, 4] rfl rfl rfl rfl (by decide) rfl hl.1 rfl (Nat.le_of_ble_eq_true rfl) d_Arc_reckon_29 ⟨by omega, by omega⟩ (fun u_4 H locs hok hP hD hS => ?_)
  have hP : va_P D cl [(ha_, .inr (2, [.ref qx, .ref qy, .ref qa, .ref qb, .int (nI n)])), (qx, .inl (cI, 124, .inl X)), (qy, .inl (cI, 124, .inl Y)), (qa, .inl (cI, 4, .inl (j4 a0 a1 a2 a3))), (qb, .inl (cI, 4, .inl (j4 b0 b1 b2 b3)))] H := hP
  have hD : va_D A [(ha_, .inr (2, [.ref qx, .ref qy, .ref qa, .ref qb, .int (nI n)])), (qx, .inl (cI, 124, .inl X)), (qy, .inl (cI, 124, .inl Y)), (qa, .inl (cI, 4, .inl (j4 a0 a1 a2 a3))), (qb, .inl (cI, 4, .inl (j4 b0 b1 b2 b3)))] := hD
  refine W.eq (g2 := F0 m 32 ls [.int (plI lq hi_)]) rfl ?_
  refine lv_topi (fun en een => ?_)
  refine lv_istore (lv' := [(10, .int en), (9, .int bg), (7, .long lq), (5, .long fq), (0, .ref ha_), (1, .long lo), (3, .long hi_)]) hx hb d_Arc_reckon_32 hl (by decide) rfl (fun ls hl => ?_)
  refine lv_aload_n hx hb d_Arc_reckon_34 rfl (lv_at hl 4 rfl) ?_
  refine lv_iconst (v := 0) hx hb d_Arc_reckon_35 (by decide) ?_
  refine va_put (D := D) (ci := 2) (v := .int 0) (ty := .int) (C := R_Arc) (T := T_Arc) (N := 5) hx hb hts (ui_Arc _) t_Arc tk_Arc nk_Arc hown hK hP hD hS 0 rfl rfl 4 (by decide) (hts _ (gwc gw_75)) (fun _ h9 => h9) rfl (by decide +kernel) rfl rfl (Nat.le_of_ble_eq_true rfl) d_Arc_reckon_36 (fun H locs hP hD hS => ?_)
  have hP : va_P D cl [(ha_, .inr (2, [.ref qx, .ref qy, .ref qa, .ref qb, .int 0])), (qx, .inl (cI, 124, .inl X)), (qy, .inl (cI, 124, .inl Y)), (qa, .inl (cI, 4, .inl (j4 a0 a1 a2 a3))), (qb, .inl (cI, 4, .inl (j4 b0 b1 b2 b3)))] H := hP
  have hD : va_D A [(ha_, .inr (2, [.ref qx, .ref qy, .ref qa, .ref qb, .int 0])), (qx, .inl (cI, 124, .inl X)), (qy, .inl (cI, 124, .inl Y)), (qa, .inl (cI, 4, .inl (j4 a0 a1 a2 a3))), (qb, .inl (cI, 4, .inl (j4 b0 b1 b2 b3)))] := hD
  obtain ⟨RES, hRES⟩ : ∃ r, r = recL fq lq bg en 41 0 [] := ⟨_, rfl⟩
  have hD0 : reck lo hi_ = recE fq bg RES := by rw [hRES, ebg, een, efq, elq]; rfl
  refine lv_iconst (v := 0) hx hb d_Arc_reckon_39 (by decide) ?_
  refine lv_istore (lv' := [(11, .int 0), (10, .int en), (9, .int bg), (7, .long lq), (5, .long fq), (0, .ref ha_), (1, .long lo), (3, .long hi_)]) hx hb d_Arc_reckon_40 hl (by decide) rfl (fun ls hl => ?_)
  have L_42 : ∀ (n_ : Nat) (i : Nat) (n : Nat) (X : Nat → Int32) (Y : Nat → Int32) (a0 : Int32) (a1 : Int32) (a2 : Int32) (a3 : Int32) (b0 : Int32) (b1 : Int32) (b2 : Int32) (b3 : Int32), 41 - i < n_ → (i ≤ 41) → (n ≤ 124) → (recL fq lq bg en (41 - i) i (plst n X Y) = RES) → ∀ (H : Heap) (locs : List Loc) (ls : Array Slot), va_P D cl [(ha_, .inr (2, [.ref qx, .ref qy, .ref qa, .ref qb, .int (nI n)])), (qx, .inl (cI, 124, .inl X)), (qy, .inl (cI, 124, .inl Y)), (qa, .inl (cI, 4, .inl (j4 a0 a1 a2 a3))), (qb, .inl (cI, 4, .inl (j4 b0 b1 b2 b3)))] H → va_D A [(ha_, .inr (2, [.ref qx, .ref qy, .ref qa, .ref qb, .int (nI n)])), (qx, .inl (cI, 124, .inl X)), (qy, .inl (cI, 124, .inl Y)), (qa, .inl (cI, 4, .inl (j4 a0 a1 a2 a3))), (qb, .inl (cI, 4, .inl (j4 b0 b1 b2 b3)))] → va_S A s.heap H locs → lv_has ls 16 [(0, .ref ha_), (1, .long lo), (3, .long hi_), (5, .long fq), (7, .long lq), (9, .int bg), (10, .int en), (11, .int (nI i))] → W p l e R s m args below meth c H locs (0) (0) Q (F0 m 42 ls []) := by
    intro n_
    induction n_ with
    | zero => intro i n X Y a0 a1 a2 a3 b0 b1 b2 b3 hm_; exact absurd hm_ (Nat.not_lt_zero _)
    | succ n_ ih_42 =>
      intro i n X Y a0 a1 a2 a3 b0 b1 b2 b3 hm_ hi41 hn hR H locs ls hP hD hS hl
      refine lv_iload hx hb d_Arc_reckon_42 (lv_at hl 7 rfl) ?_
      refine lv_bipush (v := 41) hx hb d_Arc_reckon_44 (by decide) ?_
      refine bn_ge (a1 := i) (b1 := 41) (tgt := 126) hx hb (by omega) (by omega) d_Arc_reckon_46 (by decide) (fun c_5 => ?_) (fun c_5 => ?_)
      · skip
        rw [recL_e (Or.inl c_5)] at hR
        rw [← hR] at hD0
        refine lv_aload_n hx hb d_Arc_reckon_126 rfl (lv_at hl 0 rfl) ?_
        refine va_get (D := D) (ci := 2) (v := .int (nI n)) (C := R_Arc) (T := T_Arc) (N := 5) hx hb hts (ui_Arc _) hown hK hP 0 rfl rfl 4 (by decide) (hts _ (gwc gw_75)) (fun _ h9 => h9) rfl d_Arc_reckon_127 ?_
        refine bz_ne (a1 := n) (tgt := 161) hx hb (by omega) d_Arc_reckon_130 (by decide) (fun c_6 => ?_) (fun c_6 => ?_)
        · skip
          exact ct_retv hQ hx hb hr hlocks hP hD hS (n, X, Y, a0, a1, a2, a3, b0, b1, b2, b3) [(ha_, .inr (2, [.ref qx, .ref qy, .ref qa, .ref qb, .int (nI n)])), (qx, .inl (cI, 124, .inl X)), (qy, .inl (cI, 124, .inl Y)), (qa, .inl (cI, 4, .inl (j4 a0 a1 a2 a3))), (qb, .inl (cI, 4, .inl (j4 b0 b1 b2 b3)))] [0, 1, 2, 3, 4] (rfl) (⟨hn, by rw [hD0, recE, if_neg (by rw [plst_len]; omega)]⟩) (rfl) rfl rfl (by omega) (by omega) d_Arc_reckon_161
        · skip
          refine lv_aload_n hx hb d_Arc_reckon_133 rfl (lv_at hl 0 rfl) ?_
          refine lv_lload hx hb d_Arc_reckon_134 (lv_at hl 3 rfl) ?_
          refine ct_callV (ci := 2) (q0 := 0) (As := [.long fq]) (rest := []) (wr := [(qx, .inl (cI, 124, .inl X)), (qy, .inl (cI, 124, .inl Y))]) (n := 1) (c_Arc_takeQuarter l D cI cB cJ qQ  ha_ qx qy qa qb n a0 a1 a2 a3 b0 b1 b2 b3 fq ) hx hb hml hown hts (amb_ok qQ) hK hP hD hS hA hM (gi_V gw_277 gw_279 gw_3 gw_30 gw_280) rfl (by decide +kernel) ⟨by omega, by omega⟩ [0, 3, 4] [1, 2] rfl rfl rfl rfl (by decide) rfl rfl rfl hl.1 rfl (Nat.le_of_ble_eq_true rfl) d_Arc_reckon_136 ⟨by omega, by omega⟩ (fun u_7 H locs hok hP hD hS => ?_)
          obtain ⟨a0'_8, a1'_9, a2'_10, a3'_11, b0'_12, b1'_13, b2'_14, b3'_15⟩ := u_7
          have htq : (a0'_8, a1'_9, a2'_10, a3'_11) = qa4 (fmd fq 4) ∧ (b0'_12, b1'_13, b2'_14, b3'_15) = qb4 (fmd fq 4) := hok
          have hP : va_P D cl [(qx, .inl (cI, 124, .inl X)), (qy, .inl (cI, 124, .inl Y)), (ha_, .inr (2, [.ref qx, .ref qy, .ref qa, .ref qb, .int (nI n)])), (qa, .inl (cI, 4, .inl (j4 a0'_8 a1'_9 a2'_10 a3'_11))), (qb, .inl (cI, 4, .inl (j4 b0'_12 b1'_13 b2'_14 b3'_15)))] H := hP
          have hD : va_D A [(qx, .inl (cI, 124, .inl X)), (qy, .inl (cI, 124, .inl Y)), (ha_, .inr (2, [.ref qx, .ref qy, .ref qa, .ref qb, .int (nI n)])), (qa, .inl (cI, 4, .inl (j4 a0'_8 a1'_9 a2'_10 a3'_11))), (qb, .inl (cI, 4, .inl (j4 b0'_12 b1'_13 b2'_14 b3'_15)))] := hD
          refine W.eq (g2 := F0 m 139 ls []) rfl ?_
          refine lv_aload_n hx hb d_Arc_reckon_139 rfl (lv_at hl 0 rfl) ?_
          refine lv_iload hx hb d_Arc_reckon_140 (lv_at hl 5 rfl) ?_
          refine ct_callV (ci := 2) (q0 := 2) (As := [.int bg]) (rest := []) (wr := [(qx, .inl (cI, 124, .inl X)), (qy, .inl (cI, 124, .inl Y))]) (n := 1) (c_Arc_keepBehind l D cI cB cJ qQ  ha_ qx qy qa qb n a0'_8 a1'_9 a2'_10 a3'_11 b0'_12 b1'_13 b2'_14 b3'_15 bg ) hx hb hml hown hts (amb_ok qQ) hK hP hD hS hA hM (gi_V gw_299 gw_301 gw_6 gw_30 gw_302) rfl (by decide +kernel) ⟨by omega, by omega⟩ [2, 3, 4] [0, 1] rfl rfl rfl rfl (by decide) rfl rfl rfl hl.1 rfl (Nat.le_of_ble_eq_true rfl) d_Arc_reckon_142 ⟨by omega, by omega⟩ (fun u_16 H locs hok hP hD hS => ?_)
          have hP : va_P D cl [(qx, .inl (cI, 124, .inl X)), (qy, .inl (cI, 124, .inl Y)), (ha_, .inr (2, [.ref qx, .ref qy, .ref qa, .ref qb, .int (nI n)])), (qa, .inl (cI, 4, .inl (j4 (my3 a0'_8 a1'_9 a2'_10 a3'_11 bg) (my2 a1'_9 a2'_10 a3'_11 bg) (mixI a2'_10 a3'_11 bg) a3'_11))), (qb, .inl (cI, 4, .inl (j4 (my3 b0'_12 b1'_13 b2'_14 b3'_15 bg) (my2 b1'_13 b2'_14 b3'_15 bg) (mixI b2'_14 b3'_15 bg) b3'_15)))] H := hP
          have hD : va_D A [(qx, .inl (cI, 124, .inl X)), (qy, .inl (cI, 124, .inl Y)), (ha_, .inr (2, [.ref qx, .ref qy, .ref qa, .ref qb, .int (nI n)])), (qa, .inl (cI, 4, .inl (j4 (my3 a0'_8 a1'_9 a2'_10 a3'_11 bg) (my2 a1'_9 a2'_10 a3'_11 bg) (mixI a2'_10 a3'_11 bg) a3'_11))), (qb, .inl (cI, 4, .inl (j4 (my3 b0'_12 b1'_13 b2'_14 b3'_15 bg) (my2 b1'_13 b2'_14 b3'_15 bg) (mixI b2'_14 b3'_15 bg) b3'_15)))] := hD
          refine W.eq (g2 := F0 m 145 ls []) rfl ?_
          refine lv_aload_n hx hb d_Arc_reckon_145 rfl (lv_at hl 0 rfl) ?_
          refine lv_aload_n hx hb d_Arc_reckon_146 rfl (lv_at hl 0 rfl) ?_
          refine va_get (D := D) (ci := 2) (v := .ref qa) (C := R_Arc) (T := T_Arc) (N := 5) hx hb hts (ui_Arc _) hown hK hP 2 rfl rfl 2 (by decide) (hts _ (gwc gw_73)) (fun _ h9 => h9) rfl d_Arc_reckon_147 ?_
          refine lv_iconst (v := 0) hx hb d_Arc_reckon_150 (by decide) ?_
          refine ld_i hx hb hK hP 3 0 rfl rfl 0 (by omega) (by omega) d_Arc_reckon_151 ?_
          refine tp_i (my3 a0'_8 a1'_9 a2'_10 a3'_11 bg) (rfl) ?_
          refine lv_aload_n hx hb d_Arc_reckon_152 rfl (lv_at hl 0 rfl) ?_
          refine va_get (D := D) (ci := 2) (v := .ref qb) (C := R_Arc) (T := T_Arc) (N := 5) hx hb hts (ui_Arc _) hown hK hP 2 rfl rfl 3 (by decide) (hts _ (gwc gw_74)) (fun _ h9 => h9) rfl d_Arc_reckon_153 ?_
          refine lv_iconst (v := 0) hx hb d_Arc_reckon_156 (by decide) ?_
          refine ld_i hx hb hK hP 4 0 rfl rfl 0 (by omega) (by omega) d_Arc_reckon_157 ?_
          refine tp_i (my3 b0'_12 b1'_13 b2'_14 b3'_15 bg) (rfl) ?_
          refine ct_callV (ci := 2) (q0 := 2) (As := [.int (my3 a0'_8 a1'_9 a2'_10 a3'_11 bg), .int (my3 b0'_12 b1'_13 b2'_14 b3'_15 bg)]) (rest := []) (wr := [(qa, .inl (cI, 4, .inl (j4 (my3 a0'_8 a1'_9 a2'_10 a3'_11 bg) (my2 a1'_9 a2'_10 a3'_11 bg) (mixI a2'_10 a3'_11 bg) a3'_11))), (qb, .inl (cI, 4, .inl (j4 (my3 b0'_12 b1'_13 b2'_14 b3'_15 bg) (my2 b1'_13 b2'_14 b3'_15 bg) (mixI b2'_14 b3'_15 bg) b3'_15)))]) (n := 2) (c_Arc_addPoint l D cI cB cJ qQ  ha_ qx qy qa qb n X Y (my3 a0'_8 a1'_9 a2'_10 a3'_11 bg) (my3 b0'_12 b1'_13 b2'_14 b3'_15 bg) (hn)) hx hb hml hown hts (amb_ok qQ) hK hP hD hS hA hM (gi_V gw_307 gw_309 gw_8 gw_30 gw_310) rfl (by decide +kernel) ⟨by omega, by omega⟩ [2, 0, 1] [3, 4] rfl rfl rfl rfl (by decide) rfl rfl rfl hl.1 rfl (Nat.le_of_ble_eq_true rfl) d_Arc_reckon_158 ⟨by omega, by omega⟩ (fun u_17 H locs hok hP hD hS => ?_)
          obtain ⟨n'_18, X'_19, Y'_20⟩ := u_17
          have hap : n'_18 ≤ 124 ∧ plst n'_18 X'_19 Y'_20 = apP (plst n X Y) ((my3 a0'_8 a1'_9 a2'_10 a3'_11 bg), (my3 b0'_12 b1'_13 b2'_14 b3'_15 bg)) := hok
          have hP : va_P D cl [(qa, .inl (cI, 4, .inl (j4 (my3 a0'_8 a1'_9 a2'_10 a3'_11 bg) (my2 a1'_9 a2'_10 a3'_11 bg) (mixI a2'_10 a3'_11 bg) a3'_11))), (qb, .inl (cI, 4, .inl (j4 (my3 b0'_12 b1'_13 b2'_14 b3'_15 bg) (my2 b1'_13 b2'_14 b3'_15 bg) (mixI b2'_14 b3'_15 bg) b3'_15))), (ha_, .inr (2, [.ref qx, .ref qy, .ref qa, .ref qb, .int (nI n'_18)])), (qx, .inl (cI, 124, .inl X'_19)), (qy, .inl (cI, 124, .inl Y'_20))] H := hP
          have hD : va_D A [(qa, .inl (cI, 4, .inl (j4 (my3 a0'_8 a1'_9 a2'_10 a3'_11 bg) (my2 a1'_9 a2'_10 a3'_11 bg) (mixI a2'_10 a3'_11 bg) a3'_11))), (qb, .inl (cI, 4, .inl (j4 (my3 b0'_12 b1'_13 b2'_14 b3'_15 bg) (my2 b1'_13 b2'_14 b3'_15 bg) (mixI b2'_14 b3'_15 bg) b3'_15))), (ha_, .inr (2, [.ref qx, .ref qy, .ref qa, .ref qb, .int (nI n'_18)])), (qx, .inl (cI, 124, .inl X'_19)), (qy, .inl (cI, 124, .inl Y'_20))] := hD
          refine W.eq (g2 := F0 m 161 ls []) rfl ?_
          exact ct_retv hQ hx hb hr hlocks hP hD hS (n'_18, X'_19, Y'_20, my3 a0'_8 a1'_9 a2'_10 a3'_11 bg, my2 a1'_9 a2'_10 a3'_11 bg, mixI a2'_10 a3'_11 bg, a3'_11, my3 b0'_12 b1'_13 b2'_14 b3'_15 bg, my2 b1'_13 b2'_14 b3'_15 bg, mixI b2'_14 b3'_15 bg, b3'_15) [(ha_, .inr (2, [.ref qx, .ref qy, .ref qa, .ref qb, .int (nI n'_18)])), (qx, .inl (cI, 124, .inl X'_19)), (qy, .inl (cI, 124, .inl Y'_20)), (qa, .inl (cI, 4, .inl (j4 (my3 a0'_8 a1'_9 a2'_10 a3'_11 bg) (my2 a1'_9 a2'_10 a3'_11 bg) (mixI a2'_10 a3'_11 bg) a3'_11))), (qb, .inl (cI, 4, .inl (j4 (my3 b0'_12 b1'_13 b2'_14 b3'_15 bg) (my2 b1'_13 b2'_14 b3'_15 bg) (mixI b2'_14 b3'_15 bg) b3'_15)))] [2, 3, 4, 0, 1] (rfl) (⟨hap.1, by rw [hap.2, hD0, recE, if_pos (by rw [plst_len]; exact c_6), ← htq.1, ← htq.2]; rfl⟩) (rfl) rfl rfl (by omega) (by omega) d_Arc_reckon_161
      · skip
        refine lv_lload hx hb d_Arc_reckon_49 (lv_at hl 3 rfl) ?_
        refine lv_iload hx hb d_Arc_reckon_51 (lv_at hl 7 rfl) ?_
        refine lv_i2l (v := (nI i).toInt64) hx hb d_Arc_reckon_53 rfl ?_
        refine lv_ladd hx hb d_Arc_reckon_54 ?_
        refine lv_lload hx hb d_Arc_reckon_55 (lv_at hl 4 rfl) ?_
        refine W.lcmp hx hb d_Arc_reckon_57 ?_
        refine lc_gt (tgt := 126) hx hb d_Arc_reckon_58 (by decide) (fun c_21 => ?_) (fun c_21 => ?_)
        · skip
          rw [recL_e (Or.inr c_21)] at hR
          rw [← hR] at hD0
          refine lv_aload_n hx hb d_Arc_reckon_126 rfl (lv_at hl 0 rfl) ?_
          refine va_get (D := D) (ci := 2) (v := .int (nI n)) (C := R_Arc) (T := T_Arc) (N := 5) hx hb hts (ui_Arc _) hown hK hP 0 rfl rfl 4 (by decide) (hts _ (gwc gw_75)) (fun _ h9 => h9) rfl d_Arc_reckon_127 ?_
          refine bz_ne (a1 := n) (tgt := 161) hx hb (by omega) d_Arc_reckon_130 (by decide) (fun c_22 => ?_) (fun c_22 => ?_)
          · skip
            exact ct_retv hQ hx hb hr hlocks hP hD hS (n, X, Y, a0, a1, a2, a3, b0, b1, b2, b3) [(ha_, .inr (2, [.ref qx, .ref qy, .ref qa, .ref qb, .int (nI n)])), (qx, .inl (cI, 124, .inl X)), (qy, .inl (cI, 124, .inl Y)), (qa, .inl (cI, 4, .inl (j4 a0 a1 a2 a3))), (qb, .inl (cI, 4, .inl (j4 b0 b1 b2 b3)))] [0, 1, 2, 3, 4] (rfl) (⟨hn, by rw [hD0, recE, if_neg (by rw [plst_len]; omega)]⟩) (rfl) rfl rfl (by omega) (by omega) d_Arc_reckon_161
          · skip
            refine lv_aload_n hx hb d_Arc_reckon_133 rfl (lv_at hl 0 rfl) ?_
            refine lv_lload hx hb d_Arc_reckon_134 (lv_at hl 3 rfl) ?_
            refine ct_callV (ci := 2) (q0 := 0) (As := [.long fq]) (rest := []) (wr := [(qx, .inl (cI, 124, .inl X)), (qy, .inl (cI, 124, .inl Y))]) (n := 1) (c_Arc_takeQuarter l D cI cB cJ qQ  ha_ qx qy qa qb n a0 a1 a2 a3 b0 b1 b2 b3 fq ) hx hb hml hown hts (amb_ok qQ) hK hP hD hS hA hM (gi_V gw_277 gw_279 gw_3 gw_30 gw_280) rfl (by decide +kernel) ⟨by omega, by omega⟩ [0, 3, 4] [1, 2] rfl rfl rfl rfl (by decide) rfl rfl rfl hl.1 rfl (Nat.le_of_ble_eq_true rfl) d_Arc_reckon_136 ⟨by omega, by omega⟩ (fun u_23 H locs hok hP hD hS => ?_)
            obtain ⟨a0'_24, a1'_25, a2'_26, a3'_27, b0'_28, b1'_29, b2'_30, b3'_31⟩ := u_23
            have htq : (a0'_24, a1'_25, a2'_26, a3'_27) = qa4 (fmd fq 4) ∧ (b0'_28, b1'_29, b2'_30, b3'_31) = qb4 (fmd fq 4) := hok
            have hP : va_P D cl [(qx, .inl (cI, 124, .inl X)), (qy, .inl (cI, 124, .inl Y)), (ha_, .inr (2, [.ref qx, .ref qy, .ref qa, .ref qb, .int (nI n)])), (qa, .inl (cI, 4, .inl (j4 a0'_24 a1'_25 a2'_26 a3'_27))), (qb, .inl (cI, 4, .inl (j4 b0'_28 b1'_29 b2'_30 b3'_31)))] H := hP
            have hD : va_D A [(qx, .inl (cI, 124, .inl X)), (qy, .inl (cI, 124, .inl Y)), (ha_, .inr (2, [.ref qx, .ref qy, .ref qa, .ref qb, .int (nI n)])), (qa, .inl (cI, 4, .inl (j4 a0'_24 a1'_25 a2'_26 a3'_27))), (qb, .inl (cI, 4, .inl (j4 b0'_28 b1'_29 b2'_30 b3'_31)))] := hD
            refine W.eq (g2 := F0 m 139 ls []) rfl ?_
            refine lv_aload_n hx hb d_Arc_reckon_139 rfl (lv_at hl 0 rfl) ?_
            refine lv_iload hx hb d_Arc_reckon_140 (lv_at hl 5 rfl) ?_
            refine ct_callV (ci := 2) (q0 := 2) (As := [.int bg]) (rest := []) (wr := [(qx, .inl (cI, 124, .inl X)), (qy, .inl (cI, 124, .inl Y))]) (n := 1) (c_Arc_keepBehind l D cI cB cJ qQ  ha_ qx qy qa qb n a0'_24 a1'_25 a2'_26 a3'_27 b0'_28 b1'_29 b2'_30 b3'_31 bg ) hx hb hml hown hts (amb_ok qQ) hK hP hD hS hA hM (gi_V gw_299 gw_301 gw_6 gw_30 gw_302) rfl (by decide +kernel) ⟨by omega, by omega⟩ [2, 3, 4] [0, 1] rfl rfl rfl rfl (by decide) rfl rfl rfl hl.1 rfl (Nat.le_of_ble_eq_true rfl) d_Arc_reckon_142 ⟨by omega, by omega⟩ (fun u_32 H locs hok hP hD hS => ?_)
            have hP : va_P D cl [(qx, .inl (cI, 124, .inl X)), (qy, .inl (cI, 124, .inl Y)), (ha_, .inr (2, [.ref qx, .ref qy, .ref qa, .ref qb, .int (nI n)])), (qa, .inl (cI, 4, .inl (j4 (my3 a0'_24 a1'_25 a2'_26 a3'_27 bg) (my2 a1'_25 a2'_26 a3'_27 bg) (mixI a2'_26 a3'_27 bg) a3'_27))), (qb, .inl (cI, 4, .inl (j4 (my3 b0'_28 b1'_29 b2'_30 b3'_31 bg) (my2 b1'_29 b2'_30 b3'_31 bg) (mixI b2'_30 b3'_31 bg) b3'_31)))] H := hP
            have hD : va_D A [(qx, .inl (cI, 124, .inl X)), (qy, .inl (cI, 124, .inl Y)), (ha_, .inr (2, [.ref qx, .ref qy, .ref qa, .ref qb, .int (nI n)])), (qa, .inl (cI, 4, .inl (j4 (my3 a0'_24 a1'_25 a2'_26 a3'_27 bg) (my2 a1'_25 a2'_26 a3'_27 bg) (mixI a2'_26 a3'_27 bg) a3'_27))), (qb, .inl (cI, 4, .inl (j4 (my3 b0'_28 b1'_29 b2'_30 b3'_31 bg) (my2 b1'_29 b2'_30 b3'_31 bg) (mixI b2'_30 b3'_31 bg) b3'_31)))] := hD
            refine W.eq (g2 := F0 m 145 ls []) rfl ?_
            refine lv_aload_n hx hb d_Arc_reckon_145 rfl (lv_at hl 0 rfl) ?_
            refine lv_aload_n hx hb d_Arc_reckon_146 rfl (lv_at hl 0 rfl) ?_
            refine va_get (D := D) (ci := 2) (v := .ref qa) (C := R_Arc) (T := T_Arc) (N := 5) hx hb hts (ui_Arc _) hown hK hP 2 rfl rfl 2 (by decide) (hts _ (gwc gw_73)) (fun _ h9 => h9) rfl d_Arc_reckon_147 ?_
            refine lv_iconst (v := 0) hx hb d_Arc_reckon_150 (by decide) ?_
            refine ld_i hx hb hK hP 3 0 rfl rfl 0 (by omega) (by omega) d_Arc_reckon_151 ?_
            refine tp_i (my3 a0'_24 a1'_25 a2'_26 a3'_27 bg) (rfl) ?_
            refine lv_aload_n hx hb d_Arc_reckon_152 rfl (lv_at hl 0 rfl) ?_
            refine va_get (D := D) (ci := 2) (v := .ref qb) (C := R_Arc) (T := T_Arc) (N := 5) hx hb hts (ui_Arc _) hown hK hP 2 rfl rfl 3 (by decide) (hts _ (gwc gw_74)) (fun _ h9 => h9) rfl d_Arc_reckon_153 ?_
            refine lv_iconst (v := 0) hx hb d_Arc_reckon_156 (by decide) ?_
            refine ld_i hx hb hK hP 4 0 rfl rfl 0 (by omega) (by omega) d_Arc_reckon_157 ?_
            refine tp_i (my3 b0'_28 b1'_29 b2'_30 b3'_31 bg) (rfl) ?_
            refine ct_callV (ci := 2) (q0 := 2) (As := [.int (my3 a0'_24 a1'_25 a2'_26 a3'_27 bg), .int (my3 b0'_28 b1'_29 b2'_30 b3'_31 bg)]) (rest := []) (wr := [(qa, .inl (cI, 4, .inl (j4 (my3 a0'_24 a1'_25 a2'_26 a3'_27 bg) (my2 a1'_25 a2'_26 a3'_27 bg) (mixI a2'_26 a3'_27 bg) a3'_27))), (qb, .inl (cI, 4, .inl (j4 (my3 b0'_28 b1'_29 b2'_30 b3'_31 bg) (my2 b1'_29 b2'_30 b3'_31 bg) (mixI b2'_30 b3'_31 bg) b3'_31)))]) (n := 2) (c_Arc_addPoint l D cI cB cJ qQ  ha_ qx qy qa qb n X Y (my3 a0'_24 a1'_25 a2'_26 a3'_27 bg) (my3 b0'_28 b1'_29 b2'_30 b3'_31 bg) (hn)) hx hb hml hown hts (amb_ok qQ) hK hP hD hS hA hM (gi_V gw_307 gw_309 gw_8 gw_30 gw_310) rfl (by decide +kernel) ⟨by omega, by omega⟩ [2, 0, 1] [3, 4] rfl rfl rfl rfl (by decide) rfl rfl rfl hl.1 rfl (Nat.le_of_ble_eq_true rfl) d_Arc_reckon_158 ⟨by omega, by omega⟩ (fun u_33 H locs hok hP hD hS => ?_)
            obtain ⟨n'_34, X'_35, Y'_36⟩ := u_33
            have hap : n'_34 ≤ 124 ∧ plst n'_34 X'_35 Y'_36 = apP (plst n X Y) ((my3 a0'_24 a1'_25 a2'_26 a3'_27 bg), (my3 b0'_28 b1'_29 b2'_30 b3'_31 bg)) := hok
            have hP : va_P D cl [(qa, .inl (cI, 4, .inl (j4 (my3 a0'_24 a1'_25 a2'_26 a3'_27 bg) (my2 a1'_25 a2'_26 a3'_27 bg) (mixI a2'_26 a3'_27 bg) a3'_27))), (qb, .inl (cI, 4, .inl (j4 (my3 b0'_28 b1'_29 b2'_30 b3'_31 bg) (my2 b1'_29 b2'_30 b3'_31 bg) (mixI b2'_30 b3'_31 bg) b3'_31))), (ha_, .inr (2, [.ref qx, .ref qy, .ref qa, .ref qb, .int (nI n'_34)])), (qx, .inl (cI, 124, .inl X'_35)), (qy, .inl (cI, 124, .inl Y'_36))] H := hP
            have hD : va_D A [(qa, .inl (cI, 4, .inl (j4 (my3 a0'_24 a1'_25 a2'_26 a3'_27 bg) (my2 a1'_25 a2'_26 a3'_27 bg) (mixI a2'_26 a3'_27 bg) a3'_27))), (qb, .inl (cI, 4, .inl (j4 (my3 b0'_28 b1'_29 b2'_30 b3'_31 bg) (my2 b1'_29 b2'_30 b3'_31 bg) (mixI b2'_30 b3'_31 bg) b3'_31))), (ha_, .inr (2, [.ref qx, .ref qy, .ref qa, .ref qb, .int (nI n'_34)])), (qx, .inl (cI, 124, .inl X'_35)), (qy, .inl (cI, 124, .inl Y'_36))] := hD
            refine W.eq (g2 := F0 m 161 ls []) rfl ?_
            exact ct_retv hQ hx hb hr hlocks hP hD hS (n'_34, X'_35, Y'_36, my3 a0'_24 a1'_25 a2'_26 a3'_27 bg, my2 a1'_25 a2'_26 a3'_27 bg, mixI a2'_26 a3'_27 bg, a3'_27, my3 b0'_28 b1'_29 b2'_30 b3'_31 bg, my2 b1'_29 b2'_30 b3'_31 bg, mixI b2'_30 b3'_31 bg, b3'_31) [(ha_, .inr (2, [.ref qx, .ref qy, .ref qa, .ref qb, .int (nI n'_34)])), (qx, .inl (cI, 124, .inl X'_35)), (qy, .inl (cI, 124, .inl Y'_36)), (qa, .inl (cI, 4, .inl (j4 (my3 a0'_24 a1'_25 a2'_26 a3'_27 bg) (my2 a1'_25 a2'_26 a3'_27 bg) (mixI a2'_26 a3'_27 bg) a3'_27))), (qb, .inl (cI, 4, .inl (j4 (my3 b0'_28 b1'_29 b2'_30 b3'_31 bg) (my2 b1'_29 b2'_30 b3'_31 bg) (mixI b2'_30 b3'_31 bg) b3'_31)))] [2, 3, 4, 0, 1] (rfl) (⟨hap.1, by rw [hap.2, hD0, recE, if_pos (by rw [plst_len]; exact c_22), ← htq.1, ← htq.2]; rfl⟩) (rfl) rfl rfl (by omega) (by omega) d_Arc_reckon_161
        · skip
          refine lv_lload hx hb d_Arc_reckon_61 (lv_at hl 3 rfl) ?_
          refine lv_iload hx hb d_Arc_reckon_63 (lv_at hl 7 rfl) ?_
          refine lv_i2l (v := (nI i).toInt64) hx hb d_Arc_reckon_65 rfl ?_
          refine lv_ladd hx hb d_Arc_reckon_66 ?_
          refine lv_lstore (lv' := [(12, .long (fq + ((nI i).toInt64))), (0, .ref ha_), (1, .long lo), (3, .long hi_), (5, .long fq), (7, .long lq), (9, .int bg), (10, .int en), (11, .int (nI i))]) hx hb d_Arc_reckon_67 hl (by decide) rfl (fun ls hl => ?_)
          refine lv_iload hx hb d_Arc_reckon_69 (lv_at hl 8 rfl) ?_
          refine bz_ne (a1 := i) (tgt := 79) hx hb (by omega) d_Arc_reckon_71 (by decide) (fun c_37 => ?_) (fun c_37 => ?_)
          · skip
            have hu : recU bg i = 0 := if_neg (by omega)
            refine lv_iconst (v := 0) hx hb d_Arc_reckon_79 (by decide) ?_
            refine lv_istore (lv' := [(14, .int 0), (12, .long (fq + ((nI i).toInt64))), (0, .ref ha_), (1, .long lo), (3, .long hi_), (5, .long fq), (7, .long lq), (9, .int bg), (10, .int en), (11, .int (nI i))]) hx hb d_Arc_reckon_80 hl (by decide) rfl (fun ls hl => ?_)
            refine lv_lload hx hb d_Arc_reckon_82 (lv_at hl 1 rfl) ?_
            refine lv_lload hx hb d_Arc_reckon_84 (lv_at hl 6 rfl) ?_
            refine W.lcmp hx hb d_Arc_reckon_86 ?_
            refine lc_ne (tgt := 95) hx hb d_Arc_reckon_87 (by decide) (fun c_38 => ?_) (fun c_38 => ?_)
            · skip
              have hv : recV fq lq en i = 65536 := if_neg c_38
              refine lv_ldc (v := 65536) hx hb hown (hts _ (gwc gw_272)) d_Arc_reckon_95 ?_
              refine lv_istore (lv' := [(15, .int 65536), (14, .int 0), (12, .long (fq + ((nI i).toInt64))), (0, .ref ha_), (1, .long lo), (3, .long hi_), (5, .long fq), (7, .long lq), (9, .int bg), (10, .int en), (11, .int (nI i))]) hx hb d_Arc_reckon_97 hl (by decide) rfl (fun ls hl => ?_)
              refine lv_iload hx hb d_Arc_reckon_99 (lv_at hl 1 rfl) ?_
              refine lv_iload hx hb d_Arc_reckon_101 (lv_at hl 0 rfl) ?_
              refine bn_ge (a1 := 0) (b1 := 65536) (tgt := 120) hx hb (by omega) (by omega) d_Arc_reckon_103 (by decide) (fun c_39 => ?_) (fun c_39 => ?_)
              · exact absurd c_39 (by decide)
              refine lv_aload_n hx hb d_Arc_reckon_106 rfl (lv_at hl 3 rfl) ?_
              refine lv_lload hx hb d_Arc_reckon_107 (lv_at hl 2 rfl) ?_
              refine lv_iload hx hb d_Arc_reckon_109 (lv_at hl 1 rfl) ?_
              refine lv_iload hx hb d_Arc_reckon_111 (lv_at hl 0 rfl) ?_
              refine ct_callV (ci := 2) (q0 := 0) (As := [.long (fq + ((nI i).toInt64)), .int 0, .int 65536]) (rest := []) (wr := [(qx, .inl (cI, 124, .inl X)), (qy, .inl (cI, 124, .inl Y))]) (n := 3) (c_Arc_takePart l D cI cB cJ qQ  ha_ qx qy qa qb n a0 a1 a2 a3 b0 b1 b2 b3 (fq + ((nI i).toInt64)) 0 65536 ) hx hb hml hown hts (amb_ok qQ) hK hP hD hS hA hM (gi_V gw_273 gw_275 gw_2 gw_30 gw_276) rfl (by decide +kernel) ⟨by omega, by omega⟩ [0, 3, 4] [1, 2] rfl rfl rfl rfl (by decide) rfl rfl rfl hl.1 rfl (Nat.le_of_ble_eq_true rfl) d_Arc_reckon_113 ⟨by omega, by omega⟩ (fun u_40 H locs hok hP hD hS => ?_)
              obtain ⟨a0'_41, a1'_42, a2'_43, a3'_44, b0'_45, b1'_46, b2'_47, b3'_48⟩ := u_40
              have htk : (a0'_41, a1'_42, a2'_43, a3'_44) = tkA (fq + ((nI i).toInt64)) 0 65536 ∧ (b0'_45, b1'_46, b2'_47, b3'_48) = tkB (fq + ((nI i).toInt64)) 0 65536 := hok
              have hP : va_P D cl [(qx, .inl (cI, 124, .inl X)), (qy, .inl (cI, 124, .inl Y)), (ha_, .inr (2, [.ref qx, .ref qy, .ref qa, .ref qb, .int (nI n)])), (qa, .inl (cI, 4, .inl (j4 a0'_41 a1'_42 a2'_43 a3'_44))), (qb, .inl (cI, 4, .inl (j4 b0'_45 b1'_46 b2'_47 b3'_48)))] H := hP
              have hD : va_D A [(qx, .inl (cI, 124, .inl X)), (qy, .inl (cI, 124, .inl Y)), (ha_, .inr (2, [.ref qx, .ref qy, .ref qa, .ref qb, .int (nI n)])), (qa, .inl (cI, 4, .inl (j4 a0'_41 a1'_42 a2'_43 a3'_44))), (qb, .inl (cI, 4, .inl (j4 b0'_45 b1'_46 b2'_47 b3'_48)))] := hD
              refine W.eq (g2 := F0 m 116 ls []) rfl ?_
              refine lv_aload_n hx hb d_Arc_reckon_116 rfl (lv_at hl 3 rfl) ?_
              refine ct_callV (ci := 2) (q0 := 2) (As := []) (rest := []) (wr := []) (n := 0) (c_Arc_addTaken l D cI cB cJ qQ  ha_ qx qy qa qb n X Y a0'_41 a1'_42 a2'_43 a3'_44 b0'_45 b1'_46 b2'_47 b3'_48 (hn)) hx hb hml hown hts (amb_ok qQ) hK hP hD hS hA hM (gi_V gw_303 gw_305 gw_7 gw_30 gw_306) rfl (by decide +kernel) ⟨by omega, by omega⟩ [2, 0, 1, 3, 4] [] rfl rfl rfl rfl (by decide) rfl rfl rfl hl.1 rfl (Nat.le_of_ble_eq_true rfl) d_Arc_reckon_117 ⟨by omega, by omega⟩ (fun u_49 H locs hok hP hD hS => ?_)
              obtain ⟨n'_50, X'_51, Y'_52⟩ := u_49
              have hat : n'_50 ≤ 124 ∧ plst n'_50 X'_51 Y'_52 = apT (plst n X Y) (a0'_41, a1'_42, a2'_43, a3'_44) (b0'_45, b1'_46, b2'_47, b3'_48) := hok
              have hP : va_P D cl [(ha_, .inr (2, [.ref qx, .ref qy, .ref qa, .ref qb, .int (nI n'_50)])), (qx, .inl (cI, 124, .inl X'_51)), (qy, .inl (cI, 124, .inl Y'_52)), (qa, .inl (cI, 4, .inl (j4 a0'_41 a1'_42 a2'_43 a3'_44))), (qb, .inl (cI, 4, .inl (j4 b0'_45 b1'_46 b2'_47 b3'_48)))] H := hP
              have hD : va_D A [(ha_, .inr (2, [.ref qx, .ref qy, .ref qa, .ref qb, .int (nI n'_50)])), (qx, .inl (cI, 124, .inl X'_51)), (qy, .inl (cI, 124, .inl Y'_52)), (qa, .inl (cI, 4, .inl (j4 a0'_41 a1'_42 a2'_43 a3'_44))), (qb, .inl (cI, 4, .inl (j4 b0'_45 b1'_46 b2'_47 b3'_48)))] := hD
              refine W.eq (g2 := F0 m 120 ls []) rfl ?_
              refine lv_iinc (v := nI (i + 1)) (lv' := [(11, .int (nI (i + 1))), (15, .int 65536), (14, .int 0), (12, .long (fq + ((nI i).toInt64))), (0, .ref ha_), (1, .long lo), (3, .long hi_), (5, .long fq), (7, .long lq), (9, .int bg), (10, .int en)]) hx hb d_Arc_reckon_120 hl (k := 10) rfl (by first | exact nI_add _ 1 | rfl | decide) (by decide) rfl (fun ls hl => ?_)
              refine lv_goto (tgt := 42) hx hb d_Arc_reckon_123 (by decide) ?_
              exact ih_42 (i + 1) n'_50 X'_51 Y'_52 a0'_41 a1'_42 a2'_43 a3'_44 b0'_45 b1'_46 b2'_47 b3'_48 (by omega) (by omega) (hat.1) (by rw [recL_s c_5 c_21, recS_y hu hv (by decide), ← htk.1, ← htk.2, ← hat.2] at hR; exact hR) _ _ _ hP hD hS (lv_sub hl [4, 5, 6, 7, 8, 9, 10, 0] rfl)
            · skip
              have hv : recV fq lq en i = en := if_pos c_38
              refine lv_iload hx hb d_Arc_reckon_90 (lv_at hl 8 rfl) ?_
              refine lv_goto (tgt := 97) hx hb d_Arc_reckon_92 (by decide) ?_
              refine lv_istore (lv' := [(15, .int en), (14, .int 0), (12, .long (fq + ((nI i).toInt64))), (0, .ref ha_), (1, .long lo), (3, .long hi_), (5, .long fq), (7, .long lq), (9, .int bg), (10, .int en), (11, .int (nI i))]) hx hb d_Arc_reckon_97 hl (by decide) rfl (fun ls hl => ?_)
              refine lv_iload hx hb d_Arc_reckon_99 (lv_at hl 1 rfl) ?_
              refine lv_iload hx hb d_Arc_reckon_101 (lv_at hl 0 rfl) ?_
              refine lv_icmp_ge (tgt := 120) hx hb d_Arc_reckon_103 (by decide) (fun c_53 => ?_) (fun c_53 => ?_)
              · skip
                refine lv_iinc (v := nI (i + 1)) (lv' := [(11, .int (nI (i + 1))), (15, .int en), (14, .int 0), (12, .long (fq + ((nI i).toInt64))), (0, .ref ha_), (1, .long lo), (3, .long hi_), (5, .long fq), (7, .long lq), (9, .int bg), (10, .int en)]) hx hb d_Arc_reckon_120 hl (k := 10) rfl (by first | exact nI_add _ 1 | rfl | decide) (by decide) rfl (fun ls hl => ?_)
                refine lv_goto (tgt := 42) hx hb d_Arc_reckon_123 (by decide) ?_
                exact ih_42 (i + 1) n X Y a0 a1 a2 a3 b0 b1 b2 b3 (by omega) (by omega) (hn) (by rw [recL_s c_5 c_21, recS_n hu hv c_53] at hR; exact hR) _ _ _ hP hD hS (lv_sub hl [4, 5, 6, 7, 8, 9, 10, 0] rfl)
              · skip
                refine lv_aload_n hx hb d_Arc_reckon_106 rfl (lv_at hl 3 rfl) ?_
                refine lv_lload hx hb d_Arc_reckon_107 (lv_at hl 2 rfl) ?_
                refine lv_iload hx hb d_Arc_reckon_109 (lv_at hl 1 rfl) ?_
                refine lv_iload hx hb d_Arc_reckon_111 (lv_at hl 0 rfl) ?_
                refine ct_callV (ci := 2) (q0 := 0) (As := [.long (fq + ((nI i).toInt64)), .int 0, .int en]) (rest := []) (wr := [(qx, .inl (cI, 124, .inl X)), (qy, .inl (cI, 124, .inl Y))]) (n := 3) (c_Arc_takePart l D cI cB cJ qQ  ha_ qx qy qa qb n a0 a1 a2 a3 b0 b1 b2 b3 (fq + ((nI i).toInt64)) 0 en ) hx hb hml hown hts (amb_ok qQ) hK hP hD hS hA hM (gi_V gw_273 gw_275 gw_2 gw_30 gw_276) rfl (by decide +kernel) ⟨by omega, by omega⟩ [0, 3, 4] [1, 2] rfl rfl rfl rfl (by decide) rfl rfl rfl hl.1 rfl (Nat.le_of_ble_eq_true rfl) d_Arc_reckon_113 ⟨by omega, by omega⟩ (fun u_54 H locs hok hP hD hS => ?_)
                obtain ⟨a0'_55, a1'_56, a2'_57, a3'_58, b0'_59, b1'_60, b2'_61, b3'_62⟩ := u_54
                have htk : (a0'_55, a1'_56, a2'_57, a3'_58) = tkA (fq + ((nI i).toInt64)) 0 en ∧ (b0'_59, b1'_60, b2'_61, b3'_62) = tkB (fq + ((nI i).toInt64)) 0 en := hok
                have hP : va_P D cl [(qx, .inl (cI, 124, .inl X)), (qy, .inl (cI, 124, .inl Y)), (ha_, .inr (2, [.ref qx, .ref qy, .ref qa, .ref qb, .int (nI n)])), (qa, .inl (cI, 4, .inl (j4 a0'_55 a1'_56 a2'_57 a3'_58))), (qb, .inl (cI, 4, .inl (j4 b0'_59 b1'_60 b2'_61 b3'_62)))] H := hP
                have hD : va_D A [(qx, .inl (cI, 124, .inl X)), (qy, .inl (cI, 124, .inl Y)), (ha_, .inr (2, [.ref qx, .ref qy, .ref qa, .ref qb, .int (nI n)])), (qa, .inl (cI, 4, .inl (j4 a0'_55 a1'_56 a2'_57 a3'_58))), (qb, .inl (cI, 4, .inl (j4 b0'_59 b1'_60 b2'_61 b3'_62)))] := hD
                refine W.eq (g2 := F0 m 116 ls []) rfl ?_
                refine lv_aload_n hx hb d_Arc_reckon_116 rfl (lv_at hl 3 rfl) ?_
                refine ct_callV (ci := 2) (q0 := 2) (As := []) (rest := []) (wr := []) (n := 0) (c_Arc_addTaken l D cI cB cJ qQ  ha_ qx qy qa qb n X Y a0'_55 a1'_56 a2'_57 a3'_58 b0'_59 b1'_60 b2'_61 b3'_62 (hn)) hx hb hml hown hts (amb_ok qQ) hK hP hD hS hA hM (gi_V gw_303 gw_305 gw_7 gw_30 gw_306) rfl (by decide +kernel) ⟨by omega, by omega⟩ [2, 0, 1, 3, 4] [] rfl rfl rfl rfl (by decide) rfl rfl rfl hl.1 rfl (Nat.le_of_ble_eq_true rfl) d_Arc_reckon_117 ⟨by omega, by omega⟩ (fun u_63 H locs hok hP hD hS => ?_)
                obtain ⟨n'_64, X'_65, Y'_66⟩ := u_63
                have hat : n'_64 ≤ 124 ∧ plst n'_64 X'_65 Y'_66 = apT (plst n X Y) (a0'_55, a1'_56, a2'_57, a3'_58) (b0'_59, b1'_60, b2'_61, b3'_62) := hok
                have hP : va_P D cl [(ha_, .inr (2, [.ref qx, .ref qy, .ref qa, .ref qb, .int (nI n'_64)])), (qx, .inl (cI, 124, .inl X'_65)), (qy, .inl (cI, 124, .inl Y'_66)), (qa, .inl (cI, 4, .inl (j4 a0'_55 a1'_56 a2'_57 a3'_58))), (qb, .inl (cI, 4, .inl (j4 b0'_59 b1'_60 b2'_61 b3'_62)))] H := hP
                have hD : va_D A [(ha_, .inr (2, [.ref qx, .ref qy, .ref qa, .ref qb, .int (nI n'_64)])), (qx, .inl (cI, 124, .inl X'_65)), (qy, .inl (cI, 124, .inl Y'_66)), (qa, .inl (cI, 4, .inl (j4 a0'_55 a1'_56 a2'_57 a3'_58))), (qb, .inl (cI, 4, .inl (j4 b0'_59 b1'_60 b2'_61 b3'_62)))] := hD
                refine W.eq (g2 := F0 m 120 ls []) rfl ?_
                refine lv_iinc (v := nI (i + 1)) (lv' := [(11, .int (nI (i + 1))), (15, .int en), (14, .int 0), (12, .long (fq + ((nI i).toInt64))), (0, .ref ha_), (1, .long lo), (3, .long hi_), (5, .long fq), (7, .long lq), (9, .int bg), (10, .int en)]) hx hb d_Arc_reckon_120 hl (k := 10) rfl (by first | exact nI_add _ 1 | rfl | decide) (by decide) rfl (fun ls hl => ?_)
                refine lv_goto (tgt := 42) hx hb d_Arc_reckon_123 (by decide) ?_
                exact ih_42 (i + 1) n'_64 X'_65 Y'_66 a0'_55 a1'_56 a2'_57 a3'_58 b0'_59 b1'_60 b2'_61 b3'_62 (by omega) (by omega) (hat.1) (by rw [recL_s c_5 c_21, recS_y hu hv c_53, ← htk.1, ← htk.2, ← hat.2] at hR; exact hR) _ _ _ hP hD hS (lv_sub hl [4, 5, 6, 7, 8, 9, 10, 0] rfl)
          · skip
            have hu : recU bg i = bg := if_pos c_37
            refine lv_iload hx hb d_Arc_reckon_74 (lv_at hl 6 rfl) ?_
            refine lv_goto (tgt := 80) hx hb d_Arc_reckon_76 (by decide) ?_
            refine lv_istore (lv' := [(14, .int bg), (12, .long (fq + ((nI i).toInt64))), (0, .ref ha_), (1, .long lo), (3, .long hi_), (5, .long fq), (7, .long lq), (9, .int bg), (10, .int en), (11, .int (nI i))]) hx hb d_Arc_reckon_80 hl (by decide) rfl (fun ls hl => ?_)
            refine lv_lload hx hb d_Arc_reckon_82 (lv_at hl 1 rfl) ?_
            refine lv_lload hx hb d_Arc_reckon_84 (lv_at hl 6 rfl) ?_
            refine W.lcmp hx hb d_Arc_reckon_86 ?_
            refine lc_ne (tgt := 95) hx hb d_Arc_reckon_87 (by decide) (fun c_67 => ?_) (fun c_67 => ?_)
            · skip
              have hv : recV fq lq en i = 65536 := if_neg c_67
              refine lv_ldc (v := 65536) hx hb hown (hts _ (gwc gw_272)) d_Arc_reckon_95 ?_
              refine lv_istore (lv' := [(15, .int 65536), (14, .int bg), (12, .long (fq + ((nI i).toInt64))), (0, .ref ha_), (1, .long lo), (3, .long hi_), (5, .long fq), (7, .long lq), (9, .int bg), (10, .int en), (11, .int (nI i))]) hx hb d_Arc_reckon_97 hl (by decide) rfl (fun ls hl => ?_)
              refine lv_iload hx hb d_Arc_reckon_99 (lv_at hl 1 rfl) ?_
              refine lv_iload hx hb d_Arc_reckon_101 (lv_at hl 0 rfl) ?_
              refine lv_icmp_ge (tgt := 120) hx hb d_Arc_reckon_103 (by decide) (fun c_68 => ?_) (fun c_68 => ?_)
              · skip
                refine lv_iinc (v := nI (i + 1)) (lv' := [(11, .int (nI (i + 1))), (15, .int 65536), (14, .int bg), (12, .long (fq + ((nI i).toInt64))), (0, .ref ha_), (1, .long lo), (3, .long hi_), (5, .long fq), (7, .long lq), (9, .int bg), (10, .int en)]) hx hb d_Arc_reckon_120 hl (k := 10) rfl (by first | exact nI_add _ 1 | rfl | decide) (by decide) rfl (fun ls hl => ?_)
                refine lv_goto (tgt := 42) hx hb d_Arc_reckon_123 (by decide) ?_
                exact ih_42 (i + 1) n X Y a0 a1 a2 a3 b0 b1 b2 b3 (by omega) (by omega) (hn) (by rw [recL_s c_5 c_21, recS_n hu hv c_68] at hR; exact hR) _ _ _ hP hD hS (lv_sub hl [4, 5, 6, 7, 8, 9, 10, 0] rfl)
              · skip
                refine lv_aload_n hx hb d_Arc_reckon_106 rfl (lv_at hl 3 rfl) ?_
                refine lv_lload hx hb d_Arc_reckon_107 (lv_at hl 2 rfl) ?_
                refine lv_iload hx hb d_Arc_reckon_109 (lv_at hl 1 rfl) ?_
                refine lv_iload hx hb d_Arc_reckon_111 (lv_at hl 0 rfl) ?_
                refine ct_callV (ci := 2) (q0 := 0) (As := [.long (fq + ((nI i).toInt64)), .int bg, .int 65536]) (rest := []) (wr := [(qx, .inl (cI, 124, .inl X)), (qy, .inl (cI, 124, .inl Y))]) (n := 3) (c_Arc_takePart l D cI cB cJ qQ  ha_ qx qy qa qb n a0 a1 a2 a3 b0 b1 b2 b3 (fq + ((nI i).toInt64)) bg 65536 ) hx hb hml hown hts (amb_ok qQ) hK hP hD hS hA hM (gi_V gw_273 gw_275 gw_2 gw_30 gw_276) rfl (by decide +kernel) ⟨by omega, by omega⟩ [0, 3, 4] [1, 2] rfl rfl rfl rfl (by decide) rfl rfl rfl hl.1 rfl (Nat.le_of_ble_eq_true rfl) d_Arc_reckon_113 ⟨by omega, by omega⟩ (fun u_69 H locs hok hP hD hS => ?_)
                obtain ⟨a0'_70, a1'_71, a2'_72, a3'_73, b0'_74, b1'_75, b2'_76, b3'_77⟩ := u_69
                have htk : (a0'_70, a1'_71, a2'_72, a3'_73) = tkA (fq + ((nI i).toInt64)) bg 65536 ∧ (b0'_74, b1'_75, b2'_76, b3'_77) = tkB (fq + ((nI i).toInt64)) bg 65536 := hok
                have hP : va_P D cl [(qx, .inl (cI, 124, .inl X)), (qy, .inl (cI, 124, .inl Y)), (ha_, .inr (2, [.ref qx, .ref qy, .ref qa, .ref qb, .int (nI n)])), (qa, .inl (cI, 4, .inl (j4 a0'_70 a1'_71 a2'_72 a3'_73))), (qb, .inl (cI, 4, .inl (j4 b0'_74 b1'_75 b2'_76 b3'_77)))] H := hP
                have hD : va_D A [(qx, .inl (cI, 124, .inl X)), (qy, .inl (cI, 124, .inl Y)), (ha_, .inr (2, [.ref qx, .ref qy, .ref qa, .ref qb, .int (nI n)])), (qa, .inl (cI, 4, .inl (j4 a0'_70 a1'_71 a2'_72 a3'_73))), (qb, .inl (cI, 4, .inl (j4 b0'_74 b1'_75 b2'_76 b3'_77)))] := hD
                refine W.eq (g2 := F0 m 116 ls []) rfl ?_
                refine lv_aload_n hx hb d_Arc_reckon_116 rfl (lv_at hl 3 rfl) ?_
                refine ct_callV (ci := 2) (q0 := 2) (As := []) (rest := []) (wr := []) (n := 0) (c_Arc_addTaken l D cI cB cJ qQ  ha_ qx qy qa qb n X Y a0'_70 a1'_71 a2'_72 a3'_73 b0'_74 b1'_75 b2'_76 b3'_77 (hn)) hx hb hml hown hts (amb_ok qQ) hK hP hD hS hA hM (gi_V gw_303 gw_305 gw_7 gw_30 gw_306) rfl (by decide +kernel) ⟨by omega, by omega⟩ [2, 0, 1, 3, 4] [] rfl rfl rfl rfl (by decide) rfl rfl rfl hl.1 rfl (Nat.le_of_ble_eq_true rfl) d_Arc_reckon_117 ⟨by omega, by omega⟩ (fun u_78 H locs hok hP hD hS => ?_)
                obtain ⟨n'_79, X'_80, Y'_81⟩ := u_78
                have hat : n'_79 ≤ 124 ∧ plst n'_79 X'_80 Y'_81 = apT (plst n X Y) (a0'_70, a1'_71, a2'_72, a3'_73) (b0'_74, b1'_75, b2'_76, b3'_77) := hok
                have hP : va_P D cl [(ha_, .inr (2, [.ref qx, .ref qy, .ref qa, .ref qb, .int (nI n'_79)])), (qx, .inl (cI, 124, .inl X'_80)), (qy, .inl (cI, 124, .inl Y'_81)), (qa, .inl (cI, 4, .inl (j4 a0'_70 a1'_71 a2'_72 a3'_73))), (qb, .inl (cI, 4, .inl (j4 b0'_74 b1'_75 b2'_76 b3'_77)))] H := hP
                have hD : va_D A [(ha_, .inr (2, [.ref qx, .ref qy, .ref qa, .ref qb, .int (nI n'_79)])), (qx, .inl (cI, 124, .inl X'_80)), (qy, .inl (cI, 124, .inl Y'_81)), (qa, .inl (cI, 4, .inl (j4 a0'_70 a1'_71 a2'_72 a3'_73))), (qb, .inl (cI, 4, .inl (j4 b0'_74 b1'_75 b2'_76 b3'_77)))] := hD
                refine W.eq (g2 := F0 m 120 ls []) rfl ?_
                refine lv_iinc (v := nI (i + 1)) (lv' := [(11, .int (nI (i + 1))), (15, .int 65536), (14, .int bg), (12, .long (fq + ((nI i).toInt64))), (0, .ref ha_), (1, .long lo), (3, .long hi_), (5, .long fq), (7, .long lq), (9, .int bg), (10, .int en)]) hx hb d_Arc_reckon_120 hl (k := 10) rfl (by first | exact nI_add _ 1 | rfl | decide) (by decide) rfl (fun ls hl => ?_)
                refine lv_goto (tgt := 42) hx hb d_Arc_reckon_123 (by decide) ?_
                exact ih_42 (i + 1) n'_79 X'_80 Y'_81 a0'_70 a1'_71 a2'_72 a3'_73 b0'_74 b1'_75 b2'_76 b3'_77 (by omega) (by omega) (hat.1) (by rw [recL_s c_5 c_21, recS_y hu hv c_68, ← htk.1, ← htk.2, ← hat.2] at hR; exact hR) _ _ _ hP hD hS (lv_sub hl [4, 5, 6, 7, 8, 9, 10, 0] rfl)
            · skip
              have hv : recV fq lq en i = en := if_pos c_67
              refine lv_iload hx hb d_Arc_reckon_90 (lv_at hl 8 rfl) ?_
              refine lv_goto (tgt := 97) hx hb d_Arc_reckon_92 (by decide) ?_
              refine lv_istore (lv' := [(15, .int en), (14, .int bg), (12, .long (fq + ((nI i).toInt64))), (0, .ref ha_), (1, .long lo), (3, .long hi_), (5, .long fq), (7, .long lq), (9, .int bg), (10, .int en), (11, .int (nI i))]) hx hb d_Arc_reckon_97 hl (by decide) rfl (fun ls hl => ?_)
              refine lv_iload hx hb d_Arc_reckon_99 (lv_at hl 1 rfl) ?_
              refine lv_iload hx hb d_Arc_reckon_101 (lv_at hl 0 rfl) ?_
              refine lv_icmp_ge (tgt := 120) hx hb d_Arc_reckon_103 (by decide) (fun c_82 => ?_) (fun c_82 => ?_)
              · skip
                refine lv_iinc (v := nI (i + 1)) (lv' := [(11, .int (nI (i + 1))), (15, .int en), (14, .int bg), (12, .long (fq + ((nI i).toInt64))), (0, .ref ha_), (1, .long lo), (3, .long hi_), (5, .long fq), (7, .long lq), (9, .int bg), (10, .int en)]) hx hb d_Arc_reckon_120 hl (k := 10) rfl (by first | exact nI_add _ 1 | rfl | decide) (by decide) rfl (fun ls hl => ?_)
                refine lv_goto (tgt := 42) hx hb d_Arc_reckon_123 (by decide) ?_
                exact ih_42 (i + 1) n X Y a0 a1 a2 a3 b0 b1 b2 b3 (by omega) (by omega) (hn) (by rw [recL_s c_5 c_21, recS_n hu hv c_82] at hR; exact hR) _ _ _ hP hD hS (lv_sub hl [4, 5, 6, 7, 8, 9, 10, 0] rfl)
              · skip
                refine lv_aload_n hx hb d_Arc_reckon_106 rfl (lv_at hl 3 rfl) ?_
                refine lv_lload hx hb d_Arc_reckon_107 (lv_at hl 2 rfl) ?_
                refine lv_iload hx hb d_Arc_reckon_109 (lv_at hl 1 rfl) ?_
                refine lv_iload hx hb d_Arc_reckon_111 (lv_at hl 0 rfl) ?_
                refine ct_callV (ci := 2) (q0 := 0) (As := [.long (fq + ((nI i).toInt64)), .int bg, .int en]) (rest := []) (wr := [(qx, .inl (cI, 124, .inl X)), (qy, .inl (cI, 124, .inl Y))]) (n := 3) (c_Arc_takePart l D cI cB cJ qQ  ha_ qx qy qa qb n a0 a1 a2 a3 b0 b1 b2 b3 (fq + ((nI i).toInt64)) bg en ) hx hb hml hown hts (amb_ok qQ) hK hP hD hS hA hM (gi_V gw_273 gw_275 gw_2 gw_30 gw_276) rfl (by decide +kernel) ⟨by omega, by omega⟩ [0, 3, 4] [1, 2] rfl rfl rfl rfl (by decide) rfl rfl rfl hl.1 rfl (Nat.le_of_ble_eq_true rfl) d_Arc_reckon_113 ⟨by omega, by omega⟩ (fun u_83 H locs hok hP hD hS => ?_)
                obtain ⟨a0'_84, a1'_85, a2'_86, a3'_87, b0'_88, b1'_89, b2'_90, b3'_91⟩ := u_83
                have htk : (a0'_84, a1'_85, a2'_86, a3'_87) = tkA (fq + ((nI i).toInt64)) bg en ∧ (b0'_88, b1'_89, b2'_90, b3'_91) = tkB (fq + ((nI i).toInt64)) bg en := hok
                have hP : va_P D cl [(qx, .inl (cI, 124, .inl X)), (qy, .inl (cI, 124, .inl Y)), (ha_, .inr (2, [.ref qx, .ref qy, .ref qa, .ref qb, .int (nI n)])), (qa, .inl (cI, 4, .inl (j4 a0'_84 a1'_85 a2'_86 a3'_87))), (qb, .inl (cI, 4, .inl (j4 b0'_88 b1'_89 b2'_90 b3'_91)))] H := hP
                have hD : va_D A [(qx, .inl (cI, 124, .inl X)), (qy, .inl (cI, 124, .inl Y)), (ha_, .inr (2, [.ref qx, .ref qy, .ref qa, .ref qb, .int (nI n)])), (qa, .inl (cI, 4, .inl (j4 a0'_84 a1'_85 a2'_86 a3'_87))), (qb, .inl (cI, 4, .inl (j4 b0'_88 b1'_89 b2'_90 b3'_91)))] := hD
                refine W.eq (g2 := F0 m 116 ls []) rfl ?_
                refine lv_aload_n hx hb d_Arc_reckon_116 rfl (lv_at hl 3 rfl) ?_
                refine ct_callV (ci := 2) (q0 := 2) (As := []) (rest := []) (wr := []) (n := 0) (c_Arc_addTaken l D cI cB cJ qQ  ha_ qx qy qa qb n X Y a0'_84 a1'_85 a2'_86 a3'_87 b0'_88 b1'_89 b2'_90 b3'_91 (hn)) hx hb hml hown hts (amb_ok qQ) hK hP hD hS hA hM (gi_V gw_303 gw_305 gw_7 gw_30 gw_306) rfl (by decide +kernel) ⟨by omega, by omega⟩ [2, 0, 1, 3, 4] [] rfl rfl rfl rfl (by decide) rfl rfl rfl hl.1 rfl (Nat.le_of_ble_eq_true rfl) d_Arc_reckon_117 ⟨by omega, by omega⟩ (fun u_92 H locs hok hP hD hS => ?_)
                obtain ⟨n'_93, X'_94, Y'_95⟩ := u_92
                have hat : n'_93 ≤ 124 ∧ plst n'_93 X'_94 Y'_95 = apT (plst n X Y) (a0'_84, a1'_85, a2'_86, a3'_87) (b0'_88, b1'_89, b2'_90, b3'_91) := hok
                have hP : va_P D cl [(ha_, .inr (2, [.ref qx, .ref qy, .ref qa, .ref qb, .int (nI n'_93)])), (qx, .inl (cI, 124, .inl X'_94)), (qy, .inl (cI, 124, .inl Y'_95)), (qa, .inl (cI, 4, .inl (j4 a0'_84 a1'_85 a2'_86 a3'_87))), (qb, .inl (cI, 4, .inl (j4 b0'_88 b1'_89 b2'_90 b3'_91)))] H := hP
                have hD : va_D A [(ha_, .inr (2, [.ref qx, .ref qy, .ref qa, .ref qb, .int (nI n'_93)])), (qx, .inl (cI, 124, .inl X'_94)), (qy, .inl (cI, 124, .inl Y'_95)), (qa, .inl (cI, 4, .inl (j4 a0'_84 a1'_85 a2'_86 a3'_87))), (qb, .inl (cI, 4, .inl (j4 b0'_88 b1'_89 b2'_90 b3'_91)))] := hD
                refine W.eq (g2 := F0 m 120 ls []) rfl ?_
                refine lv_iinc (v := nI (i + 1)) (lv' := [(11, .int (nI (i + 1))), (15, .int en), (14, .int bg), (12, .long (fq + ((nI i).toInt64))), (0, .ref ha_), (1, .long lo), (3, .long hi_), (5, .long fq), (7, .long lq), (9, .int bg), (10, .int en)]) hx hb d_Arc_reckon_120 hl (k := 10) rfl (by first | exact nI_add _ 1 | rfl | decide) (by decide) rfl (fun ls hl => ?_)
                refine lv_goto (tgt := 42) hx hb d_Arc_reckon_123 (by decide) ?_
                exact ih_42 (i + 1) n'_93 X'_94 Y'_95 a0'_84 a1'_85 a2'_86 a3'_87 b0'_88 b1'_89 b2'_90 b3'_91 (by omega) (by omega) (hat.1) (by rw [recL_s c_5 c_21, recS_y hu hv c_82, ← htk.1, ← htk.2, ← hat.2] at hR; exact hR) _ _ _ hP hD hS (lv_sub hl [4, 5, 6, 7, 8, 9, 10, 0] rfl)
  exact L_42 ((41 - 0) + 1) 0 0 X Y a0 a1 a2 a3 b0 b1 b2 b3 (Nat.lt_succ_self _) (by omega) (by omega) (hRES.symm) _ _ _ hP hD hS (lv_sub hl [5, 6, 7, 4, 3, 2, 1, 0] rfl)
set_option maxHeartbeats 40000000 in
set_option maxRecDepth 100000 in
/-- bringTo -/
theorem c_Arc_bringTo (l : Launch) (D : va_G) (cI cB cJ : ClassId) (qQ : Nat) (ha_ : Nat) (qx : Nat) (qy : Nat) (qa : Nat) (qb : Nat) (n : Nat) (X : Nat → Int32) (Y : Nat → Int32) (hx_ : Nat) (p_ : Int64) (q_ : Int64) (r_ : Int64) (s_ : Int64) (x : Int32) (y : Int32) (hn : n ≤ 124) : ct l D cl [(cI, .int), (cB, .byte), (cJ, .long)] (amb qQ) y_Arc_bringTo w_Arc_bringTo 2 44 (0) (0) [.ref ha_, .int x, .int y, .ref hx_] [(ha_, .inr (2, [.ref qx, .ref qy, .ref qa, .ref qb, .int (nI n)])), (qx, .inl (cI, 124, .inl X)), (qy, .inl (cI, 124, .inl Y)), (hx_, .inr (3, [.long p_, .long q_, .long r_, .long s_]))] (fun u_ : Bool × (Nat → Int32) × (Nat → Int32) => match u_ with | (r, X', Y') => (r = true ∧ ∀ k, k < n → fr (brx x y p_ q_ r_ s_ (X k, Y k)).1 = false ∧ fr (brx x y p_ q_ r_ s_ (X k, Y k)).2 = false ∧ X' k = (brx x y p_ q_ r_ s_ (X k, Y k)).1.toInt32 ∧ Y' k = (brx x y p_ q_ r_ s_ (X k, Y k)).2.toInt32) ∨ (r = false ∧ ∃ k, k < n ∧ (fr (brx x y p_ q_ r_ s_ (X k, Y k)).1 || fr (brx x y p_ q_ r_ s_ (X k, Y k)).2) = true)) (fun u_ : Bool × (Nat → Int32) × (Nat → Int32) => match u_ with | (r, X', Y') => some (.int (bz r))) (fun u_ : Bool × (Nat → Int32) × (Nat → Int32) => match u_ with | (r, X', Y') => [(ha_, .inr (2, [.ref qx, .ref qy, .ref qa, .ref qb, .int (nI n)])), (qx, .inl (cI, 124, .inl X')), (qy, .inl (cI, 124, .inl Y')), (hx_, .inr (3, [.long p_, .long q_, .long r_, .long s_]))]) := by
  refine ct_ofW (cc := b_Arc_bringTo) (maxL := 9) (ret := (some .boolean)) (by decide) rfl (Nat.le_of_ble_eq_true rfl) ?_
  intro p e R s m args below meth c A Q ls hx hb hr hml hts hown hlocks hname hRf hRc hRs hRl hQ hK hP hD hS hA hM hl
  have hl : lv_has ls 9 [(0, .ref ha_), (1, .int x), (2, .int y), (3, .ref hx_)] := hl
  refine lv_iconst (v := 0) hx hb d_Arc_bringTo_0 (by decide) ?_
  refine lv_istore (lv' := [(4, .int 0), (0, .ref ha_), (1, .int x), (2, .int y), (3, .ref hx_)]) hx hb d_Arc_bringTo_1 hl (by decide) rfl (fun ls hl => ?_)
  have L_3 : ∀ (n_ : Nat) (i : Nat) (X_ : Nat → Int32) (Y_ : Nat → Int32), n - i < n_ → (i ≤ n) → (∀ k, k < i → fr (brx x y p_ q_ r_ s_ (X k, Y k)).1 = false ∧ fr (brx x y p_ q_ r_ s_ (X k, Y k)).2 = false ∧ X_ k = (brx x y p_ q_ r_ s_ (X k, Y k)).1.toInt32 ∧ Y_ k = (brx x y p_ q_ r_ s_ (X k, Y k)).2.toInt32) → (∀ k, i ≤ k → X_ k = X k ∧ Y_ k = Y k) → ∀ (H : Heap) (locs : List Loc) (ls : Array Slot), va_P D cl [(ha_, .inr (2, [.ref qx, .ref qy, .ref qa, .ref qb, .int (nI n)])), (qx, .inl (cI, 124, .inl X_)), (qy, .inl (cI, 124, .inl Y_)), (hx_, .inr (3, [.long p_, .long q_, .long r_, .long s_]))] H → va_D A [(ha_, .inr (2, [.ref qx, .ref qy, .ref qa, .ref qb, .int (nI n)])), (qx, .inl (cI, 124, .inl X_)), (qy, .inl (cI, 124, .inl Y_)), (hx_, .inr (3, [.long p_, .long q_, .long r_, .long s_]))] → va_S A s.heap H locs → lv_has ls 9 [(0, .ref ha_), (1, .int x), (2, .int y), (3, .ref hx_), (4, .int (nI i))] → W p l e R s m args below meth c H locs (0) (0) Q (F0 m 3 ls []) := by
    intro n_
    induction n_ with
    | zero => intro i X_ Y_ hm_; exact absurd hm_ (Nat.not_lt_zero _)
    | succ n_ ih_3 =>
      intro i X_ Y_ hm_ hi hlo hup H locs ls hP hD hS hl
      refine lv_iload hx hb d_Arc_bringTo_3 (lv_at hl 4 rfl) ?_
      refine lv_aload_n hx hb d_Arc_bringTo_5 rfl (lv_at hl 0 rfl) ?_
      refine va_get (D := D) (ci := 2) (v := .int (nI n)) (C := R_Arc) (T := T_Arc) (N := 5) hx hb hts (ui_Arc _) hown hK hP 0 rfl rfl 4 (by decide) (hts _ (gwc gw_75)) (fun _ h9 => h9) rfl d_Arc_bringTo_6 ?_
      refine bn_ge (a1 := i) (b1 := n) (tgt := 96) hx hb (by omega) (by omega) d_Arc_bringTo_9 (by decide) (fun c_1 => ?_) (fun c_1 => ?_)
      · skip
        refine lv_iconst (v := 1) hx hb d_Arc_bringTo_96 (by decide) ?_
        exact ct_retz hQ hx hb hr hlocks hP hD hS (true, X_, Y_) [(ha_, .inr (2, [.ref qx, .ref qy, .ref qa, .ref qb, .int (nI n)])), (qx, .inl (cI, 124, .inl X_)), (qy, .inl (cI, 124, .inl Y_)), (hx_, .inr (3, [.long p_, .long q_, .long r_, .long s_]))] [0, 1, 2, 3] (rfl) (Or.inl ⟨rfl, fun k h => hlo k (by omega)⟩) (rfl) rfl rfl (by decide) (by omega) (by omega) d_Arc_bringTo_97
      · skip
        refine lv_iload_n hx hb d_Arc_bringTo_12 rfl (lv_at hl 1 rfl) ?_
        refine lv_i2l (v := x.toInt64) hx hb d_Arc_bringTo_13 rfl ?_
        refine lv_aload_n hx hb d_Arc_bringTo_14 rfl (lv_at hl 3 rfl) ?_
        refine lv_aload_n hx hb d_Arc_bringTo_15 rfl (lv_at hl 0 rfl) ?_
        refine va_get (D := D) (ci := 2) (v := .ref qx) (C := R_Arc) (T := T_Arc) (N := 5) hx hb hts (ui_Arc _) hown hK hP 0 rfl rfl 0 (by decide) (hts _ (gwc gw_69)) (fun _ h9 => h9) rfl d_Arc_bringTo_16 ?_
        refine lv_iload hx hb d_Arc_bringTo_19 (lv_at hl 4 rfl) ?_
        refine ld_i hx hb hK hP 1 0 rfl rfl i (by omega) (by omega) d_Arc_bringTo_21 ?_
        refine lv_aload_n hx hb d_Arc_bringTo_22 rfl (lv_at hl 0 rfl) ?_
        refine va_get (D := D) (ci := 2) (v := .ref qy) (C := R_Arc) (T := T_Arc) (N := 5) hx hb hts (ui_Arc _) hown hK hP 0 rfl rfl 1 (by decide) (hts _ (gwc gw_71)) (fun _ h9 => h9) rfl d_Arc_bringTo_23 ?_
        refine lv_iload hx hb d_Arc_bringTo_26 (lv_at hl 4 rfl) ?_
        refine ld_i hx hb hK hP 2 0 rfl rfl i (by omega) (by omega) d_Arc_bringTo_28 ?_
        refine ct_callV (ci := 3) (q0 := 3) (As := [.int (X_ i), .int (Y_ i)]) (rest := [.long x.toInt64]) (wr := [(ha_, .inr (2, [.ref qx, .ref qy, .ref qa, .ref qb, .int (nI n)])), (qx, .inl (cI, 124, .inl X_)), (qy, .inl (cI, 124, .inl Y_))]) (n := 2) (c_Axes_alongX l D cI cB cJ qQ  hx_ p_ q_ r_ s_ (X_ i) (Y_ i) ) hx hb hml hown hts (amb_ok qQ) hK hP hD hS hA hM (gi_V gw_322 gw_323 gw_324 gw_29 gw_325) rfl (by decide +kernel) ⟨by omega, by omega⟩ [3] [0, 1, 2] rfl rfl rfl rfl (by decide) rfl rfl rfl hl.1 rfl (Nat.le_of_ble_eq_true rfl) d_Arc_bringTo_29 ⟨by omega, by omega⟩ (fun u_2 H locs hok hP hD hS => ?_)
        have hP : va_P D cl [(ha_, .inr (2, [.ref qx, .ref qy, .ref qa, .ref qb, .int (nI n)])), (qx, .inl (cI, 124, .inl X_)), (qy, .inl (cI, 124, .inl Y_)), (hx_, .inr (3, [.long p_, .long q_, .long r_, .long s_]))] H := hP
        have hD : va_D A [(ha_, .inr (2, [.ref qx, .ref qy, .ref qa, .ref qb, .int (nI n)])), (qx, .inl (cI, 124, .inl X_)), (qy, .inl (cI, 124, .inl Y_)), (hx_, .inr (3, [.long p_, .long q_, .long r_, .long s_]))] := hD
        refine W.eq (g2 := F0 m 32 ls [.long (alg (X_ i) (Y_ i) p_ r_), .long x.toInt64]) rfl ?_
        refine lv_ladd hx hb d_Arc_bringTo_32 ?_
        refine lv_lstore (lv' := [(5, .long (x.toInt64 + (alg (X_ i) (Y_ i) p_ r_))), (0, .ref ha_), (1, .int x), (2, .int y), (3, .ref hx_), (4, .int (nI i))]) hx hb d_Arc_bringTo_33 hl (by decide) rfl (fun ls hl => ?_)
        refine lv_iload_n hx hb d_Arc_bringTo_35 rfl (lv_at hl 3 rfl) ?_
        refine lv_i2l (v := y.toInt64) hx hb d_Arc_bringTo_36 rfl ?_
        refine lv_aload_n hx hb d_Arc_bringTo_37 rfl (lv_at hl 4 rfl) ?_
        refine lv_aload_n hx hb d_Arc_bringTo_38 rfl (lv_at hl 1 rfl) ?_
        refine va_get (D := D) (ci := 2) (v := .ref qx) (C := R_Arc) (T := T_Arc) (N := 5) hx hb hts (ui_Arc _) hown hK hP 0 rfl rfl 0 (by decide) (hts _ (gwc gw_69)) (fun _ h9 => h9) rfl d_Arc_bringTo_39 ?_
        refine lv_iload hx hb d_Arc_bringTo_42 (lv_at hl 5 rfl) ?_
        refine ld_i hx hb hK hP 1 0 rfl rfl i (by omega) (by omega) d_Arc_bringTo_44 ?_
        refine lv_aload_n hx hb d_Arc_bringTo_45 rfl (lv_at hl 1 rfl) ?_
        refine va_get (D := D) (ci := 2) (v := .ref qy) (C := R_Arc) (T := T_Arc) (N := 5) hx hb hts (ui_Arc _) hown hK hP 0 rfl rfl 1 (by decide) (hts _ (gwc gw_71)) (fun _ h9 => h9) rfl d_Arc_bringTo_46 ?_
        refine lv_iload hx hb d_Arc_bringTo_49 (lv_at hl 5 rfl) ?_
        refine ld_i hx hb hK hP 2 0 rfl rfl i (by omega) (by omega) d_Arc_bringTo_51 ?_
        refine ct_callV (ci := 3) (q0 := 3) (As := [.int (X_ i), .int (Y_ i)]) (rest := [.long y.toInt64]) (wr := [(ha_, .inr (2, [.ref qx, .ref qy, .ref qa, .ref qb, .int (nI n)])), (qx, .inl (cI, 124, .inl X_)), (qy, .inl (cI, 124, .inl Y_))]) (n := 2) (c_Axes_alongY l D cI cB cJ qQ  hx_ p_ q_ r_ s_ (X_ i) (Y_ i) ) hx hb hml hown hts (amb_ok qQ) hK hP hD hS hA hM (gi_V gw_327 gw_328 gw_329 gw_29 gw_330) rfl (by decide +kernel) ⟨by omega, by omega⟩ [3] [0, 1, 2] rfl rfl rfl rfl (by decide) rfl rfl rfl hl.1 rfl (Nat.le_of_ble_eq_true rfl) d_Arc_bringTo_52 ⟨by omega, by omega⟩ (fun u_3 H locs hok hP hD hS => ?_)
        have hP : va_P D cl [(ha_, .inr (2, [.ref qx, .ref qy, .ref qa, .ref qb, .int (nI n)])), (qx, .inl (cI, 124, .inl X_)), (qy, .inl (cI, 124, .inl Y_)), (hx_, .inr (3, [.long p_, .long q_, .long r_, .long s_]))] H := hP
        have hD : va_D A [(ha_, .inr (2, [.ref qx, .ref qy, .ref qa, .ref qb, .int (nI n)])), (qx, .inl (cI, 124, .inl X_)), (qy, .inl (cI, 124, .inl Y_)), (hx_, .inr (3, [.long p_, .long q_, .long r_, .long s_]))] := hD
        refine W.eq (g2 := F0 m 55 ls [.long (alg (X_ i) (Y_ i) q_ s_), .long y.toInt64]) rfl ?_
        refine lv_ladd hx hb d_Arc_bringTo_55 ?_
        refine lv_lstore (lv' := [(7, .long (y.toInt64 + (alg (X_ i) (Y_ i) q_ s_))), (5, .long (x.toInt64 + (alg (X_ i) (Y_ i) p_ r_))), (0, .ref ha_), (1, .int x), (2, .int y), (3, .ref hx_), (4, .int (nI i))]) hx hb d_Arc_bringTo_56 hl (by decide) rfl (fun ls hl => ?_)
        refine lv_lload hx hb d_Arc_bringTo_58 (lv_at hl 1 rfl) ?_
        refine lv_lload hx hb d_Arc_bringTo_60 (lv_at hl 0 rfl) ?_
        refine ct_callSN (av := [.long (x.toInt64 + (alg (X_ i) (Y_ i) p_ r_)), .long (y.toInt64 + (alg (X_ i) (Y_ i) q_ s_))]) (rest := []) (wr := [(ha_, .inr (2, [.ref qx, .ref qy, .ref qa, .ref qb, .int (nI n)])), (qx, .inl (cI, 124, .inl X_)), (qy, .inl (cI, 124, .inl Y_)), (hx_, .inr (3, [.long p_, .long q_, .long r_, .long s_]))]) (n := 2) (c_CP_isFarPoint l D cI cB cJ qQ  (x.toInt64 + (alg (X_ i) (Y_ i) p_ r_)) (y.toInt64 + (alg (X_ i) (Y_ i) q_ s_)) ) hx hb hml hown hts (amb_ok qQ) hK hP hD hS hA hM (gi_N gw_160) rfl (amb_nw_6 hM) (hts _ (gwc gw_28)) (hts _ (gwc gw_159)) (by decide +kernel) ⟨by omega, by omega⟩ [] [0, 1, 2, 3] rfl rfl rfl rfl (by decide) rfl hl.1 rfl (Nat.le_of_ble_eq_true rfl) d_Arc_bringTo_62 ⟨by omega, by omega⟩ (fun u_4 H locs hok hP hD hS => ?_)
        have hP : va_P D cl [(ha_, .inr (2, [.ref qx, .ref qy, .ref qa, .ref qb, .int (nI n)])), (qx, .inl (cI, 124, .inl X_)), (qy, .inl (cI, 124, .inl Y_)), (hx_, .inr (3, [.long p_, .long q_, .long r_, .long s_]))] H := hP
        have hD : va_D A [(ha_, .inr (2, [.ref qx, .ref qy, .ref qa, .ref qb, .int (nI n)])), (qx, .inl (cI, 124, .inl X_)), (qy, .inl (cI, 124, .inl Y_)), (hx_, .inr (3, [.long p_, .long q_, .long r_, .long s_]))] := hD
        refine W.eq (g2 := F0 m 65 ls [.int (bz (fr (x.toInt64 + (alg (X_ i) (Y_ i) p_ r_)) || fr (y.toInt64 + (alg (X_ i) (Y_ i) q_ s_))))]) rfl ?_
        refine bb_eq (tgt := 70) hx hb d_Arc_bringTo_65 (by decide) (fun c_5 => ?_) (fun c_5 => ?_)
        · skip
          refine lv_aload_n hx hb d_Arc_bringTo_70 rfl (lv_at hl 2 rfl) ?_
          refine va_get (D := D) (ci := 2) (v := .ref qx) (C := R_Arc) (T := T_Arc) (N := 5) hx hb hts (ui_Arc _) hown hK hP 0 rfl rfl 0 (by decide) (hts _ (gwc gw_69)) (fun _ h9 => h9) rfl d_Arc_bringTo_71 ?_
          refine lv_iload hx hb d_Arc_bringTo_74 (lv_at hl 6 rfl) ?_
          refine lv_lload hx hb d_Arc_bringTo_76 (lv_at hl 1 rfl) ?_
          refine lv_l2i (v := (x.toInt64 + (alg (X_ i) (Y_ i) p_ r_)).toInt32) hx hb d_Arc_bringTo_78 rfl ?_
          refine st_i hx hb hK hP hD hS 1 0 rfl rfl i (by omega) (by omega) d_Arc_bringTo_79 (fun H locs hP hD hS => ?_)
          have hP : va_P D cl [(ha_, .inr (2, [.ref qx, .ref qy, .ref qa, .ref qb, .int (nI n)])), (qx, .inl (cI, 124, .inl (upd X_ i ((x.toInt64 + (alg (X_ i) (Y_ i) p_ r_)).toInt32)))), (qy, .inl (cI, 124, .inl Y_)), (hx_, .inr (3, [.long p_, .long q_, .long r_, .long s_]))] H := hP
          have hD : va_D A [(ha_, .inr (2, [.ref qx, .ref qy, .ref qa, .ref qb, .int (nI n)])), (qx, .inl (cI, 124, .inl (upd X_ i ((x.toInt64 + (alg (X_ i) (Y_ i) p_ r_)).toInt32)))), (qy, .inl (cI, 124, .inl Y_)), (hx_, .inr (3, [.long p_, .long q_, .long r_, .long s_]))] := hD
          refine lv_aload_n hx hb d_Arc_bringTo_80 rfl (lv_at hl 2 rfl) ?_
          refine va_get (D := D) (ci := 2) (v := .ref qy) (C := R_Arc) (T := T_Arc) (N := 5) hx hb hts (ui_Arc _) hown hK hP 0 rfl rfl 1 (by decide) (hts _ (gwc gw_71)) (fun _ h9 => h9) rfl d_Arc_bringTo_81 ?_
          refine lv_iload hx hb d_Arc_bringTo_84 (lv_at hl 6 rfl) ?_
          refine lv_lload hx hb d_Arc_bringTo_86 (lv_at hl 0 rfl) ?_
          refine lv_l2i (v := (y.toInt64 + (alg (X_ i) (Y_ i) q_ s_)).toInt32) hx hb d_Arc_bringTo_88 rfl ?_
          refine st_i hx hb hK hP hD hS 2 0 rfl rfl i (by omega) (by omega) d_Arc_bringTo_89 (fun H locs hP hD hS => ?_)
          have hP : va_P D cl [(ha_, .inr (2, [.ref qx, .ref qy, .ref qa, .ref qb, .int (nI n)])), (qx, .inl (cI, 124, .inl (upd X_ i ((x.toInt64 + (alg (X_ i) (Y_ i) p_ r_)).toInt32)))), (qy, .inl (cI, 124, .inl (upd Y_ i ((y.toInt64 + (alg (X_ i) (Y_ i) q_ s_)).toInt32)))), (hx_, .inr (3, [.long p_, .long q_, .long r_, .long s_]))] H := hP
          have hD : va_D A [(ha_, .inr (2, [.ref qx, .ref qy, .ref qa, .ref qb, .int (nI n)])), (qx, .inl (cI, 124, .inl (upd X_ i ((x.toInt64 + (alg (X_ i) (Y_ i) p_ r_)).toInt32)))), (qy, .inl (cI, 124, .inl (upd Y_ i ((y.toInt64 + (alg (X_ i) (Y_ i) q_ s_)).toInt32)))), (hx_, .inr (3, [.long p_, .long q_, .long r_, .long s_]))] := hD
          refine lv_iinc (v := nI (i + 1)) (lv' := [(4, .int (nI (i + 1))), (7, .long (y.toInt64 + (alg (X_ i) (Y_ i) q_ s_))), (5, .long (x.toInt64 + (alg (X_ i) (Y_ i) p_ r_))), (0, .ref ha_), (1, .int x), (2, .int y), (3, .ref hx_)]) hx hb d_Arc_bringTo_90 hl (k := 6) rfl (by first | exact nI_add _ 1 | rfl | decide) (by decide) rfl (fun ls hl => ?_)
          refine lv_goto (tgt := 3) hx hb d_Arc_bringTo_93 (by decide) ?_
          exact ih_3 (i + 1) (upd X_ i ((x.toInt64 + (alg (X_ i) (Y_ i) p_ r_)).toInt32)) (upd Y_ i ((y.toInt64 + (alg (X_ i) (Y_ i) q_ s_)).toInt32)) (by omega) (by omega) (fun k h => by
      by_cases h9 : k = i
      · subst h9; have hf := Bool.or_eq_false_iff.mp c_5; rw [(hup k (Nat.le_refl k)).1, (hup k (Nat.le_refl k)).2] at hf ⊢; exact ⟨hf.1, hf.2, up_s, up_s⟩
      · rw [up_n h9, up_n h9]; exact hlo k (by omega)) (fun k h => by rw [up_n (by omega), up_n (by omega)]; exact hup k (by omega)) _ _ _ hP hD hS (lv_sub hl [3, 4, 5, 6, 0] rfl)
        · skip
          refine lv_iconst (v := 0) hx hb d_Arc_bringTo_68 (by decide) ?_
          exact ct_retz hQ hx hb hr hlocks hP hD hS (false, X_, Y_) [(ha_, .inr (2, [.ref qx, .ref qy, .ref qa, .ref qb, .int (nI n)])), (qx, .inl (cI, 124, .inl X_)), (qy, .inl (cI, 124, .inl Y_)), (hx_, .inr (3, [.long p_, .long q_, .long r_, .long s_]))] [0, 1, 2, 3] (rfl) (Or.inr ⟨rfl, i, by omega, by have hf := c_5; rw [(hup i (Nat.le_refl i)).1, (hup i (Nat.le_refl i)).2] at hf; exact hf⟩) (rfl) rfl rfl (by decide) (by omega) (by omega) d_Arc_bringTo_69
  exact L_3 ((n - 0) + 1) 0 X Y (Nat.lt_succ_self _) (by omega) (fun k h => absurd h (Nat.not_lt_zero k)) (fun _ _ => ⟨rfl, rfl⟩) _ _ _ hP hD hS (lv_sub hl [1, 2, 3, 4, 0] rfl)
