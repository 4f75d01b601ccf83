set_option maxHeartbeats 4000000 in
set_option maxRecDepth 100000 in
/-- Halving() -/
theorem c_Halving_init (l : Launch) (D : va_G) (cI cB cJ : ClassId) (qQ : Nat) (hh : Nat)  : ct l D cl [(cI, .int), (cB, .byte), (cJ, .long)] (amb qQ) y_Halving_init w_Halving_init 1 12 (2) (99) [.ref hh] [(hh, .inr (4, [.null, .null]))] (fun u_ : Nat × Nat => match u_ with | (qz, qv) => True) (fun u_ : Nat × Nat => match u_ with | (qz, qv) => none) (fun u_ : Nat × Nat => match u_ with | (qz, qv) => [(hh, .inr (4, [.ref qz, .ref qv])), (qz, .inl (cI, 88, .inl (fun _ => 0))), (qv, .inl (cI, 11, .inl (fun _ => 0)))]) := by
  refine ct_ofW (cc := b_Halving_init) (maxL := 1) (ret := none) (by decide) rfl (Nat.le_of_ble_eq_true rfl) ?_
  intro p e R s m args below meth c A Q ls hx hb hr hml hts hown hlocks hname hRf hRc hRs hRl hQ hK hP hD hS hA hM hl
  have hl : lv_has ls 1 [(0, .ref hh)] := hl
  refine lv_aload_n hx hb d_Halving_init_0 rfl (lv_at hl 0 rfl) ?_
  refine W.objInit hx hb hown (hts _ (gwc gw_93)) (hts _ (gwc gw_42)) (hts _ (gwc gw_objc)) rfl (by rw [hml]; exact hl.1) rfl d_Halving_init_1 (by omega) (by rw [hRl]; exact Nat.le_of_ble_eq_true rfl) ?_
  refine W.eq (g2 := F0 m 4 ls []) rfl ?_
  refine lv_aload_n hx hb d_Halving_init_4 rfl (lv_at hl 0 rfl) ?_
  refine lv_bipush (v := 88) hx hb d_Halving_init_5 (by decide) ?_
  refine na_i hx hb (hts _ (gwc gw_87)) hK hP hD hS hA 0 rfl 88 (by omega) (by omega) (by omega) d_Halving_init_7 (fun q_1 H hP hD hS => ?_)
  have hP : va_P D cl [(hh, .inr (4, [.null, .null])), (q_1, .inl (cI, 88, .inl (fun _ => 0)))] H := hP
  have hD : va_D A [(hh, .inr (4, [.null, .null])), (q_1, .inl (cI, 88, .inl (fun _ => 0)))] := hD
  refine va_putF (D := D) (ci := 4) (v := .ref q_1) (ty := (.array .int)) (C := R_Halving) (T := T_Halving) (N := 2) hx hb hts (ui_Halving _) t_Halving tk_Halving nk_Halving hown hK hP hD hS 0 rfl rfl 0 (by decide) (hts _ (gwc gw_94)) (fun _ h9 => h9) rfl hname rfl (by decide +kernel) rfl rfl (Nat.le_of_ble_eq_true rfl) d_Halving_init_9 (fun H locs hP hD hS => ?_)
  have hP : va_P D cl [(hh, .inr (4, [.ref q_1, .null])), (q_1, .inl (cI, 88, .inl (fun _ => 0)))] H := hP
  have hD : va_D A [(hh, .inr (4, [.ref q_1, .null])), (q_1, .inl (cI, 88, .inl (fun _ => 0)))] := hD
  refine lv_aload_n hx hb d_Halving_init_12 rfl (lv_at hl 0 rfl) ?_
  refine lv_bipush (v := 11) hx hb d_Halving_init_13 (by decide) ?_
  refine na_i hx hb (hts _ (gwc gw_87)) hK hP hD hS hA 0 rfl 11 (by omega) (by omega) (by omega) d_Halving_init_15 (fun q_2 H hP hD hS => ?_)
  have hP : va_P D cl [(hh, .inr (4, [.ref q_1, .null])), (q_1, .inl (cI, 88, .inl (fun _ => 0))), (q_2, .inl (cI, 11, .inl (fun _ => 0)))] H := hP
  have hD : va_D A [(hh, .inr (4, [.ref q_1, .null])), (q_1, .inl (cI, 88, .inl (fun _ => 0))), (q_2, .inl (cI, 11, .inl (fun _ => 0)))] := hD
  refine va_putF (D := D) (ci := 4) (v := .ref q_2) (ty := (.array .int)) (C := R_Halving) (T := T_Halving) (N := 2) hx hb hts (ui_Halving _) t_Halving tk_Halving nk_Halving hown hK hP hD hS 0 rfl rfl 1 (by decide) (hts _ (gwc gw_95)) (fun _ h9 => h9) rfl hname rfl (by decide +kernel) rfl rfl (Nat.le_of_ble_eq_true rfl) d_Halving_init_17 (fun H locs hP hD hS => ?_)
  have hP : va_P D cl [(hh, .inr (4, [.ref q_1, .ref q_2])), (q_1, .inl (cI, 88, .inl (fun _ => 0))), (q_2, .inl (cI, 11, .inl (fun _ => 0)))] H := hP
  have hD : va_D A [(hh, .inr (4, [.ref q_1, .ref q_2])), (q_1, .inl (cI, 88, .inl (fun _ => 0))), (q_2, .inl (cI, 11, .inl (fun _ => 0)))] := hD
  exact ct_retv hQ hx hb hr hlocks hP hD hS (q_1, q_2) [(hh, .inr (4, [.ref q_1, .ref q_2])), (q_1, .inl (cI, 88, .inl (fun _ => 0))), (q_2, .inl (cI, 11, .inl (fun _ => 0)))] [0, 1, 2] (rfl) (trivial) (rfl) rfl rfl (by omega) (by omega) d_Halving_init_20
set_option maxHeartbeats 4000000 in
set_option maxRecDepth 100000 in
/-- setPiece -/
theorem c_Halving_setPiece (l : Launch) (D : va_G) (cI cB cJ : ClassId) (qQ : Nat) (hh : Nat) (qz : Nat) (qv : Nat) (Z : Nat → Int32) (at_ : Nat) (va : Int32) (vb : Int32) (vc : Int32) (vd : Int32) (ha : at_ + 6 < 88) : ct l D cl [(cI, .int), (cB, .byte), (cJ, .long)] (amb qQ) y_Halving_setPiece w_Halving_setPiece 0 0 (0) (0) [.ref hh, .int (nI at_), .int va, .int vb, .int vc, .int vd] [(hh, .inr (4, [.ref qz, .ref qv])), (qz, .inl (cI, 88, .inl Z))] (fun _ : Unit => True) (fun _ : Unit => none) (fun _ : Unit => [(hh, .inr (4, [.ref qz, .ref qv])), (qz, .inl (cI, 88, .inl (spZ Z at_ va vb vc vd)))]) := by
  refine ct_ofW (cc := b_Halving_setPiece) (maxL := 6) (ret := none) (by decide) rfl (Nat.le_of_ble_eq_true rfl) ?_
  intro p e R s m args below meth c A Q ls hx hb hr hml hts hown hlocks hname hRf hRc hRs hRl hQ hK hP hD hS hA hM hl
  have hl : lv_has ls 6 [(0, .ref hh), (1, .int (nI at_)), (2, .int va), (3, .int vb), (4, .int vc), (5, .int vd)] := hl
  refine lv_aload_n hx hb d_Halving_setPiece_0 rfl (lv_at hl 0 rfl) ?_
  refine va_get (D := D) (ci := 4) (v := .ref qz) (C := R_Halving) (T := T_Halving) (N := 2) hx hb hts (ui_Halving _) hown hK hP 0 rfl rfl 0 (by decide) (hts _ (gwc gw_94)) (fun _ h9 => h9) rfl d_Halving_setPiece_1 ?_
  refine lv_iload_n hx hb d_Halving_setPiece_4 rfl (lv_at hl 1 rfl) ?_
  refine lv_iload_n hx hb d_Halving_setPiece_5 rfl (lv_at hl 2 rfl) ?_
  refine st_i hx hb hK hP hD hS 1 0 rfl rfl at_ (by omega) (by omega) d_Halving_setPiece_6 (fun H locs hP hD hS => ?_)
  have hP : va_P D cl [(hh, .inr (4, [.ref qz, .ref qv])), (qz, .inl (cI, 88, .inl (upd Z at_ va)))] H := hP
  have hD : va_D A [(hh, .inr (4, [.ref qz, .ref qv])), (qz, .inl (cI, 88, .inl (upd Z at_ va)))] := hD
  refine lv_aload_n hx hb d_Halving_setPiece_7 rfl (lv_at hl 0 rfl) ?_
  refine va_get (D := D) (ci := 4) (v := .ref qz) (C := R_Halving) (T := T_Halving) (N := 2) hx hb hts (ui_Halving _) hown hK hP 0 rfl rfl 0 (by decide) (hts _ (gwc gw_94)) (fun _ h9 => h9) rfl d_Halving_setPiece_8 ?_
  refine lv_iload_n hx hb d_Halving_setPiece_11 rfl (lv_at hl 1 rfl) ?_
  refine lv_iconst (v := 2) hx hb d_Halving_setPiece_12 (by decide) ?_
  refine lv_iadd hx hb d_Halving_setPiece_13 ?_
  refine tp_i (nI (at_ + 2)) (nI_add _ _) ?_
  refine lv_iload_n hx hb d_Halving_setPiece_14 rfl (lv_at hl 3 rfl) ?_
  refine st_i hx hb hK hP hD hS 1 0 rfl rfl (at_ + 2) (by omega) (by omega) d_Halving_setPiece_15 (fun H locs hP hD hS => ?_)
  have hP : va_P D cl [(hh, .inr (4, [.ref qz, .ref qv])), (qz, .inl (cI, 88, .inl (upd (upd Z at_ va) (at_ + 2) vb)))] H := hP
  have hD : va_D A [(hh, .inr (4, [.ref qz, .ref qv])), (qz, .inl (cI, 88, .inl (upd (upd Z at_ va) (at_ + 2) vb)))] := hD
  refine lv_aload_n hx hb d_Halving_setPiece_16 rfl (lv_at hl 0 rfl) ?_
  refine va_get (D := D) (ci := 4) (v := .ref qz) (C := R_Halving) (T := T_Halving) (N := 2) hx hb hts (ui_Halving _) hown hK hP 0 rfl rfl 0 (by decide) (hts _ (gwc gw_94)) (fun _ h9 => h9) rfl d_Halving_setPiece_17 ?_
  refine lv_iload_n hx hb d_Halving_setPiece_20 rfl (lv_at hl 1 rfl) ?_
  refine lv_iconst (v := 4) hx hb d_Halving_setPiece_21 (by decide) ?_
  refine lv_iadd hx hb d_Halving_setPiece_22 ?_
  refine tp_i (nI (at_ + 4)) (nI_add _ _) ?_
  refine lv_iload hx hb d_Halving_setPiece_23 (lv_at hl 4 rfl) ?_
  refine st_i hx hb hK hP hD hS 1 0 rfl rfl (at_ + 4) (by omega) (by omega) d_Halving_setPiece_25 (fun H locs hP hD hS => ?_)
  have hP : va_P D cl [(hh, .inr (4, [.ref qz, .ref qv])), (qz, .inl (cI, 88, .inl (upd (upd (upd Z at_ va) (at_ + 2) vb) (at_ + 4) vc)))] H := hP
  have hD : va_D A [(hh, .inr (4, [.ref qz, .ref qv])), (qz, .inl (cI, 88, .inl (upd (upd (upd Z at_ va) (at_ + 2) vb) (at_ + 4) vc)))] := hD
  refine lv_aload_n hx hb d_Halving_setPiece_26 rfl (lv_at hl 0 rfl) ?_
  refine va_get (D := D) (ci := 4) (v := .ref qz) (C := R_Halving) (T := T_Halving) (N := 2) hx hb hts (ui_Halving _) hown hK hP 0 rfl rfl 0 (by decide) (hts _ (gwc gw_94)) (fun _ h9 => h9) rfl d_Halving_setPiece_27 ?_
  refine lv_iload_n hx hb d_Halving_setPiece_30 rfl (lv_at hl 1 rfl) ?_
  refine lv_bipush (v := 6) hx hb d_Halving_setPiece_31 (by decide) ?_
  refine lv_iadd hx hb d_Halving_setPiece_33 ?_
  refine tp_i (nI (at_ + 6)) (nI_add _ _) ?_
  refine lv_iload hx hb d_Halving_setPiece_34 (lv_at hl 5 rfl) ?_
  refine st_i hx hb hK hP hD hS 1 0 rfl rfl (at_ + 6) (by omega) (by omega) d_Halving_setPiece_36 (fun H locs hP hD hS => ?_)
  have hP : va_P D cl [(hh, .inr (4, [.ref qz, .ref qv])), (qz, .inl (cI, 88, .inl (upd (upd (upd (upd Z at_ va) (at_ + 2) vb) (at_ + 4) vc) (at_ + 6) vd)))] H := hP
  have hD : va_D A [(hh, .inr (4, [.ref qz, .ref qv])), (qz, .inl (cI, 88, .inl (upd (upd (upd (upd Z at_ va) (at_ + 2) vb) (at_ + 4) vc) (at_ + 6) vd)))] := hD
  exact ct_retv hQ hx hb hr hlocks hP hD hS () [(hh, .inr (4, [.ref qz, .ref qv])), (qz, .inl (cI, 88, .inl (upd (upd (upd (upd Z at_ va) (at_ + 2) vb) (at_ + 4) vc) (at_ + 6) vd)))] [0, 1] (rfl) (trivial) (rfl) rfl rfl (by omega) (by omega) d_Halving_setPiece_37
set_option maxHeartbeats 4000000 in
set_option maxRecDepth 100000 in
/-- halveAlong -/
theorem c_Halving_halveAlong (l : Launch) (D : va_G) (cI cB cJ : ClassId) (qQ : Nat) (hh : Nat) (qz : Nat) (qv : Nat) (Z : Nat → Int32) (at_ : Nat) (ha : at_ + 14 < 88) : ct l D cl [(cI, .int), (cB, .byte), (cJ, .long)] (amb qQ) y_Halving_halveAlong w_Halving_halveAlong 1 25 (0) (0) [.ref hh, .int (nI at_)] [(hh, .inr (4, [.ref qz, .ref qv])), (qz, .inl (cI, 88, .inl Z))] (fun _ : Unit => True) (fun _ : Unit => none) (fun _ : Unit => [(hh, .inr (4, [.ref qz, .ref qv])), (qz, .inl (cI, 88, .inl (halfZ Z at_)))]) := by
  refine ct_ofW (cc := b_Halving_halveAlong) (maxL := 10) (ret := none) (by decide) rfl (Nat.le_of_ble_eq_true rfl) ?_
  intro p e R s m args below meth c A Q ls hx hb hr hml hts hown hlocks hname hRf hRc hRs hRl hQ hK hP hD hS hA hM hl
  have hl : lv_has ls 10 [(0, .ref hh), (1, .int (nI at_))] := hl
  refine lv_aload_n hx hb d_Halving_halveAlong_0 rfl (lv_at hl 0 rfl) ?_
  refine va_get (D := D) (ci := 4) (v := .ref qz) (C := R_Halving) (T := T_Halving) (N := 2) hx hb hts (ui_Halving _) hown hK hP 0 rfl rfl 0 (by decide) (hts _ (gwc gw_94)) (fun _ h9 => h9) rfl d_Halving_halveAlong_1 ?_
  refine lv_iload_n hx hb d_Halving_halveAlong_4 rfl (lv_at hl 1 rfl) ?_
  refine ld_i hx hb hK hP 1 0 rfl rfl at_ (by omega) (by omega) d_Halving_halveAlong_5 ?_
  refine lv_istore_n (lv' := [(2, .int (Z at_)), (0, .ref hh), (1, .int (nI at_))]) hx hb d_Halving_halveAlong_6 rfl hl (by decide) rfl (fun ls hl => ?_)
  refine lv_aload_n hx hb d_Halving_halveAlong_7 rfl (lv_at hl 1 rfl) ?_
  refine va_get (D := D) (ci := 4) (v := .ref qz) (C := R_Halving) (T := T_Halving) (N := 2) hx hb hts (ui_Halving _) hown hK hP 0 rfl rfl 0 (by decide) (hts _ (gwc gw_94)) (fun _ h9 => h9) rfl d_Halving_halveAlong_8 ?_
  refine lv_iload_n hx hb d_Halving_halveAlong_11 rfl (lv_at hl 2 rfl) ?_
  refine lv_bipush (v := 6) hx hb d_Halving_halveAlong_12 (by decide) ?_
  refine lv_iadd hx hb d_Halving_halveAlong_14 ?_
  refine tp_i (nI (at_ + 6)) (nI_add _ _) ?_
  refine ld_i hx hb hK hP 1 0 rfl rfl (at_ + 6) (by omega) (by omega) d_Halving_halveAlong_15 ?_
  refine lv_istore_n (lv' := [(3, .int (Z (at_ + 6))), (2, .int (Z at_)), (0, .ref hh), (1, .int (nI at_))]) hx hb d_Halving_halveAlong_16 rfl hl (by decide) rfl (fun ls hl => ?_)
  refine lv_iload_n hx hb d_Halving_halveAlong_17 rfl (lv_at hl 1 rfl) ?_
  refine lv_aload_n hx hb d_Halving_halveAlong_18 rfl (lv_at hl 2 rfl) ?_
  refine va_get (D := D) (ci := 4) (v := .ref qz) (C := R_Halving) (T := T_Halving) (N := 2) hx hb hts (ui_Halving _) hown hK hP 0 rfl rfl 0 (by decide) (hts _ (gwc gw_94)) (fun _ h9 => h9) rfl d_Halving_halveAlong_19 ?_
  refine lv_iload_n hx hb d_Halving_halveAlong_22 rfl (lv_at hl 3 rfl) ?_
  refine lv_iconst (v := 2) hx hb d_Halving_halveAlong_23 (by decide) ?_
  refine lv_iadd hx hb d_Halving_halveAlong_24 ?_
  refine tp_i (nI (at_ + 2)) (nI_add _ _) ?_
  refine ld_i hx hb hK hP 1 0 rfl rfl (at_ + 2) (by omega) (by omega) d_Halving_halveAlong_25 ?_
  refine lv_iadd hx hb d_Halving_halveAlong_26 ?_
  refine lv_iconst (v := 1) hx hb d_Halving_halveAlong_27 (by decide) ?_
  refine lv_ishr hx hb d_Halving_halveAlong_28 ?_
  refine tp_i (hvI (Z at_) (Z (at_ + 2))) (rfl) ?_
  refine lv_istore (lv' := [(4, .int (hvI (Z at_) (Z (at_ + 2)))), (3, .int (Z (at_ + 6))), (2, .int (Z at_)), (0, .ref hh), (1, .int (nI at_))]) hx hb d_Halving_halveAlong_29 hl (by decide) rfl (fun ls hl => ?_)
  refine lv_aload_n hx hb d_Halving_halveAlong_31 rfl (lv_at hl 3 rfl) ?_
  refine va_get (D := D) (ci := 4) (v := .ref qz) (C := R_Halving) (T := T_Halving) (N := 2) hx hb hts (ui_Halving _) hown hK hP 0 rfl rfl 0 (by decide) (hts _ (gwc gw_94)) (fun _ h9 => h9) rfl d_Halving_halveAlong_32 ?_
  refine lv_iload_n hx hb d_Halving_halveAlong_35 rfl (lv_at hl 4 rfl) ?_
  refine lv_iconst (v := 2) hx hb d_Halving_halveAlong_36 (by decide) ?_
  refine lv_iadd hx hb d_Halving_halveAlong_37 ?_
  refine tp_i (nI (at_ + 2)) (nI_add _ _) ?_
  refine ld_i hx hb hK hP 1 0 rfl rfl (at_ + 2) (by omega) (by omega) d_Halving_halveAlong_38 ?_
  refine lv_aload_n hx hb d_Halving_halveAlong_39 rfl (lv_at hl 3 rfl) ?_
  refine va_get (D := D) (ci := 4) (v := .ref qz) (C := R_Halving) (T := T_Halving) (N := 2) hx hb hts (ui_Halving _) hown hK hP 0 rfl rfl 0 (by decide) (hts _ (gwc gw_94)) (fun _ h9 => h9) rfl d_Halving_halveAlong_40 ?_
  refine lv_iload_n hx hb d_Halving_halveAlong_43 rfl (lv_at hl 4 rfl) ?_
  refine lv_iconst (v := 4) hx hb d_Halving_halveAlong_44 (by decide) ?_
  refine lv_iadd hx hb d_Halving_halveAlong_45 ?_
  refine tp_i (nI (at_ + 4)) (nI_add _ _) ?_
  refine ld_i hx hb hK hP 1 0 rfl rfl (at_ + 4) (by omega) (by omega) d_Halving_halveAlong_46 ?_
  refine lv_iadd hx hb d_Halving_halveAlong_47 ?_
  refine lv_iconst (v := 1) hx hb d_Halving_halveAlong_48 (by decide) ?_
  refine lv_ishr hx hb d_Halving_halveAlong_49 ?_
  refine tp_i (hvI (Z (at_ + 2)) (Z (at_ + 4))) (rfl) ?_
  refine lv_istore (lv' := [(5, .int (hvI (Z (at_ + 2)) (Z (at_ + 4)))), (4, .int (hvI (Z at_) (Z (at_ + 2)))), (3, .int (Z (at_ + 6))), (2, .int (Z at_)), (0, .ref hh), (1, .int (nI at_))]) hx hb d_Halving_halveAlong_50 hl (by decide) rfl (fun ls hl => ?_)
  refine lv_aload_n hx hb d_Halving_halveAlong_52 rfl (lv_at hl 4 rfl) ?_
  refine va_get (D := D) (ci := 4) (v := .ref qz) (C := R_Halving) (T := T_Halving) (N := 2) hx hb hts (ui_Halving _) hown hK hP 0 rfl rfl 0 (by decide) (hts _ (gwc gw_94)) (fun _ h9 => h9) rfl d_Halving_halveAlong_53 ?_
  refine lv_iload_n hx hb d_Halving_halveAlong_56 rfl (lv_at hl 5 rfl) ?_
  refine lv_iconst (v := 4) hx hb d_Halving_halveAlong_57 (by decide) ?_
  refine lv_iadd hx hb d_Halving_halveAlong_58 ?_
  refine tp_i (nI (at_ + 4)) (nI_add _ _) ?_
  refine ld_i hx hb hK hP 1 0 rfl rfl (at_ + 4) (by omega) (by omega) d_Halving_halveAlong_59 ?_
  refine lv_iload_n hx hb d_Halving_halveAlong_60 rfl (lv_at hl 2 rfl) ?_
  refine lv_iadd hx hb d_Halving_halveAlong_61 ?_
  refine lv_iconst (v := 1) hx hb d_Halving_halveAlong_62 (by decide) ?_
  refine lv_ishr hx hb d_Halving_halveAlong_63 ?_
  refine tp_i (hvI (Z (at_ + 4)) (Z (at_ + 6))) (rfl) ?_
  refine lv_istore (lv' := [(6, .int (hvI (Z (at_ + 4)) (Z (at_ + 6)))), (5, .int (hvI (Z (at_ + 2)) (Z (at_ + 4)))), (4, .int (hvI (Z at_) (Z (at_ + 2)))), (3, .int (Z (at_ + 6))), (2, .int (Z at_)), (0, .ref hh), (1, .int (nI at_))]) hx hb d_Halving_halveAlong_64 hl (by decide) rfl (fun ls hl => ?_)
  refine lv_iload hx hb d_Halving_halveAlong_66 (lv_at hl 2 rfl) ?_
  refine lv_iload hx hb d_Halving_halveAlong_68 (lv_at hl 1 rfl) ?_
  refine lv_iadd hx hb d_Halving_halveAlong_70 ?_
  refine lv_iconst (v := 1) hx hb d_Halving_halveAlong_71 (by decide) ?_
  refine lv_ishr hx hb d_Halving_halveAlong_72 ?_
  refine tp_i (hvI (hvI (Z at_) (Z (at_ + 2))) (hvI (Z (at_ + 2)) (Z (at_ + 4)))) (rfl) ?_
  refine lv_istore (lv' := [(7, .int (hvI (hvI (Z at_) (Z (at_ + 2))) (hvI (Z (at_ + 2)) (Z (at_ + 4))))), (6, .int (hvI (Z (at_ + 4)) (Z (at_ + 6)))), (5, .int (hvI (Z (at_ + 2)) (Z (at_ + 4)))), (4, .int (hvI (Z at_) (Z (at_ + 2)))), (3, .int (Z (at_ + 6))), (2, .int (Z at_)), (0, .ref hh), (1, .int (nI at_))]) hx hb d_Halving_halveAlong_73 hl (by decide) rfl (fun ls hl => ?_)
  refine lv_iload hx hb d_Halving_halveAlong_75 (lv_at hl 2 rfl) ?_
  refine lv_iload hx hb d_Halving_halveAlong_77 (lv_at hl 1 rfl) ?_
  refine lv_iadd hx hb d_Halving_halveAlong_79 ?_
  refine lv_iconst (v := 1) hx hb d_Halving_halveAlong_80 (by decide) ?_
  refine lv_ishr hx hb d_Halving_halveAlong_81 ?_
  refine tp_i (hvI (hvI (Z (at_ + 2)) (Z (at_ + 4))) (hvI (Z (at_ + 4)) (Z (at_ + 6)))) (rfl) ?_
  refine lv_istore (lv' := [(8, .int (hvI (hvI (Z (at_ + 2)) (Z (at_ + 4))) (hvI (Z (at_ + 4)) (Z (at_ + 6))))), (7, .int (hvI (hvI (Z at_) (Z (at_ + 2))) (hvI (Z (at_ + 2)) (Z (at_ + 4))))), (6, .int (hvI (Z (at_ + 4)) (Z (at_ + 6)))), (5, .int (hvI (Z (at_ + 2)) (Z (at_ + 4)))), (4, .int (hvI (Z at_) (Z (at_ + 2)))), (3, .int (Z (at_ + 6))), (2, .int (Z at_)), (0, .ref hh), (1, .int (nI at_))]) hx hb d_Halving_halveAlong_82 hl (by decide) rfl (fun ls hl => ?_)
  refine lv_iload hx hb d_Halving_halveAlong_84 (lv_at hl 1 rfl) ?_
  refine lv_iload hx hb d_Halving_halveAlong_86 (lv_at hl 0 rfl) ?_
  refine lv_iadd hx hb d_Halving_halveAlong_88 ?_
  refine lv_iconst (v := 1) hx hb d_Halving_halveAlong_89 (by decide) ?_
  refine lv_ishr hx hb d_Halving_halveAlong_90 ?_
  refine tp_i (hvI (hvI (hvI (Z at_) (Z (at_ + 2))) (hvI (Z (at_ + 2)) (Z (at_ + 4)))) (hvI (hvI (Z (at_ + 2)) (Z (at_ + 4))) (hvI (Z (at_ + 4)) (Z (at_ + 6))))) (rfl) ?_
  refine lv_istore (lv' := [(9, .int (hvI (hvI (hvI (Z at_) (Z (at_ + 2))) (hvI (Z (at_ + 2)) (Z (at_ + 4)))) (hvI (hvI (Z (at_ + 2)) (Z (at_ + 4))) (hvI (Z (at_ + 4)) (Z (at_ + 6)))))), (8, .int (hvI (hvI (Z (at_ + 2)) (Z (at_ + 4))) (hvI (Z (at_ + 4)) (Z (at_ + 6))))), (7, .int (hvI (hvI (Z at_) (Z (at_ + 2))) (hvI (Z (at_ + 2)) (Z (at_ + 4))))), (6, .int (hvI (Z (at_ + 4)) (Z (at_ + 6)))), (5, .int (hvI (Z (at_ + 2)) (Z (at_ + 4)))), (4, .int (hvI (Z at_) (Z (at_ + 2)))), (3, .int (Z (at_ + 6))), (2, .int (Z at_)), (0, .ref hh), (1, .int (nI at_))]) hx hb d_Halving_halveAlong_91 hl (by decide) rfl (fun ls hl => ?_)
  refine lv_aload_n hx hb d_Halving_halveAlong_93 rfl (lv_at hl 8 rfl) ?_
  refine lv_iload_n hx hb d_Halving_halveAlong_94 rfl (lv_at hl 9 rfl) ?_
  refine lv_bipush (v := 8) hx hb d_Halving_halveAlong_95 (by decide) ?_
  refine lv_iadd hx hb d_Halving_halveAlong_97 ?_
  refine tp_i (nI (at_ + 8)) (nI_add _ _) ?_
  refine lv_iload_n hx hb d_Halving_halveAlong_98 rfl (lv_at hl 7 rfl) ?_
  refine lv_iload hx hb d_Halving_halveAlong_99 (lv_at hl 5 rfl) ?_
  refine lv_iload hx hb d_Halving_halveAlong_101 (lv_at hl 2 rfl) ?_
  refine lv_iload hx hb d_Halving_halveAlong_103 (lv_at hl 0 rfl) ?_
  refine ct_callV (ci := 4) (q0 := 0) (As := [.int (nI (at_ + 8)), .int (Z at_), .int (hvI (Z at_) (Z (at_ + 2))), .int (hvI (hvI (Z at_) (Z (at_ + 2))) (hvI (Z (at_ + 2)) (Z (at_ + 4)))), .int (hvI (hvI (hvI (Z at_) (Z (at_ + 2))) (hvI (Z (at_ + 2)) (Z (at_ + 4)))) (hvI (hvI (Z (at_ + 2)) (Z (at_ + 4))) (hvI (Z (at_ + 4)) (Z (at_ + 6)))))]) (rest := []) (wr := []) (n := 5) (c_Halving_setPiece l D cI cB cJ qQ  hh qz qv Z (at_ + 8) (Z at_) (hvI (Z at_) (Z (at_ + 2))) (hvI (hvI (Z at_) (Z (at_ + 2))) (hvI (Z (at_ + 2)) (Z (at_ + 4)))) (hvI (hvI (hvI (Z at_) (Z (at_ + 2))) (hvI (Z (at_ + 2)) (Z (at_ + 4)))) (hvI (hvI (Z (at_ + 2)) (Z (at_ + 4))) (hvI (Z (at_ + 4)) (Z (at_ + 6))))) (by omega)) hx hb hml hown hts (amb_ok qQ) hK hP hD hS hA hM (gi_V gw_419 gw_421 gw_17 gw_31 gw_422) rfl (by decide +kernel) ⟨by omega, by omega⟩ [0, 1] [] rfl rfl rfl rfl (by decide) rfl rfl rfl hl.1 rfl (Nat.le_of_ble_eq_true rfl) d_Halving_halveAlong_105 ⟨by omega, by omega⟩ (fun u_1 H locs hok hP hD hS => ?_)
  have hP : va_P D cl [(hh, .inr (4, [.ref qz, .ref qv])), (qz, .inl (cI, 88, .inl (spZ Z (at_ + 8) (Z at_) (hvI (Z at_) (Z (at_ + 2))) (hvI (hvI (Z at_) (Z (at_ + 2))) (hvI (Z (at_ + 2)) (Z (at_ + 4)))) (hvI (hvI (hvI (Z at_) (Z (at_ + 2))) (hvI (Z (at_ + 2)) (Z (at_ + 4)))) (hvI (hvI (Z (at_ + 2)) (Z (at_ + 4))) (hvI (Z (at_ + 4)) (Z (at_ + 6))))))))] H := hP
  have hD : va_D A [(hh, .inr (4, [.ref qz, .ref qv])), (qz, .inl (cI, 88, .inl (spZ Z (at_ + 8) (Z at_) (hvI (Z at_) (Z (at_ + 2))) (hvI (hvI (Z at_) (Z (at_ + 2))) (hvI (Z (at_ + 2)) (Z (at_ + 4)))) (hvI (hvI (hvI (Z at_) (Z (at_ + 2))) (hvI (Z (at_ + 2)) (Z (at_ + 4)))) (hvI (hvI (Z (at_ + 2)) (Z (at_ + 4))) (hvI (Z (at_ + 4)) (Z (at_ + 6))))))))] := hD
  refine W.eq (g2 := F0 m 108 ls []) rfl ?_
  refine lv_aload_n hx hb d_Halving_halveAlong_108 rfl (lv_at hl 8 rfl) ?_
  refine lv_iload_n hx hb d_Halving_halveAlong_109 rfl (lv_at hl 9 rfl) ?_
  refine lv_iload hx hb d_Halving_halveAlong_110 (lv_at hl 0 rfl) ?_
  refine lv_iload hx hb d_Halving_halveAlong_112 (lv_at hl 1 rfl) ?_
  refine lv_iload hx hb d_Halving_halveAlong_114 (lv_at hl 3 rfl) ?_
  refine lv_iload_n hx hb d_Halving_halveAlong_116 rfl (lv_at hl 6 rfl) ?_
  refine ct_callV (ci := 4) (q0 := 0) (As := [.int (nI at_), .int (hvI (hvI (hvI (Z at_) (Z (at_ + 2))) (hvI (Z (at_ + 2)) (Z (at_ + 4)))) (hvI (hvI (Z (at_ + 2)) (Z (at_ + 4))) (hvI (Z (at_ + 4)) (Z (at_ + 6))))), .int (hvI (hvI (Z (at_ + 2)) (Z (at_ + 4))) (hvI (Z (at_ + 4)) (Z (at_ + 6)))), .int (hvI (Z (at_ + 4)) (Z (at_ + 6))), .int (Z (at_ + 6))]) (rest := []) (wr := []) (n := 5) (c_Halving_setPiece l D cI cB cJ qQ  hh qz qv (spZ Z (at_ + 8) (Z at_) (hvI (Z at_) (Z (at_ + 2))) (hvI (hvI (Z at_) (Z (at_ + 2))) (hvI (Z (at_ + 2)) (Z (at_ + 4)))) (hvI (hvI (hvI (Z at_) (Z (at_ + 2))) (hvI (Z (at_ + 2)) (Z (at_ + 4)))) (hvI (hvI (Z (at_ + 2)) (Z (at_ + 4))) (hvI (Z (at_ + 4)) (Z (at_ + 6)))))) at_ (hvI (hvI (hvI (Z at_) (Z (at_ + 2))) (hvI (Z (at_ + 2)) (Z (at_ + 4)))) (hvI (hvI (Z (at_ + 2)) (Z (at_ + 4))) (hvI (Z (at_ + 4)) (Z (at_ + 6))))) (hvI (hvI (Z (at_ + 2)) (Z (at_ + 4))) (hvI (Z (at_ + 4)) (Z (at_ + 6)))) (hvI (Z (at_ + 4)) (Z (at_ + 6))) (Z (at_ + 6)) (by omega)) hx hb hml hown hts (amb_ok qQ) hK hP hD hS hA hM (gi_V gw_419 gw_421 gw_17 gw_31 gw_422) rfl (by decide +kernel) ⟨by omega, by omega⟩ [0, 1] [] rfl rfl rfl rfl (by decide) rfl rfl rfl hl.1 rfl (Nat.le_of_ble_eq_true rfl) d_Halving_halveAlong_117 ⟨by omega, by omega⟩ (fun u_2 H locs hok hP hD hS => ?_)
  have hP : va_P D cl [(hh, .inr (4, [.ref qz, .ref qv])), (qz, .inl (cI, 88, .inl (spZ (spZ Z (at_ + 8) (Z at_) (hvI (Z at_) (Z (at_ + 2))) (hvI (hvI (Z at_) (Z (at_ + 2))) (hvI (Z (at_ + 2)) (Z (at_ + 4)))) (hvI (hvI (hvI (Z at_) (Z (at_ + 2))) (hvI (Z (at_ + 2)) (Z (at_ + 4)))) (hvI (hvI (Z (at_ + 2)) (Z (at_ + 4))) (hvI (Z (at_ + 4)) (Z (at_ + 6)))))) at_ (hvI (hvI (hvI (Z at_) (Z (at_ + 2))) (hvI (Z (at_ + 2)) (Z (at_ + 4)))) (hvI (hvI (Z (at_ + 2)) (Z (at_ + 4))) (hvI (Z (at_ + 4)) (Z (at_ + 6))))) (hvI (hvI (Z (at_ + 2)) (Z (at_ + 4))) (hvI (Z (at_ + 4)) (Z (at_ + 6)))) (hvI (Z (at_ + 4)) (Z (at_ + 6))) (Z (at_ + 6)))))] H := hP
  have hD : va_D A [(hh, .inr (4, [.ref qz, .ref qv])), (qz, .inl (cI, 88, .inl (spZ (spZ Z (at_ + 8) (Z at_) (hvI (Z at_) (Z (at_ + 2))) (hvI (hvI (Z at_) (Z (at_ + 2))) (hvI (Z (at_ + 2)) (Z (at_ + 4)))) (hvI (hvI (hvI (Z at_) (Z (at_ + 2))) (hvI (Z (at_ + 2)) (Z (at_ + 4)))) (hvI (hvI (Z (at_ + 2)) (Z (at_ + 4))) (hvI (Z (at_ + 4)) (Z (at_ + 6)))))) at_ (hvI (hvI (hvI (Z at_) (Z (at_ + 2))) (hvI (Z (at_ + 2)) (Z (at_ + 4)))) (hvI (hvI (Z (at_ + 2)) (Z (at_ + 4))) (hvI (Z (at_ + 4)) (Z (at_ + 6))))) (hvI (hvI (Z (at_ + 2)) (Z (at_ + 4))) (hvI (Z (at_ + 4)) (Z (at_ + 6)))) (hvI (Z (at_ + 4)) (Z (at_ + 6))) (Z (at_ + 6)))))] := hD
  refine W.eq (g2 := F0 m 120 ls []) rfl ?_
  exact ct_retv hQ hx hb hr hlocks hP hD hS () [(hh, .inr (4, [.ref qz, .ref qv])), (qz, .inl (cI, 88, .inl (spZ (spZ Z (at_ + 8) (Z at_) (hvI (Z at_) (Z (at_ + 2))) (hvI (hvI (Z at_) (Z (at_ + 2))) (hvI (Z (at_ + 2)) (Z (at_ + 4)))) (hvI (hvI (hvI (Z at_) (Z (at_ + 2))) (hvI (Z (at_ + 2)) (Z (at_ + 4)))) (hvI (hvI (Z (at_ + 2)) (Z (at_ + 4))) (hvI (Z (at_ + 4)) (Z (at_ + 6)))))) at_ (hvI (hvI (hvI (Z at_) (Z (at_ + 2))) (hvI (Z (at_ + 2)) (Z (at_ + 4)))) (hvI (hvI (Z (at_ + 2)) (Z (at_ + 4))) (hvI (Z (at_ + 4)) (Z (at_ + 6))))) (hvI (hvI (Z (at_ + 2)) (Z (at_ + 4))) (hvI (Z (at_ + 4)) (Z (at_ + 6)))) (hvI (Z (at_ + 4)) (Z (at_ + 6))) (Z (at_ + 6)))))] [0, 1] (rfl) (trivial) (rfl) rfl rfl (by omega) (by omega) d_Halving_halveAlong_120
set_option maxHeartbeats 4000000 in
set_option maxRecDepth 100000 in
/-- halve -/
theorem c_Halving_halve (l : Launch) (D : va_G) (cI cB cJ : ClassId) (qQ : Nat) (hh : Nat) (qz : Nat) (qv : Nat) (Z : Nat → Int32) (V_ : Nat → Int32) (pc_ : Nat) (ha : pc_ < 10) : ct l D cl [(cI, .int), (cB, .byte), (cJ, .long)] (amb qQ) y_Halving_halve w_Halving_halve 2 54 (0) (0) [.ref hh, .int (nI pc_)] [(hh, .inr (4, [.ref qz, .ref qv])), (qz, .inl (cI, 88, .inl Z)), (qv, .inl (cI, 11, .inl V_))] (fun _ : Unit => True) (fun _ : Unit => none) (fun _ : Unit => [(hh, .inr (4, [.ref qz, .ref qv])), (qz, .inl (cI, 88, .inl (halfZ (halfZ Z (8 * pc_)) (8 * pc_ + 1)))), (qv, .inl (cI, 11, .inl (upd (upd V_ pc_ (V_ pc_ + 1)) (pc_ + 1) (V_ pc_ + 1))))]) := by
  refine ct_ofW (cc := b_Halving_halve) (maxL := 2) (ret := none) (by decide) rfl (Nat.le_of_ble_eq_true rfl) ?_
  intro p e R s m args below meth c A Q ls hx hb hr hml hts hown hlocks hname hRf hRc hRs hRl hQ hK hP hD hS hA hM hl
  have hl : lv_has ls 2 [(0, .ref hh), (1, .int (nI pc_))] := hl
  refine lv_aload_n hx hb d_Halving_halve_0 rfl (lv_at hl 0 rfl) ?_
  refine lv_bipush (v := 8) hx hb d_Halving_halve_1 (by decide) ?_
  refine lv_iload_n hx hb d_Halving_halve_3 rfl (lv_at hl 1 rfl) ?_
  refine lv_imul hx hb d_Halving_halve_4 ?_
  refine tp_i (nI (8 * pc_)) (pk_mul _ _) ?_
  refine ct_callV (ci := 4) (q0 := 0) (As := [.int (nI (8 * pc_))]) (rest := []) (wr := [(qv, .inl (cI, 11, .inl V_))]) (n := 1) (c_Halving_halveAlong l D cI cB cJ qQ  hh qz qv Z (8 * pc_) (by omega)) hx hb hml hown hts (amb_ok qQ) hK hP hD hS hA hM (gi_V gw_415 gw_417 gw_16 gw_31 gw_418) rfl (by decide +kernel) ⟨by omega, by omega⟩ [0, 1] [2] rfl rfl rfl rfl (by decide) rfl rfl rfl hl.1 rfl (Nat.le_of_ble_eq_true rfl) d_Halving_halve_5 ⟨by omega, by omega⟩ (fun u_1 H locs hok hP hD hS => ?_)
  have hP : va_P D cl [(qv, .inl (cI, 11, .inl V_)), (hh, .inr (4, [.ref qz, .ref qv])), (qz, .inl (cI, 88, .inl (halfZ Z (8 * pc_))))] H := hP
  have hD : va_D A [(qv, .inl (cI, 11, .inl V_)), (hh, .inr (4, [.ref qz, .ref qv])), (qz, .inl (cI, 88, .inl (halfZ Z (8 * pc_))))] := hD
  refine W.eq (g2 := F0 m 8 ls []) rfl ?_
  refine lv_aload_n hx hb d_Halving_halve_8 rfl (lv_at hl 0 rfl) ?_
  refine lv_bipush (v := 8) hx hb d_Halving_halve_9 (by decide) ?_
  refine lv_iload_n hx hb d_Halving_halve_11 rfl (lv_at hl 1 rfl) ?_
  refine lv_imul hx hb d_Halving_halve_12 ?_
  refine tp_i (nI (8 * pc_)) (pk_mul _ _) ?_
  refine lv_iconst (v := 1) hx hb d_Halving_halve_13 (by decide) ?_
  refine lv_iadd hx hb d_Halving_halve_14 ?_
  refine tp_i (nI (8 * pc_ + 1)) (nI_add _ _) ?_
  refine ct_callV (ci := 4) (q0 := 1) (As := [.int (nI (8 * pc_ + 1))]) (rest := []) (wr := [(qv, .inl (cI, 11, .inl V_))]) (n := 1) (c_Halving_halveAlong l D cI cB cJ qQ  hh qz qv (halfZ Z (8 * pc_)) (8 * pc_ + 1) (by omega)) hx hb hml hown hts (amb_ok qQ) hK hP hD hS hA hM (gi_V gw_415 gw_417 gw_16 gw_31 gw_418) rfl (by decide +kernel) ⟨by omega, by omega⟩ [1, 2] [0] rfl rfl rfl rfl (by decide) rfl rfl rfl hl.1 rfl (Nat.le_of_ble_eq_true rfl) d_Halving_halve_15 ⟨by omega, by omega⟩ (fun u_2 H locs hok hP hD hS => ?_)
  have hP : va_P D cl [(qv, .inl (cI, 11, .inl V_)), (hh, .inr (4, [.ref qz, .ref qv])), (qz, .inl (cI, 88, .inl (halfZ (halfZ Z (8 * pc_)) (8 * pc_ + 1))))] H := hP
  have hD : va_D A [(qv, .inl (cI, 11, .inl V_)), (hh, .inr (4, [.ref qz, .ref qv])), (qz, .inl (cI, 88, .inl (halfZ (halfZ Z (8 * pc_)) (8 * pc_ + 1))))] := hD
  refine W.eq (g2 := F0 m 18 ls []) rfl ?_
  refine lv_aload_n hx hb d_Halving_halve_18 rfl (lv_at hl 0 rfl) ?_
  refine va_get (D := D) (ci := 4) (v := .ref qv) (C := R_Halving) (T := T_Halving) (N := 2) hx hb hts (ui_Halving _) hown hK hP 1 rfl rfl 1 (by decide) (hts _ (gwc gw_95)) (fun _ h9 => h9) rfl d_Halving_halve_19 ?_
  refine lv_iload_n hx hb d_Halving_halve_22 rfl (lv_at hl 1 rfl) ?_
  refine lv_dup2_11 hx hb d_Halving_halve_23 rfl rfl ?_
  refine ld_i hx hb hK hP 0 0 rfl rfl pc_ (by omega) (by omega) d_Halving_halve_24 ?_
  refine lv_iconst (v := 1) hx hb d_Halving_halve_25 (by decide) ?_
  refine lv_iadd hx hb d_Halving_halve_26 ?_
  refine st_i hx hb hK hP hD hS 0 0 rfl rfl pc_ (by omega) (by omega) d_Halving_halve_27 (fun H locs hP hD hS => ?_)
  have hP : va_P D cl [(qv, .inl (cI, 11, .inl (upd V_ pc_ ((V_ pc_) + 1)))), (hh, .inr (4, [.ref qz, .ref qv])), (qz, .inl (cI, 88, .inl (halfZ (halfZ Z (8 * pc_)) (8 * pc_ + 1))))] H := hP
  have hD : va_D A [(qv, .inl (cI, 11, .inl (upd V_ pc_ ((V_ pc_) + 1)))), (hh, .inr (4, [.ref qz, .ref qv])), (qz, .inl (cI, 88, .inl (halfZ (halfZ Z (8 * pc_)) (8 * pc_ + 1))))] := hD
  refine lv_aload_n hx hb d_Halving_halve_28 rfl (lv_at hl 0 rfl) ?_
  refine va_get (D := D) (ci := 4) (v := .ref qv) (C := R_Halving) (T := T_Halving) (N := 2) hx hb hts (ui_Halving _) hown hK hP 1 rfl rfl 1 (by decide) (hts _ (gwc gw_95)) (fun _ h9 => h9) rfl d_Halving_halve_29 ?_
  refine lv_iload_n hx hb d_Halving_halve_32 rfl (lv_at hl 1 rfl) ?_
  refine lv_iconst (v := 1) hx hb d_Halving_halve_33 (by decide) ?_
  refine lv_iadd hx hb d_Halving_halve_34 ?_
  refine tp_i (nI (pc_ + 1)) (nI_add _ _) ?_
  refine lv_aload_n hx hb d_Halving_halve_35 rfl (lv_at hl 0 rfl) ?_
  refine va_get (D := D) (ci := 4) (v := .ref qv) (C := R_Halving) (T := T_Halving) (N := 2) hx hb hts (ui_Halving _) hown hK hP 1 rfl rfl 1 (by decide) (hts _ (gwc gw_95)) (fun _ h9 => h9) rfl d_Halving_halve_36 ?_
  refine lv_iload_n hx hb d_Halving_halve_39 rfl (lv_at hl 1 rfl) ?_
  refine ld_i hx hb hK hP 0 0 rfl rfl pc_ (by omega) (by omega) d_Halving_halve_40 ?_
  refine tp_i (V_ pc_ + 1) (up_s) ?_
  refine st_i hx hb hK hP hD hS 0 0 rfl rfl (pc_ + 1) (by omega) (by omega) d_Halving_halve_41 (fun H locs hP hD hS => ?_)
  have hP : va_P D cl [(qv, .inl (cI, 11, .inl (upd (upd V_ pc_ ((V_ pc_) + 1)) (pc_ + 1) (V_ pc_ + 1)))), (hh, .inr (4, [.ref qz, .ref qv])), (qz, .inl (cI, 88, .inl (halfZ (halfZ Z (8 * pc_)) (8 * pc_ + 1))))] H := hP
  have hD : va_D A [(qv, .inl (cI, 11, .inl (upd (upd V_ pc_ ((V_ pc_) + 1)) (pc_ + 1) (V_ pc_ + 1)))), (hh, .inr (4, [.ref qz, .ref qv])), (qz, .inl (cI, 88, .inl (halfZ (halfZ Z (8 * pc_)) (8 * pc_ + 1))))] := hD
  exact ct_retv hQ hx hb hr hlocks hP hD hS () [(hh, .inr (4, [.ref qz, .ref qv])), (qz, .inl (cI, 88, .inl (halfZ (halfZ Z (8 * pc_)) (8 * pc_ + 1)))), (qv, .inl (cI, 11, .inl (upd (upd V_ pc_ ((V_ pc_) + 1)) (pc_ + 1) (V_ pc_ + 1))))] [1, 2, 0] (rfl) (trivial) (rfl) rfl rfl (by omega) (by omega) d_Halving_halve_42
set_option maxHeartbeats 4000000 in
set_option maxRecDepth 100000 in
/-- isStraight -/
theorem c_Halving_isStraight (l : Launch) (D : va_G) (cI cB cJ : ClassId) (qQ : Nat) (hh : Nat) (qz : Nat) (qv : Nat) (Z : Nat → Int32) (at_ : Nat) (bd : Int32) (ha : at_ + 4 < 88) : ct l D cl [(cI, .int), (cB, .byte), (cJ, .long)] (amb qQ) y_Halving_isStraight w_Halving_isStraight 1 21 (0) (0) [.ref hh, .int (nI at_), .int bd] [(hh, .inr (4, [.ref qz, .ref qv])), (qz, .inl (cI, 88, .inl Z))] (fun _ : Unit => True) (fun _ : Unit => some (.int (bz (strZ Z at_ bd)))) (fun _ : Unit => [(hh, .inr (4, [.ref qz, .ref qv])), (qz, .inl (cI, 88, .inl Z))]) := by
  refine ct_ofW (cc := b_Halving_isStraight) (maxL := 5) (ret := (some .boolean)) (by decide) rfl (Nat.le_of_ble_eq_true rfl) ?_
  intro p e R s m args below meth c A Q ls hx hb hr hml hts hown hlocks hname hRf hRc hRs hRl hQ hK hP hD hS hA hM hl
  have hl : lv_has ls 5 [(0, .ref hh), (1, .int (nI at_)), (2, .int bd)] := hl
  refine lv_aload_n hx hb d_Halving_isStraight_0 rfl (lv_at hl 0 rfl) ?_
  refine va_get (D := D) (ci := 4) (v := .ref qz) (C := R_Halving) (T := T_Halving) (N := 2) hx hb hts (ui_Halving _) hown hK hP 0 rfl rfl 0 (by decide) (hts _ (gwc gw_94)) (fun _ h9 => h9) rfl d_Halving_isStraight_1 ?_
  refine lv_iload_n hx hb d_Halving_isStraight_4 rfl (lv_at hl 1 rfl) ?_
  refine ld_i hx hb hK hP 1 0 rfl rfl at_ (by omega) (by omega) d_Halving_isStraight_5 ?_
  refine lv_i2l (v := (Z at_).toInt64) hx hb d_Halving_isStraight_6 rfl ?_
  refine lv_ldc2 (v := 2) hx hb hown (hts _ (gwc gw_408)) d_Halving_isStraight_7 ?_
  refine lv_aload_n hx hb d_Halving_isStraight_10 rfl (lv_at hl 0 rfl) ?_
  refine va_get (D := D) (ci := 4) (v := .ref qz) (C := R_Halving) (T := T_Halving) (N := 2) hx hb hts (ui_Halving _) hown hK hP 0 rfl rfl 0 (by decide) (hts _ (gwc gw_94)) (fun _ h9 => h9) rfl d_Halving_isStraight_11 ?_
  refine lv_iload_n hx hb d_Halving_isStraight_14 rfl (lv_at hl 1 rfl) ?_
  refine lv_iconst (v := 2) hx hb d_Halving_isStraight_15 (by decide) ?_
  refine lv_iadd hx hb d_Halving_isStraight_16 ?_
  refine tp_i (nI (at_ + 2)) (nI_add _ _) ?_
  refine ld_i hx hb hK hP 1 0 rfl rfl (at_ + 2) (by omega) (by omega) d_Halving_isStraight_17 ?_
  refine lv_i2l (v := (Z (at_ + 2)).toInt64) hx hb d_Halving_isStraight_18 rfl ?_
  refine lv_lmul hx hb d_Halving_isStraight_19 ?_
  refine lv_lsub hx hb d_Halving_isStraight_20 ?_
  refine lv_aload_n hx hb d_Halving_isStraight_21 rfl (lv_at hl 0 rfl) ?_
  refine va_get (D := D) (ci := 4) (v := .ref qz) (C := R_Halving) (T := T_Halving) (N := 2) hx hb hts (ui_Halving _) hown hK hP 0 rfl rfl 0 (by decide) (hts _ (gwc gw_94)) (fun _ h9 => h9) rfl d_Halving_isStraight_22 ?_
  refine lv_iload_n hx hb d_Halving_isStraight_25 rfl (lv_at hl 1 rfl) ?_
  refine lv_iconst (v := 4) hx hb d_Halving_isStraight_26 (by decide) ?_
  refine lv_iadd hx hb d_Halving_isStraight_27 ?_
  refine tp_i (nI (at_ + 4)) (nI_add _ _) ?_
  refine ld_i hx hb hK hP 1 0 rfl rfl (at_ + 4) (by omega) (by omega) d_Halving_isStraight_28 ?_
  refine lv_i2l (v := (Z (at_ + 4)).toInt64) hx hb d_Halving_isStraight_29 rfl ?_
  refine lv_ladd hx hb d_Halving_isStraight_30 ?_
  refine lv_lstore_n (lv' := [(3, .long ((((Z at_).toInt64) - (2 * ((Z (at_ + 2)).toInt64))) + ((Z (at_ + 4)).toInt64))), (0, .ref hh), (1, .int (nI at_)), (2, .int bd)]) hx hb d_Halving_isStraight_31 rfl hl (by decide) rfl (fun ls hl => ?_)
  refine lv_ldc2 (v := 3) hx hb hown (hts _ (gwc gw_409)) d_Halving_isStraight_32 ?_
  refine lv_lload_n hx hb d_Halving_isStraight_35 rfl (lv_at hl 0 rfl) ?_
  refine ct_callS (av := [.long ((((Z at_).toInt64) - (2 * ((Z (at_ + 2)).toInt64))) + ((Z (at_ + 4)).toInt64))]) (rest := [.long 3]) (wr := [(hh, .inr (4, [.ref qz, .ref qv])), (qz, .inl (cI, 88, .inl Z))]) (n := 1) (c_abs l D cI cB cJ qQ  ((((Z at_).toInt64) - (2 * ((Z (at_ + 2)).toInt64))) + ((Z (at_ + 4)).toInt64)) ) hx hb hml hown hts (amb_ok qQ) hK hP hD hS hA hM (gi_S gw_410 gw_256 gw_35 gw_257) rfl (by decide +kernel) ⟨by omega, by omega⟩ [] [0, 1] rfl rfl rfl rfl (by decide) rfl hl.1 rfl (Nat.le_of_ble_eq_true rfl) d_Halving_isStraight_36 ⟨by omega, by omega⟩ (fun u_1 H locs hok hP hD hS => ?_)
  have hP : va_P D cl [(hh, .inr (4, [.ref qz, .ref qv])), (qz, .inl (cI, 88, .inl Z))] H := hP
  have hD : va_D A [(hh, .inr (4, [.ref qz, .ref qv])), (qz, .inl (cI, 88, .inl Z))] := hD
  refine W.eq (g2 := F0 m 39 ls [.long (if 0 ≤ ((((Z at_).toInt64) - (2 * ((Z (at_ + 2)).toInt64))) + ((Z (at_ + 4)).toInt64)) then ((((Z at_).toInt64) - (2 * ((Z (at_ + 2)).toInt64))) + ((Z (at_ + 4)).toInt64)) else -((((Z at_).toInt64) - (2 * ((Z (at_ + 2)).toInt64))) + ((Z (at_ + 4)).toInt64))), .long 3]) rfl ?_
  refine tp_l (absL ((Z at_).toInt64 - 2 * (Z (at_ + 2)).toInt64 + (Z (at_ + 4)).toInt64)) (rfl) ?_
  refine lv_lmul hx hb d_Halving_isStraight_39 ?_
  refine lv_ldc2 (v := 2) hx hb hown (hts _ (gwc gw_408)) d_Halving_isStraight_40 ?_
  refine lv_iload_n hx hb d_Halving_isStraight_43 rfl (lv_at hl 3 rfl) ?_
  refine lv_i2l (v := bd.toInt64) hx hb d_Halving_isStraight_44 rfl ?_
  refine lv_lmul hx hb d_Halving_isStraight_45 ?_
  refine W.lcmp hx hb d_Halving_isStraight_46 ?_
  refine lc_gt (tgt := 54) hx hb d_Halving_isStraight_47 (by decide) (fun c_2 => ?_) (fun c_2 => ?_)
  · skip
    refine lv_iconst (v := 0) hx hb d_Halving_isStraight_54 (by decide) ?_
    exact ct_retz hQ hx hb hr hlocks hP hD hS () [(hh, .inr (4, [.ref qz, .ref qv])), (qz, .inl (cI, 88, .inl Z))] [0, 1] (by rw [strZ, strt, decide_eq_false (Int64.not_le.mpr c_2)]; rfl) (trivial) (rfl) rfl rfl (by decide) (by omega) (by omega) d_Halving_isStraight_55
  · skip
    refine lv_iconst (v := 1) hx hb d_Halving_isStraight_50 (by decide) ?_
    refine lv_goto (tgt := 55) hx hb d_Halving_isStraight_51 (by decide) ?_
    exact ct_retz hQ hx hb hr hlocks hP hD hS () [(hh, .inr (4, [.ref qz, .ref qv])), (qz, .inl (cI, 88, .inl Z))] [0, 1] (by rw [strZ, strt, decide_eq_true (Int64.not_lt.mp c_2)]; rfl) (trivial) (rfl) rfl rfl (by decide) (by omega) (by omega) d_Halving_isStraight_55
set_option maxHeartbeats 4000000 in
set_option maxRecDepth 100000 in
/-- isFlatAlong -/
theorem c_Halving_isFlatAlong (l : Launch) (D : va_G) (cI cB cJ : ClassId) (qQ : Nat) (hh : Nat) (qz : Nat) (qv : Nat) (Z : Nat → Int32) (at_ : Nat) (bd : Int32) (ha : at_ + 6 < 88) : ct l D cl [(cI, .int), (cB, .byte), (cJ, .long)] (amb qQ) y_Halving_isFlatAlong w_Halving_isFlatAlong 2 45 (0) (0) [.ref hh, .int (nI at_), .int bd] [(hh, .inr (4, [.ref qz, .ref qv])), (qz, .inl (cI, 88, .inl Z))] (fun _ : Unit => True) (fun _ : Unit => some (.int (bz (strZ Z at_ bd && strZ Z (at_ + 2) bd)))) (fun _ : Unit => [(hh, .inr (4, [.ref qz, .ref qv])), (qz, .inl (cI, 88, .inl Z))]) := by
  refine ct_ofW (cc := b_Halving_isFlatAlong) (maxL := 3) (ret := (some .boolean)) (by decide) rfl (Nat.le_of_ble_eq_true rfl) ?_
  intro p e R s m args below meth c A Q ls hx hb hr hml hts hown hlocks hname hRf hRc hRs hRl hQ hK hP hD hS hA hM hl
  have hl : lv_has ls 3 [(0, .ref hh), (1, .int (nI at_)), (2, .int bd)] := hl
  refine lv_aload_n hx hb d_Halving_isFlatAlong_0 rfl (lv_at hl 0 rfl) ?_
  refine lv_iload_n hx hb d_Halving_isFlatAlong_1 rfl (lv_at hl 1 rfl) ?_
  refine lv_iload_n hx hb d_Halving_isFlatAlong_2 rfl (lv_at hl 2 rfl) ?_
  refine ct_callV (ci := 4) (q0 := 0) (As := [.int (nI at_), .int bd]) (rest := []) (wr := []) (n := 2) (c_Halving_isStraight l D cI cB cJ qQ  hh qz qv Z at_ bd (by omega)) hx hb hml hown hts (amb_ok qQ) hK hP hD hS hA hM (gi_V gw_404 gw_406 gw_14 gw_31 gw_407) rfl (by decide +kernel) ⟨by omega, by omega⟩ [0, 1] [] rfl rfl rfl rfl (by decide) rfl rfl rfl hl.1 rfl (Nat.le_of_ble_eq_true rfl) d_Halving_isFlatAlong_3 ⟨by omega, by omega⟩ (fun u_1 H locs hok hP hD hS => ?_)
  have hP : va_P D cl [(hh, .inr (4, [.ref qz, .ref qv])), (qz, .inl (cI, 88, .inl Z))] H := hP
  have hD : va_D A [(hh, .inr (4, [.ref qz, .ref qv])), (qz, .inl (cI, 88, .inl Z))] := hD
  refine W.eq (g2 := F0 m 6 ls [.int (bz (strZ Z at_ bd))]) rfl ?_
  refine bb_eq (tgt := 24) hx hb d_Halving_isFlatAlong_6 (by decide) (fun c_2 => ?_) (fun c_2 => ?_)
  · skip
    refine lv_iconst (v := 0) hx hb d_Halving_isFlatAlong_24 (by decide) ?_
    exact ct_retz hQ hx hb hr hlocks hP hD hS () [(hh, .inr (4, [.ref qz, .ref qv])), (qz, .inl (cI, 88, .inl Z))] [0, 1] (by simp [bz, c_2]) (trivial) (rfl) rfl rfl (by decide) (by omega) (by omega) d_Halving_isFlatAlong_25
  · skip
    refine lv_aload_n hx hb d_Halving_isFlatAlong_9 rfl (lv_at hl 0 rfl) ?_
    refine lv_iload_n hx hb d_Halving_isFlatAlong_10 rfl (lv_at hl 1 rfl) ?_
    refine lv_iconst (v := 2) hx hb d_Halving_isFlatAlong_11 (by decide) ?_
    refine lv_iadd hx hb d_Halving_isFlatAlong_12 ?_
    refine tp_i (nI (at_ + 2)) (nI_add _ _) ?_
    refine lv_iload_n hx hb d_Halving_isFlatAlong_13 rfl (lv_at hl 2 rfl) ?_
    refine ct_callV (ci := 4) (q0 := 0) (As := [.int (nI (at_ + 2)), .int bd]) (rest := []) (wr := []) (n := 2) (c_Halving_isStraight l D cI cB cJ qQ  hh qz qv Z (at_ + 2) bd (by omega)) hx hb hml hown hts (amb_ok qQ) hK hP hD hS hA hM (gi_V gw_404 gw_406 gw_14 gw_31 gw_407) rfl (by decide +kernel) ⟨by omega, by omega⟩ [0, 1] [] rfl rfl rfl rfl (by decide) rfl rfl rfl hl.1 rfl (Nat.le_of_ble_eq_true rfl) d_Halving_isFlatAlong_14 ⟨by omega, by omega⟩ (fun u_3 H locs hok hP hD hS => ?_)
    have hP : va_P D cl [(hh, .inr (4, [.ref qz, .ref qv])), (qz, .inl (cI, 88, .inl Z))] H := hP
    have hD : va_D A [(hh, .inr (4, [.ref qz, .ref qv])), (qz, .inl (cI, 88, .inl Z))] := hD
    refine W.eq (g2 := F0 m 17 ls [.int (bz (strZ Z (at_ + 2) bd))]) rfl ?_
    refine bb_eq (tgt := 24) hx hb d_Halving_isFlatAlong_17 (by decide) (fun c_4 => ?_) (fun c_4 => ?_)
    · skip
      refine lv_iconst (v := 0) hx hb d_Halving_isFlatAlong_24 (by decide) ?_
      exact ct_retz hQ hx hb hr hlocks hP hD hS () [(hh, .inr (4, [.ref qz, .ref qv])), (qz, .inl (cI, 88, .inl Z))] [0, 1] (by simp [bz, c_2, c_4]) (trivial) (rfl) rfl rfl (by decide) (by omega) (by omega) d_Halving_isFlatAlong_25
    · skip
      refine lv_iconst (v := 1) hx hb d_Halving_isFlatAlong_20 (by decide) ?_
      refine lv_goto (tgt := 25) hx hb d_Halving_isFlatAlong_21 (by decide) ?_
      exact ct_retz hQ hx hb hr hlocks hP hD hS () [(hh, .inr (4, [.ref qz, .ref qv])), (qz, .inl (cI, 88, .inl Z))] [0, 1] (by simp [bz, c_2, c_4]) (trivial) (rfl) rfl rfl (by decide) (by omega) (by omega) d_Halving_isFlatAlong_25
set_option maxHeartbeats 4000000 in
set_option maxRecDepth 100000 in
/-- isFlat -/
theorem c_Halving_isFlat (l : Launch) (D : va_G) (cI cB cJ : ClassId) (qQ : Nat) (hh : Nat) (qz : Nat) (qv : Nat) (Z : Nat → Int32) (pc_ : Nat) (bd : Int32) (ha : pc_ < 11) : ct l D cl [(cI, .int), (cB, .byte), (cJ, .long)] (amb qQ) y_Halving_isFlat w_Halving_isFlat 3 67 (0) (0) [.ref hh, .int (nI pc_), .int bd] [(hh, .inr (4, [.ref qz, .ref qv])), (qz, .inl (cI, 88, .inl Z))] (fun _ : Unit => True) (fun _ : Unit => some (.int (bz (flatZ Z pc_ bd)))) (fun _ : Unit => [(hh, .inr (4, [.ref qz, .ref qv])), (qz, .inl (cI, 88, .inl Z))]) := by
  refine ct_ofW (cc := b_Halving_isFlat) (maxL := 4) (ret := (some .boolean)) (by decide) rfl (Nat.le_of_ble_eq_true rfl) ?_
  intro p e R s m args below meth c A Q ls hx hb hr hml hts hown hlocks hname hRf hRc hRs hRl hQ hK hP hD hS hA hM hl
  have hl : lv_has ls 4 [(0, .ref hh), (1, .int (nI pc_)), (2, .int bd)] := hl
  refine lv_bipush (v := 8) hx hb d_Halving_isFlat_0 (by decide) ?_
  refine lv_iload_n hx hb d_Halving_isFlat_2 rfl (lv_at hl 1 rfl) ?_
  refine lv_imul hx hb d_Halving_isFlat_3 ?_
  refine tp_i (nI (8 * pc_)) (pk_mul _ _) ?_
  refine lv_istore_n (lv' := [(3, .int (nI (8 * pc_))), (0, .ref hh), (1, .int (nI pc_)), (2, .int bd)]) hx hb d_Halving_isFlat_4 rfl hl (by decide) rfl (fun ls hl => ?_)
  refine lv_aload_n hx hb d_Halving_isFlat_5 rfl (lv_at hl 1 rfl) ?_
  refine lv_iload_n hx hb d_Halving_isFlat_6 rfl (lv_at hl 0 rfl) ?_
  refine lv_iload_n hx hb d_Halving_isFlat_7 rfl (lv_at hl 3 rfl) ?_
  refine ct_callV (ci := 4) (q0 := 0) (As := [.int (nI (8 * pc_)), .int bd]) (rest := []) (wr := []) (n := 2) (c_Halving_isFlatAlong l D cI cB cJ qQ  hh qz qv Z (8 * pc_) bd (by omega)) hx hb hml hown hts (amb_ok qQ) hK hP hD hS hA hM (gi_V gw_400 gw_402 gw_13 gw_31 gw_403) rfl (by decide +kernel) ⟨by omega, by omega⟩ [0, 1] [] rfl rfl rfl rfl (by decide) rfl rfl rfl hl.1 rfl (Nat.le_of_ble_eq_true rfl) d_Halving_isFlat_8 ⟨by omega, by omega⟩ (fun u_1 H locs hok hP hD hS => ?_)
  have hP : va_P D cl [(hh, .inr (4, [.ref qz, .ref qv])), (qz, .inl (cI, 88, .inl Z))] H := hP
  have hD : va_D A [(hh, .inr (4, [.ref qz, .ref qv])), (qz, .inl (cI, 88, .inl Z))] := hD
  refine W.eq (g2 := F0 m 11 ls [.int (bz (strZ Z (8 * pc_) bd && strZ Z ((8 * pc_) + 2) bd))]) rfl ?_
  refine bb_eq (tgt := 29) hx hb d_Halving_isFlat_11 (by decide) (fun c_2 => ?_) (fun c_2 => ?_)
  · skip
    refine lv_iconst (v := 0) hx hb d_Halving_isFlat_29 (by decide) ?_
    exact ct_retz hQ hx hb hr hlocks hP hD hS () [(hh, .inr (4, [.ref qz, .ref qv])), (qz, .inl (cI, 88, .inl Z))] [0, 1] (by simp [flatZ, bz, c_2]) (trivial) (rfl) rfl rfl (by decide) (by omega) (by omega) d_Halving_isFlat_30
  · skip
    refine lv_aload_n hx hb d_Halving_isFlat_14 rfl (lv_at hl 1 rfl) ?_
    refine lv_iload_n hx hb d_Halving_isFlat_15 rfl (lv_at hl 0 rfl) ?_
    refine lv_iconst (v := 1) hx hb d_Halving_isFlat_16 (by decide) ?_
    refine lv_iadd hx hb d_Halving_isFlat_17 ?_
    refine tp_i (nI (8 * pc_ + 1)) (nI_add _ _) ?_
    refine lv_iload_n hx hb d_Halving_isFlat_18 rfl (lv_at hl 3 rfl) ?_
    refine ct_callV (ci := 4) (q0 := 0) (As := [.int (nI (8 * pc_ + 1)), .int bd]) (rest := []) (wr := []) (n := 2) (c_Halving_isFlatAlong l D cI cB cJ qQ  hh qz qv Z (8 * pc_ + 1) bd (by omega)) hx hb hml hown hts (amb_ok qQ) hK hP hD hS hA hM (gi_V gw_400 gw_402 gw_13 gw_31 gw_403) rfl (by decide +kernel) ⟨by omega, by omega⟩ [0, 1] [] rfl rfl rfl rfl (by decide) rfl rfl rfl hl.1 rfl (Nat.le_of_ble_eq_true rfl) d_Halving_isFlat_19 ⟨by omega, by omega⟩ (fun u_3 H locs hok hP hD hS => ?_)
    have hP : va_P D cl [(hh, .inr (4, [.ref qz, .ref qv])), (qz, .inl (cI, 88, .inl Z))] H := hP
    have hD : va_D A [(hh, .inr (4, [.ref qz, .ref qv])), (qz, .inl (cI, 88, .inl Z))] := hD
    refine W.eq (g2 := F0 m 22 ls [.int (bz (strZ Z (8 * pc_ + 1) bd && strZ Z ((8 * pc_ + 1) + 2) bd))]) rfl ?_
    refine bb_eq (tgt := 29) hx hb d_Halving_isFlat_22 (by decide) (fun c_4 => ?_) (fun c_4 => ?_)
    · skip
      refine lv_iconst (v := 0) hx hb d_Halving_isFlat_29 (by decide) ?_
      exact ct_retz hQ hx hb hr hlocks hP hD hS () [(hh, .inr (4, [.ref qz, .ref qv])), (qz, .inl (cI, 88, .inl Z))] [0, 1] (by simp [flatZ, bz, c_2, c_4]) (trivial) (rfl) rfl rfl (by decide) (by omega) (by omega) d_Halving_isFlat_30
    · skip
      refine lv_iconst (v := 1) hx hb d_Halving_isFlat_25 (by decide) ?_
      refine lv_goto (tgt := 30) hx hb d_Halving_isFlat_26 (by decide) ?_
      exact ct_retz hQ hx hb hr hlocks hP hD hS () [(hh, .inr (4, [.ref qz, .ref qv])), (qz, .inl (cI, 88, .inl Z))] [0, 1] (by simp [flatZ, bz, c_2, c_4]) (trivial) (rfl) rfl rfl (by decide) (by omega) (by omega) d_Halving_isFlat_30
set_option maxHeartbeats 4000000 in
set_option maxRecDepth 100000 in
/-- Arc() -/
theorem c_Arc_init (l : Launch) (D : va_G) (cI cB cJ : ClassId) (qQ : Nat) (ha_ : Nat)  : ct l D cl [(cI, .int), (cB, .byte), (cJ, .long)] (amb qQ) y_Arc_init w_Arc_init 1 12 (4) (256) [.ref ha_] [(ha_, .inr (2, [.null, .null, .null, .null, .int 0]))] (fun u_ : Nat × Nat × Nat × Nat => match u_ with | (qx, qy, qa, qb) => True) (fun u_ : Nat × Nat × Nat × Nat => match u_ with | (qx, qy, qa, qb) => none) (fun u_ : Nat × Nat × Nat × Nat => match u_ with | (qx, qy, qa, qb) => [(ha_, .inr (2, [.ref qx, .ref qy, .ref qa, .ref qb, .int (nI 0)])), (qx, .inl (cI, 124, .inl (fun _ => 0))), (qy, .inl (cI, 124, .inl (fun _ => 0))), (qa, .inl (cI, 4, .inl (fun _ => 0))), (qb, .inl (cI, 4, .inl (fun _ => 0)))]) := by
  refine ct_ofW (cc := b_Arc_init) (maxL := 1) (ret := none) (by decide) rfl (Nat.le_of_ble_eq_true rfl) ?_
  intro p e R s m args below meth c A Q ls hx hb hr hml hts hown hlocks hname hRf hRc hRs hRl hQ hK hP hD hS hA hM hl
  have hl : lv_has ls 1 [(0, .ref ha_)] := hl
  refine lv_aload_n hx hb d_Arc_init_0 rfl (lv_at hl 0 rfl) ?_
  refine W.objInit hx hb hown (hts _ (gwc gw_68)) (hts _ (gwc gw_42)) (hts _ (gwc gw_objc)) rfl (by rw [hml]; exact hl.1) rfl d_Arc_init_1 (by omega) (by rw [hRl]; exact Nat.le_of_ble_eq_true rfl) ?_
  refine W.eq (g2 := F0 m 4 ls []) rfl ?_
  refine lv_aload_n hx hb d_Arc_init_4 rfl (lv_at hl 0 rfl) ?_
  refine lv_bipush (v := 124) hx hb d_Arc_init_5 (by decide) ?_
  refine na_i hx hb (hts _ (gwc gw_87)) hK hP hD hS hA 0 rfl 124 (by omega) (by omega) (by omega) d_Arc_init_7 (fun q_1 H hP hD hS => ?_)
  have hP : va_P D cl [(ha_, .inr (2, [.null, .null, .null, .null, .int 0])), (q_1, .inl (cI, 124, .inl (fun _ => 0)))] H := hP
  have hD : va_D A [(ha_, .inr (2, [.null, .null, .null, .null, .int 0])), (q_1, .inl (cI, 124, .inl (fun _ => 0)))] := hD
  refine va_putF (D := D) (ci := 2) (v := .ref q_1) (ty := (.array .int)) (C := R_Arc) (T := T_Arc) (N := 5) hx hb hts (ui_Arc _) t_Arc tk_Arc nk_Arc hown hK hP hD hS 0 rfl rfl 0 (by decide) (hts _ (gwc gw_69)) (fun _ h9 => h9) rfl hname rfl (by decide +kernel) rfl rfl (Nat.le_of_ble_eq_true rfl) d_Arc_init_9 (fun H locs hP hD hS => ?_)
  have hP : va_P D cl [(ha_, .inr (2, [.ref q_1, .null, .null, .null, .int 0])), (q_1, .inl (cI, 124, .inl (fun _ => 0)))] H := hP
  have hD : va_D A [(ha_, .inr (2, [.ref q_1, .null, .null, .null, .int 0])), (q_1, .inl (cI, 124, .inl (fun _ => 0)))] := hD
  refine lv_aload_n hx hb d_Arc_init_12 rfl (lv_at hl 0 rfl) ?_
  refine lv_bipush (v := 124) hx hb d_Arc_init_13 (by decide) ?_
  refine na_i hx hb (hts _ (gwc gw_87)) hK hP hD hS hA 0 rfl 124 (by omega) (by omega) (by omega) d_Arc_init_15 (fun q_2 H hP hD hS => ?_)
  have hP : va_P D cl [(ha_, .inr (2, [.ref q_1, .null, .null, .null, .int 0])), (q_1, .inl (cI, 124, .inl (fun _ => 0))), (q_2, .inl (cI, 124, .inl (fun _ => 0)))] H := hP
  have hD : va_D A [(ha_, .inr (2, [.ref q_1, .null, .null, .null, .int 0])), (q_1, .inl (cI, 124, .inl (fun _ => 0))), (q_2, .inl (cI, 124, .inl (fun _ => 0)))] := hD
  refine va_putF (D := D) (ci := 2) (v := .ref q_2) (ty := (.array .int)) (C := R_Arc) (T := T_Arc) (N := 5) hx hb hts (ui_Arc _) t_Arc tk_Arc nk_Arc hown hK hP hD hS 0 rfl rfl 1 (by decide) (hts _ (gwc gw_71)) (fun _ h9 => h9) rfl hname rfl (by decide +kernel) rfl rfl (Nat.le_of_ble_eq_true rfl) d_Arc_init_17 (fun H locs hP hD hS => ?_)
  have hP : va_P D cl [(ha_, .inr (2, [.ref q_1, .ref q_2, .null, .null, .int 0])), (q_1, .inl (cI, 124, .inl (fun _ => 0))), (q_2, .inl (cI, 124, .inl (fun _ => 0)))] H := hP
  have hD : va_D A [(ha_, .inr (2, [.ref q_1, .ref q_2, .null, .null, .int 0])), (q_1, .inl (cI, 124, .inl (fun _ => 0))), (q_2, .inl (cI, 124, .inl (fun _ => 0)))] := hD
  refine lv_aload_n hx hb d_Arc_init_20 rfl (lv_at hl 0 rfl) ?_
  refine lv_iconst (v := 4) hx hb d_Arc_init_21 (by decide) ?_
  refine na_i hx hb (hts _ (gwc gw_87)) hK hP hD hS hA 0 rfl 4 (by omega) (by omega) (by omega) d_Arc_init_22 (fun q_3 H hP hD hS => ?_)
  have hP : va_P D cl [(ha_, .inr (2, [.ref q_1, .ref q_2, .null, .null, .int 0])), (q_1, .inl (cI, 124, .inl (fun _ => 0))), (q_2, .inl (cI, 124, .inl (fun _ => 0))), (q_3, .inl (cI, 4, .inl (fun _ => 0)))] H := hP
  have hD : va_D A [(ha_, .inr (2, [.ref q_1, .ref q_2, .null, .null, .int 0])), (q_1, .inl (cI, 124, .inl (fun _ => 0))), (q_2, .inl (cI, 124, .inl (fun _ => 0))), (q_3, .inl (cI, 4, .inl (fun _ => 0)))] := hD
  refine va_putF (D := D) (ci := 2) (v := .ref q_3) (ty := (.array .int)) (C := R_Arc) (T := T_Arc) (N := 5) hx hb hts (ui_Arc _) t_Arc tk_Arc nk_Arc hown hK hP hD hS 0 rfl rfl 2 (by decide) (hts _ (gwc gw_73)) (fun _ h9 => h9) rfl hname rfl (by decide +kernel) rfl rfl (Nat.le_of_ble_eq_true rfl) d_Arc_init_24 (fun H locs hP hD hS => ?_)
  have hP : va_P D cl [(ha_, .inr (2, [.ref q_1, .ref q_2, .ref q_3, .null, .int 0])), (q_1, .inl (cI, 124, .inl (fun _ => 0))), (q_2, .inl (cI, 124, .inl (fun _ => 0))), (q_3, .inl (cI, 4, .inl (fun _ => 0)))] H := hP
  have hD : va_D A [(ha_, .inr (2, [.ref q_1, .ref q_2, .ref q_3, .null, .int 0])), (q_1, .inl (cI, 124, .inl (fun _ => 0))), (q_2, .inl (cI, 124, .inl (fun _ => 0))), (q_3, .inl (cI, 4, .inl (fun _ => 0)))] := hD
  refine lv_aload_n hx hb d_Arc_init_27 rfl (lv_at hl 0 rfl) ?_
  refine lv_iconst (v := 4) hx hb d_Arc_init_28 (by decide) ?_
  refine na_i hx hb (hts _ (gwc gw_87)) hK hP hD hS hA 0 rfl 4 (by omega) (by omega) (by omega) d_Arc_init_29 (fun q_4 H hP hD hS => ?_)
  have hP : va_P D cl [(ha_, .inr (2, [.ref q_1, .ref q_2, .ref q_3, .null, .int 0])), (q_1, .inl (cI, 124, .inl (fun _ => 0))), (q_2, .inl (cI, 124, .inl (fun _ => 0))), (q_3, .inl (cI, 4, .inl (fun _ => 0))), (q_4, .inl (cI, 4, .inl (fun _ => 0)))] H := hP
  have hD : va_D A [(ha_, .inr (2, [.ref q_1, .ref q_2, .ref q_3, .null, .int 0])), (q_1, .inl (cI, 124, .inl (fun _ => 0))), (q_2, .inl (cI, 124, .inl (fun _ => 0))), (q_3, .inl (cI, 4, .inl (fun _ => 0))), (q_4, .inl (cI, 4, .inl (fun _ => 0)))] := hD
  refine va_putF (D := D) (ci := 2) (v := .ref q_4) (ty := (.array .int)) (C := R_Arc) (T := T_Arc) (N := 5) hx hb hts (ui_Arc _) t_Arc tk_Arc nk_Arc hown hK hP hD hS 0 rfl rfl 3 (by decide) (hts _ (gwc gw_74)) (fun _ h9 => h9) rfl hname rfl (by decide +kernel) rfl rfl (Nat.le_of_ble_eq_true rfl) d_Arc_init_31 (fun H locs hP hD hS => ?_)
  have hP : va_P D cl [(ha_, .inr (2, [.ref q_1, .ref q_2, .ref q_3, .ref q_4, .int 0])), (q_1, .inl (cI, 124, .inl (fun _ => 0))), (q_2, .inl (cI, 124, .inl (fun _ => 0))), (q_3, .inl (cI, 4, .inl (fun _ => 0))), (q_4, .inl (cI, 4, .inl (fun _ => 0)))] H := hP
  have hD : va_D A [(ha_, .inr (2, [.ref q_1, .ref q_2, .ref q_3, .ref q_4, .int 0])), (q_1, .inl (cI, 124, .inl (fun _ => 0))), (q_2, .inl (cI, 124, .inl (fun _ => 0))), (q_3, .inl (cI, 4, .inl (fun _ => 0))), (q_4, .inl (cI, 4, .inl (fun _ => 0)))] := hD
  exact ct_retv hQ hx hb hr hlocks hP hD hS (q_1, q_2, q_3, q_4) [(ha_, .inr (2, [.ref q_1, .ref q_2, .ref q_3, .ref q_4, .int 0])), (q_1, .inl (cI, 124, .inl (fun _ => 0))), (q_2, .inl (cI, 124, .inl (fun _ => 0))), (q_3, .inl (cI, 4, .inl (fun _ => 0))), (q_4, .inl (cI, 4, .inl (fun _ => 0)))] [0, 1, 2, 3, 4] (rfl) (trivial) (rfl) rfl rfl (by omega) (by omega) d_Arc_init_34
set_option maxHeartbeats 4000000 in
set_option maxRecDepth 100000 in
/-- mix -/
theorem c_Arc_mix (l : Launch) (D : va_G) (cI cB cJ : ClassId) (qQ : Nat) (x : Int32) (y : Int32) (t : Int32)  : ct l D cl [(cI, .int), (cB, .byte), (cJ, .long)] (amb qQ) y_Arc_mix w_Arc_mix 0 0 (0) (0) [.int x, .int y, .int t] [] (fun _ : Unit => True) (fun _ : Unit => some (.int (mixI x y t))) (fun _ : Unit => []) := by
  refine ct_ofW (cc := b_Arc_mix) (maxL := 3) (ret := (some .int)) (by decide) rfl (Nat.le_of_ble_eq_true rfl) ?_
  intro p e R s m args below meth c A Q ls hx hb hr hml hts hown hlocks hname hRf hRc hRs hRl hQ hK hP hD hS hA hM hl
  have hl : lv_has ls 3 [(0, .int x), (1, .int y), (2, .int t)] := hl
  refine lv_iload_n hx hb d_Arc_mix_0 rfl (lv_at hl 0 rfl) ?_
  refine lv_iload_n hx hb d_Arc_mix_1 rfl (lv_at hl 1 rfl) ?_
  refine lv_iload_n hx hb d_Arc_mix_2 rfl (lv_at hl 0 rfl) ?_
  refine lv_isub hx hb d_Arc_mix_3 ?_
  refine lv_i2l (v := (y - x).toInt64) hx hb d_Arc_mix_4 rfl ?_
  refine lv_iload_n hx hb d_Arc_mix_5 rfl (lv_at hl 2 rfl) ?_
  refine lv_i2l (v := t.toInt64) hx hb d_Arc_mix_6 rfl ?_
  refine lv_lmul hx hb d_Arc_mix_7 ?_
  refine lv_ldc2 (v := 32768) hx hb hown (hts _ (gwc gw_296)) d_Arc_mix_8 ?_
  refine lv_ladd hx hb d_Arc_mix_11 ?_
  refine lv_bipush (v := 16) hx hb d_Arc_mix_12 (by decide) ?_
  refine lv_lshr (v := ((((y - x).toInt64) * t.toInt64) + 32768) >>> ((16 : Int32).toInt64 &&& 63)) hx hb d_Arc_mix_14 rfl ?_
  refine lv_l2i (v := (((((y - x).toInt64) * t.toInt64) + 32768) >>> ((16 : Int32).toInt64 &&& 63)).toInt32) hx hb d_Arc_mix_15 rfl ?_
  refine lv_iadd hx hb d_Arc_mix_16 ?_
  exact ct_reti hQ hx hb hr hlocks hP hD hS () [] [] (rfl) (trivial) (rfl) rfl rfl (by omega) (by omega) d_Arc_mix_17
set_option maxHeartbeats 4000000 in
set_option maxRecDepth 100000 in
/-- placeIn -/
theorem c_Arc_placeIn (l : Launch) (D : va_G) (cI cB cJ : ClassId) (qQ : Nat) (q : Int64) (an : Int64)  : ct l D cl [(cI, .int), (cB, .byte), (cJ, .long)] (amb qQ) y_Arc_placeIn w_Arc_placeIn 0 0 (0) (0) [.long q, .long an] [] (fun _ : Unit => True) (fun _ : Unit => some (.int (plI q an))) (fun _ : Unit => []) := by
  refine ct_ofW (cc := b_Arc_placeIn) (maxL := 4) (ret := (some .int)) (by decide) rfl (Nat.le_of_ble_eq_true rfl) ?_
  intro p e R s m args below meth c A Q ls hx hb hr hml hts hown hlocks hname hRf hRc hRs hRl hQ hK hP hD hS hA hM hl
  have hl : lv_has ls 4 [(0, .long q), (2, .long an)] := hl
  refine lv_lload_n hx hb d_Arc_placeIn_0 rfl (lv_at hl 1 rfl) ?_
  refine lv_lload_n hx hb d_Arc_placeIn_1 rfl (lv_at hl 0 rfl) ?_
  refine lv_ldc2 (v := 5898240) hx hb hown (hts _ (gwc gw_263)) d_Arc_placeIn_2 ?_
  refine lv_lmul hx hb d_Arc_placeIn_5 ?_
  refine lv_lsub hx hb d_Arc_placeIn_6 ?_
  refine lv_ldc2 (v := 45) hx hb hown (hts _ (gwc gw_270)) d_Arc_placeIn_7 ?_
  refine lv_ladd hx hb d_Arc_placeIn_10 ?_
  refine lv_ldc2 (v := 90) hx hb hown (hts _ (gwc gw_271)) d_Arc_placeIn_11 ?_
  refine lv_ldiv hx hb d_Arc_placeIn_14 (by decide) ?_
  refine lv_l2i (v := (((an - (q * 5898240)) + 45) / 90).toInt32) hx hb d_Arc_placeIn_15 rfl ?_
  exact ct_reti hQ hx hb hr hlocks hP hD hS () [] [] (rfl) (trivial) (rfl) rfl rfl (by omega) (by omega) d_Arc_placeIn_16
set_option maxHeartbeats 4000000 in
set_option maxRecDepth 100000 in
/-- turnQuarter -/
theorem c_Arc_turnQuarter (l : Launch) (D : va_G) (cI cB cJ : ClassId) (qQ : Nat) (ha_ : Nat) (qx : Nat) (qy : Nat) (qa : Nat) (qb : Nat) (n : Nat) (a0 : Int32) (a1 : Int32) (a2 : Int32) (a3 : Int32) (b0 : Int32) (b1 : Int32) (b2 : Int32) (b3 : Int32)  : ct l D cl [(cI, .int), (cB, .byte), (cJ, .long)] (amb qQ) y_Arc_turnQuarter w_Arc_turnQuarter 0 0 (0) (0) [.ref ha_] [(ha_, .inr (2, [.ref qx, .ref qy, .ref qa, .ref qb, .int (nI n)])), (qa, .inl (cI, 4, .inl (j4 a0 a1 a2 a3))), (qb, .inl (cI, 4, .inl (j4 b0 b1 b2 b3)))] (fun _ : Unit => True) (fun _ : Unit => none) (fun _ : Unit => [(ha_, .inr (2, [.ref qx, .ref qy, .ref qa, .ref qb, .int (nI n)])), (qa, .inl (cI, 4, .inl (j4 (-b0) (-b1) (-b2) (-b3)))), (qb, .inl (cI, 4, .inl (j4 a0 a1 a2 a3)))]) := by
  refine ct_ofW (cc := b_Arc_turnQuarter) (maxL := 3) (ret := none) (by decide) rfl (Nat.le_of_ble_eq_true rfl) ?_
  intro p e R s m args below meth c A Q ls hx hb hr hml hts hown hlocks hname hRf hRc hRs hRl hQ hK hP hD hS hA hM hl
  have hl : lv_has ls 3 [(0, .ref ha_)] := hl
  refine lv_iconst (v := 0) hx hb d_Arc_turnQuarter_0 (by decide) ?_
  refine lv_istore_n (lv' := [(1, .int 0), (0, .ref ha_)]) hx hb d_Arc_turnQuarter_1 rfl hl (by decide) rfl (fun ls hl => ?_)
  refine lv_iload_n hx hb d_Arc_turnQuarter_2 rfl (lv_at hl 0 rfl) ?_
  refine lv_iconst (v := 4) hx hb d_Arc_turnQuarter_3 (by decide) ?_
  refine bn_ge (a1 := 0) (b1 := 4) (tgt := 40) hx hb (by omega) (by omega) d_Arc_turnQuarter_4 (by decide) (fun c_1 => ?_) (fun c_1 => ?_)
  · exact absurd c_1 (by decide)
  refine lv_aload_n hx hb d_Arc_turnQuarter_7 rfl (lv_at hl 1 rfl) ?_
  refine va_get (D := D) (ci := 2) (v := .ref qa) (C := R_Arc) (T := T_Arc) (N := 5) hx hb hts (ui_Arc _) hown hK hP 0 rfl rfl 2 (by decide) (hts _ (gwc gw_73)) (fun _ h9 => h9) rfl d_Arc_turnQuarter_8 ?_
  refine lv_iload_n hx hb d_Arc_turnQuarter_11 rfl (lv_at hl 0 rfl) ?_
  refine ld_i hx hb hK hP 1 0 rfl rfl 0 (by omega) (by omega) d_Arc_turnQuarter_12 ?_
  refine tp_i (a0) (rfl) ?_
  refine lv_istore_n (lv' := [(2, .int a0), (1, .int 0), (0, .ref ha_)]) hx hb d_Arc_turnQuarter_13 rfl hl (by decide) rfl (fun ls hl => ?_)
  refine lv_aload_n hx hb d_Arc_turnQuarter_14 rfl (lv_at hl 2 rfl) ?_
  refine va_get (D := D) (ci := 2) (v := .ref qa) (C := R_Arc) (T := T_Arc) (N := 5) hx hb hts (ui_Arc _) hown hK hP 0 rfl rfl 2 (by decide) (hts _ (gwc gw_73)) (fun _ h9 => h9) rfl d_Arc_turnQuarter_15 ?_
  refine lv_iload_n hx hb d_Arc_turnQuarter_18 rfl (lv_at hl 1 rfl) ?_
  refine lv_aload_n hx hb d_Arc_turnQuarter_19 rfl (lv_at hl 2 rfl) ?_
  refine va_get (D := D) (ci := 2) (v := .ref qb) (C := R_Arc) (T := T_Arc) (N := 5) hx hb hts (ui_Arc _) hown hK hP 0 rfl rfl 3 (by decide) (hts _ (gwc gw_74)) (fun _ h9 => h9) rfl d_Arc_turnQuarter_20 ?_
  refine lv_iload_n hx hb d_Arc_turnQuarter_23 rfl (lv_at hl 1 rfl) ?_
  refine ld_i hx hb hK hP 2 0 rfl rfl 0 (by omega) (by omega) d_Arc_turnQuarter_24 ?_
  refine tp_i (b0) (rfl) ?_
  refine lv_ineg hx hb d_Arc_turnQuarter_25 ?_
  refine sf_i (j4 (-b0) a1 a2 a3) hx hb hK hP hD hS 1 0 rfl rfl 0 j4_0 (by decide) (by decide) d_Arc_turnQuarter_26 (fun H locs hP hD hS => ?_)
  have hP : va_P D cl [(ha_, .inr (2, [.ref qx, .ref qy, .ref qa, .ref qb, .int (nI n)])), (qa, .inl (cI, 4, .inl (j4 (-b0) a1 a2 a3))), (qb, .inl (cI, 4, .inl (j4 b0 b1 b2 b3)))] H := hP
  have hD : va_D A [(ha_, .inr (2, [.ref qx, .ref qy, .ref qa, .ref qb, .int (nI n)])), (qa, .inl (cI, 4, .inl (j4 (-b0) a1 a2 a3))), (qb, .inl (cI, 4, .inl (j4 b0 b1 b2 b3)))] := hD
  refine lv_aload_n hx hb d_Arc_turnQuarter_27 rfl (lv_at hl 2 rfl) ?_
  refine va_get (D := D) (ci := 2) (v := .ref qb) (C := R_Arc) (T := T_Arc) (N := 5) hx hb hts (ui_Arc _) hown hK hP 0 rfl rfl 3 (by decide) (hts _ (gwc gw_74)) (fun _ h9 => h9) rfl d_Arc_turnQuarter_28 ?_
  refine lv_iload_n hx hb d_Arc_turnQuarter_31 rfl (lv_at hl 1 rfl) ?_
  refine lv_iload_n hx hb d_Arc_turnQuarter_32 rfl (lv_at hl 0 rfl) ?_
  refine sf_i (j4 a0 b1 b2 b3) hx hb hK hP hD hS 2 0 rfl rfl 0 j4_0 (by decide) (by decide) d_Arc_turnQuarter_33 (fun H locs hP hD hS => ?_)
  have hP : va_P D cl [(ha_, .inr (2, [.ref qx, .ref qy, .ref qa, .ref qb, .int (nI n)])), (qa, .inl (cI, 4, .inl (j4 (-b0) a1 a2 a3))), (qb, .inl (cI, 4, .inl (j4 a0 b1 b2 b3)))] H := hP
  have hD : va_D A [(ha_, .inr (2, [.ref qx, .ref qy, .ref qa, .ref qb, .int (nI n)])), (qa, .inl (cI, 4, .inl (j4 (-b0) a1 a2 a3))), (qb, .inl (cI, 4, .inl (j4 a0 b1 b2 b3)))] := hD
  refine lv_iinc (v := 1) (lv' := [(1, .int 1), (2, .int a0), (0, .ref ha_)]) hx hb d_Arc_turnQuarter_34 hl (k := 1) rfl (by first | exact nI_add _ 1 | rfl | decide) (by decide) rfl (fun ls hl => ?_)
  refine lv_goto (tgt := 2) hx hb d_Arc_turnQuarter_37 (by decide) ?_
  refine lv_iload_n hx hb d_Arc_turnQuarter_2 rfl (lv_at hl 0 rfl) ?_
  refine lv_iconst (v := 4) hx hb d_Arc_turnQuarter_3 (by decide) ?_
  refine bn_ge (a1 := 1) (b1 := 4) (tgt := 40) hx hb (by omega) (by omega) d_Arc_turnQuarter_4 (by decide) (fun c_2 => ?_) (fun c_2 => ?_)
  · exact absurd c_2 (by decide)
  refine lv_aload_n hx hb d_Arc_turnQuarter_7 rfl (lv_at hl 2 rfl) ?_
  refine va_get (D := D) (ci := 2) (v := .ref qa) (C := R_Arc) (T := T_Arc) (N := 5) hx hb hts (ui_Arc _) hown hK hP 0 rfl rfl 2 (by decide) (hts _ (gwc gw_73)) (fun _ h9 => h9) rfl d_Arc_turnQuarter_8 ?_
  refine lv_iload_n hx hb d_Arc_turnQuarter_11 rfl (lv_at hl 0 rfl) ?_
  refine ld_i hx hb hK hP 1 0 rfl rfl 1 (by omega) (by omega) d_Arc_turnQuarter_12 ?_
  refine tp_i (a1) (rfl) ?_
  refine lv_istore_n (lv' := [(2, .int a1), (1, .int 1), (0, .ref ha_)]) hx hb d_Arc_turnQuarter_13 rfl hl (by decide) rfl (fun ls hl => ?_)
  refine lv_aload_n hx hb d_Arc_turnQuarter_14 rfl (lv_at hl 2 rfl) ?_
  refine va_get (D := D) (ci := 2) (v := .ref qa) (C := R_Arc) (T := T_Arc) (N := 5) hx hb hts (ui_Arc _) hown hK hP 0 rfl rfl 2 (by decide) (hts _ (gwc gw_73)) (fun _ h9 => h9) rfl d_Arc_turnQuarter_15 ?_
  refine lv_iload_n hx hb d_Arc_turnQuarter_18 rfl (lv_at hl 1 rfl) ?_
  refine lv_aload_n hx hb d_Arc_turnQuarter_19 rfl (lv_at hl 2 rfl) ?_
  refine va_get (D := D) (ci := 2) (v := .ref qb) (C := R_Arc) (T := T_Arc) (N := 5) hx hb hts (ui_Arc _) hown hK hP 0 rfl rfl 3 (by decide) (hts _ (gwc gw_74)) (fun _ h9 => h9) rfl d_Arc_turnQuarter_20 ?_
  refine lv_iload_n hx hb d_Arc_turnQuarter_23 rfl (lv_at hl 1 rfl) ?_
  refine ld_i hx hb hK hP 2 0 rfl rfl 1 (by omega) (by omega) d_Arc_turnQuarter_24 ?_
  refine tp_i (b1) (rfl) ?_
  refine lv_ineg hx hb d_Arc_turnQuarter_25 ?_
  refine sf_i (j4 (-b0) (-b1) a2 a3) hx hb hK hP hD hS 1 0 rfl rfl 1 j4_1 (by decide) (by decide) d_Arc_turnQuarter_26 (fun H locs hP hD hS => ?_)
  have hP : va_P D cl [(ha_, .inr (2, [.ref qx, .ref qy, .ref qa, .ref qb, .int (nI n)])), (qa, .inl (cI, 4, .inl (j4 (-b0) (-b1) a2 a3))), (qb, .inl (cI, 4, .inl (j4 a0 b1 b2 b3)))] H := hP
  have hD : va_D A [(ha_, .inr (2, [.ref qx, .ref qy, .ref qa, .ref qb, .int (nI n)])), (qa, .inl (cI, 4, .inl (j4 (-b0) (-b1) a2 a3))), (qb, .inl (cI, 4, .inl (j4 a0 b1 b2 b3)))] := hD
  refine lv_aload_n hx hb d_Arc_turnQuarter_27 rfl (lv_at hl 2 rfl) ?_
  refine va_get (D := D) (ci := 2) (v := .ref qb) (C := R_Arc) (T := T_Arc) (N := 5) hx hb hts (ui_Arc _) hown hK hP 0 rfl rfl 3 (by decide) (hts _ (gwc gw_74)) (fun _ h9 => h9) rfl d_Arc_turnQuarter_28 ?_
  refine lv_iload_n hx hb d_Arc_turnQuarter_31 rfl (lv_at hl 1 rfl) ?_
  refine lv_iload_n hx hb d_Arc_turnQuarter_32 rfl (lv_at hl 0 rfl) ?_
  refine sf_i (j4 a0 a1 b2 b3) hx hb hK hP hD hS 2 0 rfl rfl 1 j4_1 (by decide) (by decide) d_Arc_turnQuarter_33 (fun H locs hP hD hS => ?_)
  have hP : va_P D cl [(ha_, .inr (2, [.ref qx, .ref qy, .ref qa, .ref qb, .int (nI n)])), (qa, .inl (cI, 4, .inl (j4 (-b0) (-b1) a2 a3))), (qb, .inl (cI, 4, .inl (j4 a0 a1 b2 b3)))] H := hP
  have hD : va_D A [(ha_, .inr (2, [.ref qx, .ref qy, .ref qa, .ref qb, .int (nI n)])), (qa, .inl (cI, 4, .inl (j4 (-b0) (-b1) a2 a3))), (qb, .inl (cI, 4, .inl (j4 a0 a1 b2 b3)))] := hD
  refine lv_iinc (v := 2) (lv' := [(1, .int 2), (2, .int a1), (0, .ref ha_)]) hx hb d_Arc_turnQuarter_34 hl (k := 1) rfl (by first | exact nI_add _ 1 | rfl | decide) (by decide) rfl (fun ls hl => ?_)
  refine lv_goto (tgt := 2) hx hb d_Arc_turnQuarter_37 (by decide) ?_
  refine lv_iload_n hx hb d_Arc_turnQuarter_2 rfl (lv_at hl 0 rfl) ?_
  refine lv_iconst (v := 4) hx hb d_Arc_turnQuarter_3 (by decide) ?_
  refine bn_ge (a1 := 2) (b1 := 4) (tgt := 40) hx hb (by omega) (by omega) d_Arc_turnQuarter_4 (by decide) (fun c_3 => ?_) (fun c_3 => ?_)
  · exact absurd c_3 (by decide)
  refine lv_aload_n hx hb d_Arc_turnQuarter_7 rfl (lv_at hl 2 rfl) ?_
  refine va_get (D := D) (ci := 2) (v := .ref qa) (C := R_Arc) (T := T_Arc) (N := 5) hx hb hts (ui_Arc _) hown hK hP 0 rfl rfl 2 (by decide) (hts _ (gwc gw_73)) (fun _ h9 => h9) rfl d_Arc_turnQuarter_8 ?_
  refine lv_iload_n hx hb d_Arc_turnQuarter_11 rfl (lv_at hl 0 rfl) ?_
  refine ld_i hx hb hK hP 1 0 rfl rfl 2 (by omega) (by omega) d_Arc_turnQuarter_12 ?_
  refine tp_i (a2) (rfl) ?_
  refine lv_istore_n (lv' := [(2, .int a2), (1, .int 2), (0, .ref ha_)]) hx hb d_Arc_turnQuarter_13 rfl hl (by decide) rfl (fun ls hl => ?_)
  refine lv_aload_n hx hb d_Arc_turnQuarter_14 rfl (lv_at hl 2 rfl) ?_
  refine va_get (D := D) (ci := 2) (v := .ref qa) (C := R_Arc) (T := T_Arc) (N := 5) hx hb hts (ui_Arc _) hown hK hP 0 rfl rfl 2 (by decide) (hts _ (gwc gw_73)) (fun _ h9 => h9) rfl d_Arc_turnQuarter_15 ?_
  refine lv_iload_n hx hb d_Arc_turnQuarter_18 rfl (lv_at hl 1 rfl) ?_
  refine lv_aload_n hx hb d_Arc_turnQuarter_19 rfl (lv_at hl 2 rfl) ?_
  refine va_get (D := D) (ci := 2) (v := .ref qb) (C := R_Arc) (T := T_Arc) (N := 5) hx hb hts (ui_Arc _) hown hK hP 0 rfl rfl 3 (by decide) (hts _ (gwc gw_74)) (fun _ h9 => h9) rfl d_Arc_turnQuarter_20 ?_
  refine lv_iload_n hx hb d_Arc_turnQuarter_23 rfl (lv_at hl 1 rfl) ?_
  refine ld_i hx hb hK hP 2 0 rfl rfl 2 (by omega) (by omega) d_Arc_turnQuarter_24 ?_
  refine tp_i (b2) (rfl) ?_
  refine lv_ineg hx hb d_Arc_turnQuarter_25 ?_
  refine sf_i (j4 (-b0) (-b1) (-b2) a3) hx hb hK hP hD hS 1 0 rfl rfl 2 j4_2 (by decide) (by decide) d_Arc_turnQuarter_26 (fun H locs hP hD hS => ?_)
  have hP : va_P D cl [(ha_, .inr (2, [.ref qx, .ref qy, .ref qa, .ref qb, .int (nI n)])), (qa, .inl (cI, 4, .inl (j4 (-b0) (-b1) (-b2) a3))), (qb, .inl (cI, 4, .inl (j4 a0 a1 b2 b3)))] H := hP
  have hD : va_D A [(ha_, .inr (2, [.ref qx, .ref qy, .ref qa, .ref qb, .int (nI n)])), (qa, .inl (cI, 4, .inl (j4 (-b0) (-b1) (-b2) a3))), (qb, .inl (cI, 4, .inl (j4 a0 a1 b2 b3)))] := hD
  refine lv_aload_n hx hb d_Arc_turnQuarter_27 rfl (lv_at hl 2 rfl) ?_
  refine va_get (D := D) (ci := 2) (v := .ref qb) (C := R_Arc) (T := T_Arc) (N := 5) hx hb hts (ui_Arc _) hown hK hP 0 rfl rfl 3 (by decide) (hts _ (gwc gw_74)) (fun _ h9 => h9) rfl d_Arc_turnQuarter_28 ?_
  refine lv_iload_n hx hb d_Arc_turnQuarter_31 rfl (lv_at hl 1 rfl) ?_
  refine lv_iload_n hx hb d_Arc_turnQuarter_32 rfl (lv_at hl 0 rfl) ?_
  refine sf_i (j4 a0 a1 a2 b3) hx hb hK hP hD hS 2 0 rfl rfl 2 j4_2 (by decide) (by decide) d_Arc_turnQuarter_33 (fun H locs hP hD hS => ?_)
  have hP : va_P D cl [(ha_, .inr (2, [.ref qx, .ref qy, .ref qa, .ref qb, .int (nI n)])), (qa, .inl (cI, 4, .inl (j4 (-b0) (-b1) (-b2) a3))), (qb, .inl (cI, 4, .inl (j4 a0 a1 a2 b3)))] H := hP
  have hD : va_D A [(ha_, .inr (2, [.ref qx, .ref qy, .ref qa, .ref qb, .int (nI n)])), (qa, .inl (cI, 4, .inl (j4 (-b0) (-b1) (-b2) a3))), (qb, .inl (cI, 4, .inl (j4 a0 a1 a2 b3)))] := hD
  refine lv_iinc (v := 3) (lv' := [(1, .int 3), (2, .int a2), (0, .ref ha_)]) hx hb d_Arc_turnQuarter_34 hl (k := 1) rfl (by first | exact nI_add _ 1 | rfl | decide) (by decide) rfl (fun ls hl => ?_)
  refine lv_goto (tgt := 2) hx hb d_Arc_turnQuarter_37 (by decide) ?_
  refine lv_iload_n hx hb d_Arc_turnQuarter_2 rfl (lv_at hl 0 rfl) ?_
  refine lv_iconst (v := 4) hx hb d_Arc_turnQuarter_3 (by decide) ?_
  refine bn_ge (a1 := 3) (b1 := 4) (tgt := 40) hx hb (by omega) (by omega) d_Arc_turnQuarter_4 (by decide) (fun c_4 => ?_) (fun c_4 => ?_)
  · exact absurd c_4 (by decide)
  refine lv_aload_n hx hb d_Arc_turnQuarter_7 rfl (lv_at hl 2 rfl) ?_
  refine va_get (D := D) (ci := 2) (v := .ref qa) (C := R_Arc) (T := T_Arc) (N := 5) hx hb hts (ui_Arc _) hown hK hP 0 rfl rfl 2 (by decide) (hts _ (gwc gw_73)) (fun _ h9 => h9) rfl d_Arc_turnQuarter_8 ?_
  refine lv_iload_n hx hb d_Arc_turnQuarter_11 rfl (lv_at hl 0 rfl) ?_
  refine ld_i hx hb hK hP 1 0 rfl rfl 3 (by omega) (by omega) d_Arc_turnQuarter_12 ?_
  refine tp_i (a3) (rfl) ?_
  refine lv_istore_n (lv' := [(2, .int a3), (1, .int 3), (0, .ref ha_)]) hx hb d_Arc_turnQuarter_13 rfl hl (by decide) rfl (fun ls hl => ?_)
  refine lv_aload_n hx hb d_Arc_turnQuarter_14 rfl (lv_at hl 2 rfl) ?_
  refine va_get (D := D) (ci := 2) (v := .ref qa) (C := R_Arc) (T := T_Arc) (N := 5) hx hb hts (ui_Arc _) hown hK hP 0 rfl rfl 2 (by decide) (hts _ (gwc gw_73)) (fun _ h9 => h9) rfl d_Arc_turnQuarter_15 ?_
  refine lv_iload_n hx hb d_Arc_turnQuarter_18 rfl (lv_at hl 1 rfl) ?_
  refine lv_aload_n hx hb d_Arc_turnQuarter_19 rfl (lv_at hl 2 rfl) ?_
  refine va_get (D := D) (ci := 2) (v := .ref qb) (C := R_Arc) (T := T_Arc) (N := 5) hx hb hts (ui_Arc _) hown hK hP 0 rfl rfl 3 (by decide) (hts _ (gwc gw_74)) (fun _ h9 => h9) rfl d_Arc_turnQuarter_20 ?_
  refine lv_iload_n hx hb d_Arc_turnQuarter_23 rfl (lv_at hl 1 rfl) ?_
  refine ld_i hx hb hK hP 2 0 rfl rfl 3 (by omega) (by omega) d_Arc_turnQuarter_24 ?_
  refine tp_i (b3) (rfl) ?_
  refine lv_ineg hx hb d_Arc_turnQuarter_25 ?_
  refine sf_i (j4 (-b0) (-b1) (-b2) (-b3)) hx hb hK hP hD hS 1 0 rfl rfl 3 j4_3 (by decide) (by decide) d_Arc_turnQuarter_26 (fun H locs hP hD hS => ?_)
  have hP : va_P D cl [(ha_, .inr (2, [.ref qx, .ref qy, .ref qa, .ref qb, .int (nI n)])), (qa, .inl (cI, 4, .inl (j4 (-b0) (-b1) (-b2) (-b3)))), (qb, .inl (cI, 4, .inl (j4 a0 a1 a2 b3)))] H := hP
  have hD : va_D A [(ha_, .inr (2, [.ref qx, .ref qy, .ref qa, .ref qb, .int (nI n)])), (qa, .inl (cI, 4, .inl (j4 (-b0) (-b1) (-b2) (-b3)))), (qb, .inl (cI, 4, .inl (j4 a0 a1 a2 b3)))] := hD
  refine lv_aload_n hx hb d_Arc_turnQuarter_27 rfl (lv_at hl 2 rfl) ?_
  refine va_get (D := D) (ci := 2) (v := .ref qb) (C := R_Arc) (T := T_Arc) (N := 5) hx hb hts (ui_Arc _) hown hK hP 0 rfl rfl 3 (by decide) (hts _ (gwc gw_74)) (fun _ h9 => h9) rfl d_Arc_turnQuarter_28 ?_
  refine lv_iload_n hx hb d_Arc_turnQuarter_31 rfl (lv_at hl 1 rfl) ?_
  refine lv_iload_n hx hb d_Arc_turnQuarter_32 rfl (lv_at hl 0 rfl) ?_
  refine sf_i (j4 a0 a1 a2 a3) hx hb hK hP hD hS 2 0 rfl rfl 3 j4_3 (by decide) (by decide) d_Arc_turnQuarter_33 (fun H locs hP hD hS => ?_)
  have hP : va_P D cl [(ha_, .inr (2, [.ref qx, .ref qy, .ref qa, .ref qb, .int (nI n)])), (qa, .inl (cI, 4, .inl (j4 (-b0) (-b1) (-b2) (-b3)))), (qb, .inl (cI, 4, .inl (j4 a0 a1 a2 a3)))] H := hP
  have hD : va_D A [(ha_, .inr (2, [.ref qx, .ref qy, .ref qa, .ref qb, .int (nI n)])), (qa, .inl (cI, 4, .inl (j4 (-b0) (-b1) (-b2) (-b3)))), (qb, .inl (cI, 4, .inl (j4 a0 a1 a2 a3)))] := hD
  refine lv_iinc (v := 4) (lv' := [(1, .int 4), (2, .int a3), (0, .ref ha_)]) hx hb d_Arc_turnQuarter_34 hl (k := 1) rfl (by first | exact nI_add _ 1 | rfl | decide) (by decide) rfl (fun ls hl => ?_)
  refine lv_goto (tgt := 2) hx hb d_Arc_turnQuarter_37 (by decide) ?_
  refine lv_iload_n hx hb d_Arc_turnQuarter_2 rfl (lv_at hl 0 rfl) ?_
  refine lv_iconst (v := 4) hx hb d_Arc_turnQuarter_3 (by decide) ?_
  refine bn_ge (a1 := 4) (b1 := 4) (tgt := 40) hx hb (by omega) (by omega) d_Arc_turnQuarter_4 (by decide) (fun c_5 => ?_) (fun c_5 => ?_)
  rotate_left
  · exact absurd c_5 (by decide)
  exact ct_retv hQ hx hb hr hlocks hP hD hS () [(ha_, .inr (2, [.ref qx, .ref qy, .ref qa, .ref qb, .int (nI n)])), (qa, .inl (cI, 4, .inl (j4 (-b0) (-b1) (-b2) (-b3)))), (qb, .inl (cI, 4, .inl (j4 a0 a1 a2 a3)))] [0, 1, 2] (rfl) (trivial) (rfl) rfl rfl (by omega) (by omega) d_Arc_turnQuarter_40
set_option maxHeartbeats 40000000 in
set_option maxRecDepth 100000 in
/-- keepBefore -/
theorem c_Arc_keepBefore (l : Launch) (D : va_G) (cI cB cJ : ClassId) (qQ : Nat) (ha_ : Nat) (qx : Nat) (qy : Nat) (qa : Nat) (qb : Nat) (n : Nat) (a0 : Int32) (a1 : Int32) (a2 : Int32) (a3 : Int32) (b0 : Int32) (b1 : Int32) (b2 : Int32) (b3 : Int32) (t : Int32)  : ct l D cl [(cI, .int), (cB, .byte), (cJ, .long)] (amb qQ) y_Arc_keepBefore w_Arc_keepBefore 1 22 (0) (0) [.ref ha_, .int t] [(ha_, .inr (2, [.ref qx, .ref qy, .ref qa, .ref qb, .int (nI n)])), (qa, .inl (cI, 4, .inl (j4 a0 a1 a2 a3))), (qb, .inl (cI, 4, .inl (j4 b0 b1 b2 b3)))] (fun _ : Unit => True) (fun _ : Unit => none) (fun _ : Unit => [(ha_, .inr (2, [.ref qx, .ref qy, .ref qa, .ref qb, .int (nI n)])), (qa, .inl (cI, 4, .inl (j4 a0 (mixI a0 a1 t) (my2 a0 a1 a2 t) (my3 a0 a1 a2 a3 t)))), (qb, .inl (cI, 4, .inl (j4 b0 (mixI b0 b1 t) (my2 b0 b1 b2 t) (my3 b0 b1 b2 b3 t))))]) := by
  refine ct_ofW (cc := b_Arc_keepBefore) (maxL := 4) (ret := none) (by decide) rfl (Nat.le_of_ble_eq_true rfl) ?_
  intro p e R s m args below meth c A Q ls hx hb hr hml hts hown hlocks hname hRf hRc hRs hRl hQ hK hP hD hS hA hM hl
  have hl : lv_has ls 4 [(0, .ref ha_), (1, .int t)] := hl
  refine lv_iconst (v := 1) hx hb d_Arc_keepBefore_0 (by decide) ?_
  refine lv_istore_n (lv' := [(2, .int 1), (0, .ref ha_), (1, .int t)]) hx hb d_Arc_keepBefore_1 rfl hl (by decide) rfl (fun ls hl => ?_)
  refine lv_iload_n hx hb d_Arc_keepBefore_2 rfl (lv_at hl 0 rfl) ?_
  refine lv_iconst (v := 3) hx hb d_Arc_keepBefore_3 (by decide) ?_
  refine bn_gt (a1 := 1) (b1 := 3) (tgt := 74) hx hb (by omega) (by omega) d_Arc_keepBefore_4 (by decide) (fun c_1 => ?_) (fun c_1 => ?_)
  · exact absurd c_1 (by decide)
  refine lv_iconst (v := 3) hx hb d_Arc_keepBefore_7 (by decide) ?_
  refine lv_istore_n (lv' := [(3, .int 3), (2, .int 1), (0, .ref ha_), (1, .int t)]) hx hb d_Arc_keepBefore_8 rfl hl (by decide) rfl (fun ls hl => ?_)
  refine lv_iload_n hx hb d_Arc_keepBefore_9 rfl (lv_at hl 0 rfl) ?_
  refine lv_iload_n hx hb d_Arc_keepBefore_10 rfl (lv_at hl 1 rfl) ?_
  refine bn_lt (a1 := 3) (b1 := 1) (tgt := 68) hx hb (by omega) (by omega) d_Arc_keepBefore_11 (by decide) (fun c_2 => ?_) (fun c_2 => ?_)
  · exact absurd c_2 (by decide)
  refine lv_aload_n hx hb d_Arc_keepBefore_14 rfl (lv_at hl 2 rfl) ?_
  refine va_get (D := D) (ci := 2) (v := .ref qa) (C := R_Arc) (T := T_Arc) (N := 5) hx hb hts (ui_Arc _) hown hK hP 0 rfl rfl 2 (by decide) (hts _ (gwc gw_73)) (fun _ h9 => h9) rfl d_Arc_keepBefore_15 ?_
  refine lv_iload_n hx hb d_Arc_keepBefore_18 rfl (lv_at hl 0 rfl) ?_
  refine lv_aload_n hx hb d_Arc_keepBefore_19 rfl (lv_at hl 2 rfl) ?_
  refine va_get (D := D) (ci := 2) (v := .ref qa) (C := R_Arc) (T := T_Arc) (N := 5) hx hb hts (ui_Arc _) hown hK hP 0 rfl rfl 2 (by decide) (hts _ (gwc gw_73)) (fun _ h9 => h9) rfl d_Arc_keepBefore_20 ?_
  refine lv_iload_n hx hb d_Arc_keepBefore_23 rfl (lv_at hl 0 rfl) ?_
  refine lv_iconst (v := 1) hx hb d_Arc_keepBefore_24 (by decide) ?_
  refine lv_isub hx hb d_Arc_keepBefore_25 ?_
  refine tp_i (2) (by decide) ?_
  refine ld_i hx hb hK hP 1 0 rfl rfl 2 (by omega) (by omega) d_Arc_keepBefore_26 ?_
  refine tp_i (a2) (rfl) ?_
  refine lv_aload_n hx hb d_Arc_keepBefore_27 rfl (lv_at hl 2 rfl) ?_
  refine va_get (D := D) (ci := 2) (v := .ref qa) (C := R_Arc) (T := T_Arc) (N := 5) hx hb hts (ui_Arc _) hown hK hP 0 rfl rfl 2 (by decide) (hts _ (gwc gw_73)) (fun _ h9 => h9) rfl d_Arc_keepBefore_28 ?_
  refine lv_iload_n hx hb d_Arc_keepBefore_31 rfl (lv_at hl 0 rfl) ?_
  refine ld_i hx hb hK hP 1 0 rfl rfl 3 (by omega) (by omega) d_Arc_keepBefore_32 ?_
  refine tp_i (a3) (rfl) ?_
  refine lv_iload_n hx hb d_Arc_keepBefore_33 rfl (lv_at hl 3 rfl) ?_
  refine ct_callS (av := [.int a2, .int a3, .int t]) (rest := [.int 3, .ref qa]) (wr := [(ha_, .inr (2, [.ref qx, .ref qy, .ref qa, .ref qb, .int (nI n)])), (qa, .inl (cI, 4, .inl (j4 a0 a1 a2 a3))), (qb, .inl (cI, 4, .inl (j4 b0 b1 b2 b3)))]) (n := 3) (c_Arc_mix l D cI cB cJ qQ  a2 a3 t ) hx hb hml hown hts (amb_ok qQ) hK hP hD hS hA hM (gi_S gw_293 gw_294 gw_30 gw_295) rfl (by decide +kernel) ⟨by omega, by omega⟩ [] [0, 1, 2] rfl rfl rfl rfl (by decide) rfl hl.1 rfl (Nat.le_of_ble_eq_true rfl) d_Arc_keepBefore_34 ⟨by omega, by omega⟩ (fun u_3 H locs hok hP hD hS => ?_)
  have hP : va_P D cl [(ha_, .inr (2, [.ref qx, .ref qy, .ref qa, .ref qb, .int (nI n)])), (qa, .inl (cI, 4, .inl (j4 a0 a1 a2 a3))), (qb, .inl (cI, 4, .inl (j4 b0 b1 b2 b3)))] H := hP
  have hD : va_D A [(ha_, .inr (2, [.ref qx, .ref qy, .ref qa, .ref qb, .int (nI n)])), (qa, .inl (cI, 4, .inl (j4 a0 a1 a2 a3))), (qb, .inl (cI, 4, .inl (j4 b0 b1 b2 b3)))] := hD
  refine W.eq (g2 := F0 m 37 ls [.int (mixI a2 a3 t), .int 3, .ref qa]) rfl ?_
  refine sf_i (j4 a0 a1 a2 (mixI a2 a3 t)) hx hb hK hP hD hS 1 0 rfl rfl 3 j4_3 (by decide) (by decide) d_Arc_keepBefore_37 (fun H locs hP hD hS => ?_)
  have hP : va_P D cl [(ha_, .inr (2, [.ref qx, .ref qy, .ref qa, .ref qb, .int (nI n)])), (qa, .inl (cI, 4, .inl (j4 a0 a1 a2 (mixI a2 a3 t)))), (qb, .inl (cI, 4, .inl (j4 b0 b1 b2 b3)))] H := hP
  have hD : va_D A [(ha_, .inr (2, [.ref qx, .ref qy, .ref qa, .ref qb, .int (nI n)])), (qa, .inl (cI, 4, .inl (j4 a0 a1 a2 (mixI a2 a3 t)))), (qb, .inl (cI, 4, .inl (j4 b0 b1 b2 b3)))] := hD
  refine lv_aload_n hx hb d_Arc_keepBefore_38 rfl (lv_at hl 2 rfl) ?_
  refine va_get (D := D) (ci := 2) (v := .ref qb) (C := R_Arc) (T := T_Arc) (N := 5) hx hb hts (ui_Arc _) hown hK hP 0 rfl rfl 3 (by decide) (hts _ (gwc gw_74)) (fun _ h9 => h9) rfl d_Arc_keepBefore_39 ?_
  refine lv_iload_n hx hb d_Arc_keepBefore_42 rfl (lv_at hl 0 rfl) ?_
  refine lv_aload_n hx hb d_Arc_keepBefore_43 rfl (lv_at hl 2 rfl) ?_
  refine va_get (D := D) (ci := 2) (v := .ref qb) (C := R_Arc) (T := T_Arc) (N := 5) hx hb hts (ui_Arc _) hown hK hP 0 rfl rfl 3 (by decide) (hts _ (gwc gw_74)) (fun _ h9 => h9) rfl d_Arc_keepBefore_44 ?_
  refine lv_iload_n hx hb d_Arc_keepBefore_47 rfl (lv_at hl 0 rfl) ?_
  refine lv_iconst (v := 1) hx hb d_Arc_keepBefore_48 (by decide) ?_
  refine lv_isub hx hb d_Arc_keepBefore_49 ?_
  refine tp_i (2) (by decide) ?_
  refine ld_i hx hb hK hP 2 0 rfl rfl 2 (by omega) (by omega) d_Arc_keepBefore_50 ?_
  refine tp_i (b2) (rfl) ?_
  refine lv_aload_n hx hb d_Arc_keepBefore_51 rfl (lv_at hl 2 rfl) ?_
  refine va_get (D := D) (ci := 2) (v := .ref qb) (C := R_Arc) (T := T_Arc) (N := 5) hx hb hts (ui_Arc _) hown hK hP 0 rfl rfl 3 (by decide) (hts _ (gwc gw_74)) (fun _ h9 => h9) rfl d_Arc_keepBefore_52 ?_
  refine lv_iload_n hx hb d_Arc_keepBefore_55 rfl (lv_at hl 0 rfl) ?_
  refine ld_i hx hb hK hP 2 0 rfl rfl 3 (by omega) (by omega) d_Arc_keepBefore_56 ?_
  refine tp_i (b3) (rfl) ?_
  refine lv_iload_n hx hb d_Arc_keepBefore_57 rfl (lv_at hl 3 rfl) ?_
  refine ct_callS (av := [.int b2, .int b3, .int t]) (rest := [.int 3, .ref qb]) (wr := [(ha_, .inr (2, [.ref qx, .ref qy, .ref qa, .ref qb, .int (nI n)])), (qa, .inl (cI, 4, .inl (j4 a0 a1 a2 (mixI a2 a3 t)))), (qb, .inl (cI, 4, .inl (j4 b0 b1 b2 b3)))]) (n := 3) (c_Arc_mix l D cI cB cJ qQ  b2 b3 t ) hx hb hml hown hts (amb_ok qQ) hK hP hD hS hA hM (gi_S gw_293 gw_294 gw_30 gw_295) rfl (by decide +kernel) ⟨by omega, by omega⟩ [] [0, 1, 2] rfl rfl rfl rfl (by decide) rfl hl.1 rfl (Nat.le_of_ble_eq_true rfl) d_Arc_keepBefore_58 ⟨by omega, by omega⟩ (fun u_4 H locs hok hP hD hS => ?_)
  have hP : va_P D cl [(ha_, .inr (2, [.ref qx, .ref qy, .ref qa, .ref qb, .int (nI n)])), (qa, .inl (cI, 4, .inl (j4 a0 a1 a2 (mixI a2 a3 t)))), (qb, .inl (cI, 4, .inl (j4 b0 b1 b2 b3)))] H := hP
  have hD : va_D A [(ha_, .inr (2, [.ref qx, .ref qy, .ref qa, .ref qb, .int (nI n)])), (qa, .inl (cI, 4, .inl (j4 a0 a1 a2 (mixI a2 a3 t)))), (qb, .inl (cI, 4, .inl (j4 b0 b1 b2 b3)))] := hD
  refine W.eq (g2 := F0 m 61 ls [.int (mixI b2 b3 t), .int 3, .ref qb]) rfl ?_
  refine sf_i (j4 b0 b1 b2 (mixI b2 b3 t)) hx hb hK hP hD hS 2 0 rfl rfl 3 j4_3 (by decide) (by decide) d_Arc_keepBefore_61 (fun H locs hP hD hS => ?_)
  have hP : va_P D cl [(ha_, .inr (2, [.ref qx, .ref qy, .ref qa, .ref qb, .int (nI n)])), (qa, .inl (cI, 4, .inl (j4 a0 a1 a2 (mixI a2 a3 t)))), (qb, .inl (cI, 4, .inl (j4 b0 b1 b2 (mixI b2 b3 t))))] H := hP
  have hD : va_D A [(ha_, .inr (2, [.ref qx, .ref qy, .ref qa, .ref qb, .int (nI n)])), (qa, .inl (cI, 4, .inl (j4 a0 a1 a2 (mixI a2 a3 t)))), (qb, .inl (cI, 4, .inl (j4 b0 b1 b2 (mixI b2 b3 t))))] := hD
  refine lv_iinc (v := 2) (lv' := [(3, .int 2), (2, .int 1), (0, .ref ha_), (1, .int t)]) hx hb d_Arc_keepBefore_62 hl (k := 0) rfl (by decide) (by decide) rfl (fun ls hl => ?_)
  refine lv_goto (tgt := 9) hx hb d_Arc_keepBefore_65 (by decide) ?_
  refine lv_iload_n hx hb d_Arc_keepBefore_9 rfl (lv_at hl 0 rfl) ?_
  refine lv_iload_n hx hb d_Arc_keepBefore_10 rfl (lv_at hl 1 rfl) ?_
  refine bn_lt (a1 := 2) (b1 := 1) (tgt := 68) hx hb (by omega) (by omega) d_Arc_keepBefore_11 (by decide) (fun c_5 => ?_) (fun c_5 => ?_)
  · exact absurd c_5 (by decide)
  refine lv_aload_n hx hb d_Arc_keepBefore_14 rfl (lv_at hl 2 rfl) ?_
  refine va_get (D := D) (ci := 2) (v := .ref qa) (C := R_Arc) (T := T_Arc) (N := 5) hx hb hts (ui_Arc _) hown hK hP 0 rfl rfl 2 (by decide) (hts _ (gwc gw_73)) (fun _ h9 => h9) rfl d_Arc_keepBefore_15 ?_
  refine lv_iload_n hx hb d_Arc_keepBefore_18 rfl (lv_at hl 0 rfl) ?_
  refine lv_aload_n hx hb d_Arc_keepBefore_19 rfl (lv_at hl 2 rfl) ?_
  refine va_get (D := D) (ci := 2) (v := .ref qa) (C := R_Arc) (T := T_Arc) (N := 5) hx hb hts (ui_Arc _) hown hK hP 0 rfl rfl 2 (by decide) (hts _ (gwc gw_73)) (fun _ h9 => h9) rfl d_Arc_keepBefore_20 ?_
  refine lv_iload_n hx hb d_Arc_keepBefore_23 rfl (lv_at hl 0 rfl) ?_
  refine lv_iconst (v := 1) hx hb d_Arc_keepBefore_24 (by decide) ?_
  refine lv_isub hx hb d_Arc_keepBefore_25 ?_
  refine tp_i (1) (by decide) ?_
  refine ld_i hx hb hK hP 1 0 rfl rfl 1 (by omega) (by omega) d_Arc_keepBefore_26 ?_
  refine tp_i (a1) (rfl) ?_
  refine lv_aload_n hx hb d_Arc_keepBefore_27 rfl (lv_at hl 2 rfl) ?_
  refine va_get (D := D) (ci := 2) (v := .ref qa) (C := R_Arc) (T := T_Arc) (N := 5) hx hb hts (ui_Arc _) hown hK hP 0 rfl rfl 2 (by decide) (hts _ (gwc gw_73)) (fun _ h9 => h9) rfl d_Arc_keepBefore_28 ?_
  refine lv_iload_n hx hb d_Arc_keepBefore_31 rfl (lv_at hl 0 rfl) ?_
  refine ld_i hx hb hK hP 1 0 rfl rfl 2 (by omega) (by omega) d_Arc_keepBefore_32 ?_
  refine tp_i (a2) (rfl) ?_
  refine lv_iload_n hx hb d_Arc_keepBefore_33 rfl (lv_at hl 3 rfl) ?_
  refine ct_callS (av := [.int a1, .int a2, .int t]) (rest := [.int 2, .ref qa]) (wr := [(ha_, .inr (2, [.ref qx, .ref qy, .ref qa, .ref qb, .int (nI n)])), (qa, .inl (cI, 4, .inl (j4 a0 a1 a2 (mixI a2 a3 t)))), (qb, .inl (cI, 4, .inl (j4 b0 b1 b2 (mixI b2 b3 t))))]) (n := 3) (c_Arc_mix l D cI cB cJ qQ  a1 a2 t ) hx hb hml hown hts (amb_ok qQ) hK hP hD hS hA hM (gi_S gw_293 gw_294 gw_30 gw_295) rfl (by decide +kernel) ⟨by omega, by omega⟩ [] [0, 1, 2] rfl rfl rfl rfl (by decide) rfl hl.1 rfl (Nat.le_of_ble_eq_true rfl) d_Arc_keepBefore_34 ⟨by omega, by omega⟩ (fun u_6 H locs hok hP hD hS => ?_)
  have hP : va_P D cl [(ha_, .inr (2, [.ref qx, .ref qy, .ref qa, .ref qb, .int (nI n)])), (qa, .inl (cI, 4, .inl (j4 a0 a1 a2 (mixI a2 a3 t)))), (qb, .inl (cI, 4, .inl (j4 b0 b1 b2 (mixI b2 b3 t))))] H := hP
  have hD : va_D A [(ha_, .inr (2, [.ref qx, .ref qy, .ref qa, .ref qb, .int (nI n)])), (qa, .inl (cI, 4, .inl (j4 a0 a1 a2 (mixI a2 a3 t)))), (qb, .inl (cI, 4, .inl (j4 b0 b1 b2 (mixI b2 b3 t))))] := hD
  refine W.eq (g2 := F0 m 37 ls [.int (mixI a1 a2 t), .int 2, .ref qa]) rfl ?_
  refine sf_i (j4 a0 a1 (mixI a1 a2 t) (mixI a2 a3 t)) hx hb hK hP hD hS 1 0 rfl rfl 2 j4_2 (by decide) (by decide) d_Arc_keepBefore_37 (fun H locs hP hD hS => ?_)
  have hP : va_P D cl [(ha_, .inr (2, [.ref qx, .ref qy, .ref qa, .ref qb, .int (nI n)])), (qa, .inl (cI, 4, .inl (j4 a0 a1 (mixI a1 a2 t) (mixI a2 a3 t)))), (qb, .inl (cI, 4, .inl (j4 b0 b1 b2 (mixI b2 b3 t))))] H := hP
  have hD : va_D A [(ha_, .inr (2, [.ref qx, .ref qy, .ref qa, .ref qb, .int (nI n)])), (qa, .inl (cI, 4, .inl (j4 a0 a1 (mixI a1 a2 t) (mixI a2 a3 t)))), (qb, .inl (cI, 4, .inl (j4 b0 b1 b2 (mixI b2 b3 t))))] := hD
  refine lv_aload_n hx hb d_Arc_keepBefore_38 rfl (lv_at hl 2 rfl) ?_
  refine va_get (D := D) (ci := 2) (v := .ref qb) (C := R_Arc) (T := T_Arc) (N := 5) hx hb hts (ui_Arc _) hown hK hP 0 rfl rfl 3 (by decide) (hts _ (gwc gw_74)) (fun _ h9 => h9) rfl d_Arc_keepBefore_39 ?_
  refine lv_iload_n hx hb d_Arc_keepBefore_42 rfl (lv_at hl 0 rfl) ?_
  refine lv_aload_n hx hb d_Arc_keepBefore_43 rfl (lv_at hl 2 rfl) ?_
  refine va_get (D := D) (ci := 2) (v := .ref qb) (C := R_Arc) (T := T_Arc) (N := 5) hx hb hts (ui_Arc _) hown hK hP 0 rfl rfl 3 (by decide) (hts _ (gwc gw_74)) (fun _ h9 => h9) rfl d_Arc_keepBefore_44 ?_
  refine lv_iload_n hx hb d_Arc_keepBefore_47 rfl (lv_at hl 0 rfl) ?_
  refine lv_iconst (v := 1) hx hb d_Arc_keepBefore_48 (by decide) ?_
  refine lv_isub hx hb d_Arc_keepBefore_49 ?_
  refine tp_i (1) (by decide) ?_
  refine ld_i hx hb hK hP 2 0 rfl rfl 1 (by omega) (by omega) d_Arc_keepBefore_50 ?_
  refine tp_i (b1) (rfl) ?_
  refine lv_aload_n hx hb d_Arc_keepBefore_51 rfl (lv_at hl 2 rfl) ?_
  refine va_get (D := D) (ci := 2) (v := .ref qb) (C := R_Arc) (T := T_Arc) (N := 5) hx hb hts (ui_Arc _) hown hK hP 0 rfl rfl 3 (by decide) (hts _ (gwc gw_74)) (fun _ h9 => h9) rfl d_Arc_keepBefore_52 ?_
  refine lv_iload_n hx hb d_Arc_keepBefore_55 rfl (lv_at hl 0 rfl) ?_
  refine ld_i hx hb hK hP 2 0 rfl rfl 2 (by omega) (by omega) d_Arc_keepBefore_56 ?_
  refine tp_i (b2) (rfl) ?_
  refine lv_iload_n hx hb d_Arc_keepBefore_57 rfl (lv_at hl 3 rfl) ?_
  refine ct_callS (av := [.int b1, .int b2, .int t]) (rest := [.int 2, .ref qb]) (wr := [(ha_, .inr (2, [.ref qx, .ref qy, .ref qa, .ref qb, .int (nI n)])), (qa, .inl (cI, 4, .inl (j4 a0 a1 (mixI a1 a2 t) (mixI a2 a3 t)))), (qb, .inl (cI, 4, .inl (j4 b0 b1 b2 (mixI b2 b3 t))))]) (n := 3) (c_Arc_mix l D cI cB cJ qQ  b1 b2 t ) hx hb hml hown hts (amb_ok qQ) hK hP hD hS hA hM (gi_S gw_293 gw_294 gw_30 gw_295) rfl (by decide +kernel) ⟨by omega, by omega⟩ [] [0, 1, 2] rfl rfl rfl rfl (by decide) rfl hl.1 rfl (Nat.le_of_ble_eq_true rfl) d_Arc_keepBefore_58 ⟨by omega, by omega⟩ (fun u_7 H locs hok hP hD hS => ?_)
  have hP : va_P D cl [(ha_, .inr (2, [.ref qx, .ref qy, .ref qa, .ref qb, .int (nI n)])), (qa, .inl (cI, 4, .inl (j4 a0 a1 (mixI a1 a2 t) (mixI a2 a3 t)))), (qb, .inl (cI, 4, .inl (j4 b0 b1 b2 (mixI b2 b3 t))))] H := hP
  have hD : va_D A [(ha_, .inr (2, [.ref qx, .ref qy, .ref qa, .ref qb, .int (nI n)])), (qa, .inl (cI, 4, .inl (j4 a0 a1 (mixI a1 a2 t) (mixI a2 a3 t)))), (qb, .inl (cI, 4, .inl (j4 b0 b1 b2 (mixI b2 b3 t))))] := hD
  refine W.eq (g2 := F0 m 61 ls [.int (mixI b1 b2 t), .int 2, .ref qb]) rfl ?_
  refine sf_i (j4 b0 b1 (mixI b1 b2 t) (mixI b2 b3 t)) hx hb hK hP hD hS 2 0 rfl rfl 2 j4_2 (by decide) (by decide) d_Arc_keepBefore_61 (fun H locs hP hD hS => ?_)
  have hP : va_P D cl [(ha_, .inr (2, [.ref qx, .ref qy, .ref qa, .ref qb, .int (nI n)])), (qa, .inl (cI, 4, .inl (j4 a0 a1 (mixI a1 a2 t) (mixI a2 a3 t)))), (qb, .inl (cI, 4, .inl (j4 b0 b1 (mixI b1 b2 t) (mixI b2 b3 t))))] H := hP
  have hD : va_D A [(ha_, .inr (2, [.ref qx, .ref qy, .ref qa, .ref qb, .int (nI n)])), (qa, .inl (cI, 4, .inl (j4 a0 a1 (mixI a1 a2 t) (mixI a2 a3 t)))), (qb, .inl (cI, 4, .inl (j4 b0 b1 (mixI b1 b2 t) (mixI b2 b3 t))))] := hD
  refine lv_iinc (v := 1) (lv' := [(3, .int 1), (2, .int 1), (0, .ref ha_), (1, .int t)]) hx hb d_Arc_keepBefore_62 hl (k := 0) rfl (by decide) (by decide) rfl (fun ls hl => ?_)
  refine lv_goto (tgt := 9) hx hb d_Arc_keepBefore_65 (by decide) ?_
  refine lv_iload_n hx hb d_Arc_keepBefore_9 rfl (lv_at hl 0 rfl) ?_
  refine lv_iload_n hx hb d_Arc_keepBefore_10 rfl (lv_at hl 1 rfl) ?_
  refine bn_lt (a1 := 1) (b1 := 1) (tgt := 68) hx hb (by omega) (by omega) d_Arc_keepBefore_11 (by decide) (fun c_8 => ?_) (fun c_8 => ?_)
  · exact absurd c_8 (by decide)
  refine lv_aload_n hx hb d_Arc_keepBefore_14 rfl (lv_at hl 2 rfl) ?_
  refine va_get (D := D) (ci := 2) (v := .ref qa) (C := R_Arc) (T := T_Arc) (N := 5) hx hb hts (ui_Arc _) hown hK hP 0 rfl rfl 2 (by decide) (hts _ (gwc gw_73)) (fun _ h9 => h9) rfl d_Arc_keepBefore_15 ?_
  refine lv_iload_n hx hb d_Arc_keepBefore_18 rfl (lv_at hl 0 rfl) ?_
  refine lv_aload_n hx hb d_Arc_keepBefore_19 rfl (lv_at hl 2 rfl) ?_
  refine va_get (D := D) (ci := 2) (v := .ref qa) (C := R_Arc) (T := T_Arc) (N := 5) hx hb hts (ui_Arc _) hown hK hP 0 rfl rfl 2 (by decide) (hts _ (gwc gw_73)) (fun _ h9 => h9) rfl d_Arc_keepBefore_20 ?_
  refine lv_iload_n hx hb d_Arc_keepBefore_23 rfl (lv_at hl 0 rfl) ?_
  refine lv_iconst (v := 1) hx hb d_Arc_keepBefore_24 (by decide) ?_
  refine lv_isub hx hb d_Arc_keepBefore_25 ?_
  refine tp_i (0) (by decide) ?_
  refine ld_i hx hb hK hP 1 0 rfl rfl 0 (by omega) (by omega) d_Arc_keepBefore_26 ?_
  refine tp_i (a0) (rfl) ?_
  refine lv_aload_n hx hb d_Arc_keepBefore_27 rfl (lv_at hl 2 rfl) ?_
  refine va_get (D := D) (ci := 2) (v := .ref qa) (C := R_Arc) (T := T_Arc) (N := 5) hx hb hts (ui_Arc _) hown hK hP 0 rfl rfl 2 (by decide) (hts _ (gwc gw_73)) (fun _ h9 => h9) rfl d_Arc_keepBefore_28 ?_
  refine lv_iload_n hx hb d_Arc_keepBefore_31 rfl (lv_at hl 0 rfl) ?_
  refine ld_i hx hb hK hP 1 0 rfl rfl 1 (by omega) (by omega) d_Arc_keepBefore_32 ?_
  refine tp_i (a1) (rfl) ?_
  refine lv_iload_n hx hb d_Arc_keepBefore_33 rfl (lv_at hl 3 rfl) ?_
  refine ct_callS (av := [.int a0, .int a1, .int t]) (rest := [.int 1, .ref qa]) (wr := [(ha_, .inr (2, [.ref qx, .ref qy, .ref qa, .ref qb, .int (nI n)])), (qa, .inl (cI, 4, .inl (j4 a0 a1 (mixI a1 a2 t) (mixI a2 a3 t)))), (qb, .inl (cI, 4, .inl (j4 b0 b1 (mixI b1 b2 t) (mixI b2 b3 t))))]) (n := 3) (c_Arc_mix l D cI cB cJ qQ  a0 a1 t ) hx hb hml hown hts (amb_ok qQ) hK hP hD hS hA hM (gi_S gw_293 gw_294 gw_30 gw_295) rfl (by decide +kernel) ⟨by omega, by omega⟩ [] [0, 1, 2] rfl rfl rfl rfl (by decide) rfl hl.1 rfl (Nat.le_of_ble_eq_true rfl) d_Arc_keepBefore_34 ⟨by omega, by omega⟩ (fun u_9 H locs hok hP hD hS => ?_)
  have hP : va_P D cl [(ha_, .inr (2, [.ref qx, .ref qy, .ref qa, .ref qb, .int (nI n)])), (qa, .inl (cI, 4, .inl (j4 a0 a1 (mixI a1 a2 t) (mixI a2 a3 t)))), (qb, .inl (cI, 4, .inl (j4 b0 b1 (mixI b1 b2 t) (mixI b2 b3 t))))] H := hP
  have hD : va_D A [(ha_, .inr (2, [.ref qx, .ref qy, .ref qa, .ref qb, .int (nI n)])), (qa, .inl (cI, 4, .inl (j4 a0 a1 (mixI a1 a2 t) (mixI a2 a3 t)))), (qb, .inl (cI, 4, .inl (j4 b0 b1 (mixI b1 b2 t) (mixI b2 b3 t))))] := hD
  refine W.eq (g2 := F0 m 37 ls [.int (mixI a0 a1 t), .int 1, .ref qa]) rfl ?_
  refine sf_i (j4 a0 (mixI a0 a1 t) (mixI a1 a2 t) (mixI a2 a3 t)) hx hb hK hP hD hS 1 0 rfl rfl 1 j4_1 (by decide) (by decide) d_Arc_keepBefore_37 (fun H locs hP hD hS => ?_)
  have hP : va_P D cl [(ha_, .inr (2, [.ref qx, .ref qy, .ref qa, .ref qb, .int (nI n)])), (qa, .inl (cI, 4, .inl (j4 a0 (mixI a0 a1 t) (mixI a1 a2 t) (mixI a2 a3 t)))), (qb, .inl (cI, 4, .inl (j4 b0 b1 (mixI b1 b2 t) (mixI b2 b3 t))))] H := hP
  have hD : va_D A [(ha_, .inr (2, [.ref qx, .ref qy, .ref qa, .ref qb, .int (nI n)])), (qa, .inl (cI, 4, .inl (j4 a0 (mixI a0 a1 t) (mixI a1 a2 t) (mixI a2 a3 t)))), (qb, .inl (cI, 4, .inl (j4 b0 b1 (mixI b1 b2 t) (mixI b2 b3 t))))] := hD
  refine lv_aload_n hx hb d_Arc_keepBefore_38 rfl (lv_at hl 2 rfl) ?_
  refine va_get (D := D) (ci := 2) (v := .ref qb) (C := R_Arc) (T := T_Arc) (N := 5) hx hb hts (ui_Arc _) hown hK hP 0 rfl rfl 3 (by decide) (hts _ (gwc gw_74)) (fun _ h9 => h9) rfl d_Arc_keepBefore_39 ?_
  refine lv_iload_n hx hb d_Arc_keepBefore_42 rfl (lv_at hl 0 rfl) ?_
  refine lv_aload_n hx hb d_Arc_keepBefore_43 rfl (lv_at hl 2 rfl) ?_
  refine va_get (D := D) (ci := 2) (v := .ref qb) (C := R_Arc) (T := T_Arc) (N := 5) hx hb hts (ui_Arc _) hown hK hP 0 rfl rfl 3 (by decide) (hts _ (gwc gw_74)) (fun _ h9 => h9) rfl d_Arc_keepBefore_44 ?_
  refine lv_iload_n hx hb d_Arc_keepBefore_47 rfl (lv_at hl 0 rfl) ?_
  refine lv_iconst (v := 1) hx hb d_Arc_keepBefore_48 (by decide) ?_
  refine lv_isub hx hb d_Arc_keepBefore_49 ?_
  refine tp_i (0) (by decide) ?_
  refine ld_i hx hb hK hP 2 0 rfl rfl 0 (by omega) (by omega) d_Arc_keepBefore_50 ?_
  refine tp_i (b0) (rfl) ?_
  refine lv_aload_n hx hb d_Arc_keepBefore_51 rfl (lv_at hl 2 rfl) ?_
  refine va_get (D := D) (ci := 2) (v := .ref qb) (C := R_Arc) (T := T_Arc) (N := 5) hx hb hts (ui_Arc _) hown hK hP 0 rfl rfl 3 (by decide) (hts _ (gwc gw_74)) (fun _ h9 => h9) rfl d_Arc_keepBefore_52 ?_
  refine lv_iload_n hx hb d_Arc_keepBefore_55 rfl (lv_at hl 0 rfl) ?_
  refine ld_i hx hb hK hP 2 0 rfl rfl 1 (by omega) (by omega) d_Arc_keepBefore_56 ?_
  refine tp_i (b1) (rfl) ?_
  refine lv_iload_n hx hb d_Arc_keepBefore_57 rfl (lv_at hl 3 rfl) ?_
  refine ct_callS (av := [.int b0, .int b1, .int t]) (rest := [.int 1, .ref qb]) (wr := [(ha_, .inr (2, [.ref qx, .ref qy, .ref qa, .ref qb, .int (nI n)])), (qa, .inl (cI, 4, .inl (j4 a0 (mixI a0 a1 t) (mixI a1 a2 t) (mixI a2 a3 t)))), (qb, .inl (cI, 4, .inl (j4 b0 b1 (mixI b1 b2 t) (mixI b2 b3 t))))]) (n := 3) (c_Arc_mix l D cI cB cJ qQ  b0 b1 t ) hx hb hml hown hts (amb_ok qQ) hK hP hD hS hA hM (gi_S gw_293 gw_294 gw_30 gw_295) rfl (by decide +kernel) ⟨by omega, by omega⟩ [] [0, 1, 2] rfl rfl rfl rfl (by decide) rfl hl.1 rfl (Nat.le_of_ble_eq_true rfl) d_Arc_keepBefore_58 ⟨by omega, by omega⟩ (fun u_10 H locs hok hP hD hS => ?_)
  have hP : va_P D cl [(ha_, .inr (2, [.ref qx, .ref qy, .ref qa, .ref qb, .int (nI n)])), (qa, .inl (cI, 4, .inl (j4 a0 (mixI a0 a1 t) (mixI a1 a2 t) (mixI a2 a3 t)))), (qb, .inl (cI, 4, .inl (j4 b0 b1 (mixI b1 b2 t) (mixI b2 b3 t))))] H := hP
  have hD : va_D A [(ha_, .inr (2, [.ref qx, .ref qy, .ref qa, .ref qb, .int (nI n)])), (qa, .inl (cI, 4, .inl (j4 a0 (mixI a0 a1 t) (mixI a1 a2 t) (mixI a2 a3 t)))), (qb, .inl (cI, 4, .inl (j4 b0 b1 (mixI b1 b2 t) (mixI b2 b3 t))))] := hD
  refine W.eq (g2 := F0 m 61 ls [.int (mixI b0 b1 t), .int 1, .ref qb]) rfl ?_
  refine sf_i (j4 b0 (mixI b0 b1 t) (mixI b1 b2 t) (mixI b2 b3 t)) hx hb hK hP hD hS 2 0 rfl rfl 1 j4_1 (by decide) (by decide) d_Arc_keepBefore_61 (fun H locs hP hD hS => ?_)
  have hP : va_P D cl [(ha_, .inr (2, [.ref qx, .ref qy, .ref qa, .ref qb, .int (nI n)])), (qa, .inl (cI, 4, .inl (j4 a0 (mixI a0 a1 t) (mixI a1 a2 t) (mixI a2 a3 t)))), (qb, .inl (cI, 4, .inl (j4 b0 (mixI b0 b1 t) (mixI b1 b2 t) (mixI b2 b3 t))))] H := hP
  have hD : va_D A [(ha_, .inr (2, [.ref qx, .ref qy, .ref qa, .ref qb, .int (nI n)])), (qa, .inl (cI, 4, .inl (j4 a0 (mixI a0 a1 t) (mixI a1 a2 t) (mixI a2 a3 t)))), (qb, .inl (cI, 4, .inl (j4 b0 (mixI b0 b1 t) (mixI b1 b2 t) (mixI b2 b3 t))))] := hD
  refine lv_iinc (v := 0) (lv' := [(3, .int 0), (2, .int 1), (0, .ref ha_), (1, .int t)]) hx hb d_Arc_keepBefore_62 hl (k := 0) rfl (by decide) (by decide) rfl (fun ls hl => ?_)
  refine lv_goto (tgt := 9) hx hb d_Arc_keepBefore_65 (by decide) ?_
  refine lv_iload_n hx hb d_Arc_keepBefore_9 rfl (lv_at hl 0 rfl) ?_
  refine lv_iload_n hx hb d_Arc_keepBefore_10 rfl (lv_at hl 1 rfl) ?_
  refine bn_lt (a1 := 0) (b1 := 1) (tgt := 68) hx hb (by omega) (by omega) d_Arc_keepBefore_11 (by decide) (fun c_11 => ?_) (fun c_11 => ?_)
  rotate_left
  · exact absurd c_11 (by decide)
  refine lv_iinc (v := 2) (lv' := [(2, .int 2), (3, .int 0), (0, .ref ha_), (1, .int t)]) hx hb d_Arc_keepBefore_68 hl (k := 1) rfl (by first | exact nI_add _ 1 | rfl | decide) (by decide) rfl (fun ls hl => ?_)
  refine lv_goto (tgt := 2) hx hb d_Arc_keepBefore_71 (by decide) ?_
  refine lv_iload_n hx hb d_Arc_keepBefore_2 rfl (lv_at hl 0 rfl) ?_
  refine lv_iconst (v := 3) hx hb d_Arc_keepBefore_3 (by decide) ?_
  refine bn_gt (a1 := 2) (b1 := 3) (tgt := 74) hx hb (by omega) (by omega) d_Arc_keepBefore_4 (by decide) (fun c_12 => ?_) (fun c_12 => ?_)
  · exact absurd c_12 (by decide)
  refine lv_iconst (v := 3) hx hb d_Arc_keepBefore_7 (by decide) ?_
  refine lv_istore_n (lv' := [(3, .int 3), (2, .int 2), (0, .ref ha_), (1, .int t)]) hx hb d_Arc_keepBefore_8 rfl hl (by decide) rfl (fun ls hl => ?_)
  refine lv_iload_n hx hb d_Arc_keepBefore_9 rfl (lv_at hl 0 rfl) ?_
  refine lv_iload_n hx hb d_Arc_keepBefore_10 rfl (lv_at hl 1 rfl) ?_
  refine bn_lt (a1 := 3) (b1 := 2) (tgt := 68) hx hb (by omega) (by omega) d_Arc_keepBefore_11 (by decide) (fun c_13 => ?_) (fun c_13 => ?_)
  · exact absurd c_13 (by decide)
  refine lv_aload_n hx hb d_Arc_keepBefore_14 rfl (lv_at hl 2 rfl) ?_
  refine va_get (D := D) (ci := 2) (v := .ref qa) (C := R_Arc) (T := T_Arc) (N := 5) hx hb hts (ui_Arc _) hown hK hP 0 rfl rfl 2 (by decide) (hts _ (gwc gw_73)) (fun _ h9 => h9) rfl d_Arc_keepBefore_15 ?_
  refine lv_iload_n hx hb d_Arc_keepBefore_18 rfl (lv_at hl 0 rfl) ?_
  refine lv_aload_n hx hb d_Arc_keepBefore_19 rfl (lv_at hl 2 rfl) ?_
  refine va_get (D := D) (ci := 2) (v := .ref qa) (C := R_Arc) (T := T_Arc) (N := 5) hx hb hts (ui_Arc _) hown hK hP 0 rfl rfl 2 (by decide) (hts _ (gwc gw_73)) (fun _ h9 => h9) rfl d_Arc_keepBefore_20 ?_
  refine lv_iload_n hx hb d_Arc_keepBefore_23 rfl (lv_at hl 0 rfl) ?_
  refine lv_iconst (v := 1) hx hb d_Arc_keepBefore_24 (by decide) ?_
  refine lv_isub hx hb d_Arc_keepBefore_25 ?_
  refine tp_i (2) (by decide) ?_
  refine ld_i hx hb hK hP 1 0 rfl rfl 2 (by omega) (by omega) d_Arc_keepBefore_26 ?_
  refine tp_i (mixI a1 a2 t) (rfl) ?_
  refine lv_aload_n hx hb d_Arc_keepBefore_27 rfl (lv_at hl 2 rfl) ?_
  refine va_get (D := D) (ci := 2) (v := .ref qa) (C := R_Arc) (T := T_Arc) (N := 5) hx hb hts (ui_Arc _) hown hK hP 0 rfl rfl 2 (by decide) (hts _ (gwc gw_73)) (fun _ h9 => h9) rfl d_Arc_keepBefore_28 ?_
  refine lv_iload_n hx hb d_Arc_keepBefore_31 rfl (lv_at hl 0 rfl) ?_
  refine ld_i hx hb hK hP 1 0 rfl rfl 3 (by omega) (by omega) d_Arc_keepBefore_32 ?_
  refine tp_i (mixI a2 a3 t) (rfl) ?_
  refine lv_iload_n hx hb d_Arc_keepBefore_33 rfl (lv_at hl 3 rfl) ?_
  refine ct_callS (av := [.int (mixI a1 a2 t), .int (mixI a2 a3 t), .int t]) (rest := [.int 3, .ref qa]) (wr := [(ha_, .inr (2, [.ref qx, .ref qy, .ref qa, .ref qb, .int (nI n)])), (qa, .inl (cI, 4, .inl (j4 a0 (mixI a0 a1 t) (mixI a1 a2 t) (mixI a2 a3 t)))), (qb, .inl (cI, 4, .inl (j4 b0 (mixI b0 b1 t) (mixI b1 b2 t) (mixI b2 b3 t))))]) (n := 3) (c_Arc_mix l D cI cB cJ qQ  (mixI a1 a2 t) (mixI a2 a3 t) t ) hx hb hml hown hts (amb_ok qQ) hK hP hD hS hA hM (gi_S gw_293 gw_294 gw_30 gw_295) rfl (by decide +kernel) ⟨by omega, by omega⟩ [] [0, 1, 2] rfl rfl rfl rfl (by decide) rfl hl.1 rfl (Nat.le_of_ble_eq_true rfl) d_Arc_keepBefore_34 ⟨by omega, by omega⟩ (fun u_14 H locs hok hP hD hS => ?_)
  have hP : va_P D cl [(ha_, .inr (2, [.ref qx, .ref qy, .ref qa, .ref qb, .int (nI n)])), (qa, .inl (cI, 4, .inl (j4 a0 (mixI a0 a1 t) (mixI a1 a2 t) (mixI a2 a3 t)))), (qb, .inl (cI, 4, .inl (j4 b0 (mixI b0 b1 t) (mixI b1 b2 t) (mixI b2 b3 t))))] H := hP
  have hD : va_D A [(ha_, .inr (2, [.ref qx, .ref qy, .ref qa, .ref qb, .int (nI n)])), (qa, .inl (cI, 4, .inl (j4 a0 (mixI a0 a1 t) (mixI a1 a2 t) (mixI a2 a3 t)))), (qb, .inl (cI, 4, .inl (j4 b0 (mixI b0 b1 t) (mixI b1 b2 t) (mixI b2 b3 t))))] := hD
  refine W.eq (g2 := F0 m 37 ls [.int (mixI (mixI a1 a2 t) (mixI a2 a3 t) t), .int 3, .ref qa]) rfl ?_
  refine sf_i (j4 a0 (mixI a0 a1 t) (mixI a1 a2 t) (mixI (mixI a1 a2 t) (mixI a2 a3 t) t)) hx hb hK hP hD hS 1 0 rfl rfl 3 j4_3 (by decide) (by decide) d_Arc_keepBefore_37 (fun H locs hP hD hS => ?_)
  have hP : va_P D cl [(ha_, .inr (2, [.ref qx, .ref qy, .ref qa, .ref qb, .int (nI n)])), (qa, .inl (cI, 4, .inl (j4 a0 (mixI a0 a1 t) (mixI a1 a2 t) (mixI (mixI a1 a2 t) (mixI a2 a3 t) t)))), (qb, .inl (cI, 4, .inl (j4 b0 (mixI b0 b1 t) (mixI b1 b2 t) (mixI b2 b3 t))))] H := hP
  have hD : va_D A [(ha_, .inr (2, [.ref qx, .ref qy, .ref qa, .ref qb, .int (nI n)])), (qa, .inl (cI, 4, .inl (j4 a0 (mixI a0 a1 t) (mixI a1 a2 t) (mixI (mixI a1 a2 t) (mixI a2 a3 t) t)))), (qb, .inl (cI, 4, .inl (j4 b0 (mixI b0 b1 t) (mixI b1 b2 t) (mixI b2 b3 t))))] := hD
  refine lv_aload_n hx hb d_Arc_keepBefore_38 rfl (lv_at hl 2 rfl) ?_
  refine va_get (D := D) (ci := 2) (v := .ref qb) (C := R_Arc) (T := T_Arc) (N := 5) hx hb hts (ui_Arc _) hown hK hP 0 rfl rfl 3 (by decide) (hts _ (gwc gw_74)) (fun _ h9 => h9) rfl d_Arc_keepBefore_39 ?_
  refine lv_iload_n hx hb d_Arc_keepBefore_42 rfl (lv_at hl 0 rfl) ?_
  refine lv_aload_n hx hb d_Arc_keepBefore_43 rfl (lv_at hl 2 rfl) ?_
  refine va_get (D := D) (ci := 2) (v := .ref qb) (C := R_Arc) (T := T_Arc) (N := 5) hx hb hts (ui_Arc _) hown hK hP 0 rfl rfl 3 (by decide) (hts _ (gwc gw_74)) (fun _ h9 => h9) rfl d_Arc_keepBefore_44 ?_
  refine lv_iload_n hx hb d_Arc_keepBefore_47 rfl (lv_at hl 0 rfl) ?_
  refine lv_iconst (v := 1) hx hb d_Arc_keepBefore_48 (by decide) ?_
  refine lv_isub hx hb d_Arc_keepBefore_49 ?_
  refine tp_i (2) (by decide) ?_
  refine ld_i hx hb hK hP 2 0 rfl rfl 2 (by omega) (by omega) d_Arc_keepBefore_50 ?_
  refine tp_i (mixI b1 b2 t) (rfl) ?_
  refine lv_aload_n hx hb d_Arc_keepBefore_51 rfl (lv_at hl 2 rfl) ?_
  refine va_get (D := D) (ci := 2) (v := .ref qb) (C := R_Arc) (T := T_Arc) (N := 5) hx hb hts (ui_Arc _) hown hK hP 0 rfl rfl 3 (by decide) (hts _ (gwc gw_74)) (fun _ h9 => h9) rfl d_Arc_keepBefore_52 ?_
  refine lv_iload_n hx hb d_Arc_keepBefore_55 rfl (lv_at hl 0 rfl) ?_
  refine ld_i hx hb hK hP 2 0 rfl rfl 3 (by omega) (by omega) d_Arc_keepBefore_56 ?_
  refine tp_i (mixI b2 b3 t) (rfl) ?_
  refine lv_iload_n hx hb d_Arc_keepBefore_57 rfl (lv_at hl 3 rfl) ?_
  refine ct_callS (av := [.int (mixI b1 b2 t), .int (mixI b2 b3 t), .int t]) (rest := [.int 3, .ref qb]) (wr := [(ha_, .inr (2, [.ref qx, .ref qy, .ref qa, .ref qb, .int (nI n)])), (qa, .inl (cI, 4, .inl (j4 a0 (mixI a0 a1 t) (mixI a1 a2 t) (mixI (mixI a1 a2 t) (mixI a2 a3 t) t)))), (qb, .inl (cI, 4, .inl (j4 b0 (mixI b0 b1 t) (mixI b1 b2 t) (mixI b2 b3 t))))]) (n := 3) (c_Arc_mix l D cI cB cJ qQ  (mixI b1 b2 t) (mixI b2 b3 t) t ) hx hb hml hown hts (amb_ok qQ) hK hP hD hS hA hM (gi_S gw_293 gw_294 gw_30 gw_295) rfl (by decide +kernel) ⟨by omega, by omega⟩ [] [0, 1, 2] rfl rfl rfl rfl (by decide) rfl hl.1 rfl (Nat.le_of_ble_eq_true rfl) d_Arc_keepBefore_58 ⟨by omega, by omega⟩ (fun u_15 H locs hok hP hD hS => ?_)
  have hP : va_P D cl [(ha_, .inr (2, [.ref qx, .ref qy, .ref qa, .ref qb, .int (nI n)])), (qa, .inl (cI, 4, .inl (j4 a0 (mixI a0 a1 t) (mixI a1 a2 t) (mixI (mixI a1 a2 t) (mixI a2 a3 t) t)))), (qb, .inl (cI, 4, .inl (j4 b0 (mixI b0 b1 t) (mixI b1 b2 t) (mixI b2 b3 t))))] H := hP
  have hD : va_D A [(ha_, .inr (2, [.ref qx, .ref qy, .ref qa, .ref qb, .int (nI n)])), (qa, .inl (cI, 4, .inl (j4 a0 (mixI a0 a1 t) (mixI a1 a2 t) (mixI (mixI a1 a2 t) (mixI a2 a3 t) t)))), (qb, .inl (cI, 4, .inl (j4 b0 (mixI b0 b1 t) (mixI b1 b2 t) (mixI b2 b3 t))))] := hD
  refine W.eq (g2 := F0 m 61 ls [.int (mixI (mixI b1 b2 t) (mixI b2 b3 t) t), .int 3, .ref qb]) rfl ?_
  refine sf_i (j4 b0 (mixI b0 b1 t) (mixI b1 b2 t) (mixI (mixI b1 b2 t) (mixI b2 b3 t) t)) hx hb hK hP hD hS 2 0 rfl rfl 3 j4_3 (by decide) (by decide) d_Arc_keepBefore_61 (fun H locs hP hD hS => ?_)
  have hP : va_P D cl [(ha_, .inr (2, [.ref qx, .ref qy, .ref qa, .ref qb, .int (nI n)])), (qa, .inl (cI, 4, .inl (j4 a0 (mixI a0 a1 t) (mixI a1 a2 t) (mixI (mixI a1 a2 t) (mixI a2 a3 t) t)))), (qb, .inl (cI, 4, .inl (j4 b0 (mixI b0 b1 t) (mixI b1 b2 t) (mixI (mixI b1 b2 t) (mixI b2 b3 t) t))))] H := hP
  have hD : va_D A [(ha_, .inr (2, [.ref qx, .ref qy, .ref qa, .ref qb, .int (nI n)])), (qa, .inl (cI, 4, .inl (j4 a0 (mixI a0 a1 t) (mixI a1 a2 t) (mixI (mixI a1 a2 t) (mixI a2 a3 t) t)))), (qb, .inl (cI, 4, .inl (j4 b0 (mixI b0 b1 t) (mixI b1 b2 t) (mixI (mixI b1 b2 t) (mixI b2 b3 t) t))))] := hD
  refine lv_iinc (v := 2) (lv' := [(3, .int 2), (2, .int 2), (0, .ref ha_), (1, .int t)]) hx hb d_Arc_keepBefore_62 hl (k := 0) rfl (by decide) (by decide) rfl (fun ls hl => ?_)
  refine lv_goto (tgt := 9) hx hb d_Arc_keepBefore_65 (by decide) ?_
  refine lv_iload_n hx hb d_Arc_keepBefore_9 rfl (lv_at hl 0 rfl) ?_
  refine lv_iload_n hx hb d_Arc_keepBefore_10 rfl (lv_at hl 1 rfl) ?_
  refine bn_lt (a1 := 2) (b1 := 2) (tgt := 68) hx hb (by omega) (by omega) d_Arc_keepBefore_11 (by decide) (fun c_16 => ?_) (fun c_16 => ?_)
  · exact absurd c_16 (by decide)
  refine lv_aload_n hx hb d_Arc_keepBefore_14 rfl (lv_at hl 2 rfl) ?_
  refine va_get (D := D) (ci := 2) (v := .ref qa) (C := R_Arc) (T := T_Arc) (N := 5) hx hb hts (ui_Arc _) hown hK hP 0 rfl rfl 2 (by decide) (hts _ (gwc gw_73)) (fun _ h9 => h9) rfl d_Arc_keepBefore_15 ?_
  refine lv_iload_n hx hb d_Arc_keepBefore_18 rfl (lv_at hl 0 rfl) ?_
  refine lv_aload_n hx hb d_Arc_keepBefore_19 rfl (lv_at hl 2 rfl) ?_
  refine va_get (D := D) (ci := 2) (v := .ref qa) (C := R_Arc) (T := T_Arc) (N := 5) hx hb hts (ui_Arc _) hown hK hP 0 rfl rfl 2 (by decide) (hts _ (gwc gw_73)) (fun _ h9 => h9) rfl d_Arc_keepBefore_20 ?_
  refine lv_iload_n hx hb d_Arc_keepBefore_23 rfl (lv_at hl 0 rfl) ?_
  refine lv_iconst (v := 1) hx hb d_Arc_keepBefore_24 (by decide) ?_
  refine lv_isub hx hb d_Arc_keepBefore_25 ?_
  refine tp_i (1) (by decide) ?_
  refine ld_i hx hb hK hP 1 0 rfl rfl 1 (by omega) (by omega) d_Arc_keepBefore_26 ?_
  refine tp_i (mixI a0 a1 t) (rfl) ?_
  refine lv_aload_n hx hb d_Arc_keepBefore_27 rfl (lv_at hl 2 rfl) ?_
  refine va_get (D := D) (ci := 2) (v := .ref qa) (C := R_Arc) (T := T_Arc) (N := 5) hx hb hts (ui_Arc _) hown hK hP 0 rfl rfl 2 (by decide) (hts _ (gwc gw_73)) (fun _ h9 => h9) rfl d_Arc_keepBefore_28 ?_
  refine lv_iload_n hx hb d_Arc_keepBefore_31 rfl (lv_at hl 0 rfl) ?_
  refine ld_i hx hb hK hP 1 0 rfl rfl 2 (by omega) (by omega) d_Arc_keepBefore_32 ?_
  refine tp_i (mixI a1 a2 t) (rfl) ?_
  refine lv_iload_n hx hb d_Arc_keepBefore_33 rfl (lv_at hl 3 rfl) ?_
  refine ct_callS (av := [.int (mixI a0 a1 t), .int (mixI a1 a2 t), .int t]) (rest := [.int 2, .ref qa]) (wr := [(ha_, .inr (2, [.ref qx, .ref qy, .ref qa, .ref qb, .int (nI n)])), (qa, .inl (cI, 4, .inl (j4 a0 (mixI a0 a1 t) (mixI a1 a2 t) (mixI (mixI a1 a2 t) (mixI a2 a3 t) t)))), (qb, .inl (cI, 4, .inl (j4 b0 (mixI b0 b1 t) (mixI b1 b2 t) (mixI (mixI b1 b2 t) (mixI b2 b3 t) t))))]) (n := 3) (c_Arc_mix l D cI cB cJ qQ  (mixI a0 a1 t) (mixI a1 a2 t) t ) hx hb hml hown hts (amb_ok qQ) hK hP hD hS hA hM (gi_S gw_293 gw_294 gw_30 gw_295) rfl (by decide +kernel) ⟨by omega, by omega⟩ [] [0, 1, 2] rfl rfl rfl rfl (by decide) rfl hl.1 rfl (Nat.le_of_ble_eq_true rfl) d_Arc_keepBefore_34 ⟨by omega, by omega⟩ (fun u_17 H locs hok hP hD hS => ?_)
  have hP : va_P D cl [(ha_, .inr (2, [.ref qx, .ref qy, .ref qa, .ref qb, .int (nI n)])), (qa, .inl (cI, 4, .inl (j4 a0 (mixI a0 a1 t) (mixI a1 a2 t) (mixI (mixI a1 a2 t) (mixI a2 a3 t) t)))), (qb, .inl (cI, 4, .inl (j4 b0 (mixI b0 b1 t) (mixI b1 b2 t) (mixI (mixI b1 b2 t) (mixI b2 b3 t) t))))] H := hP
  have hD : va_D A [(ha_, .inr (2, [.ref qx, .ref qy, .ref qa, .ref qb, .int (nI n)])), (qa, .inl (cI, 4, .inl (j4 a0 (mixI a0 a1 t) (mixI a1 a2 t) (mixI (mixI a1 a2 t) (mixI a2 a3 t) t)))), (qb, .inl (cI, 4, .inl (j4 b0 (mixI b0 b1 t) (mixI b1 b2 t) (mixI (mixI b1 b2 t) (mixI b2 b3 t) t))))] := hD
  refine W.eq (g2 := F0 m 37 ls [.int (mixI (mixI a0 a1 t) (mixI a1 a2 t) t), .int 2, .ref qa]) rfl ?_
  refine sf_i (j4 a0 (mixI a0 a1 t) (mixI (mixI a0 a1 t) (mixI a1 a2 t) t) (mixI (mixI a1 a2 t) (mixI a2 a3 t) t)) hx hb hK hP hD hS 1 0 rfl rfl 2 j4_2 (by decide) (by decide) d_Arc_keepBefore_37 (fun H locs hP hD hS => ?_)
  have hP : va_P D cl [(ha_, .inr (2, [.ref qx, .ref qy, .ref qa, .ref qb, .int (nI n)])), (qa, .inl (cI, 4, .inl (j4 a0 (mixI a0 a1 t) (mixI (mixI a0 a1 t) (mixI a1 a2 t) t) (mixI (mixI a1 a2 t) (mixI a2 a3 t) t)))), (qb, .inl (cI, 4, .inl (j4 b0 (mixI b0 b1 t) (mixI b1 b2 t) (mixI (mixI b1 b2 t) (mixI b2 b3 t) t))))] H := hP
  have hD : va_D A [(ha_, .inr (2, [.ref qx, .ref qy, .ref qa, .ref qb, .int (nI n)])), (qa, .inl (cI, 4, .inl (j4 a0 (mixI a0 a1 t) (mixI (mixI a0 a1 t) (mixI a1 a2 t) t) (mixI (mixI a1 a2 t) (mixI a2 a3 t) t)))), (qb, .inl (cI, 4, .inl (j4 b0 (mixI b0 b1 t) (mixI b1 b2 t) (mixI (mixI b1 b2 t) (mixI b2 b3 t) t))))] := hD
  refine lv_aload_n hx hb d_Arc_keepBefore_38 rfl (lv_at hl 2 rfl) ?_
  refine va_get (D := D) (ci := 2) (v := .ref qb) (C := R_Arc) (T := T_Arc) (N := 5) hx hb hts (ui_Arc _) hown hK hP 0 rfl rfl 3 (by decide) (hts _ (gwc gw_74)) (fun _ h9 => h9) rfl d_Arc_keepBefore_39 ?_
  refine lv_iload_n hx hb d_Arc_keepBefore_42 rfl (lv_at hl 0 rfl) ?_
  refine lv_aload_n hx hb d_Arc_keepBefore_43 rfl (lv_at hl 2 rfl) ?_
  refine va_get (D := D) (ci := 2) (v := .ref qb) (C := R_Arc) (T := T_Arc) (N := 5) hx hb hts (ui_Arc _) hown hK hP 0 rfl rfl 3 (by decide) (hts _ (gwc gw_74)) (fun _ h9 => h9) rfl d_Arc_keepBefore_44 ?_
  refine lv_iload_n hx hb d_Arc_keepBefore_47 rfl (lv_at hl 0 rfl) ?_
  refine lv_iconst (v := 1) hx hb d_Arc_keepBefore_48 (by decide) ?_
  refine lv_isub hx hb d_Arc_keepBefore_49 ?_
  refine tp_i (1) (by decide) ?_
  refine ld_i hx hb hK hP 2 0 rfl rfl 1 (by omega) (by omega) d_Arc_keepBefore_50 ?_
  refine tp_i (mixI b0 b1 t) (rfl) ?_
  refine lv_aload_n hx hb d_Arc_keepBefore_51 rfl (lv_at hl 2 rfl) ?_
  refine va_get (D := D) (ci := 2) (v := .ref qb) (C := R_Arc) (T := T_Arc) (N := 5) hx hb hts (ui_Arc _) hown hK hP 0 rfl rfl 3 (by decide) (hts _ (gwc gw_74)) (fun _ h9 => h9) rfl d_Arc_keepBefore_52 ?_
  refine lv_iload_n hx hb d_Arc_keepBefore_55 rfl (lv_at hl 0 rfl) ?_
  refine ld_i hx hb hK hP 2 0 rfl rfl 2 (by omega) (by omega) d_Arc_keepBefore_56 ?_
  refine tp_i (mixI b1 b2 t) (rfl) ?_
  refine lv_iload_n hx hb d_Arc_keepBefore_57 rfl (lv_at hl 3 rfl) ?_
  refine ct_callS (av := [.int (mixI b0 b1 t), .int (mixI b1 b2 t), .int t]) (rest := [.int 2, .ref qb]) (wr := [(ha_, .inr (2, [.ref qx, .ref qy, .ref qa, .ref qb, .int (nI n)])), (qa, .inl (cI, 4, .inl (j4 a0 (mixI a0 a1 t) (mixI (mixI a0 a1 t) (mixI a1 a2 t) t) (mixI (mixI a1 a2 t) (mixI a2 a3 t) t)))), (qb, .inl (cI, 4, .inl (j4 b0 (mixI b0 b1 t) (mixI b1 b2 t) (mixI (mixI b1 b2 t) (mixI b2 b3 t) t))))]) (n := 3) (c_Arc_mix l D cI cB cJ qQ  (mixI b0 b1 t) (mixI b1 b2 t) t ) hx hb hml hown hts (amb_ok qQ) hK hP hD hS hA hM (gi_S gw_293 gw_294 gw_30 gw_295) rfl (by decide +kernel) ⟨by omega, by omega⟩ [] [0, 1, 2] rfl rfl rfl rfl (by decide) rfl hl.1 rfl (Nat.le_of_ble_eq_true rfl) d_Arc_keepBefore_58 ⟨by omega, by omega⟩ (fun u_18 H locs hok hP hD hS => ?_)
  have hP : va_P D cl [(ha_, .inr (2, [.ref qx, .ref qy, .ref qa, .ref qb, .int (nI n)])), (qa, .inl (cI, 4, .inl (j4 a0 (mixI a0 a1 t) (mixI (mixI a0 a1 t) (mixI a1 a2 t) t) (mixI (mixI a1 a2 t) (mixI a2 a3 t) t)))), (qb, .inl (cI, 4, .inl (j4 b0 (mixI b0 b1 t) (mixI b1 b2 t) (mixI (mixI b1 b2 t) (mixI b2 b3 t) t))))] H := hP
  have hD : va_D A [(ha_, .inr (2, [.ref qx, .ref qy, .ref qa, .ref qb, .int (nI n)])), (qa, .inl (cI, 4, .inl (j4 a0 (mixI a0 a1 t) (mixI (mixI a0 a1 t) (mixI a1 a2 t) t) (mixI (mixI a1 a2 t) (mixI a2 a3 t) t)))), (qb, .inl (cI, 4, .inl (j4 b0 (mixI b0 b1 t) (mixI b1 b2 t) (mixI (mixI b1 b2 t) (mixI b2 b3 t) t))))] := hD
  refine W.eq (g2 := F0 m 61 ls [.int (mixI (mixI b0 b1 t) (mixI b1 b2 t) t), .int 2, .ref qb]) rfl ?_
  refine sf_i (j4 b0 (mixI b0 b1 t) (mixI (mixI b0 b1 t) (mixI b1 b2 t) t) (mixI (mixI b1 b2 t) (mixI b2 b3 t) t)) hx hb hK hP hD hS 2 0 rfl rfl 2 j4_2 (by decide) (by decide) d_Arc_keepBefore_61 (fun H locs hP hD hS => ?_)
  have hP : va_P D cl [(ha_, .inr (2, [.ref qx, .ref qy, .ref qa, .ref qb, .int (nI n)])), (qa, .inl (cI, 4, .inl (j4 a0 (mixI a0 a1 t) (mixI (mixI a0 a1 t) (mixI a1 a2 t) t) (mixI (mixI a1 a2 t) (mixI a2 a3 t) t)))), (qb, .inl (cI, 4, .inl (j4 b0 (mixI b0 b1 t) (mixI (mixI b0 b1 t) (mixI b1 b2 t) t) (mixI (mixI b1 b2 t) (mixI b2 b3 t) t))))] H := hP
  have hD : va_D A [(ha_, .inr (2, [.ref qx, .ref qy, .ref qa, .ref qb, .int (nI n)])), (qa, .inl (cI, 4, .inl (j4 a0 (mixI a0 a1 t) (mixI (mixI a0 a1 t) (mixI a1 a2 t) t) (mixI (mixI a1 a2 t) (mixI a2 a3 t) t)))), (qb, .inl (cI, 4, .inl (j4 b0 (mixI b0 b1 t) (mixI (mixI b0 b1 t) (mixI b1 b2 t) t) (mixI (mixI b1 b2 t) (mixI b2 b3 t) t))))] := hD
  refine lv_iinc (v := 1) (lv' := [(3, .int 1), (2, .int 2), (0, .ref ha_), (1, .int t)]) hx hb d_Arc_keepBefore_62 hl (k := 0) rfl (by decide) (by decide) rfl (fun ls hl => ?_)
  refine lv_goto (tgt := 9) hx hb d_Arc_keepBefore_65 (by decide) ?_
  refine lv_iload_n hx hb d_Arc_keepBefore_9 rfl (lv_at hl 0 rfl) ?_
  refine lv_iload_n hx hb d_Arc_keepBefore_10 rfl (lv_at hl 1 rfl) ?_
  refine bn_lt (a1 := 1) (b1 := 2) (tgt := 68) hx hb (by omega) (by omega) d_Arc_keepBefore_11 (by decide) (fun c_19 => ?_) (fun c_19 => ?_)
  rotate_left
  · exact absurd c_19 (by decide)
  refine lv_iinc (v := 3) (lv' := [(2, .int 3), (3, .int 1), (0, .ref ha_), (1, .int t)]) hx hb d_Arc_keepBefore_68 hl (k := 1) rfl (by first | exact nI_add _ 1 | rfl | decide) (by decide) rfl (fun ls hl => ?_)
  refine lv_goto (tgt := 2) hx hb d_Arc_keepBefore_71 (by decide) ?_
  refine lv_iload_n hx hb d_Arc_keepBefore_2 rfl (lv_at hl 0 rfl) ?_
  refine lv_iconst (v := 3) hx hb d_Arc_keepBefore_3 (by decide) ?_
  refine bn_gt (a1 := 3) (b1 := 3) (tgt := 74) hx hb (by omega) (by omega) d_Arc_keepBefore_4 (by decide) (fun c_20 => ?_) (fun c_20 => ?_)
  · exact absurd c_20 (by decide)
  refine lv_iconst (v := 3) hx hb d_Arc_keepBefore_7 (by decide) ?_
  refine lv_istore_n (lv' := [(3, .int 3), (2, .int 3), (0, .ref ha_), (1, .int t)]) hx hb d_Arc_keepBefore_8 rfl hl (by decide) rfl (fun ls hl => ?_)
  refine lv_iload_n hx hb d_Arc_keepBefore_9 rfl (lv_at hl 0 rfl) ?_
  refine lv_iload_n hx hb d_Arc_keepBefore_10 rfl (lv_at hl 1 rfl) ?_
  refine bn_lt (a1 := 3) (b1 := 3) (tgt := 68) hx hb (by omega) (by omega) d_Arc_keepBefore_11 (by decide) (fun c_21 => ?_) (fun c_21 => ?_)
  · exact absurd c_21 (by decide)
  refine lv_aload_n hx hb d_Arc_keepBefore_14 rfl (lv_at hl 2 rfl) ?_
  refine va_get (D := D) (ci := 2) (v := .ref qa) (C := R_Arc) (T := T_Arc) (N := 5) hx hb hts (ui_Arc _) hown hK hP 0 rfl rfl 2 (by decide) (hts _ (gwc gw_73)) (fun _ h9 => h9) rfl d_Arc_keepBefore_15 ?_
  refine lv_iload_n hx hb d_Arc_keepBefore_18 rfl (lv_at hl 0 rfl) ?_
  refine lv_aload_n hx hb d_Arc_keepBefore_19 rfl (lv_at hl 2 rfl) ?_
  refine va_get (D := D) (ci := 2) (v := .ref qa) (C := R_Arc) (T := T_Arc) (N := 5) hx hb hts (ui_Arc _) hown hK hP 0 rfl rfl 2 (by decide) (hts _ (gwc gw_73)) (fun _ h9 => h9) rfl d_Arc_keepBefore_20 ?_
  refine lv_iload_n hx hb d_Arc_keepBefore_23 rfl (lv_at hl 0 rfl) ?_
  refine lv_iconst (v := 1) hx hb d_Arc_keepBefore_24 (by decide) ?_
  refine lv_isub hx hb d_Arc_keepBefore_25 ?_
  refine tp_i (2) (by decide) ?_
  refine ld_i hx hb hK hP 1 0 rfl rfl 2 (by omega) (by omega) d_Arc_keepBefore_26 ?_
  refine tp_i (mixI (mixI a0 a1 t) (mixI a1 a2 t) t) (rfl) ?_
  refine lv_aload_n hx hb d_Arc_keepBefore_27 rfl (lv_at hl 2 rfl) ?_
  refine va_get (D := D) (ci := 2) (v := .ref qa) (C := R_Arc) (T := T_Arc) (N := 5) hx hb hts (ui_Arc _) hown hK hP 0 rfl rfl 2 (by decide) (hts _ (gwc gw_73)) (fun _ h9 => h9) rfl d_Arc_keepBefore_28 ?_
  refine lv_iload_n hx hb d_Arc_keepBefore_31 rfl (lv_at hl 0 rfl) ?_
  refine ld_i hx hb hK hP 1 0 rfl rfl 3 (by omega) (by omega) d_Arc_keepBefore_32 ?_
  refine tp_i (mixI (mixI a1 a2 t) (mixI a2 a3 t) t) (rfl) ?_
  refine lv_iload_n hx hb d_Arc_keepBefore_33 rfl (lv_at hl 3 rfl) ?_
  refine ct_callS (av := [.int (mixI (mixI a0 a1 t) (mixI a1 a2 t) t), .int (mixI (mixI a1 a2 t) (mixI a2 a3 t) t), .int t]) (rest := [.int 3, .ref qa]) (wr := [(ha_, .inr (2, [.ref qx, .ref qy, .ref qa, .ref qb, .int (nI n)])), (qa, .inl (cI, 4, .inl (j4 a0 (mixI a0 a1 t) (mixI (mixI a0 a1 t) (mixI a1 a2 t) t) (mixI (mixI a1 a2 t) (mixI a2 a3 t) t)))), (qb, .inl (cI, 4, .inl (j4 b0 (mixI b0 b1 t) (mixI (mixI b0 b1 t) (mixI b1 b2 t) t) (mixI (mixI b1 b2 t) (mixI b2 b3 t) t))))]) (n := 3) (c_Arc_mix l D cI cB cJ qQ  (mixI (mixI a0 a1 t) (mixI a1 a2 t) t) (mixI (mixI a1 a2 t) (mixI a2 a3 t) t) t ) hx hb hml hown hts (amb_ok qQ) hK hP hD hS hA hM (gi_S gw_293 gw_294 gw_30 gw_295) rfl (by decide +kernel) ⟨by omega, by omega⟩ [] [0, 1, 2] rfl rfl rfl rfl (by decide) rfl hl.1 rfl (Nat.le_of_ble_eq_true rfl) d_Arc_keepBefore_34 ⟨by omega, by omega⟩ (fun u_22 H locs hok hP hD hS => ?_)
  have hP : va_P D cl [(ha_, .inr (2, [.ref qx, .ref qy, .ref qa, .ref qb, .int (nI n)])), (qa, .inl (cI, 4, .inl (j4 a0 (mixI a0 a1 t) (mixI (mixI a0 a1 t) (mixI a1 a2 t) t) (mixI (mixI a1 a2 t) (mixI a2 a3 t) t)))), (qb, .inl (cI, 4, .inl (j4 b0 (mixI b0 b1 t) (mixI (mixI b0 b1 t) (mixI b1 b2 t) t) (mixI (mixI b1 b2 t) (mixI b2 b3 t) t))))] H := hP
  have hD : va_D A [(ha_, .inr (2, [.ref qx, .ref qy, .ref qa, .ref qb, .int (nI n)])), (qa, .inl (cI, 4, .inl (j4 a0 (mixI a0 a1 t) (mixI (mixI a0 a1 t) (mixI a1 a2 t) t) (mixI (mixI a1 a2 t) (mixI a2 a3 t) t)))), (qb, .inl (cI, 4, .inl (j4 b0 (mixI b0 b1 t) (mixI (mixI b0 b1 t) (mixI b1 b2 t) t) (mixI (mixI b1 b2 t) (mixI b2 b3 t) t))))] := hD
  refine W.eq (g2 := F0 m 37 ls [.int (mixI (mixI (mixI a0 a1 t) (mixI a1 a2 t) t) (mixI (mixI a1 a2 t) (mixI a2 a3 t) t) t), .int 3, .ref qa]) rfl ?_
  refine sf_i (j4 a0 (mixI a0 a1 t) (mixI (mixI a0 a1 t) (mixI a1 a2 t) t) (mixI (mixI (mixI a0 a1 t) (mixI a1 a2 t) t) (mixI (mixI a1 a2 t) (mixI a2 a3 t) t) t)) hx hb hK hP hD hS 1 0 rfl rfl 3 j4_3 (by decide) (by decide) d_Arc_keepBefore_37 (fun H locs hP hD hS => ?_)
  have hP : va_P D cl [(ha_, .inr (2, [.ref qx, .ref qy, .ref qa, .ref qb, .int (nI n)])), (qa, .inl (cI, 4, .inl (j4 a0 (mixI a0 a1 t) (mixI (mixI a0 a1 t) (mixI a1 a2 t) t) (mixI (mixI (mixI a0 a1 t) (mixI a1 a2 t) t) (mixI (mixI a1 a2 t) (mixI a2 a3 t) t) t)))), (qb, .inl (cI, 4, .inl (j4 b0 (mixI b0 b1 t) (mixI (mixI b0 b1 t) (mixI b1 b2 t) t) (mixI (mixI b1 b2 t) (mixI b2 b3 t) t))))] H := hP
  have hD : va_D A [(ha_, .inr (2, [.ref qx, .ref qy, .ref qa, .ref qb, .int (nI n)])), (qa, .inl (cI, 4, .inl (j4 a0 (mixI a0 a1 t) (mixI (mixI a0 a1 t) (mixI a1 a2 t) t) (mixI (mixI (mixI a0 a1 t) (mixI a1 a2 t) t) (mixI (mixI a1 a2 t) (mixI a2 a3 t) t) t)))), (qb, .inl (cI, 4, .inl (j4 b0 (mixI b0 b1 t) (mixI (mixI b0 b1 t) (mixI b1 b2 t) t) (mixI (mixI b1 b2 t) (mixI b2 b3 t) t))))] := hD
  refine lv_aload_n hx hb d_Arc_keepBefore_38 rfl (lv_at hl 2 rfl) ?_
  refine va_get (D := D) (ci := 2) (v := .ref qb) (C := R_Arc) (T := T_Arc) (N := 5) hx hb hts (ui_Arc _) hown hK hP 0 rfl rfl 3 (by decide) (hts _ (gwc gw_74)) (fun _ h9 => h9) rfl d_Arc_keepBefore_39 ?_
  refine lv_iload_n hx hb d_Arc_keepBefore_42 rfl (lv_at hl 0 rfl) ?_
  refine lv_aload_n hx hb d_Arc_keepBefore_43 rfl (lv_at hl 2 rfl) ?_
  refine va_get (D := D) (ci := 2) (v := .ref qb) (C := R_Arc) (T := T_Arc) (N := 5) hx hb hts (ui_Arc _) hown hK hP 0 rfl rfl 3 (by decide) (hts _ (gwc gw_74)) (fun _ h9 => h9) rfl d_Arc_keepBefore_44 ?_
  refine lv_iload_n hx hb d_Arc_keepBefore_47 rfl (lv_at hl 0 rfl) ?_
  refine lv_iconst (v := 1) hx hb d_Arc_keepBefore_48 (by decide) ?_
  refine lv_isub hx hb d_Arc_keepBefore_49 ?_
  refine tp_i (2) (by decide) ?_
  refine ld_i hx hb hK hP 2 0 rfl rfl 2 (by omega) (by omega) d_Arc_keepBefore_50 ?_
  refine tp_i (mixI (mixI b0 b1 t) (mixI b1 b2 t) t) (rfl) ?_
  refine lv_aload_n hx hb d_Arc_keepBefore_51 rfl (lv_at hl 2 rfl) ?_
  refine va_get (D := D) (ci := 2) (v := .ref qb) (C := R_Arc) (T := T_Arc) (N := 5) hx hb hts (ui_Arc _) hown hK hP 0 rfl rfl 3 (by decide) (hts _ (gwc gw_74)) (fun _ h9 => h9) rfl d_Arc_keepBefore_52 ?_
  refine lv_iload_n hx hb d_Arc_keepBefore_55 rfl (lv_at hl 0 rfl) ?_
  refine ld_i hx hb hK hP 2 0 rfl rfl 3 (by omega) (by omega) d_Arc_keepBefore_56 ?_
  refine tp_i (mixI (mixI b1 b2 t) (mixI b2 b3 t) t) (rfl) ?_
  refine lv_iload_n hx hb d_Arc_keepBefore_57 rfl (lv_at hl 3 rfl) ?_
  refine ct_callS (av := [.int (mixI (mixI b0 b1 t) (mixI b1 b2 t) t), .int (mixI (mixI b1 b2 t) (mixI b2 b3 t) t), .int t]) (rest := [.int 3, .ref qb]) (wr := [(ha_, .inr (2, [.ref qx, .ref qy, .ref qa, .ref qb, .int (nI n)])), (qa, .inl (cI, 4, .inl (j4 a0 (mixI a0 a1 t) (mixI (mixI a0 a1 t) (mixI a1 a2 t) t) (mixI (mixI (mixI a0 a1 t) (mixI a1 a2 t) t) (mixI (mixI a1 a2 t) (mixI a2 a3 t) t) t)))), (qb, .inl (cI, 4, .inl (j4 b0 (mixI b0 b1 t) (mixI (mixI b0 b1 t) (mixI b1 b2 t) t) (mixI (mixI b1 b2 t) (mixI b2 b3 t) t))))]) (n := 3) (c_Arc_mix l D cI cB cJ qQ  (mixI (mixI b0 b1 t) (mixI b1 b2 t) t) (mixI (mixI b1 b2 t) (mixI b2 b3 t) t) t ) hx hb hml hown hts (amb_ok qQ) hK hP hD hS hA hM (gi_S gw_293 gw_294 gw_30 gw_295) rfl (by decide +kernel) ⟨by omega, by omega⟩ [] [0, 1, 2] rfl rfl rfl rfl (by decide) rfl hl.1 rfl (Nat.le_of_ble_eq_true rfl) d_Arc_keepBefore_58 ⟨by omega, by omega⟩ (fun u_23 H locs hok hP hD hS => ?_)
  have hP : va_P D cl [(ha_, .inr (2, [.ref qx, .ref qy, .ref qa, .ref qb, .int (nI n)])), (qa, .inl (cI, 4, .inl (j4 a0 (mixI a0 a1 t) (mixI (mixI a0 a1 t) (mixI a1 a2 t) t) (mixI (mixI (mixI a0 a1 t) (mixI a1 a2 t) t) (mixI (mixI a1 a2 t) (mixI a2 a3 t) t) t)))), (qb, .inl (cI, 4, .inl (j4 b0 (mixI b0 b1 t) (mixI (mixI b0 b1 t) (mixI b1 b2 t) t) (mixI (mixI b1 b2 t) (mixI b2 b3 t) t))))] H := hP
  have hD : va_D A [(ha_, .inr (2, [.ref qx, .ref qy, .ref qa, .ref qb, .int (nI n)])), (qa, .inl (cI, 4, .inl (j4 a0 (mixI a0 a1 t) (mixI (mixI a0 a1 t) (mixI a1 a2 t) t) (mixI (mixI (mixI a0 a1 t) (mixI a1 a2 t) t) (mixI (mixI a1 a2 t) (mixI a2 a3 t) t) t)))), (qb, .inl (cI, 4, .inl (j4 b0 (mixI b0 b1 t) (mixI (mixI b0 b1 t) (mixI b1 b2 t) t) (mixI (mixI b1 b2 t) (mixI b2 b3 t) t))))] := hD
  refine W.eq (g2 := F0 m 61 ls [.int (mixI (mixI (mixI b0 b1 t) (mixI b1 b2 t) t) (mixI (mixI b1 b2 t) (mixI b2 b3 t) t) t), .int 3, .ref qb]) rfl ?_
  refine sf_i (j4 b0 (mixI b0 b1 t) (mixI (mixI b0 b1 t) (mixI b1 b2 t) t) (mixI (mixI (mixI b0 b1 t) (mixI b1 b2 t) t) (mixI (mixI b1 b2 t) (mixI b2 b3 t) t) t)) hx hb hK hP hD hS 2 0 rfl rfl 3 j4_3 (by decide) (by decide) d_Arc_keepBefore_61 (fun H locs hP hD hS => ?_)
  have hP : va_P D cl [(ha_, .inr (2, [.ref qx, .ref qy, .ref qa, .ref qb, .int (nI n)])), (qa, .inl (cI, 4, .inl (j4 a0 (mixI a0 a1 t) (mixI (mixI a0 a1 t) (mixI a1 a2 t) t) (mixI (mixI (mixI a0 a1 t) (mixI a1 a2 t) t) (mixI (mixI a1 a2 t) (mixI a2 a3 t) t) t)))), (qb, .inl (cI, 4, .inl (j4 b0 (mixI b0 b1 t) (mixI (mixI b0 b1 t) (mixI b1 b2 t) t) (mixI (mixI (mixI b0 b1 t) (mixI b1 b2 t) t) (mixI (mixI b1 b2 t) (mixI b2 b3 t) t) t))))] H := hP
  have hD : va_D A [(ha_, .inr (2, [.ref qx, .ref qy, .ref qa, .ref qb, .int (nI n)])), (qa, .inl (cI, 4, .inl (j4 a0 (mixI a0 a1 t) (mixI (mixI a0 a1 t) (mixI a1 a2 t) t) (mixI (mixI (mixI a0 a1 t) (mixI a1 a2 t) t) (mixI (mixI a1 a2 t) (mixI a2 a3 t) t) t)))), (qb, .inl (cI, 4, .inl (j4 b0 (mixI b0 b1 t) (mixI (mixI b0 b1 t) (mixI b1 b2 t) t) (mixI (mixI (mixI b0 b1 t) (mixI b1 b2 t) t) (mixI (mixI b1 b2 t) (mixI b2 b3 t) t) t))))] := hD
  refine lv_iinc (v := 2) (lv' := [(3, .int 2), (2, .int 3), (0, .ref ha_), (1, .int t)]) hx hb d_Arc_keepBefore_62 hl (k := 0) rfl (by decide) (by decide) rfl (fun ls hl => ?_)
  refine lv_goto (tgt := 9) hx hb d_Arc_keepBefore_65 (by decide) ?_
  refine lv_iload_n hx hb d_Arc_keepBefore_9 rfl (lv_at hl 0 rfl) ?_
  refine lv_iload_n hx hb d_Arc_keepBefore_10 rfl (lv_at hl 1 rfl) ?_
  refine bn_lt (a1 := 2) (b1 := 3) (tgt := 68) hx hb (by omega) (by omega) d_Arc_keepBefore_11 (by decide) (fun c_24 => ?_) (fun c_24 => ?_)
  rotate_left
  · exact absurd c_24 (by decide)
  refine lv_iinc (v := 4) (lv' := [(2, .int 4), (3, .int 2), (0, .ref ha_), (1, .int t)]) hx hb d_Arc_keepBefore_68 hl (k := 1) rfl (by first | exact nI_add _ 1 | rfl | decide) (by decide) rfl (fun ls hl => ?_)
  refine lv_goto (tgt := 2) hx hb d_Arc_keepBefore_71 (by decide) ?_
  refine lv_iload_n hx hb d_Arc_keepBefore_2 rfl (lv_at hl 0 rfl) ?_
  refine lv_iconst (v := 3) hx hb d_Arc_keepBefore_3 (by decide) ?_
  refine bn_gt (a1 := 4) (b1 := 3) (tgt := 74) hx hb (by omega) (by omega) d_Arc_keepBefore_4 (by decide) (fun c_25 => ?_) (fun c_25 => ?_)
  rotate_left
  · exact absurd c_25 (by decide)
  exact ct_retv hQ hx hb hr hlocks hP hD hS () [(ha_, .inr (2, [.ref qx, .ref qy, .ref qa, .ref qb, .int (nI n)])), (qa, .inl (cI, 4, .inl (j4 a0 (mixI a0 a1 t) (mixI (mixI a0 a1 t) (mixI a1 a2 t) t) (mixI (mixI (mixI a0 a1 t) (mixI a1 a2 t) t) (mixI (mixI a1 a2 t) (mixI a2 a3 t) t) t)))), (qb, .inl (cI, 4, .inl (j4 b0 (mixI b0 b1 t) (mixI (mixI b0 b1 t) (mixI b1 b2 t) t) (mixI (mixI (mixI b0 b1 t) (mixI b1 b2 t) t) (mixI (mixI b1 b2 t) (mixI b2 b3 t) t) t))))] [0, 1, 2] (rfl) (trivial) (rfl) rfl rfl (by omega) (by omega) d_Arc_keepBefore_74
set_option maxHeartbeats 40000000 in
set_option maxRecDepth 100000 in
/-- keepBehind -/
theorem c_Arc_keepBehind (l : Launch) (D : va_G) (cI cB cJ : ClassId) (qQ : Nat) (ha_ : Nat) (qx : Nat) (qy : Nat) (qa : Nat) (qb : Nat) (n : Nat) (a0 : Int32) (a1 : Int32) (a2 : Int32) (a3 : Int32) (b0 : Int32) (b1 : Int32) (b2 : Int32) (b3 : Int32) (t : Int32)  : ct l D cl [(cI, .int), (cB, .byte), (cJ, .long)] (amb qQ) y_Arc_keepBehind w_Arc_keepBehind 1 22 (0) (0) [.ref ha_, .int t] [(ha_, .inr (2, [.ref qx, .ref qy, .ref qa, .ref qb, .int (nI n)])), (qa, .inl (cI, 4, .inl (j4 a0 a1 a2 a3))), (qb, .inl (cI, 4, .inl (j4 b0 b1 b2 b3)))] (fun _ : Unit => True) (fun _ : Unit => none) (fun _ : Unit => [(ha_, .inr (2, [.ref qx, .ref qy, .ref qa, .ref qb, .int (nI n)])), (qa, .inl (cI, 4, .inl (j4 (my3 a0 a1 a2 a3 t) (my2 a1 a2 a3 t) (mixI a2 a3 t) a3))), (qb, .inl (cI, 4, .inl (j4 (my3 b0 b1 b2 b3 t) (my2 b1 b2 b3 t) (mixI b2 b3 t) b3)))]) := by
  refine ct_ofW (cc := b_Arc_keepBehind) (maxL := 4) (ret := none) (by decide) rfl (Nat.le_of_ble_eq_true rfl) ?_
  intro p e R s m args below meth c A Q ls hx hb hr hml hts hown hlocks hname hRf hRc hRs hRl hQ hK hP hD hS hA hM hl
  have hl : lv_has ls 4 [(0, .ref ha_), (1, .int t)] := hl
  refine lv_iconst (v := 1) hx hb d_Arc_keepBehind_0 (by decide) ?_
  refine lv_istore_n (lv' := [(2, .int 1), (0, .ref ha_), (1, .int t)]) hx hb d_Arc_keepBehind_1 rfl hl (by decide) rfl (fun ls hl => ?_)
  refine lv_iload_n hx hb d_Arc_keepBehind_2 rfl (lv_at hl 0 rfl) ?_
  refine lv_iconst (v := 3) hx hb d_Arc_keepBehind_3 (by decide) ?_
  refine bn_gt (a1 := 1) (b1 := 3) (tgt := 76) hx hb (by omega) (by omega) d_Arc_keepBehind_4 (by decide) (fun c_1 => ?_) (fun c_1 => ?_)
  · exact absurd c_1 (by decide)
  refine lv_iconst (v := 0) hx hb d_Arc_keepBehind_7 (by decide) ?_
  refine lv_istore_n (lv' := [(3, .int 0), (2, .int 1), (0, .ref ha_), (1, .int t)]) hx hb d_Arc_keepBehind_8 rfl hl (by decide) rfl (fun ls hl => ?_)
  refine lv_iload_n hx hb d_Arc_keepBehind_9 rfl (lv_at hl 0 rfl) ?_
  refine lv_iconst (v := 3) hx hb d_Arc_keepBehind_10 (by decide) ?_
  refine lv_iload_n hx hb d_Arc_keepBehind_11 rfl (lv_at hl 1 rfl) ?_
  refine lv_isub hx hb d_Arc_keepBehind_12 ?_
  refine tp_i (2) (by decide) ?_
  refine bn_gt (a1 := 0) (b1 := 2) (tgt := 70) hx hb (by omega) (by omega) d_Arc_keepBehind_13 (by decide) (fun c_2 => ?_) (fun c_2 => ?_)
  · exact absurd c_2 (by decide)
  refine lv_aload_n hx hb d_Arc_keepBehind_16 rfl (lv_at hl 2 rfl) ?_
  refine va_get (D := D) (ci := 2) (v := .ref qa) (C := R_Arc) (T := T_Arc) (N := 5) hx hb hts (ui_Arc _) hown hK hP 0 rfl rfl 2 (by decide) (hts _ (gwc gw_73)) (fun _ h9 => h9) rfl d_Arc_keepBehind_17 ?_
  refine lv_iload_n hx hb d_Arc_keepBehind_20 rfl (lv_at hl 0 rfl) ?_
  refine lv_aload_n hx hb d_Arc_keepBehind_21 rfl (lv_at hl 2 rfl) ?_
  refine va_get (D := D) (ci := 2) (v := .ref qa) (C := R_Arc) (T := T_Arc) (N := 5) hx hb hts (ui_Arc _) hown hK hP 0 rfl rfl 2 (by decide) (hts _ (gwc gw_73)) (fun _ h9 => h9) rfl d_Arc_keepBehind_22 ?_
  refine lv_iload_n hx hb d_Arc_keepBehind_25 rfl (lv_at hl 0 rfl) ?_
  refine ld_i hx hb hK hP 1 0 rfl rfl 0 (by omega) (by omega) d_Arc_keepBehind_26 ?_
  refine tp_i (a0) (rfl) ?_
  refine lv_aload_n hx hb d_Arc_keepBehind_27 rfl (lv_at hl 2 rfl) ?_
  refine va_get (D := D) (ci := 2) (v := .ref qa) (C := R_Arc) (T := T_Arc) (N := 5) hx hb hts (ui_Arc _) hown hK hP 0 rfl rfl 2 (by decide) (hts _ (gwc gw_73)) (fun _ h9 => h9) rfl d_Arc_keepBehind_28 ?_
  refine lv_iload_n hx hb d_Arc_keepBehind_31 rfl (lv_at hl 0 rfl) ?_
  refine lv_iconst (v := 1) hx hb d_Arc_keepBehind_32 (by decide) ?_
  refine lv_iadd hx hb d_Arc_keepBehind_33 ?_
  refine tp_i (1) (by decide) ?_
  refine ld_i hx hb hK hP 1 0 rfl rfl 1 (by omega) (by omega) d_Arc_keepBehind_34 ?_
  refine tp_i (a1) (rfl) ?_
  refine lv_iload_n hx hb d_Arc_keepBehind_35 rfl (lv_at hl 3 rfl) ?_
  refine ct_callS (av := [.int a0, .int a1, .int t]) (rest := [.int 0, .ref qa]) (wr := [(ha_, .inr (2, [.ref qx, .ref qy, .ref qa, .ref qb, .int (nI n)])), (qa, .inl (cI, 4, .inl (j4 a0 a1 a2 a3))), (qb, .inl (cI, 4, .inl (j4 b0 b1 b2 b3)))]) (n := 3) (c_Arc_mix l D cI cB cJ qQ  a0 a1 t ) hx hb hml hown hts (amb_ok qQ) hK hP hD hS hA hM (gi_S gw_293 gw_294 gw_30 gw_295) rfl (by decide +kernel) ⟨by omega, by omega⟩ [] [0, 1, 2] rfl rfl rfl rfl (by decide) rfl hl.1 rfl (Nat.le_of_ble_eq_true rfl) d_Arc_keepBehind_36 ⟨by omega, by omega⟩ (fun u_3 H locs hok hP hD hS => ?_)
  have hP : va_P D cl [(ha_, .inr (2, [.ref qx, .ref qy, .ref qa, .ref qb, .int (nI n)])), (qa, .inl (cI, 4, .inl (j4 a0 a1 a2 a3))), (qb, .inl (cI, 4, .inl (j4 b0 b1 b2 b3)))] H := hP
  have hD : va_D A [(ha_, .inr (2, [.ref qx, .ref qy, .ref qa, .ref qb, .int (nI n)])), (qa, .inl (cI, 4, .inl (j4 a0 a1 a2 a3))), (qb, .inl (cI, 4, .inl (j4 b0 b1 b2 b3)))] := hD
  refine W.eq (g2 := F0 m 39 ls [.int (mixI a0 a1 t), .int 0, .ref qa]) rfl ?_
  refine sf_i (j4 (mixI a0 a1 t) a1 a2 a3) hx hb hK hP hD hS 1 0 rfl rfl 0 j4_0 (by decide) (by decide) d_Arc_keepBehind_39 (fun H locs hP hD hS => ?_)
  have hP : va_P D cl [(ha_, .inr (2, [.ref qx, .ref qy, .ref qa, .ref qb, .int (nI n)])), (qa, .inl (cI, 4, .inl (j4 (mixI a0 a1 t) a1 a2 a3))), (qb, .inl (cI, 4, .inl (j4 b0 b1 b2 b3)))] H := hP
  have hD : va_D A [(ha_, .inr (2, [.ref qx, .ref qy, .ref qa, .ref qb, .int (nI n)])), (qa, .inl (cI, 4, .inl (j4 (mixI a0 a1 t) a1 a2 a3))), (qb, .inl (cI, 4, .inl (j4 b0 b1 b2 b3)))] := hD
  refine lv_aload_n hx hb d_Arc_keepBehind_40 rfl (lv_at hl 2 rfl) ?_
  refine va_get (D := D) (ci := 2) (v := .ref qb) (C := R_Arc) (T := T_Arc) (N := 5) hx hb hts (ui_Arc _) hown hK hP 0 rfl rfl 3 (by decide) (hts _ (gwc gw_74)) (fun _ h9 => h9) rfl d_Arc_keepBehind_41 ?_
  refine lv_iload_n hx hb d_Arc_keepBehind_44 rfl (lv_at hl 0 rfl) ?_
  refine lv_aload_n hx hb d_Arc_keepBehind_45 rfl (lv_at hl 2 rfl) ?_
  refine va_get (D := D) (ci := 2) (v := .ref qb) (C := R_Arc) (T := T_Arc) (N := 5) hx hb hts (ui_Arc _) hown hK hP 0 rfl rfl 3 (by decide) (hts _ (gwc gw_74)) (fun _ h9 => h9) rfl d_Arc_keepBehind_46 ?_
  refine lv_iload_n hx hb d_Arc_keepBehind_49 rfl (lv_at hl 0 rfl) ?_
  refine ld_i hx hb hK hP 2 0 rfl rfl 0 (by omega) (by omega) d_Arc_keepBehind_50 ?_
  refine tp_i (b0) (rfl) ?_
  refine lv_aload_n hx hb d_Arc_keepBehind_51 rfl (lv_at hl 2 rfl) ?_
  refine va_get (D := D) (ci := 2) (v := .ref qb) (C := R_Arc) (T := T_Arc) (N := 5) hx hb hts (ui_Arc _) hown hK hP 0 rfl rfl 3 (by decide) (hts _ (gwc gw_74)) (fun _ h9 => h9) rfl d_Arc_keepBehind_52 ?_
  refine lv_iload_n hx hb d_Arc_keepBehind_55 rfl (lv_at hl 0 rfl) ?_
  refine lv_iconst (v := 1) hx hb d_Arc_keepBehind_56 (by decide) ?_
  refine lv_iadd hx hb d_Arc_keepBehind_57 ?_
  refine tp_i (1) (by decide) ?_
  refine ld_i hx hb hK hP 2 0 rfl rfl 1 (by omega) (by omega) d_Arc_keepBehind_58 ?_
  refine tp_i (b1) (rfl) ?_
  refine lv_iload_n hx hb d_Arc_keepBehind_59 rfl (lv_at hl 3 rfl) ?_
  refine ct_callS (av := [.int b0, .int b1, .int t]) (rest := [.int 0, .ref qb]) (wr := [(ha_, .inr (2, [.ref qx, .ref qy, .ref qa, .ref qb, .int (nI n)])), (qa, .inl (cI, 4, .inl (j4 (mixI a0 a1 t) a1 a2 a3))), (qb, .inl (cI, 4, .inl (j4 b0 b1 b2 b3)))]) (n := 3) (c_Arc_mix l D cI cB cJ qQ  b0 b1 t ) hx hb hml hown hts (amb_ok qQ) hK hP hD hS hA hM (gi_S gw_293 gw_294 gw_30 gw_295) rfl (by decide +kernel) ⟨by omega, by omega⟩ [] [0, 1, 2] rfl rfl rfl rfl (by decide) rfl hl.1 rfl (Nat.le_of_ble_eq_true rfl) d_Arc_keepBehind_60 ⟨by omega, by omega⟩ (fun u_4 H locs hok hP hD hS => ?_)
  have hP : va_P D cl [(ha_, .inr (2, [.ref qx, .ref qy, .ref qa, .ref qb, .int (nI n)])), (qa, .inl (cI, 4, .inl (j4 (mixI a0 a1 t) a1 a2 a3))), (qb, .inl (cI, 4, .inl (j4 b0 b1 b2 b3)))] H := hP
  have hD : va_D A [(ha_, .inr (2, [.ref qx, .ref qy, .ref qa, .ref qb, .int (nI n)])), (qa, .inl (cI, 4, .inl (j4 (mixI a0 a1 t) a1 a2 a3))), (qb, .inl (cI, 4, .inl (j4 b0 b1 b2 b3)))] := hD
  refine W.eq (g2 := F0 m 63 ls [.int (mixI b0 b1 t), .int 0, .ref qb]) rfl ?_
  refine sf_i (j4 (mixI b0 b1 t) b1 b2 b3) hx hb hK hP hD hS 2 0 rfl rfl 0 j4_0 (by decide) (by decide) d_Arc_keepBehind_63 (fun H locs hP hD hS => ?_)
  have hP : va_P D cl [(ha_, .inr (2, [.ref qx, .ref qy, .ref qa, .ref qb, .int (nI n)])), (qa, .inl (cI, 4, .inl (j4 (mixI a0 a1 t) a1 a2 a3))), (qb, .inl (cI, 4, .inl (j4 (mixI b0 b1 t) b1 b2 b3)))] H := hP
  have hD : va_D A [(ha_, .inr (2, [.ref qx, .ref qy, .ref qa, .ref qb, .int (nI n)])), (qa, .inl (cI, 4, .inl (j4 (mixI a0 a1 t) a1 a2 a3))), (qb, .inl (cI, 4, .inl (j4 (mixI b0 b1 t) b1 b2 b3)))] := hD
  refine lv_iinc (v := 1) (lv' := [(3, .int 1), (2, .int 1), (0, .ref ha_), (1, .int t)]) hx hb d_Arc_keepBehind_64 hl (k := 0) rfl (by first | exact nI_add _ 1 | rfl | decide) (by decide) rfl (fun ls hl => ?_)
  refine lv_goto (tgt := 9) hx hb d_Arc_keepBehind_67 (by decide) ?_
  refine lv_iload_n hx hb d_Arc_keepBehind_9 rfl (lv_at hl 0 rfl) ?_
  refine lv_iconst (v := 3) hx hb d_Arc_keepBehind_10 (by decide) ?_
  refine lv_iload_n hx hb d_Arc_keepBehind_11 rfl (lv_at hl 1 rfl) ?_
  refine lv_isub hx hb d_Arc_keepBehind_12 ?_
  refine tp_i (2) (by decide) ?_
  refine bn_gt (a1 := 1) (b1 := 2) (tgt := 70) hx hb (by omega) (by omega) d_Arc_keepBehind_13 (by decide) (fun c_5 => ?_) (fun c_5 => ?_)
  · exact absurd c_5 (by decide)
  refine lv_aload_n hx hb d_Arc_keepBehind_16 rfl (lv_at hl 2 rfl) ?_
  refine va_get (D := D) (ci := 2) (v := .ref qa) (C := R_Arc) (T := T_Arc) (N := 5) hx hb hts (ui_Arc _) hown hK hP 0 rfl rfl 2 (by decide) (hts _ (gwc gw_73)) (fun _ h9 => h9) rfl d_Arc_keepBehind_17 ?_
  refine lv_iload_n hx hb d_Arc_keepBehind_20 rfl (lv_at hl 0 rfl) ?_
  refine lv_aload_n hx hb d_Arc_keepBehind_21 rfl (lv_at hl 2 rfl) ?_
  refine va_get (D := D) (ci := 2) (v := .ref qa) (C := R_Arc) (T := T_Arc) (N := 5) hx hb hts (ui_Arc _) hown hK hP 0 rfl rfl 2 (by decide) (hts _ (gwc gw_73)) (fun _ h9 => h9) rfl d_Arc_keepBehind_22 ?_
  refine lv_iload_n hx hb d_Arc_keepBehind_25 rfl (lv_at hl 0 rfl) ?_
  refine ld_i hx hb hK hP 1 0 rfl rfl 1 (by omega) (by omega) d_Arc_keepBehind_26 ?_
  refine tp_i (a1) (rfl) ?_
  refine lv_aload_n hx hb d_Arc_keepBehind_27 rfl (lv_at hl 2 rfl) ?_
  refine va_get (D := D) (ci := 2) (v := .ref qa) (C := R_Arc) (T := T_Arc) (N := 5) hx hb hts (ui_Arc _) hown hK hP 0 rfl rfl 2 (by decide) (hts _ (gwc gw_73)) (fun _ h9 => h9) rfl d_Arc_keepBehind_28 ?_
  refine lv_iload_n hx hb d_Arc_keepBehind_31 rfl (lv_at hl 0 rfl) ?_
  refine lv_iconst (v := 1) hx hb d_Arc_keepBehind_32 (by decide) ?_
  refine lv_iadd hx hb d_Arc_keepBehind_33 ?_
  refine tp_i (2) (by decide) ?_
  refine ld_i hx hb hK hP 1 0 rfl rfl 2 (by omega) (by omega) d_Arc_keepBehind_34 ?_
  refine tp_i (a2) (rfl) ?_
  refine lv_iload_n hx hb d_Arc_keepBehind_35 rfl (lv_at hl 3 rfl) ?_
  refine ct_callS (av := [.int a1, .int a2, .int t]) (rest := [.int 1, .ref qa]) (wr := [(ha_, .inr (2, [.ref qx, .ref qy, .ref qa, .ref qb, .int (nI n)])), (qa, .inl (cI, 4, .inl (j4 (mixI a0 a1 t) a1 a2 a3))), (qb, .inl (cI, 4, .inl (j4 (mixI b0 b1 t) b1 b2 b3)))]) (n := 3) (c_Arc_mix l D cI cB cJ qQ  a1 a2 t ) hx hb hml hown hts (amb_ok qQ) hK hP hD hS hA hM (gi_S gw_293 gw_294 gw_30 gw_295) rfl (by decide +kernel) ⟨by omega, by omega⟩ [] [0, 1, 2] rfl rfl rfl rfl (by decide) rfl hl.1 rfl (Nat.le_of_ble_eq_true rfl) d_Arc_keepBehind_36 ⟨by omega, by omega⟩ (fun u_6 H locs hok hP hD hS => ?_)
  have hP : va_P D cl [(ha_, .inr (2, [.ref qx, .ref qy, .ref qa, .ref qb, .int (nI n)])), (qa, .inl (cI, 4, .inl (j4 (mixI a0 a1 t) a1 a2 a3))), (qb, .inl (cI, 4, .inl (j4 (mixI b0 b1 t) b1 b2 b3)))] H := hP
  have hD : va_D A [(ha_, .inr (2, [.ref qx, .ref qy, .ref qa, .ref qb, .int (nI n)])), (qa, .inl (cI, 4, .inl (j4 (mixI a0 a1 t) a1 a2 a3))), (qb, .inl (cI, 4, .inl (j4 (mixI b0 b1 t) b1 b2 b3)))] := hD
  refine W.eq (g2 := F0 m 39 ls [.int (mixI a1 a2 t), .int 1, .ref qa]) rfl ?_
  refine sf_i (j4 (mixI a0 a1 t) (mixI a1 a2 t) a2 a3) hx hb hK hP hD hS 1 0 rfl rfl 1 j4_1 (by decide) (by decide) d_Arc_keepBehind_39 (fun H locs hP hD hS => ?_)
  have hP : va_P D cl [(ha_, .inr (2, [.ref qx, .ref qy, .ref qa, .ref qb, .int (nI n)])), (qa, .inl (cI, 4, .inl (j4 (mixI a0 a1 t) (mixI a1 a2 t) a2 a3))), (qb, .inl (cI, 4, .inl (j4 (mixI b0 b1 t) b1 b2 b3)))] H := hP
  have hD : va_D A [(ha_, .inr (2, [.ref qx, .ref qy, .ref qa, .ref qb, .int (nI n)])), (qa, .inl (cI, 4, .inl (j4 (mixI a0 a1 t) (mixI a1 a2 t) a2 a3))), (qb, .inl (cI, 4, .inl (j4 (mixI b0 b1 t) b1 b2 b3)))] := hD
  refine lv_aload_n hx hb d_Arc_keepBehind_40 rfl (lv_at hl 2 rfl) ?_
  refine va_get (D := D) (ci := 2) (v := .ref qb) (C := R_Arc) (T := T_Arc) (N := 5) hx hb hts (ui_Arc _) hown hK hP 0 rfl rfl 3 (by decide) (hts _ (gwc gw_74)) (fun _ h9 => h9) rfl d_Arc_keepBehind_41 ?_
  refine lv_iload_n hx hb d_Arc_keepBehind_44 rfl (lv_at hl 0 rfl) ?_
  refine lv_aload_n hx hb d_Arc_keepBehind_45 rfl (lv_at hl 2 rfl) ?_
  refine va_get (D := D) (ci := 2) (v := .ref qb) (C := R_Arc) (T := T_Arc) (N := 5) hx hb hts (ui_Arc _) hown hK hP 0 rfl rfl 3 (by decide) (hts _ (gwc gw_74)) (fun _ h9 => h9) rfl d_Arc_keepBehind_46 ?_
  refine lv_iload_n hx hb d_Arc_keepBehind_49 rfl (lv_at hl 0 rfl) ?_
  refine ld_i hx hb hK hP 2 0 rfl rfl 1 (by omega) (by omega) d_Arc_keepBehind_50 ?_
  refine tp_i (b1) (rfl) ?_
  refine lv_aload_n hx hb d_Arc_keepBehind_51 rfl (lv_at hl 2 rfl) ?_
  refine va_get (D := D) (ci := 2) (v := .ref qb) (C := R_Arc) (T := T_Arc) (N := 5) hx hb hts (ui_Arc _) hown hK hP 0 rfl rfl 3 (by decide) (hts _ (gwc gw_74)) (fun _ h9 => h9) rfl d_Arc_keepBehind_52 ?_
  refine lv_iload_n hx hb d_Arc_keepBehind_55 rfl (lv_at hl 0 rfl) ?_
  refine lv_iconst (v := 1) hx hb d_Arc_keepBehind_56 (by decide) ?_
  refine lv_iadd hx hb d_Arc_keepBehind_57 ?_
  refine tp_i (2) (by decide) ?_
  refine ld_i hx hb hK hP 2 0 rfl rfl 2 (by omega) (by omega) d_Arc_keepBehind_58 ?_
  refine tp_i (b2) (rfl) ?_
  refine lv_iload_n hx hb d_Arc_keepBehind_59 rfl (lv_at hl 3 rfl) ?_
  refine ct_callS (av := [.int b1, .int b2, .int t]) (rest := [.int 1, .ref qb]) (wr := [(ha_, .inr (2, [.ref qx, .ref qy, .ref qa, .ref qb, .int (nI n)])), (qa, .inl (cI, 4, .inl (j4 (mixI a0 a1 t) (mixI a1 a2 t) a2 a3))), (qb, .inl (cI, 4, .inl (j4 (mixI b0 b1 t) b1 b2 b3)))]) (n := 3) (c_Arc_mix l D cI cB cJ qQ  b1 b2 t ) hx hb hml hown hts (amb_ok qQ) hK hP hD hS hA hM (gi_S gw_293 gw_294 gw_30 gw_295) rfl (by decide +kernel) ⟨by omega, by omega⟩ [] [0, 1, 2] rfl rfl rfl rfl (by decide) rfl hl.1 rfl (Nat.le_of_ble_eq_true rfl) d_Arc_keepBehind_60 ⟨by omega, by omega⟩ (fun u_7 H locs hok hP hD hS => ?_)
  have hP : va_P D cl [(ha_, .inr (2, [.ref qx, .ref qy, .ref qa, .ref qb, .int (nI n)])), (qa, .inl (cI, 4, .inl (j4 (mixI a0 a1 t) (mixI a1 a2 t) a2 a3))), (qb, .inl (cI, 4, .inl (j4 (mixI b0 b1 t) b1 b2 b3)))] H := hP
  have hD : va_D A [(ha_, .inr (2, [.ref qx, .ref qy, .ref qa, .ref qb, .int (nI n)])), (qa, .inl (cI, 4, .inl (j4 (mixI a0 a1 t) (mixI a1 a2 t) a2 a3))), (qb, .inl (cI, 4, .inl (j4 (mixI b0 b1 t) b1 b2 b3)))] := hD
  refine W.eq (g2 := F0 m 63 ls [.int (mixI b1 b2 t), .int 1, .ref qb]) rfl ?_
  refine sf_i (j4 (mixI b0 b1 t) (mixI b1 b2 t) b2 b3) hx hb hK hP hD hS 2 0 rfl rfl 1 j4_1 (by decide) (by decide) d_Arc_keepBehind_63 (fun H locs hP hD hS => ?_)
  have hP : va_P D cl [(ha_, .inr (2, [.ref qx, .ref qy, .ref qa, .ref qb, .int (nI n)])), (qa, .inl (cI, 4, .inl (j4 (mixI a0 a1 t) (mixI a1 a2 t) a2 a3))), (qb, .inl (cI, 4, .inl (j4 (mixI b0 b1 t) (mixI b1 b2 t) b2 b3)))] H := hP
  have hD : va_D A [(ha_, .inr (2, [.ref qx, .ref qy, .ref qa, .ref qb, .int (nI n)])), (qa, .inl (cI, 4, .inl (j4 (mixI a0 a1 t) (mixI a1 a2 t) a2 a3))), (qb, .inl (cI, 4, .inl (j4 (mixI b0 b1 t) (mixI b1 b2 t) b2 b3)))] := hD
  refine lv_iinc (v := 2) (lv' := [(3, .int 2), (2, .int 1), (0, .ref ha_), (1, .int t)]) hx hb d_Arc_keepBehind_64 hl (k := 0) rfl (by first | exact nI_add _ 1 | rfl | decide) (by decide) rfl (fun ls hl => ?_)
  refine lv_goto (tgt := 9) hx hb d_Arc_keepBehind_67 (by decide) ?_
  refine lv_iload_n hx hb d_Arc_keepBehind_9 rfl (lv_at hl 0 rfl) ?_
  refine lv_iconst (v := 3) hx hb d_Arc_keepBehind_10 (by decide) ?_
  refine lv_iload_n hx hb d_Arc_keepBehind_11 rfl (lv_at hl 1 rfl) ?_
  refine lv_isub hx hb d_Arc_keepBehind_12 ?_
  refine tp_i (2) (by decide) ?_
  refine bn_gt (a1 := 2) (b1 := 2) (tgt := 70) hx hb (by omega) (by omega) d_Arc_keepBehind_13 (by decide) (fun c_8 => ?_) (fun c_8 => ?_)
  · exact absurd c_8 (by decide)
  refine lv_aload_n hx hb d_Arc_keepBehind_16 rfl (lv_at hl 2 rfl) ?_
  refine va_get (D := D) (ci := 2) (v := .ref qa) (C := R_Arc) (T := T_Arc) (N := 5) hx hb hts (ui_Arc _) hown hK hP 0 rfl rfl 2 (by decide) (hts _ (gwc gw_73)) (fun _ h9 => h9) rfl d_Arc_keepBehind_17 ?_
  refine lv_iload_n hx hb d_Arc_keepBehind_20 rfl (lv_at hl 0 rfl) ?_
  refine lv_aload_n hx hb d_Arc_keepBehind_21 rfl (lv_at hl 2 rfl) ?_
  refine va_get (D := D) (ci := 2) (v := .ref qa) (C := R_Arc) (T := T_Arc) (N := 5) hx hb hts (ui_Arc _) hown hK hP 0 rfl rfl 2 (by decide) (hts _ (gwc gw_73)) (fun _ h9 => h9) rfl d_Arc_keepBehind_22 ?_
  refine lv_iload_n hx hb d_Arc_keepBehind_25 rfl (lv_at hl 0 rfl) ?_
  refine ld_i hx hb hK hP 1 0 rfl rfl 2 (by omega) (by omega) d_Arc_keepBehind_26 ?_
  refine tp_i (a2) (rfl) ?_
  refine lv_aload_n hx hb d_Arc_keepBehind_27 rfl (lv_at hl 2 rfl) ?_
  refine va_get (D := D) (ci := 2) (v := .ref qa) (C := R_Arc) (T := T_Arc) (N := 5) hx hb hts (ui_Arc _) hown hK hP 0 rfl rfl 2 (by decide) (hts _ (gwc gw_73)) (fun _ h9 => h9) rfl d_Arc_keepBehind_28 ?_
  refine lv_iload_n hx hb d_Arc_keepBehind_31 rfl (lv_at hl 0 rfl) ?_
  refine lv_iconst (v := 1) hx hb d_Arc_keepBehind_32 (by decide) ?_
  refine lv_iadd hx hb d_Arc_keepBehind_33 ?_
  refine tp_i (3) (by decide) ?_
  refine ld_i hx hb hK hP 1 0 rfl rfl 3 (by omega) (by omega) d_Arc_keepBehind_34 ?_
  refine tp_i (a3) (rfl) ?_
  refine lv_iload_n hx hb d_Arc_keepBehind_35 rfl (lv_at hl 3 rfl) ?_
  refine ct_callS (av := [.int a2, .int a3, .int t]) (rest := [.int 2, .ref qa]) (wr := [(ha_, .inr (2, [.ref qx, .ref qy, .ref qa, .ref qb, .int (nI n)])), (qa, .inl (cI, 4, .inl (j4 (mixI a0 a1 t) (mixI a1 a2 t) a2 a3))), (qb, .inl (cI, 4, .inl (j4 (mixI b0 b1 t) (mixI b1 b2 t) b2 b3)))]) (n := 3) (c_Arc_mix l D cI cB cJ qQ  a2 a3 t ) hx hb hml hown hts (amb_ok qQ) hK hP hD hS hA hM (gi_S gw_293 gw_294 gw_30 gw_295) rfl (by decide +kernel) ⟨by omega, by omega⟩ [] [0, 1, 2] rfl rfl rfl rfl (by decide) rfl hl.1 rfl (Nat.le_of_ble_eq_true rfl) d_Arc_keepBehind_36 ⟨by omega, by omega⟩ (fun u_9 H locs hok hP hD hS => ?_)
  have hP : va_P D cl [(ha_, .inr (2, [.ref qx, .ref qy, .ref qa, .ref qb, .int (nI n)])), (qa, .inl (cI, 4, .inl (j4 (mixI a0 a1 t) (mixI a1 a2 t) a2 a3))), (qb, .inl (cI, 4, .inl (j4 (mixI b0 b1 t) (mixI b1 b2 t) b2 b3)))] H := hP
  have hD : va_D A [(ha_, .inr (2, [.ref qx, .ref qy, .ref qa, .ref qb, .int (nI n)])), (qa, .inl (cI, 4, .inl (j4 (mixI a0 a1 t) (mixI a1 a2 t) a2 a3))), (qb, .inl (cI, 4, .inl (j4 (mixI b0 b1 t) (mixI b1 b2 t) b2 b3)))] := hD
  refine W.eq (g2 := F0 m 39 ls [.int (mixI a2 a3 t), .int 2, .ref qa]) rfl ?_
  refine sf_i (j4 (mixI a0 a1 t) (mixI a1 a2 t) (mixI a2 a3 t) a3) hx hb hK hP hD hS 1 0 rfl rfl 2 j4_2 (by decide) (by decide) d_Arc_keepBehind_39 (fun H locs hP hD hS => ?_)
  have hP : va_P D cl [(ha_, .inr (2, [.ref qx, .ref qy, .ref qa, .ref qb, .int (nI n)])), (qa, .inl (cI, 4, .inl (j4 (mixI a0 a1 t) (mixI a1 a2 t) (mixI a2 a3 t) a3))), (qb, .inl (cI, 4, .inl (j4 (mixI b0 b1 t) (mixI b1 b2 t) b2 b3)))] H := hP
  have hD : va_D A [(ha_, .inr (2, [.ref qx, .ref qy, .ref qa, .ref qb, .int (nI n)])), (qa, .inl (cI, 4, .inl (j4 (mixI a0 a1 t) (mixI a1 a2 t) (mixI a2 a3 t) a3))), (qb, .inl (cI, 4, .inl (j4 (mixI b0 b1 t) (mixI b1 b2 t) b2 b3)))] := hD
  refine lv_aload_n hx hb d_Arc_keepBehind_40 rfl (lv_at hl 2 rfl) ?_
  refine va_get (D := D) (ci := 2) (v := .ref qb) (C := R_Arc) (T := T_Arc) (N := 5) hx hb hts (ui_Arc _) hown hK hP 0 rfl rfl 3 (by decide) (hts _ (gwc gw_74)) (fun _ h9 => h9) rfl d_Arc_keepBehind_41 ?_
  refine lv_iload_n hx hb d_Arc_keepBehind_44 rfl (lv_at hl 0 rfl) ?_
  refine lv_aload_n hx hb d_Arc_keepBehind_45 rfl (lv_at hl 2 rfl) ?_
  refine va_get (D := D) (ci := 2) (v := .ref qb) (C := R_Arc) (T := T_Arc) (N := 5) hx hb hts (ui_Arc _) hown hK hP 0 rfl rfl 3 (by decide) (hts _ (gwc gw_74)) (fun _ h9 => h9) rfl d_Arc_keepBehind_46 ?_
  refine lv_iload_n hx hb d_Arc_keepBehind_49 rfl (lv_at hl 0 rfl) ?_
  refine ld_i hx hb hK hP 2 0 rfl rfl 2 (by omega) (by omega) d_Arc_keepBehind_50 ?_
  refine tp_i (b2) (rfl) ?_
  refine lv_aload_n hx hb d_Arc_keepBehind_51 rfl (lv_at hl 2 rfl) ?_
  refine va_get (D := D) (ci := 2) (v := .ref qb) (C := R_Arc) (T := T_Arc) (N := 5) hx hb hts (ui_Arc _) hown hK hP 0 rfl rfl 3 (by decide) (hts _ (gwc gw_74)) (fun _ h9 => h9) rfl d_Arc_keepBehind_52 ?_
  refine lv_iload_n hx hb d_Arc_keepBehind_55 rfl (lv_at hl 0 rfl) ?_
  refine lv_iconst (v := 1) hx hb d_Arc_keepBehind_56 (by decide) ?_
  refine lv_iadd hx hb d_Arc_keepBehind_57 ?_
  refine tp_i (3) (by decide) ?_
  refine ld_i hx hb hK hP 2 0 rfl rfl 3 (by omega) (by omega) d_Arc_keepBehind_58 ?_
  refine tp_i (b3) (rfl) ?_
  refine lv_iload_n hx hb d_Arc_keepBehind_59 rfl (lv_at hl 3 rfl) ?_
  refine ct_callS (av := [.int b2, .int b3, .int t]) (rest := [.int 2, .ref qb]) (wr := [(ha_, .inr (2, [.ref qx, .ref qy, .ref qa, .ref qb, .int (nI n)])), (qa, .inl (cI, 4, .inl (j4 (mixI a0 a1 t) (mixI a1 a2 t) (mixI a2 a3 t) a3))), (qb, .inl (cI, 4, .inl (j4 (mixI b0 b1 t) (mixI b1 b2 t) b2 b3)))]) (n := 3) (c_Arc_mix l D cI cB cJ qQ  b2 b3 t ) hx hb hml hown hts (amb_ok qQ) hK hP hD hS hA hM (gi_S gw_293 gw_294 gw_30 gw_295) rfl (by decide +kernel) ⟨by omega, by omega⟩ [] [0, 1, 2] rfl rfl rfl rfl (by decide) rfl hl.1 rfl (Nat.le_of_ble_eq_true rfl) d_Arc_keepBehind_60 ⟨by omega, by omega⟩ (fun u_10 H locs hok hP hD hS => ?_)
  have hP : va_P D cl [(ha_, .inr (2, [.ref qx, .ref qy, .ref qa, .ref qb, .int (nI n)])), (qa, .inl (cI, 4, .inl (j4 (mixI a0 a1 t) (mixI a1 a2 t) (mixI a2 a3 t) a3))), (qb, .inl (cI, 4, .inl (j4 (mixI b0 b1 t) (mixI b1 b2 t) b2 b3)))] H := hP
  have hD : va_D A [(ha_, .inr (2, [.ref qx, .ref qy, .ref qa, .ref qb, .int (nI n)])), (qa, .inl (cI, 4, .inl (j4 (mixI a0 a1 t) (mixI a1 a2 t) (mixI a2 a3 t) a3))), (qb, .inl (cI, 4, .inl (j4 (mixI b0 b1 t) (mixI b1 b2 t) b2 b3)))] := hD
  refine W.eq (g2 := F0 m 63 ls [.int (mixI b2 b3 t), .int 2, .ref qb]) rfl ?_
  refine sf_i (j4 (mixI b0 b1 t) (mixI b1 b2 t) (mixI b2 b3 t) b3) hx hb hK hP hD hS 2 0 rfl rfl 2 j4_2 (by decide) (by decide) d_Arc_keepBehind_63 (fun H locs hP hD hS => ?_)
  have hP : va_P D cl [(ha_, .inr (2, [.ref qx, .ref qy, .ref qa, .ref qb, .int (nI n)])), (qa, .inl (cI, 4, .inl (j4 (mixI a0 a1 t) (mixI a1 a2 t) (mixI a2 a3 t) a3))), (qb, .inl (cI, 4, .inl (j4 (mixI b0 b1 t) (mixI b1 b2 t) (mixI b2 b3 t) b3)))] H := hP
  have hD : va_D A [(ha_, .inr (2, [.ref qx, .ref qy, .ref qa, .ref qb, .int (nI n)])), (qa, .inl (cI, 4, .inl (j4 (mixI a0 a1 t) (mixI a1 a2 t) (mixI a2 a3 t) a3))), (qb, .inl (cI, 4, .inl (j4 (mixI b0 b1 t) (mixI b1 b2 t) (mixI b2 b3 t) b3)))] := hD
  refine lv_iinc (v := 3) (lv' := [(3, .int 3), (2, .int 1), (0, .ref ha_), (1, .int t)]) hx hb d_Arc_keepBehind_64 hl (k := 0) rfl (by first | exact nI_add _ 1 | rfl | decide) (by decide) rfl (fun ls hl => ?_)
  refine lv_goto (tgt := 9) hx hb d_Arc_keepBehind_67 (by decide) ?_
  refine lv_iload_n hx hb d_Arc_keepBehind_9 rfl (lv_at hl 0 rfl) ?_
  refine lv_iconst (v := 3) hx hb d_Arc_keepBehind_10 (by decide) ?_
  refine lv_iload_n hx hb d_Arc_keepBehind_11 rfl (lv_at hl 1 rfl) ?_
  refine lv_isub hx hb d_Arc_keepBehind_12 ?_
  refine tp_i (2) (by decide) ?_
  refine bn_gt (a1 := 3) (b1 := 2) (tgt := 70) hx hb (by omega) (by omega) d_Arc_keepBehind_13 (by decide) (fun c_11 => ?_) (fun c_11 => ?_)
  rotate_left
  · exact absurd c_11 (by decide)
  refine lv_iinc (v := 2) (lv' := [(2, .int 2), (3, .int 3), (0, .ref ha_), (1, .int t)]) hx hb d_Arc_keepBehind_70 hl (k := 1) rfl (by first | exact nI_add _ 1 | rfl | decide) (by decide) rfl (fun ls hl => ?_)
  refine lv_goto (tgt := 2) hx hb d_Arc_keepBehind_73 (by decide) ?_
  refine lv_iload_n hx hb d_Arc_keepBehind_2 rfl (lv_at hl 0 rfl) ?_
  refine lv_iconst (v := 3) hx hb d_Arc_keepBehind_3 (by decide) ?_
  refine bn_gt (a1 := 2) (b1 := 3) (tgt := 76) hx hb (by omega) (by omega) d_Arc_keepBehind_4 (by decide) (fun c_12 => ?_) (fun c_12 => ?_)
  · exact absurd c_12 (by decide)
  refine lv_iconst (v := 0) hx hb d_Arc_keepBehind_7 (by decide) ?_
  refine lv_istore_n (lv' := [(3, .int 0), (2, .int 2), (0, .ref ha_), (1, .int t)]) hx hb d_Arc_keepBehind_8 rfl hl (by decide) rfl (fun ls hl => ?_)
  refine lv_iload_n hx hb d_Arc_keepBehind_9 rfl (lv_at hl 0 rfl) ?_
  refine lv_iconst (v := 3) hx hb d_Arc_keepBehind_10 (by decide) ?_
  refine lv_iload_n hx hb d_Arc_keepBehind_11 rfl (lv_at hl 1 rfl) ?_
  refine lv_isub hx hb d_Arc_keepBehind_12 ?_
  refine tp_i (1) (by decide) ?_
  refine bn_gt (a1 := 0) (b1 := 1) (tgt := 70) hx hb (by omega) (by omega) d_Arc_keepBehind_13 (by decide) (fun c_13 => ?_) (fun c_13 => ?_)
  · exact absurd c_13 (by decide)
  refine lv_aload_n hx hb d_Arc_keepBehind_16 rfl (lv_at hl 2 rfl) ?_
  refine va_get (D := D) (ci := 2) (v := .ref qa) (C := R_Arc) (T := T_Arc) (N := 5) hx hb hts (ui_Arc _) hown hK hP 0 rfl rfl 2 (by decide) (hts _ (gwc gw_73)) (fun _ h9 => h9) rfl d_Arc_keepBehind_17 ?_
  refine lv_iload_n hx hb d_Arc_keepBehind_20 rfl (lv_at hl 0 rfl) ?_
  refine lv_aload_n hx hb d_Arc_keepBehind_21 rfl (lv_at hl 2 rfl) ?_
  refine va_get (D := D) (ci := 2) (v := .ref qa) (C := R_Arc) (T := T_Arc) (N := 5) hx hb hts (ui_Arc _) hown hK hP 0 rfl rfl 2 (by decide) (hts _ (gwc gw_73)) (fun _ h9 => h9) rfl d_Arc_keepBehind_22 ?_
  refine lv_iload_n hx hb d_Arc_keepBehind_25 rfl (lv_at hl 0 rfl) ?_
  refine ld_i hx hb hK hP 1 0 rfl rfl 0 (by omega) (by omega) d_Arc_keepBehind_26 ?_
  refine tp_i (mixI a0 a1 t) (rfl) ?_
  refine lv_aload_n hx hb d_Arc_keepBehind_27 rfl (lv_at hl 2 rfl) ?_
  refine va_get (D := D) (ci := 2) (v := .ref qa) (C := R_Arc) (T := T_Arc) (N := 5) hx hb hts (ui_Arc _) hown hK hP 0 rfl rfl 2 (by decide) (hts _ (gwc gw_73)) (fun _ h9 => h9) rfl d_Arc_keepBehind_28 ?_
  refine lv_iload_n hx hb d_Arc_keepBehind_31 rfl (lv_at hl 0 rfl) ?_
  refine lv_iconst (v := 1) hx hb d_Arc_keepBehind_32 (by decide) ?_
  refine lv_iadd hx hb d_Arc_keepBehind_33 ?_
  refine tp_i (1) (by decide) ?_
  refine ld_i hx hb hK hP 1 0 rfl rfl 1 (by omega) (by omega) d_Arc_keepBehind_34 ?_
  refine tp_i (mixI a1 a2 t) (rfl) ?_
  refine lv_iload_n hx hb d_Arc_keepBehind_35 rfl (lv_at hl 3 rfl) ?_
  refine ct_callS (av := [.int (mixI a0 a1 t), .int (mixI a1 a2 t), .int t]) (rest := [.int 0, .ref qa]) (wr := [(ha_, .inr (2, [.ref qx, .ref qy, .ref qa, .ref qb, .int (nI n)])), (qa, .inl (cI, 4, .inl (j4 (mixI a0 a1 t) (mixI a1 a2 t) (mixI a2 a3 t) a3))), (qb, .inl (cI, 4, .inl (j4 (mixI b0 b1 t) (mixI b1 b2 t) (mixI b2 b3 t) b3)))]) (n := 3) (c_Arc_mix l D cI cB cJ qQ  (mixI a0 a1 t) (mixI a1 a2 t) t ) hx hb hml hown hts (amb_ok qQ) hK hP hD hS hA hM (gi_S gw_293 gw_294 gw_30 gw_295) rfl (by decide +kernel) ⟨by omega, by omega⟩ [] [0, 1, 2] rfl rfl rfl rfl (by decide) rfl hl.1 rfl (Nat.le_of_ble_eq_true rfl) d_Arc_keepBehind_36 ⟨by omega, by omega⟩ (fun u_14 H locs hok hP hD hS => ?_)
  have hP : va_P D cl [(ha_, .inr (2, [.ref qx, .ref qy, .ref qa, .ref qb, .int (nI n)])), (qa, .inl (cI, 4, .inl (j4 (mixI a0 a1 t) (mixI a1 a2 t) (mixI a2 a3 t) a3))), (qb, .inl (cI, 4, .inl (j4 (mixI b0 b1 t) (mixI b1 b2 t) (mixI b2 b3 t) b3)))] H := hP
  have hD : va_D A [(ha_, .inr (2, [.ref qx, .ref qy, .ref qa, .ref qb, .int (nI n)])), (qa, .inl (cI, 4, .inl (j4 (mixI a0 a1 t) (mixI a1 a2 t) (mixI a2 a3 t) a3))), (qb, .inl (cI, 4, .inl (j4 (mixI b0 b1 t) (mixI b1 b2 t) (mixI b2 b3 t) b3)))] := hD
  refine W.eq (g2 := F0 m 39 ls [.int (mixI (mixI a0 a1 t) (mixI a1 a2 t) t), .int 0, .ref qa]) rfl ?_
  refine sf_i (j4 (mixI (mixI a0 a1 t) (mixI a1 a2 t) t) (mixI a1 a2 t) (mixI a2 a3 t) a3) hx hb hK hP hD hS 1 0 rfl rfl 0 j4_0 (by decide) (by decide) d_Arc_keepBehind_39 (fun H locs hP hD hS => ?_)
  have hP : va_P D cl [(ha_, .inr (2, [.ref qx, .ref qy, .ref qa, .ref qb, .int (nI n)])), (qa, .inl (cI, 4, .inl (j4 (mixI (mixI a0 a1 t) (mixI a1 a2 t) t) (mixI a1 a2 t) (mixI a2 a3 t) a3))), (qb, .inl (cI, 4, .inl (j4 (mixI b0 b1 t) (mixI b1 b2 t) (mixI b2 b3 t) b3)))] H := hP
  have hD : va_D A [(ha_, .inr (2, [.ref qx, .ref qy, .ref qa, .ref qb, .int (nI n)])), (qa, .inl (cI, 4, .inl (j4 (mixI (mixI a0 a1 t) (mixI a1 a2 t) t) (mixI a1 a2 t) (mixI a2 a3 t) a3))), (qb, .inl (cI, 4, .inl (j4 (mixI b0 b1 t) (mixI b1 b2 t) (mixI b2 b3 t) b3)))] := hD
  refine lv_aload_n hx hb d_Arc_keepBehind_40 rfl (lv_at hl 2 rfl) ?_
  refine va_get (D := D) (ci := 2) (v := .ref qb) (C := R_Arc) (T := T_Arc) (N := 5) hx hb hts (ui_Arc _) hown hK hP 0 rfl rfl 3 (by decide) (hts _ (gwc gw_74)) (fun _ h9 => h9) rfl d_Arc_keepBehind_41 ?_
  refine lv_iload_n hx hb d_Arc_keepBehind_44 rfl (lv_at hl 0 rfl) ?_
  refine lv_aload_n hx hb d_Arc_keepBehind_45 rfl (lv_at hl 2 rfl) ?_
  refine va_get (D := D) (ci := 2) (v := .ref qb) (C := R_Arc) (T := T_Arc) (N := 5) hx hb hts (ui_Arc _) hown hK hP 0 rfl rfl 3 (by decide) (hts _ (gwc gw_74)) (fun _ h9 => h9) rfl d_Arc_keepBehind_46 ?_
  refine lv_iload_n hx hb d_Arc_keepBehind_49 rfl (lv_at hl 0 rfl) ?_
  refine ld_i hx hb hK hP 2 0 rfl rfl 0 (by omega) (by omega) d_Arc_keepBehind_50 ?_
  refine tp_i (mixI b0 b1 t) (rfl) ?_
  refine lv_aload_n hx hb d_Arc_keepBehind_51 rfl (lv_at hl 2 rfl) ?_
  refine va_get (D := D) (ci := 2) (v := .ref qb) (C := R_Arc) (T := T_Arc) (N := 5) hx hb hts (ui_Arc _) hown hK hP 0 rfl rfl 3 (by decide) (hts _ (gwc gw_74)) (fun _ h9 => h9) rfl d_Arc_keepBehind_52 ?_
  refine lv_iload_n hx hb d_Arc_keepBehind_55 rfl (lv_at hl 0 rfl) ?_
  refine lv_iconst (v := 1) hx hb d_Arc_keepBehind_56 (by decide) ?_
  refine lv_iadd hx hb d_Arc_keepBehind_57 ?_
  refine tp_i (1) (by decide) ?_
  refine ld_i hx hb hK hP 2 0 rfl rfl 1 (by omega) (by omega) d_Arc_keepBehind_58 ?_
  refine tp_i (mixI b1 b2 t) (rfl) ?_
  refine lv_iload_n hx hb d_Arc_keepBehind_59 rfl (lv_at hl 3 rfl) ?_
  refine ct_callS (av := [.int (mixI b0 b1 t), .int (mixI b1 b2 t), .int t]) (rest := [.int 0, .ref qb]) (wr := [(ha_, .inr (2, [.ref qx, .ref qy, .ref qa, .ref qb, .int (nI n)])), (qa, .inl (cI, 4, .inl (j4 (mixI (mixI a0 a1 t) (mixI a1 a2 t) t) (mixI a1 a2 t) (mixI a2 a3 t) a3))), (qb, .inl (cI, 4, .inl (j4 (mixI b0 b1 t) (mixI b1 b2 t) (mixI b2 b3 t) b3)))]) (n := 3) (c_Arc_mix l D cI cB cJ qQ  (mixI b0 b1 t) (mixI b1 b2 t) t ) hx hb hml hown hts (amb_ok qQ) hK hP hD hS hA hM (gi_S gw_293 gw_294 gw_30 gw_295) rfl (by decide +kernel) ⟨by omega, by omega⟩ [] [0, 1, 2] rfl rfl rfl rfl (by decide) rfl hl.1 rfl (Nat.le_of_ble_eq_true rfl) d_Arc_keepBehind_60 ⟨by omega, by omega⟩ (fun u_15 H locs hok hP hD hS => ?_)
  have hP : va_P D cl [(ha_, .inr (2, [.ref qx, .ref qy, .ref qa, .ref qb, .int (nI n)])), (qa, .inl (cI, 4, .inl (j4 (mixI (mixI a0 a1 t) (mixI a1 a2 t) t) (mixI a1 a2 t) (mixI a2 a3 t) a3))), (qb, .inl (cI, 4, .inl (j4 (mixI b0 b1 t) (mixI b1 b2 t) (mixI b2 b3 t) b3)))] H := hP
  have hD : va_D A [(ha_, .inr (2, [.ref qx, .ref qy, .ref qa, .ref qb, .int (nI n)])), (qa, .inl (cI, 4, .inl (j4 (mixI (mixI a0 a1 t) (mixI a1 a2 t) t) (mixI a1 a2 t) (mixI a2 a3 t) a3))), (qb, .inl (cI, 4, .inl (j4 (mixI b0 b1 t) (mixI b1 b2 t) (mixI b2 b3 t) b3)))] := hD
  refine W.eq (g2 := F0 m 63 ls [.int (mixI (mixI b0 b1 t) (mixI b1 b2 t) t), .int 0, .ref qb]) rfl ?_
  refine sf_i (j4 (mixI (mixI b0 b1 t) (mixI b1 b2 t) t) (mixI b1 b2 t) (mixI b2 b3 t) b3) hx hb hK hP hD hS 2 0 rfl rfl 0 j4_0 (by decide) (by decide) d_Arc_keepBehind_63 (fun H locs hP hD hS => ?_)
  have hP : va_P D cl [(ha_, .inr (2, [.ref qx, .ref qy, .ref qa, .ref qb, .int (nI n)])), (qa, .inl (cI, 4, .inl (j4 (mixI (mixI a0 a1 t) (mixI a1 a2 t) t) (mixI a1 a2 t) (mixI a2 a3 t) a3))), (qb, .inl (cI, 4, .inl (j4 (mixI (mixI b0 b1 t) (mixI b1 b2 t) t) (mixI b1 b2 t) (mixI b2 b3 t) b3)))] H := hP
  have hD : va_D A [(ha_, .inr (2, [.ref qx, .ref qy, .ref qa, .ref qb, .int (nI n)])), (qa, .inl (cI, 4, .inl (j4 (mixI (mixI a0 a1 t) (mixI a1 a2 t) t) (mixI a1 a2 t) (mixI a2 a3 t) a3))), (qb, .inl (cI, 4, .inl (j4 (mixI (mixI b0 b1 t) (mixI b1 b2 t) t) (mixI b1 b2 t) (mixI b2 b3 t) b3)))] := hD
  refine lv_iinc (v := 1) (lv' := [(3, .int 1), (2, .int 2), (0, .ref ha_), (1, .int t)]) hx hb d_Arc_keepBehind_64 hl (k := 0) rfl (by first | exact nI_add _ 1 | rfl | decide) (by decide) rfl (fun ls hl => ?_)
  refine lv_goto (tgt := 9) hx hb d_Arc_keepBehind_67 (by decide) ?_
  refine lv_iload_n hx hb d_Arc_keepBehind_9 rfl (lv_at hl 0 rfl) ?_
  refine lv_iconst (v := 3) hx hb d_Arc_keepBehind_10 (by decide) ?_
  refine lv_iload_n hx hb d_Arc_keepBehind_11 rfl (lv_at hl 1 rfl) ?_
  refine lv_isub hx hb d_Arc_keepBehind_12 ?_
  refine tp_i (1) (by decide) ?_
  refine bn_gt (a1 := 1) (b1 := 1) (tgt := 70) hx hb (by omega) (by omega) d_Arc_keepBehind_13 (by decide) (fun c_16 => ?_) (fun c_16 => ?_)
  · exact absurd c_16 (by decide)
  refine lv_aload_n hx hb d_Arc_keepBehind_16 rfl (lv_at hl 2 rfl) ?_
  refine va_get (D := D) (ci := 2) (v := .ref qa) (C := R_Arc) (T := T_Arc) (N := 5) hx hb hts (ui_Arc _) hown hK hP 0 rfl rfl 2 (by decide) (hts _ (gwc gw_73)) (fun _ h9 => h9) rfl d_Arc_keepBehind_17 ?_
  refine lv_iload_n hx hb d_Arc_keepBehind_20 rfl (lv_at hl 0 rfl) ?_
  refine lv_aload_n hx hb d_Arc_keepBehind_21 rfl (lv_at hl 2 rfl) ?_
  refine va_get (D := D) (ci := 2) (v := .ref qa) (C := R_Arc) (T := T_Arc) (N := 5) hx hb hts (ui_Arc _) hown hK hP 0 rfl rfl 2 (by decide) (hts _ (gwc gw_73)) (fun _ h9 => h9) rfl d_Arc_keepBehind_22 ?_
  refine lv_iload_n hx hb d_Arc_keepBehind_25 rfl (lv_at hl 0 rfl) ?_
  refine ld_i hx hb hK hP 1 0 rfl rfl 1 (by omega) (by omega) d_Arc_keepBehind_26 ?_
  refine tp_i (mixI a1 a2 t) (rfl) ?_
  refine lv_aload_n hx hb d_Arc_keepBehind_27 rfl (lv_at hl 2 rfl) ?_
  refine va_get (D := D) (ci := 2) (v := .ref qa) (C := R_Arc) (T := T_Arc) (N := 5) hx hb hts (ui_Arc _) hown hK hP 0 rfl rfl 2 (by decide) (hts _ (gwc gw_73)) (fun _ h9 => h9) rfl d_Arc_keepBehind_28 ?_
  refine lv_iload_n hx hb d_Arc_keepBehind_31 rfl (lv_at hl 0 rfl) ?_
  refine lv_iconst (v := 1) hx hb d_Arc_keepBehind_32 (by decide) ?_
  refine lv_iadd hx hb d_Arc_keepBehind_33 ?_
  refine tp_i (2) (by decide) ?_
  refine ld_i hx hb hK hP 1 0 rfl rfl 2 (by omega) (by omega) d_Arc_keepBehind_34 ?_
  refine tp_i (mixI a2 a3 t) (rfl) ?_
  refine lv_iload_n hx hb d_Arc_keepBehind_35 rfl (lv_at hl 3 rfl) ?_
  refine ct_callS (av := [.int (mixI a1 a2 t), .int (mixI a2 a3 t), .int t]) (rest := [.int 1, .ref qa]) (wr := [(ha_, .inr (2, [.ref qx, .ref qy, .ref qa, .ref qb, .int (nI n)])), (qa, .inl (cI, 4, .inl (j4 (mixI (mixI a0 a1 t) (mixI a1 a2 t) t) (mixI a1 a2 t) (mixI a2 a3 t) a3))), (qb, .inl (cI, 4, .inl (j4 (mixI (mixI b0 b1 t) (mixI b1 b2 t) t) (mixI b1 b2 t) (mixI b2 b3 t) b3)))]) (n := 3) (c_Arc_mix l D cI cB cJ qQ  (mixI a1 a2 t) (mixI a2 a3 t) t ) hx hb hml hown hts (amb_ok qQ) hK hP hD hS hA hM (gi_S gw_293 gw_294 gw_30 gw_295) rfl (by decide +kernel) ⟨by omega, by omega⟩ [] [0, 1, 2] rfl rfl rfl rfl (by decide) rfl hl.1 rfl (Nat.le_of_ble_eq_true rfl) d_Arc_keepBehind_36 ⟨by omega, by omega⟩ (fun u_17 H locs hok hP hD hS => ?_)
  have hP : va_P D cl [(ha_, .inr (2, [.ref qx, .ref qy, .ref qa, .ref qb, .int (nI n)])), (qa, .inl (cI, 4, .inl (j4 (mixI (mixI a0 a1 t) (mixI a1 a2 t) t) (mixI a1 a2 t) (mixI a2 a3 t) a3))), (qb, .inl (cI, 4, .inl (j4 (mixI (mixI b0 b1 t) (mixI b1 b2 t) t) (mixI b1 b2 t) (mixI b2 b3 t) b3)))] H := hP
  have hD : va_D A [(ha_, .inr (2, [.ref qx, .ref qy, .ref qa, .ref qb, .int (nI n)])), (qa, .inl (cI, 4, .inl (j4 (mixI (mixI a0 a1 t) (mixI a1 a2 t) t) (mixI a1 a2 t) (mixI a2 a3 t) a3))), (qb, .inl (cI, 4, .inl (j4 (mixI (mixI b0 b1 t) (mixI b1 b2 t) t) (mixI b1 b2 t) (mixI b2 b3 t) b3)))] := hD
  refine W.eq (g2 := F0 m 39 ls [.int (mixI (mixI a1 a2 t) (mixI a2 a3 t) t), .int 1, .ref qa]) rfl ?_
  refine sf_i (j4 (mixI (mixI a0 a1 t) (mixI a1 a2 t) t) (mixI (mixI a1 a2 t) (mixI a2 a3 t) t) (mixI a2 a3 t) a3) hx hb hK hP hD hS 1 0 rfl rfl 1 j4_1 (by decide) (by decide) d_Arc_keepBehind_39 (fun H locs hP hD hS => ?_)
  have hP : va_P D cl [(ha_, .inr (2, [.ref qx, .ref qy, .ref qa, .ref qb, .int (nI n)])), (qa, .inl (cI, 4, .inl (j4 (mixI (mixI a0 a1 t) (mixI a1 a2 t) t) (mixI (mixI a1 a2 t) (mixI a2 a3 t) t) (mixI a2 a3 t) a3))), (qb, .inl (cI, 4, .inl (j4 (mixI (mixI b0 b1 t) (mixI b1 b2 t) t) (mixI b1 b2 t) (mixI b2 b3 t) b3)))] H := hP
  have hD : va_D A [(ha_, .inr (2, [.ref qx, .ref qy, .ref qa, .ref qb, .int (nI n)])), (qa, .inl (cI, 4, .inl (j4 (mixI (mixI a0 a1 t) (mixI a1 a2 t) t) (mixI (mixI a1 a2 t) (mixI a2 a3 t) t) (mixI a2 a3 t) a3))), (qb, .inl (cI, 4, .inl (j4 (mixI (mixI b0 b1 t) (mixI b1 b2 t) t) (mixI b1 b2 t) (mixI b2 b3 t) b3)))] := hD
  refine lv_aload_n hx hb d_Arc_keepBehind_40 rfl (lv_at hl 2 rfl) ?_
  refine va_get (D := D) (ci := 2) (v := .ref qb) (C := R_Arc) (T := T_Arc) (N := 5) hx hb hts (ui_Arc _) hown hK hP 0 rfl rfl 3 (by decide) (hts _ (gwc gw_74)) (fun _ h9 => h9) rfl d_Arc_keepBehind_41 ?_
  refine lv_iload_n hx hb d_Arc_keepBehind_44 rfl (lv_at hl 0 rfl) ?_
  refine lv_aload_n hx hb d_Arc_keepBehind_45 rfl (lv_at hl 2 rfl) ?_
  refine va_get (D := D) (ci := 2) (v := .ref qb) (C := R_Arc) (T := T_Arc) (N := 5) hx hb hts (ui_Arc _) hown hK hP 0 rfl rfl 3 (by decide) (hts _ (gwc gw_74)) (fun _ h9 => h9) rfl d_Arc_keepBehind_46 ?_
  refine lv_iload_n hx hb d_Arc_keepBehind_49 rfl (lv_at hl 0 rfl) ?_
  refine ld_i hx hb hK hP 2 0 rfl rfl 1 (by omega) (by omega) d_Arc_keepBehind_50 ?_
  refine tp_i (mixI b1 b2 t) (rfl) ?_
  refine lv_aload_n hx hb d_Arc_keepBehind_51 rfl (lv_at hl 2 rfl) ?_
  refine va_get (D := D) (ci := 2) (v := .ref qb) (C := R_Arc) (T := T_Arc) (N := 5) hx hb hts (ui_Arc _) hown hK hP 0 rfl rfl 3 (by decide) (hts _ (gwc gw_74)) (fun _ h9 => h9) rfl d_Arc_keepBehind_52 ?_
  refine lv_iload_n hx hb d_Arc_keepBehind_55 rfl (lv_at hl 0 rfl) ?_
  refine lv_iconst (v := 1) hx hb d_Arc_keepBehind_56 (by decide) ?_
  refine lv_iadd hx hb d_Arc_keepBehind_57 ?_
  refine tp_i (2) (by decide) ?_
  refine ld_i hx hb hK hP 2 0 rfl rfl 2 (by omega) (by omega) d_Arc_keepBehind_58 ?_
  refine tp_i (mixI b2 b3 t) (rfl) ?_
  refine lv_iload_n hx hb d_Arc_keepBehind_59 rfl (lv_at hl 3 rfl) ?_
  refine ct_callS (av := [.int (mixI b1 b2 t), .int (mixI b2 b3 t), .int t]) (rest := [.int 1, .ref qb]) (wr := [(ha_, .inr (2, [.ref qx, .ref qy, .ref qa, .ref qb, .int (nI n)])), (qa, .inl (cI, 4, .inl (j4 (mixI (mixI a0 a1 t) (mixI a1 a2 t) t) (mixI (mixI a1 a2 t) (mixI a2 a3 t) t) (mixI a2 a3 t) a3))), (qb, .inl (cI, 4, .inl (j4 (mixI (mixI b0 b1 t) (mixI b1 b2 t) t) (mixI b1 b2 t) (mixI b2 b3 t) b3)))]) (n := 3) (c_Arc_mix l D cI cB cJ qQ  (mixI b1 b2 t) (mixI b2 b3 t) t ) hx hb hml hown hts (amb_ok qQ) hK hP hD hS hA hM (gi_S gw_293 gw_294 gw_30 gw_295) rfl (by decide +kernel) ⟨by omega, by omega⟩ [] [0, 1, 2] rfl rfl rfl rfl (by decide) rfl hl.1 rfl (Nat.le_of_ble_eq_true rfl) d_Arc_keepBehind_60 ⟨by omega, by omega⟩ (fun u_18 H locs hok hP hD hS => ?_)
  have hP : va_P D cl [(ha_, .inr (2, [.ref qx, .ref qy, .ref qa, .ref qb, .int (nI n)])), (qa, .inl (cI, 4, .inl (j4 (mixI (mixI a0 a1 t) (mixI a1 a2 t) t) (mixI (mixI a1 a2 t) (mixI a2 a3 t) t) (mixI a2 a3 t) a3))), (qb, .inl (cI, 4, .inl (j4 (mixI (mixI b0 b1 t) (mixI b1 b2 t) t) (mixI b1 b2 t) (mixI b2 b3 t) b3)))] H := hP
  have hD : va_D A [(ha_, .inr (2, [.ref qx, .ref qy, .ref qa, .ref qb, .int (nI n)])), (qa, .inl (cI, 4, .inl (j4 (mixI (mixI a0 a1 t) (mixI a1 a2 t) t) (mixI (mixI a1 a2 t) (mixI a2 a3 t) t) (mixI a2 a3 t) a3))), (qb, .inl (cI, 4, .inl (j4 (mixI (mixI b0 b1 t) (mixI b1 b2 t) t) (mixI b1 b2 t) (mixI b2 b3 t) b3)))] := hD
  refine W.eq (g2 := F0 m 63 ls [.int (mixI (mixI b1 b2 t) (mixI b2 b3 t) t), .int 1, .ref qb]) rfl ?_
  refine sf_i (j4 (mixI (mixI b0 b1 t) (mixI b1 b2 t) t) (mixI (mixI b1 b2 t) (mixI b2 b3 t) t) (mixI b2 b3 t) b3) hx hb hK hP hD hS 2 0 rfl rfl 1 j4_1 (by decide) (by decide) d_Arc_keepBehind_63 (fun H locs hP hD hS => ?_)
  have hP : va_P D cl [(ha_, .inr (2, [.ref qx, .ref qy, .ref qa, .ref qb, .int (nI n)])), (qa, .inl (cI, 4, .inl (j4 (mixI (mixI a0 a1 t) (mixI a1 a2 t) t) (mixI (mixI a1 a2 t) (mixI a2 a3 t) t) (mixI a2 a3 t) a3))), (qb, .inl (cI, 4, .inl (j4 (mixI (mixI b0 b1 t) (mixI b1 b2 t) t) (mixI (mixI b1 b2 t) (mixI b2 b3 t) t) (mixI b2 b3 t) b3)))] H := hP
  have hD : va_D A [(ha_, .inr (2, [.ref qx, .ref qy, .ref qa, .ref qb, .int (nI n)])), (qa, .inl (cI, 4, .inl (j4 (mixI (mixI a0 a1 t) (mixI a1 a2 t) t) (mixI (mixI a1 a2 t) (mixI a2 a3 t) t) (mixI a2 a3 t) a3))), (qb, .inl (cI, 4, .inl (j4 (mixI (mixI b0 b1 t) (mixI b1 b2 t) t) (mixI (mixI b1 b2 t) (mixI b2 b3 t) t) (mixI b2 b3 t) b3)))] := hD
  refine lv_iinc (v := 2) (lv' := [(3, .int 2), (2, .int 2), (0, .ref ha_), (1, .int t)]) hx hb d_Arc_keepBehind_64 hl (k := 0) rfl (by first | exact nI_add _ 1 | rfl | decide) (by decide) rfl (fun ls hl => ?_)
  refine lv_goto (tgt := 9) hx hb d_Arc_keepBehind_67 (by decide) ?_
  refine lv_iload_n hx hb d_Arc_keepBehind_9 rfl (lv_at hl 0 rfl) ?_
  refine lv_iconst (v := 3) hx hb d_Arc_keepBehind_10 (by decide) ?_
  refine lv_iload_n hx hb d_Arc_keepBehind_11 rfl (lv_at hl 1 rfl) ?_
  refine lv_isub hx hb d_Arc_keepBehind_12 ?_
  refine tp_i (1) (by decide) ?_
  refine bn_gt (a1 := 2) (b1 := 1) (tgt := 70) hx hb (by omega) (by omega) d_Arc_keepBehind_13 (by decide) (fun c_19 => ?_) (fun c_19 => ?_)
  rotate_left
  · exact absurd c_19 (by decide)
  refine lv_iinc (v := 3) (lv' := [(2, .int 3), (3, .int 2), (0, .ref ha_), (1, .int t)]) hx hb d_Arc_keepBehind_70 hl (k := 1) rfl (by first | exact nI_add _ 1 | rfl | decide) (by decide) rfl (fun ls hl => ?_)
  refine lv_goto (tgt := 2) hx hb d_Arc_keepBehind_73 (by decide) ?_
  refine lv_iload_n hx hb d_Arc_keepBehind_2 rfl (lv_at hl 0 rfl) ?_
  refine lv_iconst (v := 3) hx hb d_Arc_keepBehind_3 (by decide) ?_
  refine bn_gt (a1 := 3) (b1 := 3) (tgt := 76) hx hb (by omega) (by omega) d_Arc_keepBehind_4 (by decide) (fun c_20 => ?_) (fun c_20 => ?_)
  · exact absurd c_20 (by decide)
  refine lv_iconst (v := 0) hx hb d_Arc_keepBehind_7 (by decide) ?_
  refine lv_istore_n (lv' := [(3, .int 0), (2, .int 3), (0, .ref ha_), (1, .int t)]) hx hb d_Arc_keepBehind_8 rfl hl (by decide) rfl (fun ls hl => ?_)
  refine lv_iload_n hx hb d_Arc_keepBehind_9 rfl (lv_at hl 0 rfl) ?_
  refine lv_iconst (v := 3) hx hb d_Arc_keepBehind_10 (by decide) ?_
  refine lv_iload_n hx hb d_Arc_keepBehind_11 rfl (lv_at hl 1 rfl) ?_
  refine lv_isub hx hb d_Arc_keepBehind_12 ?_
  refine tp_i (0) (by decide) ?_
  refine bn_gt (a1 := 0) (b1 := 0) (tgt := 70) hx hb (by omega) (by omega) d_Arc_keepBehind_13 (by decide) (fun c_21 => ?_) (fun c_21 => ?_)
  · exact absurd c_21 (by decide)
  refine lv_aload_n hx hb d_Arc_keepBehind_16 rfl (lv_at hl 2 rfl) ?_
  refine va_get (D := D) (ci := 2) (v := .ref qa) (C := R_Arc) (T := T_Arc) (N := 5) hx hb hts (ui_Arc _) hown hK hP 0 rfl rfl 2 (by decide) (hts _ (gwc gw_73)) (fun _ h9 => h9) rfl d_Arc_keepBehind_17 ?_
  refine lv_iload_n hx hb d_Arc_keepBehind_20 rfl (lv_at hl 0 rfl) ?_
  refine lv_aload_n hx hb d_Arc_keepBehind_21 rfl (lv_at hl 2 rfl) ?_
  refine va_get (D := D) (ci := 2) (v := .ref qa) (C := R_Arc) (T := T_Arc) (N := 5) hx hb hts (ui_Arc _) hown hK hP 0 rfl rfl 2 (by decide) (hts _ (gwc gw_73)) (fun _ h9 => h9) rfl d_Arc_keepBehind_22 ?_
  refine lv_iload_n hx hb d_Arc_keepBehind_25 rfl (lv_at hl 0 rfl) ?_
  refine ld_i hx hb hK hP 1 0 rfl rfl 0 (by omega) (by omega) d_Arc_keepBehind_26 ?_
  refine tp_i (mixI (mixI a0 a1 t) (mixI a1 a2 t) t) (rfl) ?_
  refine lv_aload_n hx hb d_Arc_keepBehind_27 rfl (lv_at hl 2 rfl) ?_
  refine va_get (D := D) (ci := 2) (v := .ref qa) (C := R_Arc) (T := T_Arc) (N := 5) hx hb hts (ui_Arc _) hown hK hP 0 rfl rfl 2 (by decide) (hts _ (gwc gw_73)) (fun _ h9 => h9) rfl d_Arc_keepBehind_28 ?_
  refine lv_iload_n hx hb d_Arc_keepBehind_31 rfl (lv_at hl 0 rfl) ?_
  refine lv_iconst (v := 1) hx hb d_Arc_keepBehind_32 (by decide) ?_
  refine lv_iadd hx hb d_Arc_keepBehind_33 ?_
  refine tp_i (1) (by decide) ?_
  refine ld_i hx hb hK hP 1 0 rfl rfl 1 (by omega) (by omega) d_Arc_keepBehind_34 ?_
  refine tp_i (mixI (mixI a1 a2 t) (mixI a2 a3 t) t) (rfl) ?_
  refine lv_iload_n hx hb d_Arc_keepBehind_35 rfl (lv_at hl 3 rfl) ?_
  refine ct_callS (av := [.int (mixI (mixI a0 a1 t) (mixI a1 a2 t) t), .int (mixI (mixI a1 a2 t) (mixI a2 a3 t) t), .int t]) (rest := [.int 0, .ref qa]) (wr := [(ha_, .inr (2, [.ref qx, .ref qy, .ref qa, .ref qb, .int (nI n)])), (qa, .inl (cI, 4, .inl (j4 (mixI (mixI a0 a1 t) (mixI a1 a2 t) t) (mixI (mixI a1 a2 t) (mixI a2 a3 t) t) (mixI a2 a3 t) a3))), (qb, .inl (cI, 4, .inl (j4 (mixI (mixI b0 b1 t) (mixI b1 b2 t) t) (mixI (mixI b1 b2 t) (mixI b2 b3 t) t) (mixI b2 b3 t) b3)))]) (n := 3) (c_Arc_mix l D cI cB cJ qQ  (mixI (mixI a0 a1 t) (mixI a1 a2 t) t) (mixI (mixI a1 a2 t) (mixI a2 a3 t) t) t ) hx hb hml hown hts (amb_ok qQ) hK hP hD hS hA hM (gi_S gw_293 gw_294 gw_30 gw_295) rfl (by decide +kernel) ⟨by omega, by omega⟩ [] [0, 1, 2] rfl rfl rfl rfl (by decide) rfl hl.1 rfl (Nat.le_of_ble_eq_true rfl) d_Arc_keepBehind_36 ⟨by omega, by omega⟩ (fun u_22 H locs hok hP hD hS => ?_)
  have hP : va_P D cl [(ha_, .inr (2, [.ref qx, .ref qy, .ref qa, .ref qb, .int (nI n)])), (qa, .inl (cI, 4, .inl (j4 (mixI (mixI a0 a1 t) (mixI a1 a2 t) t) (mixI (mixI a1 a2 t) (mixI a2 a3 t) t) (mixI a2 a3 t) a3))), (qb, .inl (cI, 4, .inl (j4 (mixI (mixI b0 b1 t) (mixI b1 b2 t) t) (mixI (mixI b1 b2 t) (mixI b2 b3 t) t) (mixI b2 b3 t) b3)))] H := hP
  have hD : va_D A [(ha_, .inr (2, [.ref qx, .ref qy, .ref qa, .ref qb, .int (nI n)])), (qa, .inl (cI, 4, .inl (j4 (mixI (mixI a0 a1 t) (mixI a1 a2 t) t) (mixI (mixI a1 a2 t) (mixI a2 a3 t) t) (mixI a2 a3 t) a3))), (qb, .inl (cI, 4, .inl (j4 (mixI (mixI b0 b1 t) (mixI b1 b2 t) t) (mixI (mixI b1 b2 t) (mixI b2 b3 t) t) (mixI b2 b3 t) b3)))] := hD
  refine W.eq (g2 := F0 m 39 ls [.int (mixI (mixI (mixI a0 a1 t) (mixI a1 a2 t) t) (mixI (mixI a1 a2 t) (mixI a2 a3 t) t) t), .int 0, .ref qa]) rfl ?_
  refine sf_i (j4 (mixI (mixI (mixI a0 a1 t) (mixI a1 a2 t) t) (mixI (mixI a1 a2 t) (mixI a2 a3 t) t) t) (mixI (mixI a1 a2 t) (mixI a2 a3 t) t) (mixI a2 a3 t) a3) hx hb hK hP hD hS 1 0 rfl rfl 0 j4_0 (by decide) (by decide) d_Arc_keepBehind_39 (fun H locs hP hD hS => ?_)
  have hP : va_P D cl [(ha_, .inr (2, [.ref qx, .ref qy, .ref qa, .ref qb, .int (nI n)])), (qa, .inl (cI, 4, .inl (j4 (mixI (mixI (mixI a0 a1 t) (mixI a1 a2 t) t) (mixI (mixI a1 a2 t) (mixI a2 a3 t) t) t) (mixI (mixI a1 a2 t) (mixI a2 a3 t) t) (mixI a2 a3 t) a3))), (qb, .inl (cI, 4, .inl (j4 (mixI (mixI b0 b1 t) (mixI b1 b2 t) t) (mixI (mixI b1 b2 t) (mixI b2 b3 t) t) (mixI b2 b3 t) b3)))] H := hP
  have hD : va_D A [(ha_, .inr (2, [.ref qx, .ref qy, .ref qa, .ref qb, .int (nI n)])), (qa, .inl (cI, 4, .inl (j4 (mixI (mixI (mixI a0 a1 t) (mixI a1 a2 t) t) (mixI (mixI a1 a2 t) (mixI a2 a3 t) t) t) (mixI (mixI a1 a2 t) (mixI a2 a3 t) t) (mixI a2 a3 t) a3))), (qb, .inl (cI, 4, .inl (j4 (mixI (mixI b0 b1 t) (mixI b1 b2 t) t) (mixI (mixI b1 b2 t) (mixI b2 b3 t) t) (mixI b2 b3 t) b3)))] := hD
  refine lv_aload_n hx hb d_Arc_keepBehind_40 rfl (lv_at hl 2 rfl) ?_
  refine va_get (D := D) (ci := 2) (v := .ref qb) (C := R_Arc) (T := T_Arc) (N := 5) hx hb hts (ui_Arc _) hown hK hP 0 rfl rfl 3 (by decide) (hts _ (gwc gw_74)) (fun _ h9 => h9) rfl d_Arc_keepBehind_41 ?_
  refine lv_iload_n hx hb d_Arc_keepBehind_44 rfl (lv_at hl 0 rfl) ?_
  refine lv_aload_n hx hb d_Arc_keepBehind_45 rfl (lv_at hl 2 rfl) ?_
  refine va_get (D := D) (ci := 2) (v := .ref qb) (C := R_Arc) (T := T_Arc) (N := 5) hx hb hts (ui_Arc _) hown hK hP 0 rfl rfl 3 (by decide) (hts _ (gwc gw_74)) (fun _ h9 => h9) rfl d_Arc_keepBehind_46 ?_
  refine lv_iload_n hx hb d_Arc_keepBehind_49 rfl (lv_at hl 0 rfl) ?_
  refine ld_i hx hb hK hP 2 0 rfl rfl 0 (by omega) (by omega) d_Arc_keepBehind_50 ?_
  refine tp_i (mixI (mixI b0 b1 t) (mixI b1 b2 t) t) (rfl) ?_
  refine lv_aload_n hx hb d_Arc_keepBehind_51 rfl (lv_at hl 2 rfl) ?_
  refine va_get (D := D) (ci := 2) (v := .ref qb) (C := R_Arc) (T := T_Arc) (N := 5) hx hb hts (ui_Arc _) hown hK hP 0 rfl rfl 3 (by decide) (hts _ (gwc gw_74)) (fun _ h9 => h9) rfl d_Arc_keepBehind_52 ?_
  refine lv_iload_n hx hb d_Arc_keepBehind_55 rfl (lv_at hl 0 rfl) ?_
  refine lv_iconst (v := 1) hx hb d_Arc_keepBehind_56 (by decide) ?_
  refine lv_iadd hx hb d_Arc_keepBehind_57 ?_
  refine tp_i (1) (by decide) ?_
  refine ld_i hx hb hK hP 2 0 rfl rfl 1 (by omega) (by omega) d_Arc_keepBehind_58 ?_
  refine tp_i (mixI (mixI b1 b2 t) (mixI b2 b3 t) t) (rfl) ?_
  refine lv_iload_n hx hb d_Arc_keepBehind_59 rfl (lv_at hl 3 rfl) ?_
  refine ct_callS (av := [.int (mixI (mixI b0 b1 t) (mixI b1 b2 t) t), .int (mixI (mixI b1 b2 t) (mixI b2 b3 t) t), .int t]) (rest := [.int 0, .ref qb]) (wr := [(ha_, .inr (2, [.ref qx, .ref qy, .ref qa, .ref qb, .int (nI n)])), (qa, .inl (cI, 4, .inl (j4 (mixI (mixI (mixI a0 a1 t) (mixI a1 a2 t) t) (mixI (mixI a1 a2 t) (mixI a2 a3 t) t) t) (mixI (mixI a1 a2 t) (mixI a2 a3 t) t) (mixI a2 a3 t) a3))), (qb, .inl (cI, 4, .inl (j4 (mixI (mixI b0 b1 t) (mixI b1 b2 t) t) (mixI (mixI b1 b2 t) (mixI b2 b3 t) t) (mixI b2 b3 t) b3)))]) (n := 3) (c_Arc_mix l D cI cB cJ qQ  (mixI (mixI b0 b1 t) (mixI b1 b2 t) t) (mixI (mixI b1 b2 t) (mixI b2 b3 t) t) t ) hx hb hml hown hts (amb_ok qQ) hK hP hD hS hA hM (gi_S gw_293 gw_294 gw_30 gw_295) rfl (by decide +kernel) ⟨by omega, by omega⟩ [] [0, 1, 2] rfl rfl rfl rfl (by decide) rfl hl.1 rfl (Nat.le_of_ble_eq_true rfl) d_Arc_keepBehind_60 ⟨by omega, by omega⟩ (fun u_23 H locs hok hP hD hS => ?_)
  have hP : va_P D cl [(ha_, .inr (2, [.ref qx, .ref qy, .ref qa, .ref qb, .int (nI n)])), (qa, .inl (cI, 4, .inl (j4 (mixI (mixI (mixI a0 a1 t) (mixI a1 a2 t) t) (mixI (mixI a1 a2 t) (mixI a2 a3 t) t) t) (mixI (mixI a1 a2 t) (mixI a2 a3 t) t) (mixI a2 a3 t) a3))), (qb, .inl (cI, 4, .inl (j4 (mixI (mixI b0 b1 t) (mixI b1 b2 t) t) (mixI (mixI b1 b2 t) (mixI b2 b3 t) t) (mixI b2 b3 t) b3)))] H := hP
  have hD : va_D A [(ha_, .inr (2, [.ref qx, .ref qy, .ref qa, .ref qb, .int (nI n)])), (qa, .inl (cI, 4, .inl (j4 (mixI (mixI (mixI a0 a1 t) (mixI a1 a2 t) t) (mixI (mixI a1 a2 t) (mixI a2 a3 t) t) t) (mixI (mixI a1 a2 t) (mixI a2 a3 t) t) (mixI a2 a3 t) a3))), (qb, .inl (cI, 4, .inl (j4 (mixI (mixI b0 b1 t) (mixI b1 b2 t) t) (mixI (mixI b1 b2 t) (mixI b2 b3 t) t) (mixI b2 b3 t) b3)))] := hD
  refine W.eq (g2 := F0 m 63 ls [.int (mixI (mixI (mixI b0 b1 t) (mixI b1 b2 t) t) (mixI (mixI b1 b2 t) (mixI b2 b3 t) t) t), .int 0, .ref qb]) rfl ?_
  refine sf_i (j4 (mixI (mixI (mixI b0 b1 t) (mixI b1 b2 t) t) (mixI (mixI b1 b2 t) (mixI b2 b3 t) t) t) (mixI (mixI b1 b2 t) (mixI b2 b3 t) t) (mixI b2 b3 t) b3) hx hb hK hP hD hS 2 0 rfl rfl 0 j4_0 (by decide) (by decide) d_Arc_keepBehind_63 (fun H locs hP hD hS => ?_)
  have hP : va_P D cl [(ha_, .inr (2, [.ref qx, .ref qy, .ref qa, .ref qb, .int (nI n)])), (qa, .inl (cI, 4, .inl (j4 (mixI (mixI (mixI a0 a1 t) (mixI a1 a2 t) t) (mixI (mixI a1 a2 t) (mixI a2 a3 t) t) t) (mixI (mixI a1 a2 t) (mixI a2 a3 t) t) (mixI a2 a3 t) a3))), (qb, .inl (cI, 4, .inl (j4 (mixI (mixI (mixI b0 b1 t) (mixI b1 b2 t) t) (mixI (mixI b1 b2 t) (mixI b2 b3 t) t) t) (mixI (mixI b1 b2 t) (mixI b2 b3 t) t) (mixI b2 b3 t) b3)))] H := hP
  have hD : va_D A [(ha_, .inr (2, [.ref qx, .ref qy, .ref qa, .ref qb, .int (nI n)])), (qa, .inl (cI, 4, .inl (j4 (mixI (mixI (mixI a0 a1 t) (mixI a1 a2 t) t) (mixI (mixI a1 a2 t) (mixI a2 a3 t) t) t) (mixI (mixI a1 a2 t) (mixI a2 a3 t) t) (mixI a2 a3 t) a3))), (qb, .inl (cI, 4, .inl (j4 (mixI (mixI (mixI b0 b1 t) (mixI b1 b2 t) t) (mixI (mixI b1 b2 t) (mixI b2 b3 t) t) t) (mixI (mixI b1 b2 t) (mixI b2 b3 t) t) (mixI b2 b3 t) b3)))] := hD
  refine lv_iinc (v := 1) (lv' := [(3, .int 1), (2, .int 3), (0, .ref ha_), (1, .int t)]) hx hb d_Arc_keepBehind_64 hl (k := 0) rfl (by first | exact nI_add _ 1 | rfl | decide) (by decide) rfl (fun ls hl => ?_)
  refine lv_goto (tgt := 9) hx hb d_Arc_keepBehind_67 (by decide) ?_
  refine lv_iload_n hx hb d_Arc_keepBehind_9 rfl (lv_at hl 0 rfl) ?_
  refine lv_iconst (v := 3) hx hb d_Arc_keepBehind_10 (by decide) ?_
  refine lv_iload_n hx hb d_Arc_keepBehind_11 rfl (lv_at hl 1 rfl) ?_
  refine lv_isub hx hb d_Arc_keepBehind_12 ?_
  refine tp_i (0) (by decide) ?_
  refine bn_gt (a1 := 1) (b1 := 0) (tgt := 70) hx hb (by omega) (by omega) d_Arc_keepBehind_13 (by decide) (fun c_24 => ?_) (fun c_24 => ?_)
  rotate_left
  · exact absurd c_24 (by decide)
  refine lv_iinc (v := 4) (lv' := [(2, .int 4), (3, .int 1), (0, .ref ha_), (1, .int t)]) hx hb d_Arc_keepBehind_70 hl (k := 1) rfl (by first | exact nI_add _ 1 | rfl | decide) (by decide) rfl (fun ls hl => ?_)
  refine lv_goto (tgt := 2) hx hb d_Arc_keepBehind_73 (by decide) ?_
  refine lv_iload_n hx hb d_Arc_keepBehind_2 rfl (lv_at hl 0 rfl) ?_
  refine lv_iconst (v := 3) hx hb d_Arc_keepBehind_3 (by decide) ?_
  refine bn_gt (a1 := 4) (b1 := 3) (tgt := 76) hx hb (by omega) (by omega) d_Arc_keepBehind_4 (by decide) (fun c_25 => ?_) (fun c_25 => ?_)
  rotate_left
  · exact absurd c_25 (by decide)
  exact ct_retv hQ hx hb hr hlocks hP hD hS () [(ha_, .inr (2, [.ref qx, .ref qy, .ref qa, .ref qb, .int (nI n)])), (qa, .inl (cI, 4, .inl (j4 (mixI (mixI (mixI a0 a1 t) (mixI a1 a2 t) t) (mixI (mixI a1 a2 t) (mixI a2 a3 t) t) t) (mixI (mixI a1 a2 t) (mixI a2 a3 t) t) (mixI a2 a3 t) a3))), (qb, .inl (cI, 4, .inl (j4 (mixI (mixI (mixI b0 b1 t) (mixI b1 b2 t) t) (mixI (mixI b1 b2 t) (mixI b2 b3 t) t) t) (mixI (mixI b1 b2 t) (mixI b2 b3 t) t) (mixI b2 b3 t) b3)))] [0, 1, 2] (rfl) (trivial) (rfl) rfl rfl (by omega) (by omega) d_Arc_keepBehind_76
set_option maxHeartbeats 40000000 in
set_option maxRecDepth 100000 in
/-- takeQuarter -/
theorem c_Arc_takeQuarter (l : Launch) (D : va_G) (cI cB cJ : ClassId) (qQ : Nat) (ha_ : Nat) (qx : Nat) (qy : Nat) (qa : Nat) (qb : Nat) (n : Nat) (a0 : Int32) (a1 : Int32) (a2 : Int32) (a3 : Int32) (b0 : Int32) (b1 : Int32) (b2 : Int32) (b3 : Int32) (q : Int64)  : ct l D cl [(cI, .int), (cB, .byte), (cJ, .long)] (amb qQ) y_Arc_takeQuarter w_Arc_takeQuarter 1 25 (0) (0) [.ref ha_, .long q] [(ha_, .inr (2, [.ref qx, .ref qy, .ref qa, .ref qb, .int (nI n)])), (qa, .inl (cI, 4, .inl (j4 a0 a1 a2 a3))), (qb, .inl (cI, 4, .inl (j4 b0 b1 b2 b3)))] (fun u_ : Int32 × Int32 × Int32 × Int32 × Int32 × Int32 × Int32 × Int32 => match u_ with | (a0', a1', a2', a3', b0', b1', b2', b3') => (a0', a1', a2', a3') = qa4 (fmd q 4) ∧ (b0', b1', b2', b3') = qb4 (fmd q 4)) (fun u_ : Int32 × Int32 × Int32 × Int32 × Int32 × Int32 × Int32 × Int32 => match u_ with | (a0', a1', a2', a3', b0', b1', b2', b3') => none) (fun u_ : Int32 × Int32 × Int32 × Int32 × Int32 × Int32 × Int32 × Int32 => match u_ with | (a0', a1', a2', a3', b0', b1', b2', b3') => [(ha_, .inr (2, [.ref qx, .ref qy, .ref qa, .ref qb, .int (nI n)])), (qa, .inl (cI, 4, .inl (j4 a0' a1' a2' a3'))), (qb, .inl (cI, 4, .inl (j4 b0' b1' b2' b3')))]) := by
  refine ct_ofW (cc := b_Arc_takeQuarter) (maxL := 5) (ret := none) (by decide) rfl (Nat.le_of_ble_eq_true rfl) ?_
  intro p e R s m args below meth c A Q ls hx hb hr hml hts hown hlocks hname hRf hRc hRs hRl hQ hK hP hD hS hA hM hl
  have hl : lv_has ls 5 [(0, .ref ha_), (1, .long q)] := hl
  rcases fmd4 q with h_ | h_ | h_ | h_
  · skip
    refine lv_iconst (v := 0) hx hb d_Arc_takeQuarter_0 (by decide) ?_
    refine lv_istore_n (lv' := [(3, .int 0), (0, .ref ha_), (1, .long q)]) hx hb d_Arc_takeQuarter_1 rfl hl (by decide) rfl (fun ls hl => ?_)
    refine lv_iload_n hx hb d_Arc_takeQuarter_2 rfl (lv_at hl 0 rfl) ?_
    refine lv_iconst (v := 4) hx hb d_Arc_takeQuarter_3 (by decide) ?_
    refine bn_ge (a1 := 0) (b1 := 4) (tgt := 41) hx hb (by omega) (by omega) d_Arc_takeQuarter_4 (by decide) (fun c_1 => ?_) (fun c_1 => ?_)
    · exact absurd c_1 (by decide)
    refine lv_aload_n hx hb d_Arc_takeQuarter_7 rfl (lv_at hl 1 rfl) ?_
    refine va_get (D := D) (ci := 2) (v := .ref qa) (C := R_Arc) (T := T_Arc) (N := 5) hx hb hts (ui_Arc _) hown hK hP 0 rfl rfl 2 (by decide) (hts _ (gwc gw_73)) (fun _ h9 => h9) rfl d_Arc_takeQuarter_8 ?_
    refine lv_iload_n hx hb d_Arc_takeQuarter_11 rfl (lv_at hl 0 rfl) ?_
    refine va_getsN (C := "CurvePaths") (n := "QUARTER") (d := "[I") (v := .ref qQ) hx hb (amb_z hM) hS hown ((amb_nw_4 hM).use rfl) (fun _ h9 => h9) d_Arc_takeQuarter_12 ?_
    refine lv_iconst (v := 2) hx hb d_Arc_takeQuarter_15 (by decide) ?_
    refine lv_iload_n hx hb d_Arc_takeQuarter_16 rfl (lv_at hl 0 rfl) ?_
    refine lv_imul hx hb d_Arc_takeQuarter_17 ?_
    refine tp_i (0) (by decide) ?_
    refine va_ti (i := nI 0) (v := .int 65536) hx hb (amb_t hM) hS (vp_in_nI (by decide) (by decide)) rfl d_Arc_takeQuarter_18 ?_
    refine sf_i (j4 65536 a1 a2 a3) hx hb hK hP hD hS 1 0 rfl rfl 0 j4_0 (by decide) (by decide) d_Arc_takeQuarter_19 (fun H locs hP hD hS => ?_)
    have hP : va_P D cl [(ha_, .inr (2, [.ref qx, .ref qy, .ref qa, .ref qb, .int (nI n)])), (qa, .inl (cI, 4, .inl (j4 65536 a1 a2 a3))), (qb, .inl (cI, 4, .inl (j4 b0 b1 b2 b3)))] H := hP
    have hD : va_D A [(ha_, .inr (2, [.ref qx, .ref qy, .ref qa, .ref qb, .int (nI n)])), (qa, .inl (cI, 4, .inl (j4 65536 a1 a2 a3))), (qb, .inl (cI, 4, .inl (j4 b0 b1 b2 b3)))] := hD
    refine lv_aload_n hx hb d_Arc_takeQuarter_20 rfl (lv_at hl 1 rfl) ?_
    refine va_get (D := D) (ci := 2) (v := .ref qb) (C := R_Arc) (T := T_Arc) (N := 5) hx hb hts (ui_Arc _) hown hK hP 0 rfl rfl 3 (by decide) (hts _ (gwc gw_74)) (fun _ h9 => h9) rfl d_Arc_takeQuarter_21 ?_
    refine lv_iload_n hx hb d_Arc_takeQuarter_24 rfl (lv_at hl 0 rfl) ?_
    refine va_getsN (C := "CurvePaths") (n := "QUARTER") (d := "[I") (v := .ref qQ) hx hb (amb_z hM) hS hown ((amb_nw_4 hM).use rfl) (fun _ h9 => h9) d_Arc_takeQuarter_25 ?_
    refine lv_iconst (v := 2) hx hb d_Arc_takeQuarter_28 (by decide) ?_
    refine lv_iload_n hx hb d_Arc_takeQuarter_29 rfl (lv_at hl 0 rfl) ?_
    refine lv_imul hx hb d_Arc_takeQuarter_30 ?_
    refine tp_i (0) (by decide) ?_
    refine lv_iconst (v := 1) hx hb d_Arc_takeQuarter_31 (by decide) ?_
    refine lv_iadd hx hb d_Arc_takeQuarter_32 ?_
    refine tp_i (1) (by decide) ?_
    refine va_ti (i := nI 1) (v := .int 0) hx hb (amb_t hM) hS (vp_in_nI (by decide) (by decide)) rfl d_Arc_takeQuarter_33 ?_
    refine sf_i (j4 0 b1 b2 b3) hx hb hK hP hD hS 2 0 rfl rfl 0 j4_0 (by decide) (by decide) d_Arc_takeQuarter_34 (fun H locs hP hD hS => ?_)
    have hP : va_P D cl [(ha_, .inr (2, [.ref qx, .ref qy, .ref qa, .ref qb, .int (nI n)])), (qa, .inl (cI, 4, .inl (j4 65536 a1 a2 a3))), (qb, .inl (cI, 4, .inl (j4 0 b1 b2 b3)))] H := hP
    have hD : va_D A [(ha_, .inr (2, [.ref qx, .ref qy, .ref qa, .ref qb, .int (nI n)])), (qa, .inl (cI, 4, .inl (j4 65536 a1 a2 a3))), (qb, .inl (cI, 4, .inl (j4 0 b1 b2 b3)))] := hD
    refine lv_iinc (v := 1) (lv' := [(3, .int 1), (0, .ref ha_), (1, .long q)]) hx hb d_Arc_takeQuarter_35 hl (k := 0) rfl (by first | exact nI_add _ 1 | rfl | decide) (by decide) rfl (fun ls hl => ?_)
    refine lv_goto (tgt := 2) hx hb d_Arc_takeQuarter_38 (by decide) ?_
    refine lv_iload_n hx hb d_Arc_takeQuarter_2 rfl (lv_at hl 0 rfl) ?_
    refine lv_iconst (v := 4) hx hb d_Arc_takeQuarter_3 (by decide) ?_
    refine bn_ge (a1 := 1) (b1 := 4) (tgt := 41) hx hb (by omega) (by omega) d_Arc_takeQuarter_4 (by decide) (fun c_2 => ?_) (fun c_2 => ?_)
    · exact absurd c_2 (by decide)
    refine lv_aload_n hx hb d_Arc_takeQuarter_7 rfl (lv_at hl 1 rfl) ?_
    refine va_get (D := D) (ci := 2) (v := .ref qa) (C := R_Arc) (T := T_Arc) (N := 5) hx hb hts (ui_Arc _) hown hK hP 0 rfl rfl 2 (by decide) (hts _ (gwc gw_73)) (fun _ h9 => h9) rfl d_Arc_takeQuarter_8 ?_
    refine lv_iload_n hx hb d_Arc_takeQuarter_11 rfl (lv_at hl 0 rfl) ?_
    refine va_getsN (C := "CurvePaths") (n := "QUARTER") (d := "[I") (v := .ref qQ) hx hb (amb_z hM) hS hown ((amb_nw_4 hM).use rfl) (fun _ h9 => h9) d_Arc_takeQuarter_12 ?_
    refine lv_iconst (v := 2) hx hb d_Arc_takeQuarter_15 (by decide) ?_
    refine lv_iload_n hx hb d_Arc_takeQuarter_16 rfl (lv_at hl 0 rfl) ?_
    refine lv_imul hx hb d_Arc_takeQuarter_17 ?_
    refine tp_i (2) (by decide) ?_
    refine va_ti (i := nI 2) (v := .int 65536) hx hb (amb_t hM) hS (vp_in_nI (by decide) (by decide)) rfl d_Arc_takeQuarter_18 ?_
    refine sf_i (j4 65536 65536 a2 a3) hx hb hK hP hD hS 1 0 rfl rfl 1 j4_1 (by decide) (by decide) d_Arc_takeQuarter_19 (fun H locs hP hD hS => ?_)
    have hP : va_P D cl [(ha_, .inr (2, [.ref qx, .ref qy, .ref qa, .ref qb, .int (nI n)])), (qa, .inl (cI, 4, .inl (j4 65536 65536 a2 a3))), (qb, .inl (cI, 4, .inl (j4 0 b1 b2 b3)))] H := hP
    have hD : va_D A [(ha_, .inr (2, [.ref qx, .ref qy, .ref qa, .ref qb, .int (nI n)])), (qa, .inl (cI, 4, .inl (j4 65536 65536 a2 a3))), (qb, .inl (cI, 4, .inl (j4 0 b1 b2 b3)))] := hD
    refine lv_aload_n hx hb d_Arc_takeQuarter_20 rfl (lv_at hl 1 rfl) ?_
    refine va_get (D := D) (ci := 2) (v := .ref qb) (C := R_Arc) (T := T_Arc) (N := 5) hx hb hts (ui_Arc _) hown hK hP 0 rfl rfl 3 (by decide) (hts _ (gwc gw_74)) (fun _ h9 => h9) rfl d_Arc_takeQuarter_21 ?_
    refine lv_iload_n hx hb d_Arc_takeQuarter_24 rfl (lv_at hl 0 rfl) ?_
    refine va_getsN (C := "CurvePaths") (n := "QUARTER") (d := "[I") (v := .ref qQ) hx hb (amb_z hM) hS hown ((amb_nw_4 hM).use rfl) (fun _ h9 => h9) d_Arc_takeQuarter_25 ?_
    refine lv_iconst (v := 2) hx hb d_Arc_takeQuarter_28 (by decide) ?_
    refine lv_iload_n hx hb d_Arc_takeQuarter_29 rfl (lv_at hl 0 rfl) ?_
    refine lv_imul hx hb d_Arc_takeQuarter_30 ?_
    refine tp_i (2) (by decide) ?_
    refine lv_iconst (v := 1) hx hb d_Arc_takeQuarter_31 (by decide) ?_
    refine lv_iadd hx hb d_Arc_takeQuarter_32 ?_
    refine tp_i (3) (by decide) ?_
    refine va_ti (i := nI 3) (v := .int 36195) hx hb (amb_t hM) hS (vp_in_nI (by decide) (by decide)) rfl d_Arc_takeQuarter_33 ?_
    refine sf_i (j4 0 36195 b2 b3) hx hb hK hP hD hS 2 0 rfl rfl 1 j4_1 (by decide) (by decide) d_Arc_takeQuarter_34 (fun H locs hP hD hS => ?_)
    have hP : va_P D cl [(ha_, .inr (2, [.ref qx, .ref qy, .ref qa, .ref qb, .int (nI n)])), (qa, .inl (cI, 4, .inl (j4 65536 65536 a2 a3))), (qb, .inl (cI, 4, .inl (j4 0 36195 b2 b3)))] H := hP
    have hD : va_D A [(ha_, .inr (2, [.ref qx, .ref qy, .ref qa, .ref qb, .int (nI n)])), (qa, .inl (cI, 4, .inl (j4 65536 65536 a2 a3))), (qb, .inl (cI, 4, .inl (j4 0 36195 b2 b3)))] := hD
    refine lv_iinc (v := 2) (lv' := [(3, .int 2), (0, .ref ha_), (1, .long q)]) hx hb d_Arc_takeQuarter_35 hl (k := 0) rfl (by first | exact nI_add _ 1 | rfl | decide) (by decide) rfl (fun ls hl => ?_)
    refine lv_goto (tgt := 2) hx hb d_Arc_takeQuarter_38 (by decide) ?_
    refine lv_iload_n hx hb d_Arc_takeQuarter_2 rfl (lv_at hl 0 rfl) ?_
    refine lv_iconst (v := 4) hx hb d_Arc_takeQuarter_3 (by decide) ?_
    refine bn_ge (a1 := 2) (b1 := 4) (tgt := 41) hx hb (by omega) (by omega) d_Arc_takeQuarter_4 (by decide) (fun c_3 => ?_) (fun c_3 => ?_)
    · exact absurd c_3 (by decide)
    refine lv_aload_n hx hb d_Arc_takeQuarter_7 rfl (lv_at hl 1 rfl) ?_
    refine va_get (D := D) (ci := 2) (v := .ref qa) (C := R_Arc) (T := T_Arc) (N := 5) hx hb hts (ui_Arc _) hown hK hP 0 rfl rfl 2 (by decide) (hts _ (gwc gw_73)) (fun _ h9 => h9) rfl d_Arc_takeQuarter_8 ?_
    refine lv_iload_n hx hb d_Arc_takeQuarter_11 rfl (lv_at hl 0 rfl) ?_
    refine va_getsN (C := "CurvePaths") (n := "QUARTER") (d := "[I") (v := .ref qQ) hx hb (amb_z hM) hS hown ((amb_nw_4 hM).use rfl) (fun _ h9 => h9) d_Arc_takeQuarter_12 ?_
    refine lv_iconst (v := 2) hx hb d_Arc_takeQuarter_15 (by decide) ?_
    refine lv_iload_n hx hb d_Arc_takeQuarter_16 rfl (lv_at hl 0 rfl) ?_
    refine lv_imul hx hb d_Arc_takeQuarter_17 ?_
    refine tp_i (4) (by decide) ?_
    refine va_ti (i := nI 4) (v := .int 36195) hx hb (amb_t hM) hS (vp_in_nI (by decide) (by decide)) rfl d_Arc_takeQuarter_18 ?_
    refine sf_i (j4 65536 65536 36195 a3) hx hb hK hP hD hS 1 0 rfl rfl 2 j4_2 (by decide) (by decide) d_Arc_takeQuarter_19 (fun H locs hP hD hS => ?_)
    have hP : va_P D cl [(ha_, .inr (2, [.ref qx, .ref qy, .ref qa, .ref qb, .int (nI n)])), (qa, .inl (cI, 4, .inl (j4 65536 65536 36195 a3))), (qb, .inl (cI, 4, .inl (j4 0 36195 b2 b3)))] H := hP
    have hD : va_D A [(ha_, .inr (2, [.ref qx, .ref qy, .ref qa, .ref qb, .int (nI n)])), (qa, .inl (cI, 4, .inl (j4 65536 65536 36195 a3))), (qb, .inl (cI, 4, .inl (j4 0 36195 b2 b3)))] := hD
    refine lv_aload_n hx hb d_Arc_takeQuarter_20 rfl (lv_at hl 1 rfl) ?_
    refine va_get (D := D) (ci := 2) (v := .ref qb) (C := R_Arc) (T := T_Arc) (N := 5) hx hb hts (ui_Arc _) hown hK hP 0 rfl rfl 3 (by decide) (hts _ (gwc gw_74)) (fun _ h9 => h9) rfl d_Arc_takeQuarter_21 ?_
    refine lv_iload_n hx hb d_Arc_takeQuarter_24 rfl (lv_at hl 0 rfl) ?_
    refine va_getsN (C := "CurvePaths") (n := "QUARTER") (d := "[I") (v := .ref qQ) hx hb (amb_z hM) hS hown ((amb_nw_4 hM).use rfl) (fun _ h9 => h9) d_Arc_takeQuarter_25 ?_
    refine lv_iconst (v := 2) hx hb d_Arc_takeQuarter_28 (by decide) ?_
    refine lv_iload_n hx hb d_Arc_takeQuarter_29 rfl (lv_at hl 0 rfl) ?_
    refine lv_imul hx hb d_Arc_takeQuarter_30 ?_
    refine tp_i (4) (by decide) ?_
    refine lv_iconst (v := 1) hx hb d_Arc_takeQuarter_31 (by decide) ?_
    refine lv_iadd hx hb d_Arc_takeQuarter_32 ?_
    refine tp_i (5) (by decide) ?_
    refine va_ti (i := nI 5) (v := .int 65536) hx hb (amb_t hM) hS (vp_in_nI (by decide) (by decide)) rfl d_Arc_takeQuarter_33 ?_
    refine sf_i (j4 0 36195 65536 b3) hx hb hK hP hD hS 2 0 rfl rfl 2 j4_2 (by decide) (by decide) d_Arc_takeQuarter_34 (fun H locs hP hD hS => ?_)
    have hP : va_P D cl [(ha_, .inr (2, [.ref qx, .ref qy, .ref qa, .ref qb, .int (nI n)])), (qa, .inl (cI, 4, .inl (j4 65536 65536 36195 a3))), (qb, .inl (cI, 4, .inl (j4 0 36195 65536 b3)))] H := hP
    have hD : va_D A [(ha_, .inr (2, [.ref qx, .ref qy, .ref qa, .ref qb, .int (nI n)])), (qa, .inl (cI, 4, .inl (j4 65536 65536 36195 a3))), (qb, .inl (cI, 4, .inl (j4 0 36195 65536 b3)))] := hD
    refine lv_iinc (v := 3) (lv' := [(3, .int 3), (0, .ref ha_), (1, .long q)]) hx hb d_Arc_takeQuarter_35 hl (k := 0) rfl (by first | exact nI_add _ 1 | rfl | decide) (by decide) rfl (fun ls hl => ?_)
    refine lv_goto (tgt := 2) hx hb d_Arc_takeQuarter_38 (by decide) ?_
    refine lv_iload_n hx hb d_Arc_takeQuarter_2 rfl (lv_at hl 0 rfl) ?_
    refine lv_iconst (v := 4) hx hb d_Arc_takeQuarter_3 (by decide) ?_
    refine bn_ge (a1 := 3) (b1 := 4) (tgt := 41) hx hb (by omega) (by omega) d_Arc_takeQuarter_4 (by decide) (fun c_4 => ?_) (fun c_4 => ?_)
    · exact absurd c_4 (by decide)
    refine lv_aload_n hx hb d_Arc_takeQuarter_7 rfl (lv_at hl 1 rfl) ?_
    refine va_get (D := D) (ci := 2) (v := .ref qa) (C := R_Arc) (T := T_Arc) (N := 5) hx hb hts (ui_Arc _) hown hK hP 0 rfl rfl 2 (by decide) (hts _ (gwc gw_73)) (fun _ h9 => h9) rfl d_Arc_takeQuarter_8 ?_
    refine lv_iload_n hx hb d_Arc_takeQuarter_11 rfl (lv_at hl 0 rfl) ?_
    refine va_getsN (C := "CurvePaths") (n := "QUARTER") (d := "[I") (v := .ref qQ) hx hb (amb_z hM) hS hown ((amb_nw_4 hM).use rfl) (fun _ h9 => h9) d_Arc_takeQuarter_12 ?_
    refine lv_iconst (v := 2) hx hb d_Arc_takeQuarter_15 (by decide) ?_
    refine lv_iload_n hx hb d_Arc_takeQuarter_16 rfl (lv_at hl 0 rfl) ?_
    refine lv_imul hx hb d_Arc_takeQuarter_17 ?_
    refine tp_i (6) (by decide) ?_
    refine va_ti (i := nI 6) (v := .int 0) hx hb (amb_t hM) hS (vp_in_nI (by decide) (by decide)) rfl d_Arc_takeQuarter_18 ?_
    refine sf_i (j4 65536 65536 36195 0) hx hb hK hP hD hS 1 0 rfl rfl 3 j4_3 (by decide) (by decide) d_Arc_takeQuarter_19 (fun H locs hP hD hS => ?_)
    have hP : va_P D cl [(ha_, .inr (2, [.ref qx, .ref qy, .ref qa, .ref qb, .int (nI n)])), (qa, .inl (cI, 4, .inl (j4 65536 65536 36195 0))), (qb, .inl (cI, 4, .inl (j4 0 36195 65536 b3)))] H := hP
    have hD : va_D A [(ha_, .inr (2, [.ref qx, .ref qy, .ref qa, .ref qb, .int (nI n)])), (qa, .inl (cI, 4, .inl (j4 65536 65536 36195 0))), (qb, .inl (cI, 4, .inl (j4 0 36195 65536 b3)))] := hD
    refine lv_aload_n hx hb d_Arc_takeQuarter_20 rfl (lv_at hl 1 rfl) ?_
    refine va_get (D := D) (ci := 2) (v := .ref qb) (C := R_Arc) (T := T_Arc) (N := 5) hx hb hts (ui_Arc _) hown hK hP 0 rfl rfl 3 (by decide) (hts _ (gwc gw_74)) (fun _ h9 => h9) rfl d_Arc_takeQuarter_21 ?_
    refine lv_iload_n hx hb d_Arc_takeQuarter_24 rfl (lv_at hl 0 rfl) ?_
    refine va_getsN (C := "CurvePaths") (n := "QUARTER") (d := "[I") (v := .ref qQ) hx hb (amb_z hM) hS hown ((amb_nw_4 hM).use rfl) (fun _ h9 => h9) d_Arc_takeQuarter_25 ?_
    refine lv_iconst (v := 2) hx hb d_Arc_takeQuarter_28 (by decide) ?_
    refine lv_iload_n hx hb d_Arc_takeQuarter_29 rfl (lv_at hl 0 rfl) ?_
    refine lv_imul hx hb d_Arc_takeQuarter_30 ?_
    refine tp_i (6) (by decide) ?_
    refine lv_iconst (v := 1) hx hb d_Arc_takeQuarter_31 (by decide) ?_
    refine lv_iadd hx hb d_Arc_takeQuarter_32 ?_
    refine tp_i (7) (by decide) ?_
    refine va_ti (i := nI 7) (v := .int 65536) hx hb (amb_t hM) hS (vp_in_nI (by decide) (by decide)) rfl d_Arc_takeQuarter_33 ?_
    refine sf_i (j4 0 36195 65536 65536) hx hb hK hP hD hS 2 0 rfl rfl 3 j4_3 (by decide) (by decide) d_Arc_takeQuarter_34 (fun H locs hP hD hS => ?_)
    have hP : va_P D cl [(ha_, .inr (2, [.ref qx, .ref qy, .ref qa, .ref qb, .int (nI n)])), (qa, .inl (cI, 4, .inl (j4 65536 65536 36195 0))), (qb, .inl (cI, 4, .inl (j4 0 36195 65536 65536)))] H := hP
    have hD : va_D A [(ha_, .inr (2, [.ref qx, .ref qy, .ref qa, .ref qb, .int (nI n)])), (qa, .inl (cI, 4, .inl (j4 65536 65536 36195 0))), (qb, .inl (cI, 4, .inl (j4 0 36195 65536 65536)))] := hD
    refine lv_iinc (v := 4) (lv' := [(3, .int 4), (0, .ref ha_), (1, .long q)]) hx hb d_Arc_takeQuarter_35 hl (k := 0) rfl (by first | exact nI_add _ 1 | rfl | decide) (by decide) rfl (fun ls hl => ?_)
    refine lv_goto (tgt := 2) hx hb d_Arc_takeQuarter_38 (by decide) ?_
    refine lv_iload_n hx hb d_Arc_takeQuarter_2 rfl (lv_at hl 0 rfl) ?_
    refine lv_iconst (v := 4) hx hb d_Arc_takeQuarter_3 (by decide) ?_
    refine bn_ge (a1 := 4) (b1 := 4) (tgt := 41) hx hb (by omega) (by omega) d_Arc_takeQuarter_4 (by decide) (fun c_5 => ?_) (fun c_5 => ?_)
    rotate_left
    · exact absurd c_5 (by decide)
    refine lv_lload_n hx hb d_Arc_takeQuarter_41 rfl (lv_at hl 2 rfl) ?_
    refine lv_ldc2 (v := 4) hx hb hown (hts _ (gwc gw_283)) d_Arc_takeQuarter_42 ?_
    refine ct_callS (av := [.long q, .long 4]) (rest := []) (wr := [(ha_, .inr (2, [.ref qx, .ref qy, .ref qa, .ref qb, .int (nI n)])), (qa, .inl (cI, 4, .inl (j4 65536 65536 36195 0))), (qb, .inl (cI, 4, .inl (j4 0 36195 65536 65536)))]) (n := 2) (c_floorMod l D cI cB cJ qQ  q 4 (by decide)) hx hb hml hown hts (amb_ok qQ) hK hP hD hS hA hM (gi_S gw_284 gw_250 gw_35 gw_251) rfl (by decide +kernel) ⟨by omega, by omega⟩ [] [0, 1, 2] rfl rfl rfl rfl (by decide) rfl hl.1 rfl (Nat.le_of_ble_eq_true rfl) d_Arc_takeQuarter_45 ⟨by omega, by omega⟩ (fun u_6 H locs hok hP hD hS => ?_)
    have hP : va_P D cl [(ha_, .inr (2, [.ref qx, .ref qy, .ref qa, .ref qb, .int (nI n)])), (qa, .inl (cI, 4, .inl (j4 65536 65536 36195 0))), (qb, .inl (cI, 4, .inl (j4 0 36195 65536 65536)))] H := hP
    have hD : va_D A [(ha_, .inr (2, [.ref qx, .ref qy, .ref qa, .ref qb, .int (nI n)])), (qa, .inl (cI, 4, .inl (j4 65536 65536 36195 0))), (qb, .inl (cI, 4, .inl (j4 0 36195 65536 65536)))] := hD
    refine W.eq (g2 := F0 m 48 ls [.long (fmd q 4)]) rfl ?_
    refine tp_l (0) (h_) ?_
    refine lv_l2i (v := 0) hx hb d_Arc_takeQuarter_48 (by decide) ?_
    refine lv_istore_n (lv' := [(3, .int 0), (0, .ref ha_), (1, .long q)]) hx hb d_Arc_takeQuarter_49 rfl hl (by decide) rfl (fun ls hl => ?_)
    refine lv_iconst (v := 0) hx hb d_Arc_takeQuarter_50 (by decide) ?_
    refine lv_istore (lv' := [(4, .int 0), (3, .int 0), (0, .ref ha_), (1, .long q)]) hx hb d_Arc_takeQuarter_51 hl (by decide) rfl (fun ls hl => ?_)
    refine lv_iload hx hb d_Arc_takeQuarter_53 (lv_at hl 0 rfl) ?_
    refine lv_iload_n hx hb d_Arc_takeQuarter_55 rfl (lv_at hl 1 rfl) ?_
    refine bn_ge (a1 := 0) (b1 := 0) (tgt := 69) hx hb (by omega) (by omega) d_Arc_takeQuarter_56 (by decide) (fun c_7 => ?_) (fun c_7 => ?_)
    rotate_left
    · exact absurd c_7 (by decide)
    exact ct_retv hQ hx hb hr hlocks hP hD hS (65536, 65536, 36195, 0, 0, 36195, 65536, 65536) [(ha_, .inr (2, [.ref qx, .ref qy, .ref qa, .ref qb, .int (nI n)])), (qa, .inl (cI, 4, .inl (j4 65536 65536 36195 0))), (qb, .inl (cI, 4, .inl (j4 0 36195 65536 65536)))] [0, 1, 2] (rfl) (⟨by rw [h_]; first | exact rfl | (dsimp only; decide), by rw [h_]; first | exact rfl | (dsimp only; decide)⟩) (rfl) rfl rfl (by omega) (by omega) d_Arc_takeQuarter_69
  · skip
    refine lv_iconst (v := 0) hx hb d_Arc_takeQuarter_0 (by decide) ?_
    refine lv_istore_n (lv' := [(3, .int 0), (0, .ref ha_), (1, .long q)]) hx hb d_Arc_takeQuarter_1 rfl hl (by decide) rfl (fun ls hl => ?_)
    refine lv_iload_n hx hb d_Arc_takeQuarter_2 rfl (lv_at hl 0 rfl) ?_
    refine lv_iconst (v := 4) hx hb d_Arc_takeQuarter_3 (by decide) ?_
    refine bn_ge (a1 := 0) (b1 := 4) (tgt := 41) hx hb (by omega) (by omega) d_Arc_takeQuarter_4 (by decide) (fun c_8 => ?_) (fun c_8 => ?_)
    · exact absurd c_8 (by decide)
    refine lv_aload_n hx hb d_Arc_takeQuarter_7 rfl (lv_at hl 1 rfl) ?_
    refine va_get (D := D) (ci := 2) (v := .ref qa) (C := R_Arc) (T := T_Arc) (N := 5) hx hb hts (ui_Arc _) hown hK hP 0 rfl rfl 2 (by decide) (hts _ (gwc gw_73)) (fun _ h9 => h9) rfl d_Arc_takeQuarter_8 ?_
    refine lv_iload_n hx hb d_Arc_takeQuarter_11 rfl (lv_at hl 0 rfl) ?_
    refine va_getsN (C := "CurvePaths") (n := "QUARTER") (d := "[I") (v := .ref qQ) hx hb (amb_z hM) hS hown ((amb_nw_4 hM).use rfl) (fun _ h9 => h9) d_Arc_takeQuarter_12 ?_
    refine lv_iconst (v := 2) hx hb d_Arc_takeQuarter_15 (by decide) ?_
    refine lv_iload_n hx hb d_Arc_takeQuarter_16 rfl (lv_at hl 0 rfl) ?_
    refine lv_imul hx hb d_Arc_takeQuarter_17 ?_
    refine tp_i (0) (by decide) ?_
    refine va_ti (i := nI 0) (v := .int 65536) hx hb (amb_t hM) hS (vp_in_nI (by decide) (by decide)) rfl d_Arc_takeQuarter_18 ?_
    refine sf_i (j4 65536 a1 a2 a3) hx hb hK hP hD hS 1 0 rfl rfl 0 j4_0 (by decide) (by decide) d_Arc_takeQuarter_19 (fun H locs hP hD hS => ?_)
    have hP : va_P D cl [(ha_, .inr (2, [.ref qx, .ref qy, .ref qa, .ref qb, .int (nI n)])), (qa, .inl (cI, 4, .inl (j4 65536 a1 a2 a3))), (qb, .inl (cI, 4, .inl (j4 b0 b1 b2 b3)))] H := hP
    have hD : va_D A [(ha_, .inr (2, [.ref qx, .ref qy, .ref qa, .ref qb, .int (nI n)])), (qa, .inl (cI, 4, .inl (j4 65536 a1 a2 a3))), (qb, .inl (cI, 4, .inl (j4 b0 b1 b2 b3)))] := hD
    refine lv_aload_n hx hb d_Arc_takeQuarter_20 rfl (lv_at hl 1 rfl) ?_
    refine va_get (D := D) (ci := 2) (v := .ref qb) (C := R_Arc) (T := T_Arc) (N := 5) hx hb hts (ui_Arc _) hown hK hP 0 rfl rfl 3 (by decide) (hts _ (gwc gw_74)) (fun _ h9 => h9) rfl d_Arc_takeQuarter_21 ?_
    refine lv_iload_n hx hb d_Arc_takeQuarter_24 rfl (lv_at hl 0 rfl) ?_
    refine va_getsN (C := "CurvePaths") (n := "QUARTER") (d := "[I") (v := .ref qQ) hx hb (amb_z hM) hS hown ((amb_nw_4 hM).use rfl) (fun _ h9 => h9) d_Arc_takeQuarter_25 ?_
    refine lv_iconst (v := 2) hx hb d_Arc_takeQuarter_28 (by decide) ?_
    refine lv_iload_n hx hb d_Arc_takeQuarter_29 rfl (lv_at hl 0 rfl) ?_
    refine lv_imul hx hb d_Arc_takeQuarter_30 ?_
    refine tp_i (0) (by decide) ?_
    refine lv_iconst (v := 1) hx hb d_Arc_takeQuarter_31 (by decide) ?_
    refine lv_iadd hx hb d_Arc_takeQuarter_32 ?_
    refine tp_i (1) (by decide) ?_
    refine va_ti (i := nI 1) (v := .int 0) hx hb (amb_t hM) hS (vp_in_nI (by decide) (by decide)) rfl d_Arc_takeQuarter_33 ?_
    refine sf_i (j4 0 b1 b2 b3) hx hb hK hP hD hS 2 0 rfl rfl 0 j4_0 (by decide) (by decide) d_Arc_takeQuarter_34 (fun H locs hP hD hS => ?_)
    have hP : va_P D cl [(ha_, .inr (2, [.ref qx, .ref qy, .ref qa, .ref qb, .int (nI n)])), (qa, .inl (cI, 4, .inl (j4 65536 a1 a2 a3))), (qb, .inl (cI, 4, .inl (j4 0 b1 b2 b3)))] H := hP
    have hD : va_D A [(ha_, .inr (2, [.ref qx, .ref qy, .ref qa, .ref qb, .int (nI n)])), (qa, .inl (cI, 4, .inl (j4 65536 a1 a2 a3))), (qb, .inl (cI, 4, .inl (j4 0 b1 b2 b3)))] := hD
    refine lv_iinc (v := 1) (lv' := [(3, .int 1), (0, .ref ha_), (1, .long q)]) hx hb d_Arc_takeQuarter_35 hl (k := 0) rfl (by first | exact nI_add _ 1 | rfl | decide) (by decide) rfl (fun ls hl => ?_)
    refine lv_goto (tgt := 2) hx hb d_Arc_takeQuarter_38 (by decide) ?_
    refine lv_iload_n hx hb d_Arc_takeQuarter_2 rfl (lv_at hl 0 rfl) ?_
    refine lv_iconst (v := 4) hx hb d_Arc_takeQuarter_3 (by decide) ?_
    refine bn_ge (a1 := 1) (b1 := 4) (tgt := 41) hx hb (by omega) (by omega) d_Arc_takeQuarter_4 (by decide) (fun c_9 => ?_) (fun c_9 => ?_)
    · exact absurd c_9 (by decide)
    refine lv_aload_n hx hb d_Arc_takeQuarter_7 rfl (lv_at hl 1 rfl) ?_
    refine va_get (D := D) (ci := 2) (v := .ref qa) (C := R_Arc) (T := T_Arc) (N := 5) hx hb hts (ui_Arc _) hown hK hP 0 rfl rfl 2 (by decide) (hts _ (gwc gw_73)) (fun _ h9 => h9) rfl d_Arc_takeQuarter_8 ?_
    refine lv_iload_n hx hb d_Arc_takeQuarter_11 rfl (lv_at hl 0 rfl) ?_
    refine va_getsN (C := "CurvePaths") (n := "QUARTER") (d := "[I") (v := .ref qQ) hx hb (amb_z hM) hS hown ((amb_nw_4 hM).use rfl) (fun _ h9 => h9) d_Arc_takeQuarter_12 ?_
    refine lv_iconst (v := 2) hx hb d_Arc_takeQuarter_15 (by decide) ?_
    refine lv_iload_n hx hb d_Arc_takeQuarter_16 rfl (lv_at hl 0 rfl) ?_
    refine lv_imul hx hb d_Arc_takeQuarter_17 ?_
    refine tp_i (2) (by decide) ?_
    refine va_ti (i := nI 2) (v := .int 65536) hx hb (amb_t hM) hS (vp_in_nI (by decide) (by decide)) rfl d_Arc_takeQuarter_18 ?_
    refine sf_i (j4 65536 65536 a2 a3) hx hb hK hP hD hS 1 0 rfl rfl 1 j4_1 (by decide) (by decide) d_Arc_takeQuarter_19 (fun H locs hP hD hS => ?_)
    have hP : va_P D cl [(ha_, .inr (2, [.ref qx, .ref qy, .ref qa, .ref qb, .int (nI n)])), (qa, .inl (cI, 4, .inl (j4 65536 65536 a2 a3))), (qb, .inl (cI, 4, .inl (j4 0 b1 b2 b3)))] H := hP
    have hD : va_D A [(ha_, .inr (2, [.ref qx, .ref qy, .ref qa, .ref qb, .int (nI n)])), (qa, .inl (cI, 4, .inl (j4 65536 65536 a2 a3))), (qb, .inl (cI, 4, .inl (j4 0 b1 b2 b3)))] := hD
    refine lv_aload_n hx hb d_Arc_takeQuarter_20 rfl (lv_at hl 1 rfl) ?_
    refine va_get (D := D) (ci := 2) (v := .ref qb) (C := R_Arc) (T := T_Arc) (N := 5) hx hb hts (ui_Arc _) hown hK hP 0 rfl rfl 3 (by decide) (hts _ (gwc gw_74)) (fun _ h9 => h9) rfl d_Arc_takeQuarter_21 ?_
    refine lv_iload_n hx hb d_Arc_takeQuarter_24 rfl (lv_at hl 0 rfl) ?_
    refine va_getsN (C := "CurvePaths") (n := "QUARTER") (d := "[I") (v := .ref qQ) hx hb (amb_z hM) hS hown ((amb_nw_4 hM).use rfl) (fun _ h9 => h9) d_Arc_takeQuarter_25 ?_
    refine lv_iconst (v := 2) hx hb d_Arc_takeQuarter_28 (by decide) ?_
    refine lv_iload_n hx hb d_Arc_takeQuarter_29 rfl (lv_at hl 0 rfl) ?_
    refine lv_imul hx hb d_Arc_takeQuarter_30 ?_
    refine tp_i (2) (by decide) ?_
    refine lv_iconst (v := 1) hx hb d_Arc_takeQuarter_31 (by decide) ?_
    refine lv_iadd hx hb d_Arc_takeQuarter_32 ?_
    refine tp_i (3) (by decide) ?_
    refine va_ti (i := nI 3) (v := .int 36195) hx hb (amb_t hM) hS (vp_in_nI (by decide) (by decide)) rfl d_Arc_takeQuarter_33 ?_
    refine sf_i (j4 0 36195 b2 b3) hx hb hK hP hD hS 2 0 rfl rfl 1 j4_1 (by decide) (by decide) d_Arc_takeQuarter_34 (fun H locs hP hD hS => ?_)
    have hP : va_P D cl [(ha_, .inr (2, [.ref qx, .ref qy, .ref qa, .ref qb, .int (nI n)])), (qa, .inl (cI, 4, .inl (j4 65536 65536 a2 a3))), (qb, .inl (cI, 4, .inl (j4 0 36195 b2 b3)))] H := hP
    have hD : va_D A [(ha_, .inr (2, [.ref qx, .ref qy, .ref qa, .ref qb, .int (nI n)])), (qa, .inl (cI, 4, .inl (j4 65536 65536 a2 a3))), (qb, .inl (cI, 4, .inl (j4 0 36195 b2 b3)))] := hD
    refine lv_iinc (v := 2) (lv' := [(3, .int 2), (0, .ref ha_), (1, .long q)]) hx hb d_Arc_takeQuarter_35 hl (k := 0) rfl (by first | exact nI_add _ 1 | rfl | decide) (by decide) rfl (fun ls hl => ?_)
    refine lv_goto (tgt := 2) hx hb d_Arc_takeQuarter_38 (by decide) ?_
    refine lv_iload_n hx hb d_Arc_takeQuarter_2 rfl (lv_at hl 0 rfl) ?_
    refine lv_iconst (v := 4) hx hb d_Arc_takeQuarter_3 (by decide) ?_
    refine bn_ge (a1 := 2) (b1 := 4) (tgt := 41) hx hb (by omega) (by omega) d_Arc_takeQuarter_4 (by decide) (fun c_10 => ?_) (fun c_10 => ?_)
    · exact absurd c_10 (by decide)
    refine lv_aload_n hx hb d_Arc_takeQuarter_7 rfl (lv_at hl 1 rfl) ?_
    refine va_get (D := D) (ci := 2) (v := .ref qa) (C := R_Arc) (T := T_Arc) (N := 5) hx hb hts (ui_Arc _) hown hK hP 0 rfl rfl 2 (by decide) (hts _ (gwc gw_73)) (fun _ h9 => h9) rfl d_Arc_takeQuarter_8 ?_
    refine lv_iload_n hx hb d_Arc_takeQuarter_11 rfl (lv_at hl 0 rfl) ?_
    refine va_getsN (C := "CurvePaths") (n := "QUARTER") (d := "[I") (v := .ref qQ) hx hb (amb_z hM) hS hown ((amb_nw_4 hM).use rfl) (fun _ h9 => h9) d_Arc_takeQuarter_12 ?_
    refine lv_iconst (v := 2) hx hb d_Arc_takeQuarter_15 (by decide) ?_
    refine lv_iload_n hx hb d_Arc_takeQuarter_16 rfl (lv_at hl 0 rfl) ?_
    refine lv_imul hx hb d_Arc_takeQuarter_17 ?_
    refine tp_i (4) (by decide) ?_
    refine va_ti (i := nI 4) (v := .int 36195) hx hb (amb_t hM) hS (vp_in_nI (by decide) (by decide)) rfl d_Arc_takeQuarter_18 ?_
    refine sf_i (j4 65536 65536 36195 a3) hx hb hK hP hD hS 1 0 rfl rfl 2 j4_2 (by decide) (by decide) d_Arc_takeQuarter_19 (fun H locs hP hD hS => ?_)
    have hP : va_P D cl [(ha_, .inr (2, [.ref qx, .ref qy, .ref qa, .ref qb, .int (nI n)])), (qa, .inl (cI, 4, .inl (j4 65536 65536 36195 a3))), (qb, .inl (cI, 4, .inl (j4 0 36195 b2 b3)))] H := hP
    have hD : va_D A [(ha_, .inr (2, [.ref qx, .ref qy, .ref qa, .ref qb, .int (nI n)])), (qa, .inl (cI, 4, .inl (j4 65536 65536 36195 a3))), (qb, .inl (cI, 4, .inl (j4 0 36195 b2 b3)))] := hD
    refine lv_aload_n hx hb d_Arc_takeQuarter_20 rfl (lv_at hl 1 rfl) ?_
    refine va_get (D := D) (ci := 2) (v := .ref qb) (C := R_Arc) (T := T_Arc) (N := 5) hx hb hts (ui_Arc _) hown hK hP 0 rfl rfl 3 (by decide) (hts _ (gwc gw_74)) (fun _ h9 => h9) rfl d_Arc_takeQuarter_21 ?_
    refine lv_iload_n hx hb d_Arc_takeQuarter_24 rfl (lv_at hl 0 rfl) ?_
    refine va_getsN (C := "CurvePaths") (n := "QUARTER") (d := "[I") (v := .ref qQ) hx hb (amb_z hM) hS hown ((amb_nw_4 hM).use rfl) (fun _ h9 => h9) d_Arc_takeQuarter_25 ?_
    refine lv_iconst (v := 2) hx hb d_Arc_takeQuarter_28 (by decide) ?_
    refine lv_iload_n hx hb d_Arc_takeQuarter_29 rfl (lv_at hl 0 rfl) ?_
    refine lv_imul hx hb d_Arc_takeQuarter_30 ?_
    refine tp_i (4) (by decide) ?_
    refine lv_iconst (v := 1) hx hb d_Arc_takeQuarter_31 (by decide) ?_
    refine lv_iadd hx hb d_Arc_takeQuarter_32 ?_
    refine tp_i (5) (by decide) ?_
    refine va_ti (i := nI 5) (v := .int 65536) hx hb (amb_t hM) hS (vp_in_nI (by decide) (by decide)) rfl d_Arc_takeQuarter_33 ?_
    refine sf_i (j4 0 36195 65536 b3) hx hb hK hP hD hS 2 0 rfl rfl 2 j4_2 (by decide) (by decide) d_Arc_takeQuarter_34 (fun H locs hP hD hS => ?_)
    have hP : va_P D cl [(ha_, .inr (2, [.ref qx, .ref qy, .ref qa, .ref qb, .int (nI n)])), (qa, .inl (cI, 4, .inl (j4 65536 65536 36195 a3))), (qb, .inl (cI, 4, .inl (j4 0 36195 65536 b3)))] H := hP
    have hD : va_D A [(ha_, .inr (2, [.ref qx, .ref qy, .ref qa, .ref qb, .int (nI n)])), (qa, .inl (cI, 4, .inl (j4 65536 65536 36195 a3))), (qb, .inl (cI, 4, .inl (j4 0 36195 65536 b3)))] := hD
    refine lv_iinc (v := 3) (lv' := [(3, .int 3), (0, .ref ha_), (1, .long q)]) hx hb d_Arc_takeQuarter_35 hl (k := 0) rfl (by first | exact nI_add _ 1 | rfl | decide) (by decide) rfl (fun ls hl => ?_)
    refine lv_goto (tgt := 2) hx hb d_Arc_takeQuarter_38 (by decide) ?_
    refine lv_iload_n hx hb d_Arc_takeQuarter_2 rfl (lv_at hl 0 rfl) ?_
    refine lv_iconst (v := 4) hx hb d_Arc_takeQuarter_3 (by decide) ?_
    refine bn_ge (a1 := 3) (b1 := 4) (tgt := 41) hx hb (by omega) (by omega) d_Arc_takeQuarter_4 (by decide) (fun c_11 => ?_) (fun c_11 => ?_)
    · exact absurd c_11 (by decide)
    refine lv_aload_n hx hb d_Arc_takeQuarter_7 rfl (lv_at hl 1 rfl) ?_
    refine va_get (D := D) (ci := 2) (v := .ref qa) (C := R_Arc) (T := T_Arc) (N := 5) hx hb hts (ui_Arc _) hown hK hP 0 rfl rfl 2 (by decide) (hts _ (gwc gw_73)) (fun _ h9 => h9) rfl d_Arc_takeQuarter_8 ?_
    refine lv_iload_n hx hb d_Arc_takeQuarter_11 rfl (lv_at hl 0 rfl) ?_
    refine va_getsN (C := "CurvePaths") (n := "QUARTER") (d := "[I") (v := .ref qQ) hx hb (amb_z hM) hS hown ((amb_nw_4 hM).use rfl) (fun _ h9 => h9) d_Arc_takeQuarter_12 ?_
    refine lv_iconst (v := 2) hx hb d_Arc_takeQuarter_15 (by decide) ?_
    refine lv_iload_n hx hb d_Arc_takeQuarter_16 rfl (lv_at hl 0 rfl) ?_
    refine lv_imul hx hb d_Arc_takeQuarter_17 ?_
    refine tp_i (6) (by decide) ?_
    refine va_ti (i := nI 6) (v := .int 0) hx hb (amb_t hM) hS (vp_in_nI (by decide) (by decide)) rfl d_Arc_takeQuarter_18 ?_
    refine sf_i (j4 65536 65536 36195 0) hx hb hK hP hD hS 1 0 rfl rfl 3 j4_3 (by decide) (by decide) d_Arc_takeQuarter_19 (fun H locs hP hD hS => ?_)
    have hP : va_P D cl [(ha_, .inr (2, [.ref qx, .ref qy, .ref qa, .ref qb, .int (nI n)])), (qa, .inl (cI, 4, .inl (j4 65536 65536 36195 0))), (qb, .inl (cI, 4, .inl (j4 0 36195 65536 b3)))] H := hP
    have hD : va_D A [(ha_, .inr (2, [.ref qx, .ref qy, .ref qa, .ref qb, .int (nI n)])), (qa, .inl (cI, 4, .inl (j4 65536 65536 36195 0))), (qb, .inl (cI, 4, .inl (j4 0 36195 65536 b3)))] := hD
    refine lv_aload_n hx hb d_Arc_takeQuarter_20 rfl (lv_at hl 1 rfl) ?_
    refine va_get (D := D) (ci := 2) (v := .ref qb) (C := R_Arc) (T := T_Arc) (N := 5) hx hb hts (ui_Arc _) hown hK hP 0 rfl rfl 3 (by decide) (hts _ (gwc gw_74)) (fun _ h9 => h9) rfl d_Arc_takeQuarter_21 ?_
    refine lv_iload_n hx hb d_Arc_takeQuarter_24 rfl (lv_at hl 0 rfl) ?_
    refine va_getsN (C := "CurvePaths") (n := "QUARTER") (d := "[I") (v := .ref qQ) hx hb (amb_z hM) hS hown ((amb_nw_4 hM).use rfl) (fun _ h9 => h9) d_Arc_takeQuarter_25 ?_
    refine lv_iconst (v := 2) hx hb d_Arc_takeQuarter_28 (by decide) ?_
    refine lv_iload_n hx hb d_Arc_takeQuarter_29 rfl (lv_at hl 0 rfl) ?_
    refine lv_imul hx hb d_Arc_takeQuarter_30 ?_
    refine tp_i (6) (by decide) ?_
    refine lv_iconst (v := 1) hx hb d_Arc_takeQuarter_31 (by decide) ?_
    refine lv_iadd hx hb d_Arc_takeQuarter_32 ?_
    refine tp_i (7) (by decide) ?_
    refine va_ti (i := nI 7) (v := .int 65536) hx hb (amb_t hM) hS (vp_in_nI (by decide) (by decide)) rfl d_Arc_takeQuarter_33 ?_
    refine sf_i (j4 0 36195 65536 65536) hx hb hK hP hD hS 2 0 rfl rfl 3 j4_3 (by decide) (by decide) d_Arc_takeQuarter_34 (fun H locs hP hD hS => ?_)
    have hP : va_P D cl [(ha_, .inr (2, [.ref qx, .ref qy, .ref qa, .ref qb, .int (nI n)])), (qa, .inl (cI, 4, .inl (j4 65536 65536 36195 0))), (qb, .inl (cI, 4, .inl (j4 0 36195 65536 65536)))] H := hP
    have hD : va_D A [(ha_, .inr (2, [.ref qx, .ref qy, .ref qa, .ref qb, .int (nI n)])), (qa, .inl (cI, 4, .inl (j4 65536 65536 36195 0))), (qb, .inl (cI, 4, .inl (j4 0 36195 65536 65536)))] := hD
    refine lv_iinc (v := 4) (lv' := [(3, .int 4), (0, .ref ha_), (1, .long q)]) hx hb d_Arc_takeQuarter_35 hl (k := 0) rfl (by first | exact nI_add _ 1 | rfl | decide) (by decide) rfl (fun ls hl => ?_)
    refine lv_goto (tgt := 2) hx hb d_Arc_takeQuarter_38 (by decide) ?_
    refine lv_iload_n hx hb d_Arc_takeQuarter_2 rfl (lv_at hl 0 rfl) ?_
    refine lv_iconst (v := 4) hx hb d_Arc_takeQuarter_3 (by decide) ?_
    refine bn_ge (a1 := 4) (b1 := 4) (tgt := 41) hx hb (by omega) (by omega) d_Arc_takeQuarter_4 (by decide) (fun c_12 => ?_) (fun c_12 => ?_)
    rotate_left
    · exact absurd c_12 (by decide)
    refine lv_lload_n hx hb d_Arc_takeQuarter_41 rfl (lv_at hl 2 rfl) ?_
    refine lv_ldc2 (v := 4) hx hb hown (hts _ (gwc gw_283)) d_Arc_takeQuarter_42 ?_
    refine ct_callS (av := [.long q, .long 4]) (rest := []) (wr := [(ha_, .inr (2, [.ref qx, .ref qy, .ref qa, .ref qb, .int (nI n)])), (qa, .inl (cI, 4, .inl (j4 65536 65536 36195 0))), (qb, .inl (cI, 4, .inl (j4 0 36195 65536 65536)))]) (n := 2) (c_floorMod l D cI cB cJ qQ  q 4 (by decide)) hx hb hml hown hts (amb_ok qQ) hK hP hD hS hA hM (gi_S gw_284 gw_250 gw_35 gw_251) rfl (by decide +kernel) ⟨by omega, by omega⟩ [] [0, 1, 2] rfl rfl rfl rfl (by decide) rfl hl.1 rfl (Nat.le_of_ble_eq_true rfl) d_Arc_takeQuarter_45 ⟨by omega, by omega⟩ (fun u_13 H locs hok hP hD hS => ?_)
    have hP : va_P D cl [(ha_, .inr (2, [.ref qx, .ref qy, .ref qa, .ref qb, .int (nI n)])), (qa, .inl (cI, 4, .inl (j4 65536 65536 36195 0))), (qb, .inl (cI, 4, .inl (j4 0 36195 65536 65536)))] H := hP
    have hD : va_D A [(ha_, .inr (2, [.ref qx, .ref qy, .ref qa, .ref qb, .int (nI n)])), (qa, .inl (cI, 4, .inl (j4 65536 65536 36195 0))), (qb, .inl (cI, 4, .inl (j4 0 36195 65536 65536)))] := hD
    refine W.eq (g2 := F0 m 48 ls [.long (fmd q 4)]) rfl ?_
    refine tp_l (1) (h_) ?_
    refine lv_l2i (v := 1) hx hb d_Arc_takeQuarter_48 (by decide) ?_
    refine lv_istore_n (lv' := [(3, .int 1), (0, .ref ha_), (1, .long q)]) hx hb d_Arc_takeQuarter_49 rfl hl (by decide) rfl (fun ls hl => ?_)
    refine lv_iconst (v := 0) hx hb d_Arc_takeQuarter_50 (by decide) ?_
    refine lv_istore (lv' := [(4, .int 0), (3, .int 1), (0, .ref ha_), (1, .long q)]) hx hb d_Arc_takeQuarter_51 hl (by decide) rfl (fun ls hl => ?_)
    refine lv_iload hx hb d_Arc_takeQuarter_53 (lv_at hl 0 rfl) ?_
    refine lv_iload_n hx hb d_Arc_takeQuarter_55 rfl (lv_at hl 1 rfl) ?_
    refine bn_ge (a1 := 0) (b1 := 1) (tgt := 69) hx hb (by omega) (by omega) d_Arc_takeQuarter_56 (by decide) (fun c_14 => ?_) (fun c_14 => ?_)
    · exact absurd c_14 (by decide)
    refine lv_aload_n hx hb d_Arc_takeQuarter_59 rfl (lv_at hl 2 rfl) ?_
    refine ct_callV (ci := 2) (q0 := 0) (As := []) (rest := []) (wr := []) (n := 0) (c_Arc_turnQuarter l D cI cB cJ qQ  ha_ qx qy qa qb n 65536 65536 36195 0 0 36195 65536 65536 ) hx hb hml hown hts (amb_ok qQ) hK hP hD hS hA hM (gi_V gw_285 gw_287 gw_4 gw_30 gw_288) rfl (by decide +kernel) ⟨by omega, by omega⟩ [0, 1, 2] [] rfl rfl rfl rfl (by decide) rfl rfl rfl hl.1 rfl (Nat.le_of_ble_eq_true rfl) d_Arc_takeQuarter_60 ⟨by omega, by omega⟩ (fun u_15 H locs hok hP hD hS => ?_)
    have hP : va_P D cl [(ha_, .inr (2, [.ref qx, .ref qy, .ref qa, .ref qb, .int (nI n)])), (qa, .inl (cI, 4, .inl (j4 (-0) (-36195) (-65536) (-65536)))), (qb, .inl (cI, 4, .inl (j4 65536 65536 36195 0)))] H := hP
    have hD : va_D A [(ha_, .inr (2, [.ref qx, .ref qy, .ref qa, .ref qb, .int (nI n)])), (qa, .inl (cI, 4, .inl (j4 (-0) (-36195) (-65536) (-65536)))), (qb, .inl (cI, 4, .inl (j4 65536 65536 36195 0)))] := hD
    refine W.eq (g2 := F0 m 63 ls []) rfl ?_
    refine lv_iinc (v := 1) (lv' := [(4, .int 1), (3, .int 1), (0, .ref ha_), (1, .long q)]) hx hb d_Arc_takeQuarter_63 hl (k := 0) rfl (by first | exact nI_add _ 1 | rfl | decide) (by decide) rfl (fun ls hl => ?_)
    refine lv_goto (tgt := 53) hx hb d_Arc_takeQuarter_66 (by decide) ?_
    refine lv_iload hx hb d_Arc_takeQuarter_53 (lv_at hl 0 rfl) ?_
    refine lv_iload_n hx hb d_Arc_takeQuarter_55 rfl (lv_at hl 1 rfl) ?_
    refine bn_ge (a1 := 1) (b1 := 1) (tgt := 69) hx hb (by omega) (by omega) d_Arc_takeQuarter_56 (by decide) (fun c_16 => ?_) (fun c_16 => ?_)
    rotate_left
    · exact absurd c_16 (by decide)
    exact ct_retv hQ hx hb hr hlocks hP hD hS (-0, -36195, -65536, -65536, 65536, 65536, 36195, 0) [(ha_, .inr (2, [.ref qx, .ref qy, .ref qa, .ref qb, .int (nI n)])), (qa, .inl (cI, 4, .inl (j4 (-0) (-36195) (-65536) (-65536)))), (qb, .inl (cI, 4, .inl (j4 65536 65536 36195 0)))] [0, 1, 2] (rfl) (⟨by rw [h_]; first | exact rfl | (dsimp only; decide), by rw [h_]; first | exact rfl | (dsimp only; decide)⟩) (rfl) rfl rfl (by omega) (by omega) d_Arc_takeQuarter_69
  · skip
    refine lv_iconst (v := 0) hx hb d_Arc_takeQuarter_0 (by decide) ?_
    refine lv_istore_n (lv' := [(3, .int 0), (0, .ref ha_), (1, .long q)]) hx hb d_Arc_takeQuarter_1 rfl hl (by decide) rfl (fun ls hl => ?_)
    refine lv_iload_n hx hb d_Arc_takeQuarter_2 rfl (lv_at hl 0 rfl) ?_
    refine lv_iconst (v := 4) hx hb d_Arc_takeQuarter_3 (by decide) ?_
    refine bn_ge (a1 := 0) (b1 := 4) (tgt := 41) hx hb (by omega) (by omega) d_Arc_takeQuarter_4 (by decide) (fun c_17 => ?_) (fun c_17 => ?_)
    · exact absurd c_17 (by decide)
    refine lv_aload_n hx hb d_Arc_takeQuarter_7 rfl (lv_at hl 1 rfl) ?_
    refine va_get (D := D) (ci := 2) (v := .ref qa) (C := R_Arc) (T := T_Arc) (N := 5) hx hb hts (ui_Arc _) hown hK hP 0 rfl rfl 2 (by decide) (hts _ (gwc gw_73)) (fun _ h9 => h9) rfl d_Arc_takeQuarter_8 ?_
    refine lv_iload_n hx hb d_Arc_takeQuarter_11 rfl (lv_at hl 0 rfl) ?_
    refine va_getsN (C := "CurvePaths") (n := "QUARTER") (d := "[I") (v := .ref qQ) hx hb (amb_z hM) hS hown ((amb_nw_4 hM).use rfl) (fun _ h9 => h9) d_Arc_takeQuarter_12 ?_
    refine lv_iconst (v := 2) hx hb d_Arc_takeQuarter_15 (by decide) ?_
    refine lv_iload_n hx hb d_Arc_takeQuarter_16 rfl (lv_at hl 0 rfl) ?_
    refine lv_imul hx hb d_Arc_takeQuarter_17 ?_
    refine tp_i (0) (by decide) ?_
    refine va_ti (i := nI 0) (v := .int 65536) hx hb (amb_t hM) hS (vp_in_nI (by decide) (by decide)) rfl d_Arc_takeQuarter_18 ?_
    refine sf_i (j4 65536 a1 a2 a3) hx hb hK hP hD hS 1 0 rfl rfl 0 j4_0 (by decide) (by decide) d_Arc_takeQuarter_19 (fun H locs hP hD hS => ?_)
    have hP : va_P D cl [(ha_, .inr (2, [.ref qx, .ref qy, .ref qa, .ref qb, .int (nI n)])), (qa, .inl (cI, 4, .inl (j4 65536 a1 a2 a3))), (qb, .inl (cI, 4, .inl (j4 b0 b1 b2 b3)))] H := hP
    have hD : va_D A [(ha_, .inr (2, [.ref qx, .ref qy, .ref qa, .ref qb, .int (nI n)])), (qa, .inl (cI, 4, .inl (j4 65536 a1 a2 a3))), (qb, .inl (cI, 4, .inl (j4 b0 b1 b2 b3)))] := hD
    refine lv_aload_n hx hb d_Arc_takeQuarter_20 rfl (lv_at hl 1 rfl) ?_
    refine va_get (D := D) (ci := 2) (v := .ref qb) (C := R_Arc) (T := T_Arc) (N := 5) hx hb hts (ui_Arc _) hown hK hP 0 rfl rfl 3 (by decide) (hts _ (gwc gw_74)) (fun _ h9 => h9) rfl d_Arc_takeQuarter_21 ?_
    refine lv_iload_n hx hb d_Arc_takeQuarter_24 rfl (lv_at hl 0 rfl) ?_
    refine va_getsN (C := "CurvePaths") (n := "QUARTER") (d := "[I") (v := .ref qQ) hx hb (amb_z hM) hS hown ((amb_nw_4 hM).use rfl) (fun _ h9 => h9) d_Arc_takeQuarter_25 ?_
    refine lv_iconst (v := 2) hx hb d_Arc_takeQuarter_28 (by decide) ?_
    refine lv_iload_n hx hb d_Arc_takeQuarter_29 rfl (lv_at hl 0 rfl) ?_
    refine lv_imul hx hb d_Arc_takeQuarter_30 ?_
    refine tp_i (0) (by decide) ?_
    refine lv_iconst (v := 1) hx hb d_Arc_takeQuarter_31 (by decide) ?_
    refine lv_iadd hx hb d_Arc_takeQuarter_32 ?_
    refine tp_i (1) (by decide) ?_
    refine va_ti (i := nI 1) (v := .int 0) hx hb (amb_t hM) hS (vp_in_nI (by decide) (by decide)) rfl d_Arc_takeQuarter_33 ?_
    refine sf_i (j4 0 b1 b2 b3) hx hb hK hP hD hS 2 0 rfl rfl 0 j4_0 (by decide) (by decide) d_Arc_takeQuarter_34 (fun H locs hP hD hS => ?_)
    have hP : va_P D cl [(ha_, .inr (2, [.ref qx, .ref qy, .ref qa, .ref qb, .int (nI n)])), (qa, .inl (cI, 4, .inl (j4 65536 a1 a2 a3))), (qb, .inl (cI, 4, .inl (j4 0 b1 b2 b3)))] H := hP
    have hD : va_D A [(ha_, .inr (2, [.ref qx, .ref qy, .ref qa, .ref qb, .int (nI n)])), (qa, .inl (cI, 4, .inl (j4 65536 a1 a2 a3))), (qb, .inl (cI, 4, .inl (j4 0 b1 b2 b3)))] := hD
    refine lv_iinc (v := 1) (lv' := [(3, .int 1), (0, .ref ha_), (1, .long q)]) hx hb d_Arc_takeQuarter_35 hl (k := 0) rfl (by first | exact nI_add _ 1 | rfl | decide) (by decide) rfl (fun ls hl => ?_)
    refine lv_goto (tgt := 2) hx hb d_Arc_takeQuarter_38 (by decide) ?_
    refine lv_iload_n hx hb d_Arc_takeQuarter_2 rfl (lv_at hl 0 rfl) ?_
    refine lv_iconst (v := 4) hx hb d_Arc_takeQuarter_3 (by decide) ?_
    refine bn_ge (a1 := 1) (b1 := 4) (tgt := 41) hx hb (by omega) (by omega) d_Arc_takeQuarter_4 (by decide) (fun c_18 => ?_) (fun c_18 => ?_)
    · exact absurd c_18 (by decide)
    refine lv_aload_n hx hb d_Arc_takeQuarter_7 rfl (lv_at hl 1 rfl) ?_
    refine va_get (D := D) (ci := 2) (v := .ref qa) (C := R_Arc) (T := T_Arc) (N := 5) hx hb hts (ui_Arc _) hown hK hP 0 rfl rfl 2 (by decide) (hts _ (gwc gw_73)) (fun _ h9 => h9) rfl d_Arc_takeQuarter_8 ?_
    refine lv_iload_n hx hb d_Arc_takeQuarter_11 rfl (lv_at hl 0 rfl) ?_
    refine va_getsN (C := "CurvePaths") (n := "QUARTER") (d := "[I") (v := .ref qQ) hx hb (amb_z hM) hS hown ((amb_nw_4 hM).use rfl) (fun _ h9 => h9) d_Arc_takeQuarter_12 ?_
    refine lv_iconst (v := 2) hx hb d_Arc_takeQuarter_15 (by decide) ?_
    refine lv_iload_n hx hb d_Arc_takeQuarter_16 rfl (lv_at hl 0 rfl) ?_
    refine lv_imul hx hb d_Arc_takeQuarter_17 ?_
    refine tp_i (2) (by decide) ?_
    refine va_ti (i := nI 2) (v := .int 65536) hx hb (amb_t hM) hS (vp_in_nI (by decide) (by decide)) rfl d_Arc_takeQuarter_18 ?_
    refine sf_i (j4 65536 65536 a2 a3) hx hb hK hP hD hS 1 0 rfl rfl 1 j4_1 (by decide) (by decide) d_Arc_takeQuarter_19 (fun H locs hP hD hS => ?_)
    have hP : va_P D cl [(ha_, .inr (2, [.ref qx, .ref qy, .ref qa, .ref qb, .int (nI n)])), (qa, .inl (cI, 4, .inl (j4 65536 65536 a2 a3))), (qb, .inl (cI, 4, .inl (j4 0 b1 b2 b3)))] H := hP
    have hD : va_D A [(ha_, .inr (2, [.ref qx, .ref qy, .ref qa, .ref qb, .int (nI n)])), (qa, .inl (cI, 4, .inl (j4 65536 65536 a2 a3))), (qb, .inl (cI, 4, .inl (j4 0 b1 b2 b3)))] := hD
    refine lv_aload_n hx hb d_Arc_takeQuarter_20 rfl (lv_at hl 1 rfl) ?_
    refine va_get (D := D) (ci := 2) (v := .ref qb) (C := R_Arc) (T := T_Arc) (N := 5) hx hb hts (ui_Arc _) hown hK hP 0 rfl rfl 3 (by decide) (hts _ (gwc gw_74)) (fun _ h9 => h9) rfl d_Arc_takeQuarter_21 ?_
    refine lv_iload_n hx hb d_Arc_takeQuarter_24 rfl (lv_at hl 0 rfl) ?_
    refine va_getsN (C := "CurvePaths") (n := "QUARTER") (d := "[I") (v := .ref qQ) hx hb (amb_z hM) hS hown ((amb_nw_4 hM).use rfl) (fun _ h9 => h9) d_Arc_takeQuarter_25 ?_
    refine lv_iconst (v := 2) hx hb d_Arc_takeQuarter_28 (by decide) ?_
    refine lv_iload_n hx hb d_Arc_takeQuarter_29 rfl (lv_at hl 0 rfl) ?_
    refine lv_imul hx hb d_Arc_takeQuarter_30 ?_
    refine tp_i (2) (by decide) ?_
    refine lv_iconst (v := 1) hx hb d_Arc_takeQuarter_31 (by decide) ?_
    refine lv_iadd hx hb d_Arc_takeQuarter_32 ?_
    refine tp_i (3) (by decide) ?_
    refine va_ti (i := nI 3) (v := .int 36195) hx hb (amb_t hM) hS (vp_in_nI (by decide) (by decide)) rfl d_Arc_takeQuarter_33 ?_
    refine sf_i (j4 0 36195 b2 b3) hx hb hK hP hD hS 2 0 rfl rfl 1 j4_1 (by decide) (by decide) d_Arc_takeQuarter_34 (fun H locs hP hD hS => ?_)
    have hP : va_P D cl [(ha_, .inr (2, [.ref qx, .ref qy, .ref qa, .ref qb, .int (nI n)])), (qa, .inl (cI, 4, .inl (j4 65536 65536 a2 a3))), (qb, .inl (cI, 4, .inl (j4 0 36195 b2 b3)))] H := hP
    have hD : va_D A [(ha_, .inr (2, [.ref qx, .ref qy, .ref qa, .ref qb, .int (nI n)])), (qa, .inl (cI, 4, .inl (j4 65536 65536 a2 a3))), (qb, .inl (cI, 4, .inl (j4 0 36195 b2 b3)))] := hD
    refine lv_iinc (v := 2) (lv' := [(3, .int 2), (0, .ref ha_), (1, .long q)]) hx hb d_Arc_takeQuarter_35 hl (k := 0) rfl (by first | exact nI_add _ 1 | rfl | decide) (by decide) rfl (fun ls hl => ?_)
    refine lv_goto (tgt := 2) hx hb d_Arc_takeQuarter_38 (by decide) ?_
    refine lv_iload_n hx hb d_Arc_takeQuarter_2 rfl (lv_at hl 0 rfl) ?_
    refine lv_iconst (v := 4) hx hb d_Arc_takeQuarter_3 (by decide) ?_
    refine bn_ge (a1 := 2) (b1 := 4) (tgt := 41) hx hb (by omega) (by omega) d_Arc_takeQuarter_4 (by decide) (fun c_19 => ?_) (fun c_19 => ?_)
    · exact absurd c_19 (by decide)
    refine lv_aload_n hx hb d_Arc_takeQuarter_7 rfl (lv_at hl 1 rfl) ?_
    refine va_get (D := D) (ci := 2) (v := .ref qa) (C := R_Arc) (T := T_Arc) (N := 5) hx hb hts (ui_Arc _) hown hK hP 0 rfl rfl 2 (by decide) (hts _ (gwc gw_73)) (fun _ h9 => h9) rfl d_Arc_takeQuarter_8 ?_
    refine lv_iload_n hx hb d_Arc_takeQuarter_11 rfl (lv_at hl 0 rfl) ?_
    refine va_getsN (C := "CurvePaths") (n := "QUARTER") (d := "[I") (v := .ref qQ) hx hb (amb_z hM) hS hown ((amb_nw_4 hM).use rfl) (fun _ h9 => h9) d_Arc_takeQuarter_12 ?_
    refine lv_iconst (v := 2) hx hb d_Arc_takeQuarter_15 (by decide) ?_
    refine lv_iload_n hx hb d_Arc_takeQuarter_16 rfl (lv_at hl 0 rfl) ?_
    refine lv_imul hx hb d_Arc_takeQuarter_17 ?_
    refine tp_i (4) (by decide) ?_
    refine va_ti (i := nI 4) (v := .int 36195) hx hb (amb_t hM) hS (vp_in_nI (by decide) (by decide)) rfl d_Arc_takeQuarter_18 ?_
    refine sf_i (j4 65536 65536 36195 a3) hx hb hK hP hD hS 1 0 rfl rfl 2 j4_2 (by decide) (by decide) d_Arc_takeQuarter_19 (fun H locs hP hD hS => ?_)
    have hP : va_P D cl [(ha_, .inr (2, [.ref qx, .ref qy, .ref qa, .ref qb, .int (nI n)])), (qa, .inl (cI, 4, .inl (j4 65536 65536 36195 a3))), (qb, .inl (cI, 4, .inl (j4 0 36195 b2 b3)))] H := hP
    have hD : va_D A [(ha_, .inr (2, [.ref qx, .ref qy, .ref qa, .ref qb, .int (nI n)])), (qa, .inl (cI, 4, .inl (j4 65536 65536 36195 a3))), (qb, .inl (cI, 4, .inl (j4 0 36195 b2 b3)))] := hD
    refine lv_aload_n hx hb d_Arc_takeQuarter_20 rfl (lv_at hl 1 rfl) ?_
    refine va_get (D := D) (ci := 2) (v := .ref qb) (C := R_Arc) (T := T_Arc) (N := 5) hx hb hts (ui_Arc _) hown hK hP 0 rfl rfl 3 (by decide) (hts _ (gwc gw_74)) (fun _ h9 => h9) rfl d_Arc_takeQuarter_21 ?_
    refine lv_iload_n hx hb d_Arc_takeQuarter_24 rfl (lv_at hl 0 rfl) ?_
    refine va_getsN (C := "CurvePaths") (n := "QUARTER") (d := "[I") (v := .ref qQ) hx hb (amb_z hM) hS hown ((amb_nw_4 hM).use rfl) (fun _ h9 => h9) d_Arc_takeQuarter_25 ?_
    refine lv_iconst (v := 2) hx hb d_Arc_takeQuarter_28 (by decide) ?_
    refine lv_iload_n hx hb d_Arc_takeQuarter_29 rfl (lv_at hl 0 rfl) ?_
    refine lv_imul hx hb d_Arc_takeQuarter_30 ?_
    refine tp_i (4) (by decide) ?_
    refine lv_iconst (v := 1) hx hb d_Arc_takeQuarter_31 (by decide) ?_
    refine lv_iadd hx hb d_Arc_takeQuarter_32 ?_
    refine tp_i (5) (by decide) ?_
    refine va_ti (i := nI 5) (v := .int 65536) hx hb (amb_t hM) hS (vp_in_nI (by decide) (by decide)) rfl d_Arc_takeQuarter_33 ?_
    refine sf_i (j4 0 36195 65536 b3) hx hb hK hP hD hS 2 0 rfl rfl 2 j4_2 (by decide) (by decide) d_Arc_takeQuarter_34 (fun H locs hP hD hS => ?_)
    have hP : va_P D cl [(ha_, .inr (2, [.ref qx, .ref qy, .ref qa, .ref qb, .int (nI n)])), (qa, .inl (cI, 4, .inl (j4 65536 65536 36195 a3))), (qb, .inl (cI, 4, .inl (j4 0 36195 65536 b3)))] H := hP
    have hD : va_D A [(ha_, .inr (2, [.ref qx, .ref qy, .ref qa, .ref qb, .int (nI n)])), (qa, .inl (cI, 4, .inl (j4 65536 65536 36195 a3))), (qb, .inl (cI, 4, .inl (j4 0 36195 65536 b3)))] := hD
    refine lv_iinc (v := 3) (lv' := [(3, .int 3), (0, .ref ha_), (1, .long q)]) hx hb d_Arc_takeQuarter_35 hl (k := 0) rfl (by first | exact nI_add _ 1 | rfl | decide) (by decide) rfl (fun ls hl => ?_)
    refine lv_goto (tgt := 2) hx hb d_Arc_takeQuarter_38 (by decide) ?_
    refine lv_iload_n hx hb d_Arc_takeQuarter_2 rfl (lv_at hl 0 rfl) ?_
    refine lv_iconst (v := 4) hx hb d_Arc_takeQuarter_3 (by decide) ?_
    refine bn_ge (a1 := 3) (b1 := 4) (tgt := 41) hx hb (by omega) (by omega) d_Arc_takeQuarter_4 (by decide) (fun c_20 => ?_) (fun c_20 => ?_)
    · exact absurd c_20 (by decide)
    refine lv_aload_n hx hb d_Arc_takeQuarter_7 rfl (lv_at hl 1 rfl) ?_
    refine va_get (D := D) (ci := 2) (v := .ref qa) (C := R_Arc) (T := T_Arc) (N := 5) hx hb hts (ui_Arc _) hown hK hP 0 rfl rfl 2 (by decide) (hts _ (gwc gw_73)) (fun _ h9 => h9) rfl d_Arc_takeQuarter_8 ?_
    refine lv_iload_n hx hb d_Arc_takeQuarter_11 rfl (lv_at hl 0 rfl) ?_
    refine va_getsN (C := "CurvePaths") (n := "QUARTER") (d := "[I") (v := .ref qQ) hx hb (amb_z hM) hS hown ((amb_nw_4 hM).use rfl) (fun _ h9 => h9) d_Arc_takeQuarter_12 ?_
    refine lv_iconst (v := 2) hx hb d_Arc_takeQuarter_15 (by decide) ?_
    refine lv_iload_n hx hb d_Arc_takeQuarter_16 rfl (lv_at hl 0 rfl) ?_
    refine lv_imul hx hb d_Arc_takeQuarter_17 ?_
    refine tp_i (6) (by decide) ?_
    refine va_ti (i := nI 6) (v := .int 0) hx hb (amb_t hM) hS (vp_in_nI (by decide) (by decide)) rfl d_Arc_takeQuarter_18 ?_
    refine sf_i (j4 65536 65536 36195 0) hx hb hK hP hD hS 1 0 rfl rfl 3 j4_3 (by decide) (by decide) d_Arc_takeQuarter_19 (fun H locs hP hD hS => ?_)
    have hP : va_P D cl [(ha_, .inr (2, [.ref qx, .ref qy, .ref qa, .ref qb, .int (nI n)])), (qa, .inl (cI, 4, .inl (j4 65536 65536 36195 0))), (qb, .inl (cI, 4, .inl (j4 0 36195 65536 b3)))] H := hP
    have hD : va_D A [(ha_, .inr (2, [.ref qx, .ref qy, .ref qa, .ref qb, .int (nI n)])), (qa, .inl (cI, 4, .inl (j4 65536 65536 36195 0))), (qb, .inl (cI, 4, .inl (j4 0 36195 65536 b3)))] := hD
    refine lv_aload_n hx hb d_Arc_takeQuarter_20 rfl (lv_at hl 1 rfl) ?_
    refine va_get (D := D) (ci := 2) (v := .ref qb) (C := R_Arc) (T := T_Arc) (N := 5) hx hb hts (ui_Arc _) hown hK hP 0 rfl rfl 3 (by decide) (hts _ (gwc gw_74)) (fun _ h9 => h9) rfl d_Arc_takeQuarter_21 ?_
    refine lv_iload_n hx hb d_Arc_takeQuarter_24 rfl (lv_at hl 0 rfl) ?_
    refine va_getsN (C := "CurvePaths") (n := "QUARTER") (d := "[I") (v := .ref qQ) hx hb (amb_z hM) hS hown ((amb_nw_4 hM).use rfl) (fun _ h9 => h9) d_Arc_takeQuarter_25 ?_
    refine lv_iconst (v := 2) hx hb d_Arc_takeQuarter_28 (by decide) ?_
    refine lv_iload_n hx hb d_Arc_takeQuarter_29 rfl (lv_at hl 0 rfl) ?_
    refine lv_imul hx hb d_Arc_takeQuarter_30 ?_
    refine tp_i (6) (by decide) ?_
    refine lv_iconst (v := 1) hx hb d_Arc_takeQuarter_31 (by decide) ?_
    refine lv_iadd hx hb d_Arc_takeQuarter_32 ?_
    refine tp_i (7) (by decide) ?_
    refine va_ti (i := nI 7) (v := .int 65536) hx hb (amb_t hM) hS (vp_in_nI (by decide) (by decide)) rfl d_Arc_takeQuarter_33 ?_
    refine sf_i (j4 0 36195 65536 65536) hx hb hK hP hD hS 2 0 rfl rfl 3 j4_3 (by decide) (by decide) d_Arc_takeQuarter_34 (fun H locs hP hD hS => ?_)
    have hP : va_P D cl [(ha_, .inr (2, [.ref qx, .ref qy, .ref qa, .ref qb, .int (nI n)])), (qa, .inl (cI, 4, .inl (j4 65536 65536 36195 0))), (qb, .inl (cI, 4, .inl (j4 0 36195 65536 65536)))] H := hP
    have hD : va_D A [(ha_, .inr (2, [.ref qx, .ref qy, .ref qa, .ref qb, .int (nI n)])), (qa, .inl (cI, 4, .inl (j4 65536 65536 36195 0))), (qb, .inl (cI, 4, .inl (j4 0 36195 65536 65536)))] := hD
    refine lv_iinc (v := 4) (lv' := [(3, .int 4), (0, .ref ha_), (1, .long q)]) hx hb d_Arc_takeQuarter_35 hl (k := 0) rfl (by first | exact nI_add _ 1 | rfl | decide) (by decide) rfl (fun ls hl => ?_)
    refine lv_goto (tgt := 2) hx hb d_Arc_takeQuarter_38 (by decide) ?_
    refine lv_iload_n hx hb d_Arc_takeQuarter_2 rfl (lv_at hl 0 rfl) ?_
    refine lv_iconst (v := 4) hx hb d_Arc_takeQuarter_3 (by decide) ?_
    refine bn_ge (a1 := 4) (b1 := 4) (tgt := 41) hx hb (by omega) (by omega) d_Arc_takeQuarter_4 (by decide) (fun c_21 => ?_) (fun c_21 => ?_)
    rotate_left
    · exact absurd c_21 (by decide)
    refine lv_lload_n hx hb d_Arc_takeQuarter_41 rfl (lv_at hl 2 rfl) ?_
    refine lv_ldc2 (v := 4) hx hb hown (hts _ (gwc gw_283)) d_Arc_takeQuarter_42 ?_
    refine ct_callS (av := [.long q, .long 4]) (rest := []) (wr := [(ha_, .inr (2, [.ref qx, .ref qy, .ref qa, .ref qb, .int (nI n)])), (qa, .inl (cI, 4, .inl (j4 65536 65536 36195 0))), (qb, .inl (cI, 4, .inl (j4 0 36195 65536 65536)))]) (n := 2) (c_floorMod l D cI cB cJ qQ  q 4 (by decide)) hx hb hml hown hts (amb_ok qQ) hK hP hD hS hA hM (gi_S gw_284 gw_250 gw_35 gw_251) rfl (by decide +kernel) ⟨by omega, by omega⟩ [] [0, 1, 2] rfl rfl rfl rfl (by decide) rfl hl.1 rfl (Nat.le_of_ble_eq_true rfl) d_Arc_takeQuarter_45 ⟨by omega, by omega⟩ (fun u_22 H locs hok hP hD hS => ?_)
    have hP : va_P D cl [(ha_, .inr (2, [.ref qx, .ref qy, .ref qa, .ref qb, .int (nI n)])), (qa, .inl (cI, 4, .inl (j4 65536 65536 36195 0))), (qb, .inl (cI, 4, .inl (j4 0 36195 65536 65536)))] H := hP
    have hD : va_D A [(ha_, .inr (2, [.ref qx, .ref qy, .ref qa, .ref qb, .int (nI n)])), (qa, .inl (cI, 4, .inl (j4 65536 65536 36195 0))), (qb, .inl (cI, 4, .inl (j4 0 36195 65536 65536)))] := hD
    refine W.eq (g2 := F0 m 48 ls [.long (fmd q 4)]) rfl ?_
    refine tp_l (2) (h_) ?_
    refine lv_l2i (v := 2) hx hb d_Arc_takeQuarter_48 (by decide) ?_
    refine lv_istore_n (lv' := [(3, .int 2), (0, .ref ha_), (1, .long q)]) hx hb d_Arc_takeQuarter_49 rfl hl (by decide) rfl (fun ls hl => ?_)
    refine lv_iconst (v := 0) hx hb d_Arc_takeQuarter_50 (by decide) ?_
    refine lv_istore (lv' := [(4, .int 0), (3, .int 2), (0, .ref ha_), (1, .long q)]) hx hb d_Arc_takeQuarter_51 hl (by decide) rfl (fun ls hl => ?_)
    refine lv_iload hx hb d_Arc_takeQuarter_53 (lv_at hl 0 rfl) ?_
    refine lv_iload_n hx hb d_Arc_takeQuarter_55 rfl (lv_at hl 1 rfl) ?_
    refine bn_ge (a1 := 0) (b1 := 2) (tgt := 69) hx hb (by omega) (by omega) d_Arc_takeQuarter_56 (by decide) (fun c_23 => ?_) (fun c_23 => ?_)
    · exact absurd c_23 (by decide)
    refine lv_aload_n hx hb d_Arc_takeQuarter_59 rfl (lv_at hl 2 rfl) ?_
    refine ct_callV (ci := 2) (q0 := 0) (As := []) (rest := []) (wr := []) (n := 0) (c_Arc_turnQuarter l D cI cB cJ qQ  ha_ qx qy qa qb n 65536 65536 36195 0 0 36195 65536 65536 ) hx hb hml hown hts (amb_ok qQ) hK hP hD hS hA hM (gi_V gw_285 gw_287 gw_4 gw_30 gw_288) rfl (by decide +kernel) ⟨by omega, by omega⟩ [0, 1, 2] [] rfl rfl rfl rfl (by decide) rfl rfl rfl hl.1 rfl (Nat.le_of_ble_eq_true rfl) d_Arc_takeQuarter_60 ⟨by omega, by omega⟩ (fun u_24 H locs hok hP hD hS => ?_)
    have hP : va_P D cl [(ha_, .inr (2, [.ref qx, .ref qy, .ref qa, .ref qb, .int (nI n)])), (qa, .inl (cI, 4, .inl (j4 (-0) (-36195) (-65536) (-65536)))), (qb, .inl (cI, 4, .inl (j4 65536 65536 36195 0)))] H := hP
    have hD : va_D A [(ha_, .inr (2, [.ref qx, .ref qy, .ref qa, .ref qb, .int (nI n)])), (qa, .inl (cI, 4, .inl (j4 (-0) (-36195) (-65536) (-65536)))), (qb, .inl (cI, 4, .inl (j4 65536 65536 36195 0)))] := hD
    refine W.eq (g2 := F0 m 63 ls []) rfl ?_
    refine lv_iinc (v := 1) (lv' := [(4, .int 1), (3, .int 2), (0, .ref ha_), (1, .long q)]) hx hb d_Arc_takeQuarter_63 hl (k := 0) rfl (by first | exact nI_add _ 1 | rfl | decide) (by decide) rfl (fun ls hl => ?_)
    refine lv_goto (tgt := 53) hx hb d_Arc_takeQuarter_66 (by decide) ?_
    refine lv_iload hx hb d_Arc_takeQuarter_53 (lv_at hl 0 rfl) ?_
    refine lv_iload_n hx hb d_Arc_takeQuarter_55 rfl (lv_at hl 1 rfl) ?_
    refine bn_ge (a1 := 1) (b1 := 2) (tgt := 69) hx hb (by omega) (by omega) d_Arc_takeQuarter_56 (by decide) (fun c_25 => ?_) (fun c_25 => ?_)
    · exact absurd c_25 (by decide)
    refine lv_aload_n hx hb d_Arc_takeQuarter_59 rfl (lv_at hl 2 rfl) ?_
    refine ct_callV (ci := 2) (q0 := 0) (As := []) (rest := []) (wr := []) (n := 0) (c_Arc_turnQuarter l D cI cB cJ qQ  ha_ qx qy qa qb n (-0) (-36195) (-65536) (-65536) 65536 65536 36195 0 ) hx hb hml hown hts (amb_ok qQ) hK hP hD hS hA hM (gi_V gw_285 gw_287 gw_4 gw_30 gw_288) rfl (by decide +kernel) ⟨by omega, by omega⟩ [0, 1, 2] [] rfl rfl rfl rfl (by decide) rfl rfl rfl hl.1 rfl (Nat.le_of_ble_eq_true rfl) d_Arc_takeQuarter_60 ⟨by omega, by omega⟩ (fun u_26 H locs hok hP hD hS => ?_)
    have hP : va_P D cl [(ha_, .inr (2, [.ref qx, .ref qy, .ref qa, .ref qb, .int (nI n)])), (qa, .inl (cI, 4, .inl (j4 (-65536) (-65536) (-36195) (-0)))), (qb, .inl (cI, 4, .inl (j4 (-0) (-36195) (-65536) (-65536))))] H := hP
    have hD : va_D A [(ha_, .inr (2, [.ref qx, .ref qy, .ref qa, .ref qb, .int (nI n)])), (qa, .inl (cI, 4, .inl (j4 (-65536) (-65536) (-36195) (-0)))), (qb, .inl (cI, 4, .inl (j4 (-0) (-36195) (-65536) (-65536))))] := hD
    refine W.eq (g2 := F0 m 63 ls []) rfl ?_
    refine lv_iinc (v := 2) (lv' := [(4, .int 2), (3, .int 2), (0, .ref ha_), (1, .long q)]) hx hb d_Arc_takeQuarter_63 hl (k := 0) rfl (by first | exact nI_add _ 1 | rfl | decide) (by decide) rfl (fun ls hl => ?_)
    refine lv_goto (tgt := 53) hx hb d_Arc_takeQuarter_66 (by decide) ?_
    refine lv_iload hx hb d_Arc_takeQuarter_53 (lv_at hl 0 rfl) ?_
    refine lv_iload_n hx hb d_Arc_takeQuarter_55 rfl (lv_at hl 1 rfl) ?_
    refine bn_ge (a1 := 2) (b1 := 2) (tgt := 69) hx hb (by omega) (by omega) d_Arc_takeQuarter_56 (by decide) (fun c_27 => ?_) (fun c_27 => ?_)
    rotate_left
    · exact absurd c_27 (by decide)
    exact ct_retv hQ hx hb hr hlocks hP hD hS (-65536, -65536, -36195, -0, -0, -36195, -65536, -65536) [(ha_, .inr (2, [.ref qx, .ref qy, .ref qa, .ref qb, .int (nI n)])), (qa, .inl (cI, 4, .inl (j4 (-65536) (-65536) (-36195) (-0)))), (qb, .inl (cI, 4, .inl (j4 (-0) (-36195) (-65536) (-65536))))] [0, 1, 2] (rfl) (⟨by rw [h_]; first | exact rfl | (dsimp only; decide), by rw [h_]; first | exact rfl | (dsimp only; decide)⟩) (rfl) rfl rfl (by omega) (by omega) d_Arc_takeQuarter_69
  · skip
    refine lv_iconst (v := 0) hx hb d_Arc_takeQuarter_0 (by decide) ?_
    refine lv_istore_n (lv' := [(3, .int 0), (0, .ref ha_), (1, .long q)]) hx hb d_Arc_takeQuarter_1 rfl hl (by decide) rfl (fun ls hl => ?_)
    refine lv_iload_n hx hb d_Arc_takeQuarter_2 rfl (lv_at hl 0 rfl) ?_
    refine lv_iconst (v := 4) hx hb d_Arc_takeQuarter_3 (by decide) ?_
    refine bn_ge (a1 := 0) (b1 := 4) (tgt := 41) hx hb (by omega) (by omega) d_Arc_takeQuarter_4 (by decide) (fun c_28 => ?_) (fun c_28 => ?_)
    · exact absurd c_28 (by decide)
    refine lv_aload_n hx hb d_Arc_takeQuarter_7 rfl (lv_at hl 1 rfl) ?_
    refine va_get (D := D) (ci := 2) (v := .ref qa) (C := R_Arc) (T := T_Arc) (N := 5) hx hb hts (ui_Arc _) hown hK hP 0 rfl rfl 2 (by decide) (hts _ (gwc gw_73)) (fun _ h9 => h9) rfl d_Arc_takeQuarter_8 ?_
    refine lv_iload_n hx hb d_Arc_takeQuarter_11 rfl (lv_at hl 0 rfl) ?_
    refine va_getsN (C := "CurvePaths") (n := "QUARTER") (d := "[I") (v := .ref qQ) hx hb (amb_z hM) hS hown ((amb_nw_4 hM).use rfl) (fun _ h9 => h9) d_Arc_takeQuarter_12 ?_
    refine lv_iconst (v := 2) hx hb d_Arc_takeQuarter_15 (by decide) ?_
    refine lv_iload_n hx hb d_Arc_takeQuarter_16 rfl (lv_at hl 0 rfl) ?_
    refine lv_imul hx hb d_Arc_takeQuarter_17 ?_
    refine tp_i (0) (by decide) ?_
    refine va_ti (i := nI 0) (v := .int 65536) hx hb (amb_t hM) hS (vp_in_nI (by decide) (by decide)) rfl d_Arc_takeQuarter_18 ?_
    refine sf_i (j4 65536 a1 a2 a3) hx hb hK hP hD hS 1 0 rfl rfl 0 j4_0 (by decide) (by decide) d_Arc_takeQuarter_19 (fun H locs hP hD hS => ?_)
    have hP : va_P D cl [(ha_, .inr (2, [.ref qx, .ref qy, .ref qa, .ref qb, .int (nI n)])), (qa, .inl (cI, 4, .inl (j4 65536 a1 a2 a3))), (qb, .inl (cI, 4, .inl (j4 b0 b1 b2 b3)))] H := hP
    have hD : va_D A [(ha_, .inr (2, [.ref qx, .ref qy, .ref qa, .ref qb, .int (nI n)])), (qa, .inl (cI, 4, .inl (j4 65536 a1 a2 a3))), (qb, .inl (cI, 4, .inl (j4 b0 b1 b2 b3)))] := hD
    refine lv_aload_n hx hb d_Arc_takeQuarter_20 rfl (lv_at hl 1 rfl) ?_
    refine va_get (D := D) (ci := 2) (v := .ref qb) (C := R_Arc) (T := T_Arc) (N := 5) hx hb hts (ui_Arc _) hown hK hP 0 rfl rfl 3 (by decide) (hts _ (gwc gw_74)) (fun _ h9 => h9) rfl d_Arc_takeQuarter_21 ?_
    refine lv_iload_n hx hb d_Arc_takeQuarter_24 rfl (lv_at hl 0 rfl) ?_
    refine va_getsN (C := "CurvePaths") (n := "QUARTER") (d := "[I") (v := .ref qQ) hx hb (amb_z hM) hS hown ((amb_nw_4 hM).use rfl) (fun _ h9 => h9) d_Arc_takeQuarter_25 ?_
    refine lv_iconst (v := 2) hx hb d_Arc_takeQuarter_28 (by decide) ?_
    refine lv_iload_n hx hb d_Arc_takeQuarter_29 rfl (lv_at hl 0 rfl) ?_
    refine lv_imul hx hb d_Arc_takeQuarter_30 ?_
    refine tp_i (0) (by decide) ?_
    refine lv_iconst (v := 1) hx hb d_Arc_takeQuarter_31 (by decide) ?_
    refine lv_iadd hx hb d_Arc_takeQuarter_32 ?_
    refine tp_i (1) (by decide) ?_
    refine va_ti (i := nI 1) (v := .int 0) hx hb (amb_t hM) hS (vp_in_nI (by decide) (by decide)) rfl d_Arc_takeQuarter_33 ?_
    refine sf_i (j4 0 b1 b2 b3) hx hb hK hP hD hS 2 0 rfl rfl 0 j4_0 (by decide) (by decide) d_Arc_takeQuarter_34 (fun H locs hP hD hS => ?_)
    have hP : va_P D cl [(ha_, .inr (2, [.ref qx, .ref qy, .ref qa, .ref qb, .int (nI n)])), (qa, .inl (cI, 4, .inl (j4 65536 a1 a2 a3))), (qb, .inl (cI, 4, .inl (j4 0 b1 b2 b3)))] H := hP
    have hD : va_D A [(ha_, .inr (2, [.ref qx, .ref qy, .ref qa, .ref qb, .int (nI n)])), (qa, .inl (cI, 4, .inl (j4 65536 a1 a2 a3))), (qb, .inl (cI, 4, .inl (j4 0 b1 b2 b3)))] := hD
    refine lv_iinc (v := 1) (lv' := [(3, .int 1), (0, .ref ha_), (1, .long q)]) hx hb d_Arc_takeQuarter_35 hl (k := 0) rfl (by first | exact nI_add _ 1 | rfl | decide) (by decide) rfl (fun ls hl => ?_)
    refine lv_goto (tgt := 2) hx hb d_Arc_takeQuarter_38 (by decide) ?_
    refine lv_iload_n hx hb d_Arc_takeQuarter_2 rfl (lv_at hl 0 rfl) ?_
    refine lv_iconst (v := 4) hx hb d_Arc_takeQuarter_3 (by decide) ?_
    refine bn_ge (a1 := 1) (b1 := 4) (tgt := 41) hx hb (by omega) (by omega) d_Arc_takeQuarter_4 (by decide) (fun c_29 => ?_) (fun c_29 => ?_)
    · exact absurd c_29 (by decide)
    refine lv_aload_n hx hb d_Arc_takeQuarter_7 rfl (lv_at hl 1 rfl) ?_
    refine va_get (D := D) (ci := 2) (v := .ref qa) (C := R_Arc) (T := T_Arc) (N := 5) hx hb hts (ui_Arc _) hown hK hP 0 rfl rfl 2 (by decide) (hts _ (gwc gw_73)) (fun _ h9 => h9) rfl d_Arc_takeQuarter_8 ?_
    refine lv_iload_n hx hb d_Arc_takeQuarter_11 rfl (lv_at hl 0 rfl) ?_
    refine va_getsN (C := "CurvePaths") (n := "QUARTER") (d := "[I") (v := .ref qQ) hx hb (amb_z hM) hS hown ((amb_nw_4 hM).use rfl) (fun _ h9 => h9) d_Arc_takeQuarter_12 ?_
    refine lv_iconst (v := 2) hx hb d_Arc_takeQuarter_15 (by decide) ?_
    refine lv_iload_n hx hb d_Arc_takeQuarter_16 rfl (lv_at hl 0 rfl) ?_
    refine lv_imul hx hb d_Arc_takeQuarter_17 ?_
    refine tp_i (2) (by decide) ?_
    refine va_ti (i := nI 2) (v := .int 65536) hx hb (amb_t hM) hS (vp_in_nI (by decide) (by decide)) rfl d_Arc_takeQuarter_18 ?_
    refine sf_i (j4 65536 65536 a2 a3) hx hb hK hP hD hS 1 0 rfl rfl 1 j4_1 (by decide) (by decide) d_Arc_takeQuarter_19 (fun H locs hP hD hS => ?_)
    have hP : va_P D cl [(ha_, .inr (2, [.ref qx, .ref qy, .ref qa, .ref qb, .int (nI n)])), (qa, .inl (cI, 4, .inl (j4 65536 65536 a2 a3))), (qb, .inl (cI, 4, .inl (j4 0 b1 b2 b3)))] H := hP
    have hD : va_D A [(ha_, .inr (2, [.ref qx, .ref qy, .ref qa, .ref qb, .int (nI n)])), (qa, .inl (cI, 4, .inl (j4 65536 65536 a2 a3))), (qb, .inl (cI, 4, .inl (j4 0 b1 b2 b3)))] := hD
    refine lv_aload_n hx hb d_Arc_takeQuarter_20 rfl (lv_at hl 1 rfl) ?_
    refine va_get (D := D) (ci := 2) (v := .ref qb) (C := R_Arc) (T := T_Arc) (N := 5) hx hb hts (ui_Arc _) hown hK hP 0 rfl rfl 3 (by decide) (hts _ (gwc gw_74)) (fun _ h9 => h9) rfl d_Arc_takeQuarter_21 ?_
    refine lv_iload_n hx hb d_Arc_takeQuarter_24 rfl (lv_at hl 0 rfl) ?_
    refine va_getsN (C := "CurvePaths") (n := "QUARTER") (d := "[I") (v := .ref qQ) hx hb (amb_z hM) hS hown ((amb_nw_4 hM).use rfl) (fun _ h9 => h9) d_Arc_takeQuarter_25 ?_
    refine lv_iconst (v := 2) hx hb d_Arc_takeQuarter_28 (by decide) ?_
    refine lv_iload_n hx hb d_Arc_takeQuarter_29 rfl (lv_at hl 0 rfl) ?_
    refine lv_imul hx hb d_Arc_takeQuarter_30 ?_
    refine tp_i (2) (by decide) ?_
    refine lv_iconst (v := 1) hx hb d_Arc_takeQuarter_31 (by decide) ?_
    refine lv_iadd hx hb d_Arc_takeQuarter_32 ?_
    refine tp_i (3) (by decide) ?_
    refine va_ti (i := nI 3) (v := .int 36195) hx hb (amb_t hM) hS (vp_in_nI (by decide) (by decide)) rfl d_Arc_takeQuarter_33 ?_
    refine sf_i (j4 0 36195 b2 b3) hx hb hK hP hD hS 2 0 rfl rfl 1 j4_1 (by decide) (by decide) d_Arc_takeQuarter_34 (fun H locs hP hD hS => ?_)
    have hP : va_P D cl [(ha_, .inr (2, [.ref qx, .ref qy, .ref qa, .ref qb, .int (nI n)])), (qa, .inl (cI, 4, .inl (j4 65536 65536 a2 a3))), (qb, .inl (cI, 4, .inl (j4 0 36195 b2 b3)))] H := hP
    have hD : va_D A [(ha_, .inr (2, [.ref qx, .ref qy, .ref qa, .ref qb, .int (nI n)])), (qa, .inl (cI, 4, .inl (j4 65536 65536 a2 a3))), (qb, .inl (cI, 4, .inl (j4 0 36195 b2 b3)))] := hD
    refine lv_iinc (v := 2) (lv' := [(3, .int 2), (0, .ref ha_), (1, .long q)]) hx hb d_Arc_takeQuarter_35 hl (k := 0) rfl (by first | exact nI_add _ 1 | rfl | decide) (by decide) rfl (fun ls hl => ?_)
    refine lv_goto (tgt := 2) hx hb d_Arc_takeQuarter_38 (by decide) ?_
    refine lv_iload_n hx hb d_Arc_takeQuarter_2 rfl (lv_at hl 0 rfl) ?_
    refine lv_iconst (v := 4) hx hb d_Arc_takeQuarter_3 (by decide) ?_
    refine bn_ge (a1 := 2) (b1 := 4) (tgt := 41) hx hb (by omega) (by omega) d_Arc_takeQuarter_4 (by decide) (fun c_30 => ?_) (fun c_30 => ?_)
    · exact absurd c_30 (by decide)
    refine lv_aload_n hx hb d_Arc_takeQuarter_7 rfl (lv_at hl 1 rfl) ?_
    refine va_get (D := D) (ci := 2) (v := .ref qa) (C := R_Arc) (T := T_Arc) (N := 5) hx hb hts (ui_Arc _) hown hK hP 0 rfl rfl 2 (by decide) (hts _ (gwc gw_73)) (fun _ h9 => h9) rfl d_Arc_takeQuarter_8 ?_
    refine lv_iload_n hx hb d_Arc_takeQuarter_11 rfl (lv_at hl 0 rfl) ?_
    refine va_getsN (C := "CurvePaths") (n := "QUARTER") (d := "[I") (v := .ref qQ) hx hb (amb_z hM) hS hown ((amb_nw_4 hM).use rfl) (fun _ h9 => h9) d_Arc_takeQuarter_12 ?_
    refine lv_iconst (v := 2) hx hb d_Arc_takeQuarter_15 (by decide) ?_
    refine lv_iload_n hx hb d_Arc_takeQuarter_16 rfl (lv_at hl 0 rfl) ?_
    refine lv_imul hx hb d_Arc_takeQuarter_17 ?_
    refine tp_i (4) (by decide) ?_
    refine va_ti (i := nI 4) (v := .int 36195) hx hb (amb_t hM) hS (vp_in_nI (by decide) (by decide)) rfl d_Arc_takeQuarter_18 ?_
    refine sf_i (j4 65536 65536 36195 a3) hx hb hK hP hD hS 1 0 rfl rfl 2 j4_2 (by decide) (by decide) d_Arc_takeQuarter_19 (fun H locs hP hD hS => ?_)
    have hP : va_P D cl [(ha_, .inr (2, [.ref qx, .ref qy, .ref qa, .ref qb, .int (nI n)])), (qa, .inl (cI, 4, .inl (j4 65536 65536 36195 a3))), (qb, .inl (cI, 4, .inl (j4 0 36195 b2 b3)))] H := hP
    have hD : va_D A [(ha_, .inr (2, [.ref qx, .ref qy, .ref qa, .ref qb, .int (nI n)])), (qa, .inl (cI, 4, .inl (j4 65536 65536 36195 a3))), (qb, .inl (cI, 4, .inl (j4 0 36195 b2 b3)))] := hD
    refine lv_aload_n hx hb d_Arc_takeQuarter_20 rfl (lv_at hl 1 rfl) ?_
    refine va_get (D := D) (ci := 2) (v := .ref qb) (C := R_Arc) (T := T_Arc) (N := 5) hx hb hts (ui_Arc _) hown hK hP 0 rfl rfl 3 (by decide) (hts _ (gwc gw_74)) (fun _ h9 => h9) rfl d_Arc_takeQuarter_21 ?_
    refine lv_iload_n hx hb d_Arc_takeQuarter_24 rfl (lv_at hl 0 rfl) ?_
    refine va_getsN (C := "CurvePaths") (n := "QUARTER") (d := "[I") (v := .ref qQ) hx hb (amb_z hM) hS hown ((amb_nw_4 hM).use rfl) (fun _ h9 => h9) d_Arc_takeQuarter_25 ?_
    refine lv_iconst (v := 2) hx hb d_Arc_takeQuarter_28 (by decide) ?_
    refine lv_iload_n hx hb d_Arc_takeQuarter_29 rfl (lv_at hl 0 rfl) ?_
    refine lv_imul hx hb d_Arc_takeQuarter_30 ?_
    refine tp_i (4) (by decide) ?_
    refine lv_iconst (v := 1) hx hb d_Arc_takeQuarter_31 (by decide) ?_
    refine lv_iadd hx hb d_Arc_takeQuarter_32 ?_
    refine tp_i (5) (by decide) ?_
    refine va_ti (i := nI 5) (v := .int 65536) hx hb (amb_t hM) hS (vp_in_nI (by decide) (by decide)) rfl d_Arc_takeQuarter_33 ?_
    refine sf_i (j4 0 36195 65536 b3) hx hb hK hP hD hS 2 0 rfl rfl 2 j4_2 (by decide) (by decide) d_Arc_takeQuarter_34 (fun H locs hP hD hS => ?_)
    have hP : va_P D cl [(ha_, .inr (2, [.ref qx, .ref qy, .ref qa, .ref qb, .int (nI n)])), (qa, .inl (cI, 4, .inl (j4 65536 65536 36195 a3))), (qb, .inl (cI, 4, .inl (j4 0 36195 65536 b3)))] H := hP
    have hD : va_D A [(ha_, .inr (2, [.ref qx, .ref qy, .ref qa, .ref qb, .int (nI n)])), (qa, .inl (cI, 4, .inl (j4 65536 65536 36195 a3))), (qb, .inl (cI, 4, .inl (j4 0 36195 65536 b3)))] := hD
    refine lv_iinc (v := 3) (lv' := [(3, .int 3), (0, .ref ha_), (1, .long q)]) hx hb d_Arc_takeQuarter_35 hl (k := 0) rfl (by first | exact nI_add _ 1 | rfl | decide) (by decide) rfl (fun ls hl => ?_)
    refine lv_goto (tgt := 2) hx hb d_Arc_takeQuarter_38 (by decide) ?_
    refine lv_iload_n hx hb d_Arc_takeQuarter_2 rfl (lv_at hl 0 rfl) ?_
    refine lv_iconst (v := 4) hx hb d_Arc_takeQuarter_3 (by decide) ?_
    refine bn_ge (a1 := 3) (b1 := 4) (tgt := 41) hx hb (by omega) (by omega) d_Arc_takeQuarter_4 (by decide) (fun c_31 => ?_) (fun c_31 => ?_)
    · exact absurd c_31 (by decide)
    refine lv_aload_n hx hb d_Arc_takeQuarter_7 rfl (lv_at hl 1 rfl) ?_
    refine va_get (D := D) (ci := 2) (v := .ref qa) (C := R_Arc) (T := T_Arc) (N := 5) hx hb hts (ui_Arc _) hown hK hP 0 rfl rfl 2 (by decide) (hts _ (gwc gw_73)) (fun _ h9 => h9) rfl d_Arc_takeQuarter_8 ?_
    refine lv_iload_n hx hb d_Arc_takeQuarter_11 rfl (lv_at hl 0 rfl) ?_
    refine va_getsN (C := "CurvePaths") (n := "QUARTER") (d := "[I") (v := .ref qQ) hx hb (amb_z hM) hS hown ((amb_nw_4 hM).use rfl) (fun _ h9 => h9) d_Arc_takeQuarter_12 ?_
    refine lv_iconst (v := 2) hx hb d_Arc_takeQuarter_15 (by decide) ?_
    refine lv_iload_n hx hb d_Arc_takeQuarter_16 rfl (lv_at hl 0 rfl) ?_
    refine lv_imul hx hb d_Arc_takeQuarter_17 ?_
    refine tp_i (6) (by decide) ?_
    refine va_ti (i := nI 6) (v := .int 0) hx hb (amb_t hM) hS (vp_in_nI (by decide) (by decide)) rfl d_Arc_takeQuarter_18 ?_
    refine sf_i (j4 65536 65536 36195 0) hx hb hK hP hD hS 1 0 rfl rfl 3 j4_3 (by decide) (by decide) d_Arc_takeQuarter_19 (fun H locs hP hD hS => ?_)
    have hP : va_P D cl [(ha_, .inr (2, [.ref qx, .ref qy, .ref qa, .ref qb, .int (nI n)])), (qa, .inl (cI, 4, .inl (j4 65536 65536 36195 0))), (qb, .inl (cI, 4, .inl (j4 0 36195 65536 b3)))] H := hP
    have hD : va_D A [(ha_, .inr (2, [.ref qx, .ref qy, .ref qa, .ref qb, .int (nI n)])), (qa, .inl (cI, 4, .inl (j4 65536 65536 36195 0))), (qb, .inl (cI, 4, .inl (j4 0 36195 65536 b3)))] := hD
    refine lv_aload_n hx hb d_Arc_takeQuarter_20 rfl (lv_at hl 1 rfl) ?_
    refine va_get (D := D) (ci := 2) (v := .ref qb) (C := R_Arc) (T := T_Arc) (N := 5) hx hb hts (ui_Arc _) hown hK hP 0 rfl rfl 3 (by decide) (hts _ (gwc gw_74)) (fun _ h9 => h9) rfl d_Arc_takeQuarter_21 ?_
    refine lv_iload_n hx hb d_Arc_takeQuarter_24 rfl (lv_at hl 0 rfl) ?_
    refine va_getsN (C := "CurvePaths") (n := "QUARTER") (d := "[I") (v := .ref qQ) hx hb (amb_z hM) hS hown ((amb_nw_4 hM).use rfl) (fun _ h9 => h9) d_Arc_takeQuarter_25 ?_
    refine lv_iconst (v := 2) hx hb d_Arc_takeQuarter_28 (by decide) ?_
    refine lv_iload_n hx hb d_Arc_takeQuarter_29 rfl (lv_at hl 0 rfl) ?_
    refine lv_imul hx hb d_Arc_takeQuarter_30 ?_
    refine tp_i (6) (by decide) ?_
    refine lv_iconst (v := 1) hx hb d_Arc_takeQuarter_31 (by decide) ?_
    refine lv_iadd hx hb d_Arc_takeQuarter_32 ?_
    refine tp_i (7) (by decide) ?_
    refine va_ti (i := nI 7) (v := .int 65536) hx hb (amb_t hM) hS (vp_in_nI (by decide) (by decide)) rfl d_Arc_takeQuarter_33 ?_
    refine sf_i (j4 0 36195 65536 65536) hx hb hK hP hD hS 2 0 rfl rfl 3 j4_3 (by decide) (by decide) d_Arc_takeQuarter_34 (fun H locs hP hD hS => ?_)
    have hP : va_P D cl [(ha_, .inr (2, [.ref qx, .ref qy, .ref qa, .ref qb, .int (nI n)])), (qa, .inl (cI, 4, .inl (j4 65536 65536 36195 0))), (qb, .inl (cI, 4, .inl (j4 0 36195 65536 65536)))] H := hP
    have hD : va_D A [(ha_, .inr (2, [.ref qx, .ref qy, .ref qa, .ref qb, .int (nI n)])), (qa, .inl (cI, 4, .inl (j4 65536 65536 36195 0))), (qb, .inl (cI, 4, .inl (j4 0 36195 65536 65536)))] := hD
    refine lv_iinc (v := 4) (lv' := [(3, .int 4), (0, .ref ha_), (1, .long q)]) hx hb d_Arc_takeQuarter_35 hl (k := 0) rfl (by first | exact nI_add _ 1 | rfl | decide) (by decide) rfl (fun ls hl => ?_)
    refine lv_goto (tgt := 2) hx hb d_Arc_takeQuarter_38 (by decide) ?_
    refine lv_iload_n hx hb d_Arc_takeQuarter_2 rfl (lv_at hl 0 rfl) ?_
    refine lv_iconst (v := 4) hx hb d_Arc_takeQuarter_3 (by decide) ?_
    refine bn_ge (a1 := 4) (b1 := 4) (tgt := 41) hx hb (by omega) (by omega) d_Arc_takeQuarter_4 (by decide) (fun c_32 => ?_) (fun c_32 => ?_)
    rotate_left
    · exact absurd c_32 (by decide)
    refine lv_lload_n hx hb d_Arc_takeQuarter_41 rfl (lv_at hl 2 rfl) ?_
    refine lv_ldc2 (v := 4) hx hb hown (hts _ (gwc gw_283)) d_Arc_takeQuarter_42 ?_
    refine ct_callS (av := [.long q, .long 4]) (rest := []) (wr := [(ha_, .inr (2, [.ref qx, .ref qy, .ref qa, .ref qb, .int (nI n)])), (qa, .inl (cI, 4, .inl (j4 65536 65536 36195 0))), (qb, .inl (cI, 4, .inl (j4 0 36195 65536 65536)))]) (n := 2) (c_floorMod l D cI cB cJ qQ  q 4 (by decide)) hx hb hml hown hts (amb_ok qQ) hK hP hD hS hA hM (gi_S gw_284 gw_250 gw_35 gw_251) rfl (by decide +kernel) ⟨by omega, by omega⟩ [] [0, 1, 2] rfl rfl rfl rfl (by decide) rfl hl.1 rfl (Nat.le_of_ble_eq_true rfl) d_Arc_takeQuarter_45 ⟨by omega, by omega⟩ (fun u_33 H locs hok hP hD hS => ?_)
    have hP : va_P D cl [(ha_, .inr (2, [.ref qx, .ref qy, .ref qa, .ref qb, .int (nI n)])), (qa, .inl (cI, 4, .inl (j4 65536 65536 36195 0))), (qb, .inl (cI, 4, .inl (j4 0 36195 65536 65536)))] H := hP
    have hD : va_D A [(ha_, .inr (2, [.ref qx, .ref qy, .ref qa, .ref qb, .int (nI n)])), (qa, .inl (cI, 4, .inl (j4 65536 65536 36195 0))), (qb, .inl (cI, 4, .inl (j4 0 36195 65536 65536)))] := hD
    refine W.eq (g2 := F0 m 48 ls [.long (fmd q 4)]) rfl ?_
    refine tp_l (3) (h_) ?_
    refine lv_l2i (v := 3) hx hb d_Arc_takeQuarter_48 (by decide) ?_
    refine lv_istore_n (lv' := [(3, .int 3), (0, .ref ha_), (1, .long q)]) hx hb d_Arc_takeQuarter_49 rfl hl (by decide) rfl (fun ls hl => ?_)
    refine lv_iconst (v := 0) hx hb d_Arc_takeQuarter_50 (by decide) ?_
    refine lv_istore (lv' := [(4, .int 0), (3, .int 3), (0, .ref ha_), (1, .long q)]) hx hb d_Arc_takeQuarter_51 hl (by decide) rfl (fun ls hl => ?_)
    refine lv_iload hx hb d_Arc_takeQuarter_53 (lv_at hl 0 rfl) ?_
    refine lv_iload_n hx hb d_Arc_takeQuarter_55 rfl (lv_at hl 1 rfl) ?_
    refine bn_ge (a1 := 0) (b1 := 3) (tgt := 69) hx hb (by omega) (by omega) d_Arc_takeQuarter_56 (by decide) (fun c_34 => ?_) (fun c_34 => ?_)
    · exact absurd c_34 (by decide)
    refine lv_aload_n hx hb d_Arc_takeQuarter_59 rfl (lv_at hl 2 rfl) ?_
    refine ct_callV (ci := 2) (q0 := 0) (As := []) (rest := []) (wr := []) (n := 0) (c_Arc_turnQuarter l D cI cB cJ qQ  ha_ qx qy qa qb n 65536 65536 36195 0 0 36195 65536 65536 ) hx hb hml hown hts (amb_ok qQ) hK hP hD hS hA hM (gi_V gw_285 gw_287 gw_4 gw_30 gw_288) rfl (by decide +kernel) ⟨by omega, by omega⟩ [0, 1, 2] [] rfl rfl rfl rfl (by decide) rfl rfl rfl hl.1 rfl (Nat.le_of_ble_eq_true rfl) d_Arc_takeQuarter_60 ⟨by omega, by omega⟩ (fun u_35 H locs hok hP hD hS => ?_)
    have hP : va_P D cl [(ha_, .inr (2, [.ref qx, .ref qy, .ref qa, .ref qb, .int (nI n)])), (qa, .inl (cI, 4, .inl (j4 (-0) (-36195) (-65536) (-65536)))), (qb, .inl (cI, 4, .inl (j4 65536 65536 36195 0)))] H := hP
    have hD : va_D A [(ha_, .inr (2, [.ref qx, .ref qy, .ref qa, .ref qb, .int (nI n)])), (qa, .inl (cI, 4, .inl (j4 (-0) (-36195) (-65536) (-65536)))), (qb, .inl (cI, 4, .inl (j4 65536 65536 36195 0)))] := hD
    refine W.eq (g2 := F0 m 63 ls []) rfl ?_
    refine lv_iinc (v := 1) (lv' := [(4, .int 1), (3, .int 3), (0, .ref ha_), (1, .long q)]) hx hb d_Arc_takeQuarter_63 hl (k := 0) rfl (by first | exact nI_add _ 1 | rfl | decide) (by decide) rfl (fun ls hl => ?_)
    refine lv_goto (tgt := 53) hx hb d_Arc_takeQuarter_66 (by decide) ?_
    refine lv_iload hx hb d_Arc_takeQuarter_53 (lv_at hl 0 rfl) ?_
    refine lv_iload_n hx hb d_Arc_takeQuarter_55 rfl (lv_at hl 1 rfl) ?_
    refine bn_ge (a1 := 1) (b1 := 3) (tgt := 69) hx hb (by omega) (by omega) d_Arc_takeQuarter_56 (by decide) (fun c_36 => ?_) (fun c_36 => ?_)
    · exact absurd c_36 (by decide)
    refine lv_aload_n hx hb d_Arc_takeQuarter_59 rfl (lv_at hl 2 rfl) ?_
    refine ct_callV (ci := 2) (q0 := 0) (As := []) (rest := []) (wr := []) (n := 0) (c_Arc_turnQuarter l D cI cB cJ qQ  ha_ qx qy qa qb n (-0) (-36195) (-65536) (-65536) 65536 65536 36195 0 ) hx hb hml hown hts (amb_ok qQ) hK hP hD hS hA hM (gi_V gw_285 gw_287 gw_4 gw_30 gw_288) rfl (by decide +kernel) ⟨by omega, by omega⟩ [0, 1, 2] [] rfl rfl rfl rfl (by decide) rfl rfl rfl hl.1 rfl (Nat.le_of_ble_eq_true rfl) d_Arc_takeQuarter_60 ⟨by omega, by omega⟩ (fun u_37 H locs hok hP hD hS => ?_)
    have hP : va_P D cl [(ha_, .inr (2, [.ref qx, .ref qy, .ref qa, .ref qb, .int (nI n)])), (qa, .inl (cI, 4, .inl (j4 (-65536) (-65536) (-36195) (-0)))), (qb, .inl (cI, 4, .inl (j4 (-0) (-36195) (-65536) (-65536))))] H := hP
    have hD : va_D A [(ha_, .inr (2, [.ref qx, .ref qy, .ref qa, .ref qb, .int (nI n)])), (qa, .inl (cI, 4, .inl (j4 (-65536) (-65536) (-36195) (-0)))), (qb, .inl (cI, 4, .inl (j4 (-0) (-36195) (-65536) (-65536))))] := hD
    refine W.eq (g2 := F0 m 63 ls []) rfl ?_
    refine lv_iinc (v := 2) (lv' := [(4, .int 2), (3, .int 3), (0, .ref ha_), (1, .long q)]) hx hb d_Arc_takeQuarter_63 hl (k := 0) rfl (by first | exact nI_add _ 1 | rfl | decide) (by decide) rfl (fun ls hl => ?_)
    refine lv_goto (tgt := 53) hx hb d_Arc_takeQuarter_66 (by decide) ?_
    refine lv_iload hx hb d_Arc_takeQuarter_53 (lv_at hl 0 rfl) ?_
    refine lv_iload_n hx hb d_Arc_takeQuarter_55 rfl (lv_at hl 1 rfl) ?_
    refine bn_ge (a1 := 2) (b1 := 3) (tgt := 69) hx hb (by omega) (by omega) d_Arc_takeQuarter_56 (by decide) (fun c_38 => ?_) (fun c_38 => ?_)
    · exact absurd c_38 (by decide)
    refine lv_aload_n hx hb d_Arc_takeQuarter_59 rfl (lv_at hl 2 rfl) ?_
    refine ct_callV (ci := 2) (q0 := 0) (As := []) (rest := []) (wr := []) (n := 0) (c_Arc_turnQuarter l D cI cB cJ qQ  ha_ qx qy qa qb n (-65536) (-65536) (-36195) (-0) (-0) (-36195) (-65536) (-65536) ) hx hb hml hown hts (amb_ok qQ) hK hP hD hS hA hM (gi_V gw_285 gw_287 gw_4 gw_30 gw_288) rfl (by decide +kernel) ⟨by omega, by omega⟩ [0, 1, 2] [] rfl rfl rfl rfl (by decide) rfl rfl rfl hl.1 rfl (Nat.le_of_ble_eq_true rfl) d_Arc_takeQuarter_60 ⟨by omega, by omega⟩ (fun u_39 H locs hok hP hD hS => ?_)
    have hP : va_P D cl [(ha_, .inr (2, [.ref qx, .ref qy, .ref qa, .ref qb, .int (nI n)])), (qa, .inl (cI, 4, .inl (j4 (-(-0)) (-(-36195)) (-(-65536)) (-(-65536))))), (qb, .inl (cI, 4, .inl (j4 (-65536) (-65536) (-36195) (-0))))] H := hP
    have hD : va_D A [(ha_, .inr (2, [.ref qx, .ref qy, .ref qa, .ref qb, .int (nI n)])), (qa, .inl (cI, 4, .inl (j4 (-(-0)) (-(-36195)) (-(-65536)) (-(-65536))))), (qb, .inl (cI, 4, .inl (j4 (-65536) (-65536) (-36195) (-0))))] := hD
    refine W.eq (g2 := F0 m 63 ls []) rfl ?_
    refine lv_iinc (v := 3) (lv' := [(4, .int 3), (3, .int 3), (0, .ref ha_), (1, .long q)]) hx hb d_Arc_takeQuarter_63 hl (k := 0) rfl (by first | exact nI_add _ 1 | rfl | decide) (by decide) rfl (fun ls hl => ?_)
    refine lv_goto (tgt := 53) hx hb d_Arc_takeQuarter_66 (by decide) ?_
    refine lv_iload hx hb d_Arc_takeQuarter_53 (lv_at hl 0 rfl) ?_
    refine lv_iload_n hx hb d_Arc_takeQuarter_55 rfl (lv_at hl 1 rfl) ?_
    refine bn_ge (a1 := 3) (b1 := 3) (tgt := 69) hx hb (by omega) (by omega) d_Arc_takeQuarter_56 (by decide) (fun c_40 => ?_) (fun c_40 => ?_)
    rotate_left
    · exact absurd c_40 (by decide)
    exact ct_retv hQ hx hb hr hlocks hP hD hS (-(-0), -(-36195), -(-65536), -(-65536), -65536, -65536, -36195, -0) [(ha_, .inr (2, [.ref qx, .ref qy, .ref qa, .ref qb, .int (nI n)])), (qa, .inl (cI, 4, .inl (j4 (-(-0)) (-(-36195)) (-(-65536)) (-(-65536))))), (qb, .inl (cI, 4, .inl (j4 (-65536) (-65536) (-36195) (-0))))] [0, 1, 2] (rfl) (⟨by rw [h_]; first | exact rfl | (dsimp only; decide), by rw [h_]; first | exact rfl | (dsimp only; decide)⟩) (rfl) rfl rfl (by omega) (by omega) d_Arc_takeQuarter_69
