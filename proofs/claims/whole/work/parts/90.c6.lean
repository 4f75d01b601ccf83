set_option maxHeartbeats 4000000 in
set_option maxRecDepth 100000 in
/-- Path() -/
theorem c_Path_init (l : Launch) (D : va_G) (cI cB cJ : ClassId) (qQ : Nat) (hp : Nat)  : ct l D cl [(cI, .int), (cB, .byte), (cJ, .long)] (amb qQ) y_Path_init w_Path_init 1 12 (4) (24000) [.ref hp] [(hp, .inr (5, [.null, .null, .null, .null, .int 0, .int 0, .int 0]))] (fun u_ : Nat × Nat × Nat × Nat => match u_ with | (qk, qf, qx, qy) => True) (fun u_ : Nat × Nat × Nat × Nat => match u_ with | (qk, qf, qx, qy) => none) (fun u_ : Nat × Nat × Nat × Nat => match u_ with | (qk, qf, qx, qy) => [(hp, .inr (5, [.ref qk, .ref qf, .ref qx, .ref qy, .int (nI 0), .int (nI 0), .int (nI 0)])), (qk, .inl (cI, 3000, .inl (fun _ => 0))), (qf, .inl (cI, 3000, .inl (fun _ => 0))), (qx, .inl (cI, 9000, .inl (fun _ => 0))), (qy, .inl (cI, 9000, .inl (fun _ => 0)))]) := by
  refine ct_ofW (cc := b_Path_init) (maxL := 1) (ret := none) (by decide) rfl (Nat.le_of_ble_eq_true rfl) ?_
  intro p e R s m args below meth c A Q ls hx hb hr hml hts hown hlocks hname hRf hRc hRs hRl hQ hK hP hD hS hA hM hl
  have hl : lv_has ls 1 [(0, .ref hp)] := hl
  refine lv_aload_n hx hb d_Path_init_0 rfl (lv_at hl 0 rfl) ?_
  refine W.objInit hx hb hown (hts _ (gwc gw_106)) (hts _ (gwc gw_42)) (hts _ (gwc gw_objc)) rfl (by rw [hml]; exact hl.1) rfl d_Path_init_1 (by omega) (by rw [hRl]; exact Nat.le_of_ble_eq_true rfl) ?_
  refine W.eq (g2 := F0 m 4 ls []) rfl ?_
  refine lv_aload_n hx hb d_Path_init_4 rfl (lv_at hl 0 rfl) ?_
  refine lv_sipush (v := 3000) hx hb d_Path_init_5 (by decide) ?_
  refine na_i hx hb (hts _ (gwc gw_87)) hK hP hD hS hA 0 rfl 3000 (by omega) (by omega) (by omega) d_Path_init_8 (fun q_1 H hP hD hS => ?_)
  have hP : va_P D cl [(hp, .inr (5, [.null, .null, .null, .null, .int 0, .int 0, .int 0])), (q_1, .inl (cI, 3000, .inl (fun _ => 0)))] H := hP
  have hD : va_D A [(hp, .inr (5, [.null, .null, .null, .null, .int 0, .int 0, .int 0])), (q_1, .inl (cI, 3000, .inl (fun _ => 0)))] := hD
  refine va_putF (D := D) (ci := 5) (v := .ref q_1) (ty := (.array .int)) (C := R_Path) (T := T_Path) (N := 7) hx hb hts (ui_Path _) t_Path tk_Path nk_Path hown hK hP hD hS 0 rfl rfl 0 (by decide) (hts _ (gwc gw_107)) (fun _ h9 => h9) rfl hname rfl (by decide +kernel) rfl rfl (Nat.le_of_ble_eq_true rfl) d_Path_init_10 (fun H locs hP hD hS => ?_)
  have hP : va_P D cl [(hp, .inr (5, [.ref q_1, .null, .null, .null, .int 0, .int 0, .int 0])), (q_1, .inl (cI, 3000, .inl (fun _ => 0)))] H := hP
  have hD : va_D A [(hp, .inr (5, [.ref q_1, .null, .null, .null, .int 0, .int 0, .int 0])), (q_1, .inl (cI, 3000, .inl (fun _ => 0)))] := hD
  refine lv_aload_n hx hb d_Path_init_13 rfl (lv_at hl 0 rfl) ?_
  refine lv_sipush (v := 3000) hx hb d_Path_init_14 (by decide) ?_
  refine na_i hx hb (hts _ (gwc gw_87)) hK hP hD hS hA 0 rfl 3000 (by omega) (by omega) (by omega) d_Path_init_17 (fun q_2 H hP hD hS => ?_)
  have hP : va_P D cl [(hp, .inr (5, [.ref q_1, .null, .null, .null, .int 0, .int 0, .int 0])), (q_1, .inl (cI, 3000, .inl (fun _ => 0))), (q_2, .inl (cI, 3000, .inl (fun _ => 0)))] H := hP
  have hD : va_D A [(hp, .inr (5, [.ref q_1, .null, .null, .null, .int 0, .int 0, .int 0])), (q_1, .inl (cI, 3000, .inl (fun _ => 0))), (q_2, .inl (cI, 3000, .inl (fun _ => 0)))] := hD
  refine va_putF (D := D) (ci := 5) (v := .ref q_2) (ty := (.array .int)) (C := R_Path) (T := T_Path) (N := 7) hx hb hts (ui_Path _) t_Path tk_Path nk_Path hown hK hP hD hS 0 rfl rfl 1 (by decide) (hts _ (gwc gw_109)) (fun _ h9 => h9) rfl hname rfl (by decide +kernel) rfl rfl (Nat.le_of_ble_eq_true rfl) d_Path_init_19 (fun H locs hP hD hS => ?_)
  have hP : va_P D cl [(hp, .inr (5, [.ref q_1, .ref q_2, .null, .null, .int 0, .int 0, .int 0])), (q_1, .inl (cI, 3000, .inl (fun _ => 0))), (q_2, .inl (cI, 3000, .inl (fun _ => 0)))] H := hP
  have hD : va_D A [(hp, .inr (5, [.ref q_1, .ref q_2, .null, .null, .int 0, .int 0, .int 0])), (q_1, .inl (cI, 3000, .inl (fun _ => 0))), (q_2, .inl (cI, 3000, .inl (fun _ => 0)))] := hD
  refine lv_aload_n hx hb d_Path_init_22 rfl (lv_at hl 0 rfl) ?_
  refine lv_sipush (v := 9000) hx hb d_Path_init_23 (by decide) ?_
  refine na_i hx hb (hts _ (gwc gw_87)) hK hP hD hS hA 0 rfl 9000 (by omega) (by omega) (by omega) d_Path_init_26 (fun q_3 H hP hD hS => ?_)
  have hP : va_P D cl [(hp, .inr (5, [.ref q_1, .ref q_2, .null, .null, .int 0, .int 0, .int 0])), (q_1, .inl (cI, 3000, .inl (fun _ => 0))), (q_2, .inl (cI, 3000, .inl (fun _ => 0))), (q_3, .inl (cI, 9000, .inl (fun _ => 0)))] H := hP
  have hD : va_D A [(hp, .inr (5, [.ref q_1, .ref q_2, .null, .null, .int 0, .int 0, .int 0])), (q_1, .inl (cI, 3000, .inl (fun _ => 0))), (q_2, .inl (cI, 3000, .inl (fun _ => 0))), (q_3, .inl (cI, 9000, .inl (fun _ => 0)))] := hD
  refine va_putF (D := D) (ci := 5) (v := .ref q_3) (ty := (.array .int)) (C := R_Path) (T := T_Path) (N := 7) hx hb hts (ui_Path _) t_Path tk_Path nk_Path hown hK hP hD hS 0 rfl rfl 2 (by decide) (hts _ (gwc gw_111)) (fun _ h9 => h9) rfl hname rfl (by decide +kernel) rfl rfl (Nat.le_of_ble_eq_true rfl) d_Path_init_28 (fun H locs hP hD hS => ?_)
  have hP : va_P D cl [(hp, .inr (5, [.ref q_1, .ref q_2, .ref q_3, .null, .int 0, .int 0, .int 0])), (q_1, .inl (cI, 3000, .inl (fun _ => 0))), (q_2, .inl (cI, 3000, .inl (fun _ => 0))), (q_3, .inl (cI, 9000, .inl (fun _ => 0)))] H := hP
  have hD : va_D A [(hp, .inr (5, [.ref q_1, .ref q_2, .ref q_3, .null, .int 0, .int 0, .int 0])), (q_1, .inl (cI, 3000, .inl (fun _ => 0))), (q_2, .inl (cI, 3000, .inl (fun _ => 0))), (q_3, .inl (cI, 9000, .inl (fun _ => 0)))] := hD
  refine lv_aload_n hx hb d_Path_init_31 rfl (lv_at hl 0 rfl) ?_
  refine lv_sipush (v := 9000) hx hb d_Path_init_32 (by decide) ?_
  refine na_i hx hb (hts _ (gwc gw_87)) hK hP hD hS hA 0 rfl 9000 (by omega) (by omega) (by omega) d_Path_init_35 (fun q_4 H hP hD hS => ?_)
  have hP : va_P D cl [(hp, .inr (5, [.ref q_1, .ref q_2, .ref q_3, .null, .int 0, .int 0, .int 0])), (q_1, .inl (cI, 3000, .inl (fun _ => 0))), (q_2, .inl (cI, 3000, .inl (fun _ => 0))), (q_3, .inl (cI, 9000, .inl (fun _ => 0))), (q_4, .inl (cI, 9000, .inl (fun _ => 0)))] H := hP
  have hD : va_D A [(hp, .inr (5, [.ref q_1, .ref q_2, .ref q_3, .null, .int 0, .int 0, .int 0])), (q_1, .inl (cI, 3000, .inl (fun _ => 0))), (q_2, .inl (cI, 3000, .inl (fun _ => 0))), (q_3, .inl (cI, 9000, .inl (fun _ => 0))), (q_4, .inl (cI, 9000, .inl (fun _ => 0)))] := hD
  refine va_putF (D := D) (ci := 5) (v := .ref q_4) (ty := (.array .int)) (C := R_Path) (T := T_Path) (N := 7) hx hb hts (ui_Path _) t_Path tk_Path nk_Path hown hK hP hD hS 0 rfl rfl 3 (by decide) (hts _ (gwc gw_114)) (fun _ h9 => h9) rfl hname rfl (by decide +kernel) rfl rfl (Nat.le_of_ble_eq_true rfl) d_Path_init_37 (fun H locs hP hD hS => ?_)
  have hP : va_P D cl [(hp, .inr (5, [.ref q_1, .ref q_2, .ref q_3, .ref q_4, .int 0, .int 0, .int 0])), (q_1, .inl (cI, 3000, .inl (fun _ => 0))), (q_2, .inl (cI, 3000, .inl (fun _ => 0))), (q_3, .inl (cI, 9000, .inl (fun _ => 0))), (q_4, .inl (cI, 9000, .inl (fun _ => 0)))] H := hP
  have hD : va_D A [(hp, .inr (5, [.ref q_1, .ref q_2, .ref q_3, .ref q_4, .int 0, .int 0, .int 0])), (q_1, .inl (cI, 3000, .inl (fun _ => 0))), (q_2, .inl (cI, 3000, .inl (fun _ => 0))), (q_3, .inl (cI, 9000, .inl (fun _ => 0))), (q_4, .inl (cI, 9000, .inl (fun _ => 0)))] := hD
  exact ct_retv hQ hx hb hr hlocks hP hD hS (q_1, q_2, q_3, q_4) [(hp, .inr (5, [.ref q_1, .ref q_2, .ref q_3, .ref q_4, .int 0, .int 0, .int 0])), (q_1, .inl (cI, 3000, .inl (fun _ => 0))), (q_2, .inl (cI, 3000, .inl (fun _ => 0))), (q_3, .inl (cI, 9000, .inl (fun _ => 0))), (q_4, .inl (cI, 9000, .inl (fun _ => 0)))] [0, 1, 2, 3, 4] (rfl) (trivial) (rfl) rfl rfl (by omega) (by omega) d_Path_init_40
set_option maxHeartbeats 4000000 in
set_option maxRecDepth 100000 in
/-- addPart -/
theorem c_Path_addPart (l : Launch) (D : va_G) (cI cB cJ : ClassId) (qQ : Nat) (hp : Nat) (qk : Nat) (qf : Nat) (qx : Nat) (qy : Nat) (pc_ : Nat) (pn : Nat) (pb : Nat) (K : Nat → Int32) (Fi : Nat → Int32) (kd_ : Int32) (fs : Int32) (hpc : pc_ < 3000) : ct l D cl [(cI, .int), (cB, .byte), (cJ, .long)] (amb qQ) y_Path_addPart w_Path_addPart 0 0 (0) (0) [.ref hp, .int kd_, .int fs] [(hp, .inr (5, [.ref qk, .ref qf, .ref qx, .ref qy, .int (nI pc_), .int (nI pn), .int (nI pb)])), (qk, .inl (cI, 3000, .inl K)), (qf, .inl (cI, 3000, .inl Fi))] (fun _ : Unit => True) (fun _ : Unit => none) (fun _ : Unit => [(hp, .inr (5, [.ref qk, .ref qf, .ref qx, .ref qy, .int (nI (pc_ + 1)), .int (nI pn), .int (nI pb)])), (qk, .inl (cI, 3000, .inl (upd K pc_ kd_))), (qf, .inl (cI, 3000, .inl (upd Fi pc_ fs)))]) := by
  refine ct_ofW (cc := b_Path_addPart) (maxL := 3) (ret := none) (by decide) rfl (Nat.le_of_ble_eq_true rfl) ?_
  intro p e R s m args below meth c A Q ls hx hb hr hml hts hown hlocks hname hRf hRc hRs hRl hQ hK hP hD hS hA hM hl
  have hl : lv_has ls 3 [(0, .ref hp), (1, .int kd_), (2, .int fs)] := hl
  refine lv_aload_n hx hb d_Path_addPart_0 rfl (lv_at hl 0 rfl) ?_
  refine va_get (D := D) (ci := 5) (v := .int (nI pc_)) (C := R_Path) (T := T_Path) (N := 7) hx hb hts (ui_Path _) hown hK hP 0 rfl rfl 4 (by decide) (hts _ (gwc gw_117)) (fun _ h9 => h9) rfl d_Path_addPart_1 ?_
  refine lv_sipush (v := 3000) hx hb d_Path_addPart_4 (by decide) ?_
  refine bn_ge (a1 := pc_) (b1 := 3000) (tgt := 40) hx hb (by omega) (by omega) d_Path_addPart_7 (by decide) (fun c_1 => ?_) (fun c_1 => ?_)
  · skip
    exact absurd c_1 (by omega)
  · skip
    refine lv_aload_n hx hb d_Path_addPart_10 rfl (lv_at hl 0 rfl) ?_
    refine va_get (D := D) (ci := 5) (v := .ref qk) (C := R_Path) (T := T_Path) (N := 7) hx hb hts (ui_Path _) hown hK hP 0 rfl rfl 0 (by decide) (hts _ (gwc gw_107)) (fun _ h9 => h9) rfl d_Path_addPart_11 ?_
    refine lv_aload_n hx hb d_Path_addPart_14 rfl (lv_at hl 0 rfl) ?_
    refine va_get (D := D) (ci := 5) (v := .int (nI pc_)) (C := R_Path) (T := T_Path) (N := 7) hx hb hts (ui_Path _) hown hK hP 0 rfl rfl 4 (by decide) (hts _ (gwc gw_117)) (fun _ h9 => h9) rfl d_Path_addPart_15 ?_
    refine lv_iload_n hx hb d_Path_addPart_18 rfl (lv_at hl 1 rfl) ?_
    refine st_i hx hb hK hP hD hS 1 0 rfl rfl pc_ (by omega) (by omega) d_Path_addPart_19 (fun H locs hP hD hS => ?_)
    have hP : va_P D cl [(hp, .inr (5, [.ref qk, .ref qf, .ref qx, .ref qy, .int (nI pc_), .int (nI pn), .int (nI pb)])), (qk, .inl (cI, 3000, .inl (upd K pc_ kd_))), (qf, .inl (cI, 3000, .inl Fi))] H := hP
    have hD : va_D A [(hp, .inr (5, [.ref qk, .ref qf, .ref qx, .ref qy, .int (nI pc_), .int (nI pn), .int (nI pb)])), (qk, .inl (cI, 3000, .inl (upd K pc_ kd_))), (qf, .inl (cI, 3000, .inl Fi))] := hD
    refine lv_aload_n hx hb d_Path_addPart_20 rfl (lv_at hl 0 rfl) ?_
    refine va_get (D := D) (ci := 5) (v := .ref qf) (C := R_Path) (T := T_Path) (N := 7) hx hb hts (ui_Path _) hown hK hP 0 rfl rfl 1 (by decide) (hts _ (gwc gw_109)) (fun _ h9 => h9) rfl d_Path_addPart_21 ?_
    refine lv_aload_n hx hb d_Path_addPart_24 rfl (lv_at hl 0 rfl) ?_
    refine va_get (D := D) (ci := 5) (v := .int (nI pc_)) (C := R_Path) (T := T_Path) (N := 7) hx hb hts (ui_Path _) hown hK hP 0 rfl rfl 4 (by decide) (hts _ (gwc gw_117)) (fun _ h9 => h9) rfl d_Path_addPart_25 ?_
    refine lv_iload_n hx hb d_Path_addPart_28 rfl (lv_at hl 2 rfl) ?_
    refine st_i hx hb hK hP hD hS 2 0 rfl rfl pc_ (by omega) (by omega) d_Path_addPart_29 (fun H locs hP hD hS => ?_)
    have hP : va_P D cl [(hp, .inr (5, [.ref qk, .ref qf, .ref qx, .ref qy, .int (nI pc_), .int (nI pn), .int (nI pb)])), (qk, .inl (cI, 3000, .inl (upd K pc_ kd_))), (qf, .inl (cI, 3000, .inl (upd Fi pc_ fs)))] H := hP
    have hD : va_D A [(hp, .inr (5, [.ref qk, .ref qf, .ref qx, .ref qy, .int (nI pc_), .int (nI pn), .int (nI pb)])), (qk, .inl (cI, 3000, .inl (upd K pc_ kd_))), (qf, .inl (cI, 3000, .inl (upd Fi pc_ fs)))] := hD
    refine lv_aload_n hx hb d_Path_addPart_30 rfl (lv_at hl 0 rfl) ?_
    refine lv_dup hx hb d_Path_addPart_31 rfl ?_
    refine va_get (D := D) (ci := 5) (v := .int (nI pc_)) (C := R_Path) (T := T_Path) (N := 7) hx hb hts (ui_Path _) hown hK hP 0 rfl rfl 4 (by decide) (hts _ (gwc gw_117)) (fun _ h9 => h9) rfl d_Path_addPart_32 ?_
    refine lv_iconst (v := 1) hx hb d_Path_addPart_35 (by decide) ?_
    refine lv_iadd hx hb d_Path_addPart_36 ?_
    refine tp_i (nI (pc_ + 1)) (nI_add _ _) ?_
    refine va_put (D := D) (ci := 5) (v := .int (nI (pc_ + 1))) (ty := .int) (C := R_Path) (T := T_Path) (N := 7) hx hb hts (ui_Path _) t_Path tk_Path nk_Path hown hK hP hD hS 0 rfl rfl 4 (by decide) (hts _ (gwc gw_117)) (fun _ h9 => h9) rfl (by decide +kernel) rfl rfl (Nat.le_of_ble_eq_true rfl) d_Path_addPart_37 (fun H locs hP hD hS => ?_)
    have hP : va_P D cl [(hp, .inr (5, [.ref qk, .ref qf, .ref qx, .ref qy, .int (nI (pc_ + 1)), .int (nI pn), .int (nI pb)])), (qk, .inl (cI, 3000, .inl (upd K pc_ kd_))), (qf, .inl (cI, 3000, .inl (upd Fi pc_ fs)))] H := hP
    have hD : va_D A [(hp, .inr (5, [.ref qk, .ref qf, .ref qx, .ref qy, .int (nI (pc_ + 1)), .int (nI pn), .int (nI pb)])), (qk, .inl (cI, 3000, .inl (upd K pc_ kd_))), (qf, .inl (cI, 3000, .inl (upd Fi pc_ fs)))] := hD
    exact ct_retv hQ hx hb hr hlocks hP hD hS () [(hp, .inr (5, [.ref qk, .ref qf, .ref qx, .ref qy, .int (nI (pc_ + 1)), .int (nI pn), .int (nI pb)])), (qk, .inl (cI, 3000, .inl (upd K pc_ kd_))), (qf, .inl (cI, 3000, .inl (upd Fi pc_ fs)))] [0, 1, 2] (rfl) (trivial) (rfl) rfl rfl (by omega) (by omega) d_Path_addPart_40
set_option maxHeartbeats 4000000 in
set_option maxRecDepth 100000 in
/-- addPoint -/
theorem c_Path_addPoint (l : Launch) (D : va_G) (cI cB cJ : ClassId) (qQ : Nat) (hp : Nat) (qk : Nat) (qf : Nat) (qx : Nat) (qy : Nat) (pc_ : Nat) (pn : Nat) (pb : Nat) (X : Nat → Int32) (Y : Nat → Int32) (x : Int32) (y : Int32) (hpn : pn < 9000) : ct l D cl [(cI, .int), (cB, .byte), (cJ, .long)] (amb qQ) y_Path_addPoint w_Path_addPoint 0 0 (0) (0) [.ref hp, .int x, .int y] [(hp, .inr (5, [.ref qk, .ref qf, .ref qx, .ref qy, .int (nI pc_), .int (nI pn), .int (nI pb)])), (qx, .inl (cI, 9000, .inl X)), (qy, .inl (cI, 9000, .inl Y))] (fun _ : Unit => True) (fun _ : Unit => none) (fun _ : Unit => [(hp, .inr (5, [.ref qk, .ref qf, .ref qx, .ref qy, .int (nI pc_), .int (nI (pn + 1)), .int (nI pb)])), (qx, .inl (cI, 9000, .inl (upd X pn x))), (qy, .inl (cI, 9000, .inl (upd Y pn y)))]) := by
  refine ct_ofW (cc := b_Path_addPoint) (maxL := 3) (ret := none) (by decide) rfl (Nat.le_of_ble_eq_true rfl) ?_
  intro p e R s m args below meth c A Q ls hx hb hr hml hts hown hlocks hname hRf hRc hRs hRl hQ hK hP hD hS hA hM hl
  have hl : lv_has ls 3 [(0, .ref hp), (1, .int x), (2, .int y)] := hl
  refine lv_aload_n hx hb d_Path_addPoint_0 rfl (lv_at hl 0 rfl) ?_
  refine va_get (D := D) (ci := 5) (v := .int (nI pn)) (C := R_Path) (T := T_Path) (N := 7) hx hb hts (ui_Path _) hown hK hP 0 rfl rfl 5 (by decide) (hts _ (gwc gw_121)) (fun _ h9 => h9) rfl d_Path_addPoint_1 ?_
  refine lv_sipush (v := 9000) hx hb d_Path_addPoint_4 (by decide) ?_
  refine bn_ge (a1 := pn) (b1 := 9000) (tgt := 40) hx hb (by omega) (by omega) d_Path_addPoint_7 (by decide) (fun c_1 => ?_) (fun c_1 => ?_)
  · skip
    exact absurd c_1 (by omega)
  · skip
    refine lv_aload_n hx hb d_Path_addPoint_10 rfl (lv_at hl 0 rfl) ?_
    refine va_get (D := D) (ci := 5) (v := .ref qx) (C := R_Path) (T := T_Path) (N := 7) hx hb hts (ui_Path _) hown hK hP 0 rfl rfl 2 (by decide) (hts _ (gwc gw_111)) (fun _ h9 => h9) rfl d_Path_addPoint_11 ?_
    refine lv_aload_n hx hb d_Path_addPoint_14 rfl (lv_at hl 0 rfl) ?_
    refine va_get (D := D) (ci := 5) (v := .int (nI pn)) (C := R_Path) (T := T_Path) (N := 7) hx hb hts (ui_Path _) hown hK hP 0 rfl rfl 5 (by decide) (hts _ (gwc gw_121)) (fun _ h9 => h9) rfl d_Path_addPoint_15 ?_
    refine lv_iload_n hx hb d_Path_addPoint_18 rfl (lv_at hl 1 rfl) ?_
    refine st_i hx hb hK hP hD hS 1 0 rfl rfl pn (by omega) (by omega) d_Path_addPoint_19 (fun H locs hP hD hS => ?_)
    have hP : va_P D cl [(hp, .inr (5, [.ref qk, .ref qf, .ref qx, .ref qy, .int (nI pc_), .int (nI pn), .int (nI pb)])), (qx, .inl (cI, 9000, .inl (upd X pn x))), (qy, .inl (cI, 9000, .inl Y))] H := hP
    have hD : va_D A [(hp, .inr (5, [.ref qk, .ref qf, .ref qx, .ref qy, .int (nI pc_), .int (nI pn), .int (nI pb)])), (qx, .inl (cI, 9000, .inl (upd X pn x))), (qy, .inl (cI, 9000, .inl Y))] := hD
    refine lv_aload_n hx hb d_Path_addPoint_20 rfl (lv_at hl 0 rfl) ?_
    refine va_get (D := D) (ci := 5) (v := .ref qy) (C := R_Path) (T := T_Path) (N := 7) hx hb hts (ui_Path _) hown hK hP 0 rfl rfl 3 (by decide) (hts _ (gwc gw_114)) (fun _ h9 => h9) rfl d_Path_addPoint_21 ?_
    refine lv_aload_n hx hb d_Path_addPoint_24 rfl (lv_at hl 0 rfl) ?_
    refine va_get (D := D) (ci := 5) (v := .int (nI pn)) (C := R_Path) (T := T_Path) (N := 7) hx hb hts (ui_Path _) hown hK hP 0 rfl rfl 5 (by decide) (hts _ (gwc gw_121)) (fun _ h9 => h9) rfl d_Path_addPoint_25 ?_
    refine lv_iload_n hx hb d_Path_addPoint_28 rfl (lv_at hl 2 rfl) ?_
    refine st_i hx hb hK hP hD hS 2 0 rfl rfl pn (by omega) (by omega) d_Path_addPoint_29 (fun H locs hP hD hS => ?_)
    have hP : va_P D cl [(hp, .inr (5, [.ref qk, .ref qf, .ref qx, .ref qy, .int (nI pc_), .int (nI pn), .int (nI pb)])), (qx, .inl (cI, 9000, .inl (upd X pn x))), (qy, .inl (cI, 9000, .inl (upd Y pn y)))] H := hP
    have hD : va_D A [(hp, .inr (5, [.ref qk, .ref qf, .ref qx, .ref qy, .int (nI pc_), .int (nI pn), .int (nI pb)])), (qx, .inl (cI, 9000, .inl (upd X pn x))), (qy, .inl (cI, 9000, .inl (upd Y pn y)))] := hD
    refine lv_aload_n hx hb d_Path_addPoint_30 rfl (lv_at hl 0 rfl) ?_
    refine lv_dup hx hb d_Path_addPoint_31 rfl ?_
    refine va_get (D := D) (ci := 5) (v := .int (nI pn)) (C := R_Path) (T := T_Path) (N := 7) hx hb hts (ui_Path _) hown hK hP 0 rfl rfl 5 (by decide) (hts _ (gwc gw_121)) (fun _ h9 => h9) rfl d_Path_addPoint_32 ?_
    refine lv_iconst (v := 1) hx hb d_Path_addPoint_35 (by decide) ?_
    refine lv_iadd hx hb d_Path_addPoint_36 ?_
    refine tp_i (nI (pn + 1)) (nI_add _ _) ?_
    refine va_put (D := D) (ci := 5) (v := .int (nI (pn + 1))) (ty := .int) (C := R_Path) (T := T_Path) (N := 7) hx hb hts (ui_Path _) t_Path tk_Path nk_Path hown hK hP hD hS 0 rfl rfl 5 (by decide) (hts _ (gwc gw_121)) (fun _ h9 => h9) rfl (by decide +kernel) rfl rfl (Nat.le_of_ble_eq_true rfl) d_Path_addPoint_37 (fun H locs hP hD hS => ?_)
    have hP : va_P D cl [(hp, .inr (5, [.ref qk, .ref qf, .ref qx, .ref qy, .int (nI pc_), .int (nI (pn + 1)), .int (nI pb)])), (qx, .inl (cI, 9000, .inl (upd X pn x))), (qy, .inl (cI, 9000, .inl (upd Y pn y)))] H := hP
    have hD : va_D A [(hp, .inr (5, [.ref qk, .ref qf, .ref qx, .ref qy, .int (nI pc_), .int (nI (pn + 1)), .int (nI pb)])), (qx, .inl (cI, 9000, .inl (upd X pn x))), (qy, .inl (cI, 9000, .inl (upd Y pn y)))] := hD
    exact ct_retv hQ hx hb hr hlocks hP hD hS () [(hp, .inr (5, [.ref qk, .ref qf, .ref qx, .ref qy, .int (nI pc_), .int (nI (pn + 1)), .int (nI pb)])), (qx, .inl (cI, 9000, .inl (upd X pn x))), (qy, .inl (cI, 9000, .inl (upd Y pn y)))] [0, 1, 2] (rfl) (trivial) (rfl) rfl rfl (by omega) (by omega) d_Path_addPoint_40
set_option maxHeartbeats 4000000 in
set_option maxRecDepth 100000 in
/-- addBeginning -/
theorem c_Path_addBeginning (l : Launch) (D : va_G) (cI cB cJ : ClassId) (qQ : Nat) (hp : Nat) (qk : Nat) (qf : Nat) (qx : Nat) (qy : Nat) (pc_ : Nat) (pn : Nat) (pb : Nat) (K : Nat → Int32) (Fi : Nat → Int32) (X : Nat → Int32) (Y : Nat → Int32) (x : Int32) (y : Int32) (hpc : pc_ < 3000) (hpn : pn < 9000) : ct l D cl [(cI, .int), (cB, .byte), (cJ, .long)] (amb qQ) y_Path_addBeginning w_Path_addBeginning 1 22 (0) (0) [.ref hp, .int x, .int y] [(hp, .inr (5, [.ref qk, .ref qf, .ref qx, .ref qy, .int (nI pc_), .int (nI pn), .int (nI pb)])), (qk, .inl (cI, 3000, .inl K)), (qf, .inl (cI, 3000, .inl Fi)), (qx, .inl (cI, 9000, .inl X)), (qy, .inl (cI, 9000, .inl Y))] (fun _ : Unit => True) (fun _ : Unit => none) (fun _ : Unit => [(hp, .inr (5, [.ref qk, .ref qf, .ref qx, .ref qy, .int (nI (pc_ + 1)), .int (nI (pn + 1)), .int (nI pn)])), (qk, .inl (cI, 3000, .inl (upd K pc_ 0))), (qf, .inl (cI, 3000, .inl (upd Fi pc_ (nI pn)))), (qx, .inl (cI, 9000, .inl (upd X pn x))), (qy, .inl (cI, 9000, .inl (upd Y pn y)))]) := by
  refine ct_ofW (cc := b_Path_addBeginning) (maxL := 3) (ret := none) (by decide) rfl (Nat.le_of_ble_eq_true rfl) ?_
  intro p e R s m args below meth c A Q ls hx hb hr hml hts hown hlocks hname hRf hRc hRs hRl hQ hK hP hD hS hA hM hl
  have hl : lv_has ls 3 [(0, .ref hp), (1, .int x), (2, .int y)] := hl
  refine lv_aload_n hx hb d_Path_addBeginning_0 rfl (lv_at hl 0 rfl) ?_
  refine lv_aload_n hx hb d_Path_addBeginning_1 rfl (lv_at hl 0 rfl) ?_
  refine va_get (D := D) (ci := 5) (v := .int (nI pn)) (C := R_Path) (T := T_Path) (N := 7) hx hb hts (ui_Path _) hown hK hP 0 rfl rfl 5 (by decide) (hts _ (gwc gw_121)) (fun _ h9 => h9) rfl d_Path_addBeginning_2 ?_
  refine va_put (D := D) (ci := 5) (v := .int (nI pn)) (ty := .int) (C := R_Path) (T := T_Path) (N := 7) hx hb hts (ui_Path _) t_Path tk_Path nk_Path hown hK hP hD hS 0 rfl rfl 6 (by decide) (hts _ (gwc gw_122)) (fun _ h9 => h9) rfl (by decide +kernel) rfl rfl (Nat.le_of_ble_eq_true rfl) d_Path_addBeginning_5 (fun H locs hP hD hS => ?_)
  have hP : va_P D cl [(hp, .inr (5, [.ref qk, .ref qf, .ref qx, .ref qy, .int (nI pc_), .int (nI pn), .int (nI pn)])), (qk, .inl (cI, 3000, .inl K)), (qf, .inl (cI, 3000, .inl Fi)), (qx, .inl (cI, 9000, .inl X)), (qy, .inl (cI, 9000, .inl Y))] H := hP
  have hD : va_D A [(hp, .inr (5, [.ref qk, .ref qf, .ref qx, .ref qy, .int (nI pc_), .int (nI pn), .int (nI pn)])), (qk, .inl (cI, 3000, .inl K)), (qf, .inl (cI, 3000, .inl Fi)), (qx, .inl (cI, 9000, .inl X)), (qy, .inl (cI, 9000, .inl Y))] := hD
  refine lv_aload_n hx hb d_Path_addBeginning_8 rfl (lv_at hl 0 rfl) ?_
  refine lv_iconst (v := 0) hx hb d_Path_addBeginning_9 (by decide) ?_
  refine lv_aload_n hx hb d_Path_addBeginning_10 rfl (lv_at hl 0 rfl) ?_
  refine va_get (D := D) (ci := 5) (v := .int (nI pn)) (C := R_Path) (T := T_Path) (N := 7) hx hb hts (ui_Path _) hown hK hP 0 rfl rfl 5 (by decide) (hts _ (gwc gw_121)) (fun _ h9 => h9) rfl d_Path_addBeginning_11 ?_
  refine ct_callV (ci := 5) (q0 := 0) (As := [.int 0, .int (nI pn)]) (rest := []) (wr := [(qx, .inl (cI, 9000, .inl X)), (qy, .inl (cI, 9000, .inl Y))]) (n := 2) (c_Path_addPart l D cI cB cJ qQ  hp qk qf qx qy pc_ pn pn K Fi 0 (nI pn) (by omega)) hx hb hml hown hts (amb_ok qQ) hK hP hD hS hA hM (gi_V gw_182 gw_184 gw_0 gw_32 gw_185) rfl (by decide +kernel) ⟨by omega, by omega⟩ [0, 1, 2] [3, 4] rfl rfl rfl rfl (by decide) rfl rfl rfl hl.1 rfl (Nat.le_of_ble_eq_true rfl) d_Path_addBeginning_14 ⟨by omega, by omega⟩ (fun u_1 H locs hok hP hD hS => ?_)
  have hP : va_P D cl [(qx, .inl (cI, 9000, .inl X)), (qy, .inl (cI, 9000, .inl Y)), (hp, .inr (5, [.ref qk, .ref qf, .ref qx, .ref qy, .int (nI (pc_ + 1)), .int (nI pn), .int (nI pn)])), (qk, .inl (cI, 3000, .inl (upd K pc_ 0))), (qf, .inl (cI, 3000, .inl (upd Fi pc_ (nI pn))))] H := hP
  have hD : va_D A [(qx, .inl (cI, 9000, .inl X)), (qy, .inl (cI, 9000, .inl Y)), (hp, .inr (5, [.ref qk, .ref qf, .ref qx, .ref qy, .int (nI (pc_ + 1)), .int (nI pn), .int (nI pn)])), (qk, .inl (cI, 3000, .inl (upd K pc_ 0))), (qf, .inl (cI, 3000, .inl (upd Fi pc_ (nI pn))))] := hD
  refine W.eq (g2 := F0 m 17 ls []) rfl ?_
  refine lv_aload_n hx hb d_Path_addBeginning_17 rfl (lv_at hl 0 rfl) ?_
  refine lv_iload_n hx hb d_Path_addBeginning_18 rfl (lv_at hl 1 rfl) ?_
  refine lv_iload_n hx hb d_Path_addBeginning_19 rfl (lv_at hl 2 rfl) ?_
  refine ct_callV (ci := 5) (q0 := 2) (As := [.int x, .int y]) (rest := []) (wr := [(qk, .inl (cI, 3000, .inl (upd K pc_ 0))), (qf, .inl (cI, 3000, .inl (upd Fi pc_ (nI pn))))]) (n := 2) (c_Path_addPoint l D cI cB cJ qQ  hp qk qf qx qy (pc_ + 1) pn pn X Y x y (by omega)) hx hb hml hown hts (amb_ok qQ) hK hP hD hS hA hM (gi_V gw_186 gw_188 gw_1 gw_32 gw_189) rfl (by decide +kernel) ⟨by omega, by omega⟩ [2, 0, 1] [3, 4] rfl rfl rfl rfl (by decide) rfl rfl rfl hl.1 rfl (Nat.le_of_ble_eq_true rfl) d_Path_addBeginning_20 ⟨by omega, by omega⟩ (fun u_2 H locs hok hP hD hS => ?_)
  have hP : va_P D cl [(qk, .inl (cI, 3000, .inl (upd K pc_ 0))), (qf, .inl (cI, 3000, .inl (upd Fi pc_ (nI pn)))), (hp, .inr (5, [.ref qk, .ref qf, .ref qx, .ref qy, .int (nI (pc_ + 1)), .int (nI (pn + 1)), .int (nI pn)])), (qx, .inl (cI, 9000, .inl (upd X pn x))), (qy, .inl (cI, 9000, .inl (upd Y pn y)))] H := hP
  have hD : va_D A [(qk, .inl (cI, 3000, .inl (upd K pc_ 0))), (qf, .inl (cI, 3000, .inl (upd Fi pc_ (nI pn)))), (hp, .inr (5, [.ref qk, .ref qf, .ref qx, .ref qy, .int (nI (pc_ + 1)), .int (nI (pn + 1)), .int (nI pn)])), (qx, .inl (cI, 9000, .inl (upd X pn x))), (qy, .inl (cI, 9000, .inl (upd Y pn y)))] := hD
  refine W.eq (g2 := F0 m 23 ls []) rfl ?_
  exact ct_retv hQ hx hb hr hlocks hP hD hS () [(hp, .inr (5, [.ref qk, .ref qf, .ref qx, .ref qy, .int (nI (pc_ + 1)), .int (nI (pn + 1)), .int (nI pn)])), (qk, .inl (cI, 3000, .inl (upd K pc_ 0))), (qf, .inl (cI, 3000, .inl (upd Fi pc_ (nI pn)))), (qx, .inl (cI, 9000, .inl (upd X pn x))), (qy, .inl (cI, 9000, .inl (upd Y pn y)))] [2, 0, 1, 3, 4] (rfl) (trivial) (rfl) rfl rfl (by omega) (by omega) d_Path_addBeginning_23
set_option maxHeartbeats 4000000 in
set_option maxRecDepth 100000 in
/-- addLine -/
theorem c_Path_addLine (l : Launch) (D : va_G) (cI cB cJ : ClassId) (qQ : Nat) (hp : Nat) (qk : Nat) (qf : Nat) (qx : Nat) (qy : Nat) (pc_ : Nat) (pn : Nat) (pb : Nat) (K : Nat → Int32) (Fi : Nat → Int32) (X : Nat → Int32) (Y : Nat → Int32) (x : Int32) (y : Int32) (hpc : pc_ < 3000) (hpn : pn < 9000) : ct l D cl [(cI, .int), (cB, .byte), (cJ, .long)] (amb qQ) y_Path_addLine w_Path_addLine 1 22 (0) (0) [.ref hp, .int x, .int y] [(hp, .inr (5, [.ref qk, .ref qf, .ref qx, .ref qy, .int (nI pc_), .int (nI pn), .int (nI pb)])), (qk, .inl (cI, 3000, .inl K)), (qf, .inl (cI, 3000, .inl Fi)), (qx, .inl (cI, 9000, .inl X)), (qy, .inl (cI, 9000, .inl Y))] (fun _ : Unit => True) (fun _ : Unit => none) (fun _ : Unit => [(hp, .inr (5, [.ref qk, .ref qf, .ref qx, .ref qy, .int (nI (pc_ + 1)), .int (nI (pn + 1)), .int (nI pb)])), (qk, .inl (cI, 3000, .inl (upd K pc_ 1))), (qf, .inl (cI, 3000, .inl (upd Fi pc_ (nI pn)))), (qx, .inl (cI, 9000, .inl (upd X pn x))), (qy, .inl (cI, 9000, .inl (upd Y pn y)))]) := by
  refine ct_ofW (cc := b_Path_addLine) (maxL := 3) (ret := none) (by decide) rfl (Nat.le_of_ble_eq_true rfl) ?_
  intro p e R s m args below meth c A Q ls hx hb hr hml hts hown hlocks hname hRf hRc hRs hRl hQ hK hP hD hS hA hM hl
  have hl : lv_has ls 3 [(0, .ref hp), (1, .int x), (2, .int y)] := hl
  refine lv_aload_n hx hb d_Path_addLine_0 rfl (lv_at hl 0 rfl) ?_
  refine lv_iconst (v := 1) hx hb d_Path_addLine_1 (by decide) ?_
  refine lv_aload_n hx hb d_Path_addLine_2 rfl (lv_at hl 0 rfl) ?_
  refine va_get (D := D) (ci := 5) (v := .int (nI pn)) (C := R_Path) (T := T_Path) (N := 7) hx hb hts (ui_Path _) hown hK hP 0 rfl rfl 5 (by decide) (hts _ (gwc gw_121)) (fun _ h9 => h9) rfl d_Path_addLine_3 ?_
  refine ct_callV (ci := 5) (q0 := 0) (As := [.int 1, .int (nI pn)]) (rest := []) (wr := [(qx, .inl (cI, 9000, .inl X)), (qy, .inl (cI, 9000, .inl Y))]) (n := 2) (c_Path_addPart l D cI cB cJ qQ  hp qk qf qx qy pc_ pn pb K Fi 1 (nI pn) (by omega)) hx hb hml hown hts (amb_ok qQ) hK hP hD hS hA hM (gi_V gw_182 gw_184 gw_0 gw_32 gw_185) rfl (by decide +kernel) ⟨by omega, by omega⟩ [0, 1, 2] [3, 4] rfl rfl rfl rfl (by decide) rfl rfl rfl hl.1 rfl (Nat.le_of_ble_eq_true rfl) d_Path_addLine_6 ⟨by omega, by omega⟩ (fun u_1 H locs hok hP hD hS => ?_)
  have hP : va_P D cl [(qx, .inl (cI, 9000, .inl X)), (qy, .inl (cI, 9000, .inl Y)), (hp, .inr (5, [.ref qk, .ref qf, .ref qx, .ref qy, .int (nI (pc_ + 1)), .int (nI pn), .int (nI pb)])), (qk, .inl (cI, 3000, .inl (upd K pc_ 1))), (qf, .inl (cI, 3000, .inl (upd Fi pc_ (nI pn))))] H := hP
  have hD : va_D A [(qx, .inl (cI, 9000, .inl X)), (qy, .inl (cI, 9000, .inl Y)), (hp, .inr (5, [.ref qk, .ref qf, .ref qx, .ref qy, .int (nI (pc_ + 1)), .int (nI pn), .int (nI pb)])), (qk, .inl (cI, 3000, .inl (upd K pc_ 1))), (qf, .inl (cI, 3000, .inl (upd Fi pc_ (nI pn))))] := hD
  refine W.eq (g2 := F0 m 9 ls []) rfl ?_
  refine lv_aload_n hx hb d_Path_addLine_9 rfl (lv_at hl 0 rfl) ?_
  refine lv_iload_n hx hb d_Path_addLine_10 rfl (lv_at hl 1 rfl) ?_
  refine lv_iload_n hx hb d_Path_addLine_11 rfl (lv_at hl 2 rfl) ?_
  refine ct_callV (ci := 5) (q0 := 2) (As := [.int x, .int y]) (rest := []) (wr := [(qk, .inl (cI, 3000, .inl (upd K pc_ 1))), (qf, .inl (cI, 3000, .inl (upd Fi pc_ (nI pn))))]) (n := 2) (c_Path_addPoint l D cI cB cJ qQ  hp qk qf qx qy (pc_ + 1) pn pb X Y x y (by omega)) hx hb hml hown hts (amb_ok qQ) hK hP hD hS hA hM (gi_V gw_186 gw_188 gw_1 gw_32 gw_189) rfl (by decide +kernel) ⟨by omega, by omega⟩ [2, 0, 1] [3, 4] rfl rfl rfl rfl (by decide) rfl rfl rfl hl.1 rfl (Nat.le_of_ble_eq_true rfl) d_Path_addLine_12 ⟨by omega, by omega⟩ (fun u_2 H locs hok hP hD hS => ?_)
  have hP : va_P D cl [(qk, .inl (cI, 3000, .inl (upd K pc_ 1))), (qf, .inl (cI, 3000, .inl (upd Fi pc_ (nI pn)))), (hp, .inr (5, [.ref qk, .ref qf, .ref qx, .ref qy, .int (nI (pc_ + 1)), .int (nI (pn + 1)), .int (nI pb)])), (qx, .inl (cI, 9000, .inl (upd X pn x))), (qy, .inl (cI, 9000, .inl (upd Y pn y)))] H := hP
  have hD : va_D A [(qk, .inl (cI, 3000, .inl (upd K pc_ 1))), (qf, .inl (cI, 3000, .inl (upd Fi pc_ (nI pn)))), (hp, .inr (5, [.ref qk, .ref qf, .ref qx, .ref qy, .int (nI (pc_ + 1)), .int (nI (pn + 1)), .int (nI pb)])), (qx, .inl (cI, 9000, .inl (upd X pn x))), (qy, .inl (cI, 9000, .inl (upd Y pn y)))] := hD
  refine W.eq (g2 := F0 m 15 ls []) rfl ?_
  exact ct_retv hQ hx hb hr hlocks hP hD hS () [(hp, .inr (5, [.ref qk, .ref qf, .ref qx, .ref qy, .int (nI (pc_ + 1)), .int (nI (pn + 1)), .int (nI pb)])), (qk, .inl (cI, 3000, .inl (upd K pc_ 1))), (qf, .inl (cI, 3000, .inl (upd Fi pc_ (nI pn)))), (qx, .inl (cI, 9000, .inl (upd X pn x))), (qy, .inl (cI, 9000, .inl (upd Y pn y)))] [2, 0, 1, 3, 4] (rfl) (trivial) (rfl) rfl rfl (by omega) (by omega) d_Path_addLine_15
set_option maxHeartbeats 4000000 in
set_option maxRecDepth 100000 in
/-- addCurve -/
theorem c_Path_addCurve (l : Launch) (D : va_G) (cI cB cJ : ClassId) (qQ : Nat) (hp : Nat) (qk : Nat) (qf : Nat) (qx : Nat) (qy : Nat) (pc_ : Nat) (pn : Nat) (pb : Nat) (K : Nat → Int32) (Fi : Nat → Int32) (X : Nat → Int32) (Y : Nat → Int32) (x1 : Int32) (y1 : Int32) (x2 : Int32) (y2 : Int32) (x3 : Int32) (y3 : Int32) (hpc : pc_ < 3000) (hpn : pn + 2 < 9000) : ct l D cl [(cI, .int), (cB, .byte), (cJ, .long)] (amb qQ) y_Path_addCurve w_Path_addCurve 1 22 (0) (0) [.ref hp, .int x1, .int y1, .int x2, .int y2, .int x3, .int y3] [(hp, .inr (5, [.ref qk, .ref qf, .ref qx, .ref qy, .int (nI pc_), .int (nI pn), .int (nI pb)])), (qk, .inl (cI, 3000, .inl K)), (qf, .inl (cI, 3000, .inl Fi)), (qx, .inl (cI, 9000, .inl X)), (qy, .inl (cI, 9000, .inl Y))] (fun _ : Unit => True) (fun _ : Unit => none) (fun _ : Unit => [(hp, .inr (5, [.ref qk, .ref qf, .ref qx, .ref qy, .int (nI (pc_ + 1)), .int (nI (pn + 1 + 1 + 1)), .int (nI pb)])), (qk, .inl (cI, 3000, .inl (upd K pc_ 2))), (qf, .inl (cI, 3000, .inl (upd Fi pc_ (nI pn)))), (qx, .inl (cI, 9000, .inl (upd (upd (upd X pn x1) (pn + 1) x2) (pn + 1 + 1) x3))), (qy, .inl (cI, 9000, .inl (upd (upd (upd Y pn y1) (pn + 1) y2) (pn + 1 + 1) y3)))]) := by
  refine ct_ofW (cc := b_Path_addCurve) (maxL := 7) (ret := none) (by decide) rfl (Nat.le_of_ble_eq_true rfl) ?_
  intro p e R s m args below meth c A Q ls hx hb hr hml hts hown hlocks hname hRf hRc hRs hRl hQ hK hP hD hS hA hM hl
  have hl : lv_has ls 7 [(0, .ref hp), (1, .int x1), (2, .int y1), (3, .int x2), (4, .int y2), (5, .int x3), (6, .int y3)] := hl
  refine lv_aload_n hx hb d_Path_addCurve_0 rfl (lv_at hl 0 rfl) ?_
  refine lv_iconst (v := 2) hx hb d_Path_addCurve_1 (by decide) ?_
  refine lv_aload_n hx hb d_Path_addCurve_2 rfl (lv_at hl 0 rfl) ?_
  refine va_get (D := D) (ci := 5) (v := .int (nI pn)) (C := R_Path) (T := T_Path) (N := 7) hx hb hts (ui_Path _) hown hK hP 0 rfl rfl 5 (by decide) (hts _ (gwc gw_121)) (fun _ h9 => h9) rfl d_Path_addCurve_3 ?_
  refine ct_callV (ci := 5) (q0 := 0) (As := [.int 2, .int (nI pn)]) (rest := []) (wr := [(qx, .inl (cI, 9000, .inl X)), (qy, .inl (cI, 9000, .inl Y))]) (n := 2) (c_Path_addPart l D cI cB cJ qQ  hp qk qf qx qy pc_ pn pb K Fi 2 (nI pn) (by omega)) hx hb hml hown hts (amb_ok qQ) hK hP hD hS hA hM (gi_V gw_182 gw_184 gw_0 gw_32 gw_185) rfl (by decide +kernel) ⟨by omega, by omega⟩ [0, 1, 2] [3, 4] rfl rfl rfl rfl (by decide) rfl rfl rfl hl.1 rfl (Nat.le_of_ble_eq_true rfl) d_Path_addCurve_6 ⟨by omega, by omega⟩ (fun u_1 H locs hok hP hD hS => ?_)
  have hP : va_P D cl [(qx, .inl (cI, 9000, .inl X)), (qy, .inl (cI, 9000, .inl Y)), (hp, .inr (5, [.ref qk, .ref qf, .ref qx, .ref qy, .int (nI (pc_ + 1)), .int (nI pn), .int (nI pb)])), (qk, .inl (cI, 3000, .inl (upd K pc_ 2))), (qf, .inl (cI, 3000, .inl (upd Fi pc_ (nI pn))))] H := hP
  have hD : va_D A [(qx, .inl (cI, 9000, .inl X)), (qy, .inl (cI, 9000, .inl Y)), (hp, .inr (5, [.ref qk, .ref qf, .ref qx, .ref qy, .int (nI (pc_ + 1)), .int (nI pn), .int (nI pb)])), (qk, .inl (cI, 3000, .inl (upd K pc_ 2))), (qf, .inl (cI, 3000, .inl (upd Fi pc_ (nI pn))))] := hD
  refine W.eq (g2 := F0 m 9 ls []) rfl ?_
  refine lv_aload_n hx hb d_Path_addCurve_9 rfl (lv_at hl 0 rfl) ?_
  refine lv_iload_n hx hb d_Path_addCurve_10 rfl (lv_at hl 1 rfl) ?_
  refine lv_iload_n hx hb d_Path_addCurve_11 rfl (lv_at hl 2 rfl) ?_
  refine ct_callV (ci := 5) (q0 := 2) (As := [.int x1, .int y1]) (rest := []) (wr := [(qk, .inl (cI, 3000, .inl (upd K pc_ 2))), (qf, .inl (cI, 3000, .inl (upd Fi pc_ (nI pn))))]) (n := 2) (c_Path_addPoint l D cI cB cJ qQ  hp qk qf qx qy (pc_ + 1) pn pb X Y x1 y1 (by omega)) hx hb hml hown hts (amb_ok qQ) hK hP hD hS hA hM (gi_V gw_186 gw_188 gw_1 gw_32 gw_189) rfl (by decide +kernel) ⟨by omega, by omega⟩ [2, 0, 1] [3, 4] rfl rfl rfl rfl (by decide) rfl rfl rfl hl.1 rfl (Nat.le_of_ble_eq_true rfl) d_Path_addCurve_12 ⟨by omega, by omega⟩ (fun u_2 H locs hok hP hD hS => ?_)
  have hP : va_P D cl [(qk, .inl (cI, 3000, .inl (upd K pc_ 2))), (qf, .inl (cI, 3000, .inl (upd Fi pc_ (nI pn)))), (hp, .inr (5, [.ref qk, .ref qf, .ref qx, .ref qy, .int (nI (pc_ + 1)), .int (nI (pn + 1)), .int (nI pb)])), (qx, .inl (cI, 9000, .inl (upd X pn x1))), (qy, .inl (cI, 9000, .inl (upd Y pn y1)))] H := hP
  have hD : va_D A [(qk, .inl (cI, 3000, .inl (upd K pc_ 2))), (qf, .inl (cI, 3000, .inl (upd Fi pc_ (nI pn)))), (hp, .inr (5, [.ref qk, .ref qf, .ref qx, .ref qy, .int (nI (pc_ + 1)), .int (nI (pn + 1)), .int (nI pb)])), (qx, .inl (cI, 9000, .inl (upd X pn x1))), (qy, .inl (cI, 9000, .inl (upd Y pn y1)))] := hD
  refine W.eq (g2 := F0 m 15 ls []) rfl ?_
  refine lv_aload_n hx hb d_Path_addCurve_15 rfl (lv_at hl 0 rfl) ?_
  refine lv_iload_n hx hb d_Path_addCurve_16 rfl (lv_at hl 3 rfl) ?_
  refine lv_iload hx hb d_Path_addCurve_17 (lv_at hl 4 rfl) ?_
  refine ct_callV (ci := 5) (q0 := 2) (As := [.int x2, .int y2]) (rest := []) (wr := [(qk, .inl (cI, 3000, .inl (upd K pc_ 2))), (qf, .inl (cI, 3000, .inl (upd Fi pc_ (nI pn))))]) (n := 2) (c_Path_addPoint l D cI cB cJ qQ  hp qk qf qx qy (pc_ + 1) (pn + 1) pb (upd X pn x1) (upd Y pn y1) x2 y2 (by omega)) hx hb hml hown hts (amb_ok qQ) hK hP hD hS hA hM (gi_V gw_186 gw_188 gw_1 gw_32 gw_189) rfl (by decide +kernel) ⟨by omega, by omega⟩ [2, 3, 4] [0, 1] rfl rfl rfl rfl (by decide) rfl rfl rfl hl.1 rfl (Nat.le_of_ble_eq_true rfl) d_Path_addCurve_19 ⟨by omega, by omega⟩ (fun u_3 H locs hok hP hD hS => ?_)
  have hP : va_P D cl [(qk, .inl (cI, 3000, .inl (upd K pc_ 2))), (qf, .inl (cI, 3000, .inl (upd Fi pc_ (nI pn)))), (hp, .inr (5, [.ref qk, .ref qf, .ref qx, .ref qy, .int (nI (pc_ + 1)), .int (nI ((pn + 1) + 1)), .int (nI pb)])), (qx, .inl (cI, 9000, .inl (upd (upd X pn x1) (pn + 1) x2))), (qy, .inl (cI, 9000, .inl (upd (upd Y pn y1) (pn + 1) y2)))] H := hP
  have hD : va_D A [(qk, .inl (cI, 3000, .inl (upd K pc_ 2))), (qf, .inl (cI, 3000, .inl (upd Fi pc_ (nI pn)))), (hp, .inr (5, [.ref qk, .ref qf, .ref qx, .ref qy, .int (nI (pc_ + 1)), .int (nI ((pn + 1) + 1)), .int (nI pb)])), (qx, .inl (cI, 9000, .inl (upd (upd X pn x1) (pn + 1) x2))), (qy, .inl (cI, 9000, .inl (upd (upd Y pn y1) (pn + 1) y2)))] := hD
  refine W.eq (g2 := F0 m 22 ls []) rfl ?_
  refine lv_aload_n hx hb d_Path_addCurve_22 rfl (lv_at hl 0 rfl) ?_
  refine lv_iload hx hb d_Path_addCurve_23 (lv_at hl 5 rfl) ?_
  refine lv_iload hx hb d_Path_addCurve_25 (lv_at hl 6 rfl) ?_
  refine ct_callV (ci := 5) (q0 := 2) (As := [.int x3, .int y3]) (rest := []) (wr := [(qk, .inl (cI, 3000, .inl (upd K pc_ 2))), (qf, .inl (cI, 3000, .inl (upd Fi pc_ (nI pn))))]) (n := 2) (c_Path_addPoint l D cI cB cJ qQ  hp qk qf qx qy (pc_ + 1) ((pn + 1) + 1) pb (upd (upd X pn x1) (pn + 1) x2) (upd (upd Y pn y1) (pn + 1) y2) x3 y3 (by omega)) hx hb hml hown hts (amb_ok qQ) hK hP hD hS hA hM (gi_V gw_186 gw_188 gw_1 gw_32 gw_189) rfl (by decide +kernel) ⟨by omega, by omega⟩ [2, 3, 4] [0, 1] rfl rfl rfl rfl (by decide) rfl rfl rfl hl.1 rfl (Nat.le_of_ble_eq_true rfl) d_Path_addCurve_27 ⟨by omega, by omega⟩ (fun u_4 H locs hok hP hD hS => ?_)
  have hP : va_P D cl [(qk, .inl (cI, 3000, .inl (upd K pc_ 2))), (qf, .inl (cI, 3000, .inl (upd Fi pc_ (nI pn)))), (hp, .inr (5, [.ref qk, .ref qf, .ref qx, .ref qy, .int (nI (pc_ + 1)), .int (nI (((pn + 1) + 1) + 1)), .int (nI pb)])), (qx, .inl (cI, 9000, .inl (upd (upd (upd X pn x1) (pn + 1) x2) ((pn + 1) + 1) x3))), (qy, .inl (cI, 9000, .inl (upd (upd (upd Y pn y1) (pn + 1) y2) ((pn + 1) + 1) y3)))] H := hP
  have hD : va_D A [(qk, .inl (cI, 3000, .inl (upd K pc_ 2))), (qf, .inl (cI, 3000, .inl (upd Fi pc_ (nI pn)))), (hp, .inr (5, [.ref qk, .ref qf, .ref qx, .ref qy, .int (nI (pc_ + 1)), .int (nI (((pn + 1) + 1) + 1)), .int (nI pb)])), (qx, .inl (cI, 9000, .inl (upd (upd (upd X pn x1) (pn + 1) x2) ((pn + 1) + 1) x3))), (qy, .inl (cI, 9000, .inl (upd (upd (upd Y pn y1) (pn + 1) y2) ((pn + 1) + 1) y3)))] := hD
  refine W.eq (g2 := F0 m 30 ls []) rfl ?_
  exact ct_retv hQ hx hb hr hlocks hP hD hS () [(hp, .inr (5, [.ref qk, .ref qf, .ref qx, .ref qy, .int (nI (pc_ + 1)), .int (nI (((pn + 1) + 1) + 1)), .int (nI pb)])), (qk, .inl (cI, 3000, .inl (upd K pc_ 2))), (qf, .inl (cI, 3000, .inl (upd Fi pc_ (nI pn)))), (qx, .inl (cI, 9000, .inl (upd (upd (upd X pn x1) (pn + 1) x2) ((pn + 1) + 1) x3))), (qy, .inl (cI, 9000, .inl (upd (upd (upd Y pn y1) (pn + 1) y2) ((pn + 1) + 1) y3)))] [2, 0, 1, 3, 4] (rfl) (trivial) (rfl) rfl rfl (by omega) (by omega) d_Path_addCurve_30
set_option maxHeartbeats 4000000 in
set_option maxRecDepth 100000 in
/-- addClosing -/
theorem c_Path_addClosing (l : Launch) (D : va_G) (cI cB cJ : ClassId) (qQ : Nat) (hp : Nat) (qk : Nat) (qf : Nat) (qx : Nat) (qy : Nat) (pc_ : Nat) (pn : Nat) (pb : Nat) (K : Nat → Int32) (Fi : Nat → Int32) (hpc : pc_ < 3000) : ct l D cl [(cI, .int), (cB, .byte), (cJ, .long)] (amb qQ) y_Path_addClosing w_Path_addClosing 1 22 (0) (0) [.ref hp] [(hp, .inr (5, [.ref qk, .ref qf, .ref qx, .ref qy, .int (nI pc_), .int (nI pn), .int (nI pb)])), (qk, .inl (cI, 3000, .inl K)), (qf, .inl (cI, 3000, .inl Fi))] (fun _ : Unit => True) (fun _ : Unit => none) (fun _ : Unit => [(hp, .inr (5, [.ref qk, .ref qf, .ref qx, .ref qy, .int (nI (pc_ + 1)), .int (nI pn), .int (nI pb)])), (qk, .inl (cI, 3000, .inl (upd K pc_ 3))), (qf, .inl (cI, 3000, .inl (upd Fi pc_ (nI pb))))]) := by
  refine ct_ofW (cc := b_Path_addClosing) (maxL := 1) (ret := none) (by decide) rfl (Nat.le_of_ble_eq_true rfl) ?_
  intro p e R s m args below meth c A Q ls hx hb hr hml hts hown hlocks hname hRf hRc hRs hRl hQ hK hP hD hS hA hM hl
  have hl : lv_has ls 1 [(0, .ref hp)] := hl
  refine lv_aload_n hx hb d_Path_addClosing_0 rfl (lv_at hl 0 rfl) ?_
  refine lv_iconst (v := 3) hx hb d_Path_addClosing_1 (by decide) ?_
  refine lv_aload_n hx hb d_Path_addClosing_2 rfl (lv_at hl 0 rfl) ?_
  refine va_get (D := D) (ci := 5) (v := .int (nI pb)) (C := R_Path) (T := T_Path) (N := 7) hx hb hts (ui_Path _) hown hK hP 0 rfl rfl 6 (by decide) (hts _ (gwc gw_122)) (fun _ h9 => h9) rfl d_Path_addClosing_3 ?_
  refine ct_callV (ci := 5) (q0 := 0) (As := [.int 3, .int (nI pb)]) (rest := []) (wr := []) (n := 2) (c_Path_addPart l D cI cB cJ qQ  hp qk qf qx qy pc_ pn pb K Fi 3 (nI pb) (by omega)) hx hb hml hown hts (amb_ok qQ) hK hP hD hS hA hM (gi_V gw_182 gw_184 gw_0 gw_32 gw_185) rfl (by decide +kernel) ⟨by omega, by omega⟩ [0, 1, 2] [] rfl rfl rfl rfl (by decide) rfl rfl rfl hl.1 rfl (Nat.le_of_ble_eq_true rfl) d_Path_addClosing_6 ⟨by omega, by omega⟩ (fun u_1 H locs hok hP hD hS => ?_)
  have hP : va_P D cl [(hp, .inr (5, [.ref qk, .ref qf, .ref qx, .ref qy, .int (nI (pc_ + 1)), .int (nI pn), .int (nI pb)])), (qk, .inl (cI, 3000, .inl (upd K pc_ 3))), (qf, .inl (cI, 3000, .inl (upd Fi pc_ (nI pb))))] H := hP
  have hD : va_D A [(hp, .inr (5, [.ref qk, .ref qf, .ref qx, .ref qy, .int (nI (pc_ + 1)), .int (nI pn), .int (nI pb)])), (qk, .inl (cI, 3000, .inl (upd K pc_ 3))), (qf, .inl (cI, 3000, .inl (upd Fi pc_ (nI pb))))] := hD
  refine W.eq (g2 := F0 m 9 ls []) rfl ?_
  exact ct_retv hQ hx hb hr hlocks hP hD hS () [(hp, .inr (5, [.ref qk, .ref qf, .ref qx, .ref qy, .int (nI (pc_ + 1)), .int (nI pn), .int (nI pb)])), (qk, .inl (cI, 3000, .inl (upd K pc_ 3))), (qf, .inl (cI, 3000, .inl (upd Fi pc_ (nI pb))))] [0, 1, 2] (rfl) (trivial) (rfl) rfl rfl (by omega) (by omega) d_Path_addClosing_9
set_option maxHeartbeats 4000000 in
set_option maxRecDepth 100000 in
/-- goOn -/
theorem c_Path_goOn (l : Launch) (D : va_G) (cI cB cJ : ClassId) (qQ : Nat) (hp : Nat) (qk : Nat) (qf : Nat) (qx : Nat) (qy : Nat) (pc_ : Nat) (pn : Nat) (pb : Nat) (K : Nat → Int32) (Fi : Nat → Int32) (X : Nat → Int32) (Y : Nat → Int32) (ps : List Pt) (hR : RIp pc_ pn pb K Fi X Y ps) (hg : gdp ps) (hgr : pc_ + (opn ps).length ≤ 3000) : ct l D cl [(cI, .int), (cB, .byte), (cJ, .long)] (amb qQ) y_Path_goOn w_Path_goOn 2 44 (0) (0) [.ref hp] [(hp, .inr (5, [.ref qk, .ref qf, .ref qx, .ref qy, .int (nI pc_), .int (nI pn), .int (nI pb)])), (qk, .inl (cI, 3000, .inl K)), (qf, .inl (cI, 3000, .inl Fi)), (qx, .inl (cI, 9000, .inl X)), (qy, .inl (cI, 9000, .inl Y))] (fun u_ : Nat × Nat × Nat × (Nat → Int32) × (Nat → Int32) × (Nat → Int32) × (Nat → Int32) => match u_ with | (pc', pn', pb', K', F', X', Y') => RIp pc' pn' pb' K' F' X' Y' (ps ++ (opn ps).map q7p)) (fun u_ : Nat × Nat × Nat × (Nat → Int32) × (Nat → Int32) × (Nat → Int32) × (Nat → Int32) => match u_ with | (pc', pn', pb', K', F', X', Y') => none) (fun u_ : Nat × Nat × Nat × (Nat → Int32) × (Nat → Int32) × (Nat → Int32) × (Nat → Int32) => match u_ with | (pc', pn', pb', K', F', X', Y') => [(hp, .inr (5, [.ref qk, .ref qf, .ref qx, .ref qy, .int (nI pc'), .int (nI pn'), .int (nI pb')])), (qk, .inl (cI, 3000, .inl K')), (qf, .inl (cI, 3000, .inl F')), (qx, .inl (cI, 9000, .inl X')), (qy, .inl (cI, 9000, .inl Y'))]) := by
  refine ct_ofW (cc := b_Path_goOn) (maxL := 1) (ret := none) (by decide) rfl (Nat.le_of_ble_eq_true rfl) ?_
  intro p e R s m args below meth c A Q ls hx hb hr hml hts hown hlocks hname hRf hRc hRs hRl hQ hK hP hD hS hA hM hl
  have hl : lv_has ls 1 [(0, .ref hp)] := hl
  have hpn := RI_pn hR
  refine lv_aload_n hx hb d_Path_goOn_0 rfl (lv_at hl 0 rfl) ?_
  refine ct_callV (ci := 5) (q0 := 0) (As := []) (rest := []) (wr := [(qf, .inl (cI, 3000, .inl Fi)), (qx, .inl (cI, 9000, .inl X)), (qy, .inl (cI, 9000, .inl Y))]) (n := 0) (c_Path_isClosed l D cI cB cJ qQ  hp qk qf qx qy pc_ pn pb 3000 K (by omega) (by omega) (by decide)) hx hb hml hown hts (amb_ok qQ) hK hP hD hS hA hM (gi_V gw_202 gw_203 gw_204 gw_32 gw_205) rfl (by decide +kernel) ⟨by omega, by omega⟩ [0, 1] [2, 3, 4] rfl rfl rfl rfl (by decide) rfl rfl rfl hl.1 rfl (Nat.le_of_ble_eq_true rfl) d_Path_goOn_1 ⟨by omega, by omega⟩ (fun u_1 H locs hok hP hD hS => ?_)
  have hP : va_P D cl [(qf, .inl (cI, 3000, .inl Fi)), (qx, .inl (cI, 9000, .inl X)), (qy, .inl (cI, 9000, .inl Y)), (hp, .inr (5, [.ref qk, .ref qf, .ref qx, .ref qy, .int (nI pc_), .int (nI pn), .int (nI pb)])), (qk, .inl (cI, 3000, .inl K))] H := hP
  have hD : va_D A [(qf, .inl (cI, 3000, .inl Fi)), (qx, .inl (cI, 9000, .inl X)), (qy, .inl (cI, 9000, .inl Y)), (hp, .inr (5, [.ref qk, .ref qf, .ref qx, .ref qy, .int (nI pc_), .int (nI pn), .int (nI pb)])), (qk, .inl (cI, 3000, .inl K))] := hD
  refine W.eq (g2 := F0 m 4 ls [.int (bz (decide (0 < pc_ ∧ K (pc_ - 1) = 3)))]) rfl ?_
  refine bb_eq (tgt := 29) hx hb d_Path_goOn_4 (by decide) (fun c_2 => ?_) (fun c_2 => ?_)
  · skip
    have hk3 : ¬ lk ps = 3 := fun z => of_decide_eq_false c_2 ((RI_lk hR (by decide)).mpr z)
    exact ct_retv hQ hx hb hr hlocks hP hD hS (pc_, pn, pb, K, Fi, X, Y) [(hp, .inr (5, [.ref qk, .ref qf, .ref qx, .ref qy, .int (nI pc_), .int (nI pn), .int (nI pb)])), (qk, .inl (cI, 3000, .inl K)), (qf, .inl (cI, 3000, .inl Fi)), (qx, .inl (cI, 9000, .inl X)), (qy, .inl (cI, 9000, .inl Y))] [3, 4, 0, 1, 2] (rfl) (open_n hR hk3) (rfl) rfl rfl (by omega) (by omega) d_Path_goOn_29
  · skip
    have hk3 := (RI_lk hR (by decide)).mp (of_decide_eq_true c_2)
    have hcl := RI_closed hR hg hk3
    have hpb := hcl.1
    rw [opn_1 hk3] at hgr
    refine lv_aload_n hx hb d_Path_goOn_7 rfl (lv_at hl 0 rfl) ?_
    refine lv_aload_n hx hb d_Path_goOn_8 rfl (lv_at hl 0 rfl) ?_
    refine va_get (D := D) (ci := 5) (v := .ref qx) (C := R_Path) (T := T_Path) (N := 7) hx hb hts (ui_Path _) hown hK hP 3 rfl rfl 2 (by decide) (hts _ (gwc gw_111)) (fun _ h9 => h9) rfl d_Path_goOn_9 ?_
    refine lv_aload_n hx hb d_Path_goOn_12 rfl (lv_at hl 0 rfl) ?_
    refine va_get (D := D) (ci := 5) (v := .int (nI pb)) (C := R_Path) (T := T_Path) (N := 7) hx hb hts (ui_Path _) hown hK hP 3 rfl rfl 6 (by decide) (hts _ (gwc gw_122)) (fun _ h9 => h9) rfl d_Path_goOn_13 ?_
    refine ld_i hx hb hK hP 1 0 rfl rfl pb (by omega) (by omega) d_Path_goOn_16 ?_
    refine lv_aload_n hx hb d_Path_goOn_17 rfl (lv_at hl 0 rfl) ?_
    refine va_get (D := D) (ci := 5) (v := .ref qy) (C := R_Path) (T := T_Path) (N := 7) hx hb hts (ui_Path _) hown hK hP 3 rfl rfl 3 (by decide) (hts _ (gwc gw_114)) (fun _ h9 => h9) rfl d_Path_goOn_18 ?_
    refine lv_aload_n hx hb d_Path_goOn_21 rfl (lv_at hl 0 rfl) ?_
    refine va_get (D := D) (ci := 5) (v := .int (nI pb)) (C := R_Path) (T := T_Path) (N := 7) hx hb hts (ui_Path _) hown hK hP 3 rfl rfl 6 (by decide) (hts _ (gwc gw_122)) (fun _ h9 => h9) rfl d_Path_goOn_22 ?_
    refine ld_i hx hb hK hP 2 0 rfl rfl pb (by omega) (by omega) d_Path_goOn_25 ?_
    refine ct_callV (ci := 5) (q0 := 3) (As := [.int (X pb), .int (Y pb)]) (rest := []) (wr := []) (n := 2) (c_Path_addBeginning l D cI cB cJ qQ  hp qk qf qx qy pc_ pn pb K Fi X Y (X pb) (Y pb) (by omega) (by omega)) hx hb hml hown hts (amb_ok qQ) hK hP hD hS hA hM (gi_V gw_211 gw_179 gw_180 gw_32 gw_181) rfl (by decide +kernel) ⟨by omega, by omega⟩ [3, 4, 0, 1, 2] [] rfl rfl rfl rfl (by decide) rfl rfl rfl hl.1 rfl (Nat.le_of_ble_eq_true rfl) d_Path_goOn_26 ⟨by omega, by omega⟩ (fun u_3 H locs hok hP hD hS => ?_)
    have hP : va_P D cl [(hp, .inr (5, [.ref qk, .ref qf, .ref qx, .ref qy, .int (nI (pc_ + 1)), .int (nI (pn + 1)), .int (nI pn)])), (qk, .inl (cI, 3000, .inl (upd K pc_ 0))), (qf, .inl (cI, 3000, .inl (upd Fi pc_ (nI pn)))), (qx, .inl (cI, 9000, .inl (upd X pn (X pb)))), (qy, .inl (cI, 9000, .inl (upd Y pn (Y pb))))] H := hP
    have hD : va_D A [(hp, .inr (5, [.ref qk, .ref qf, .ref qx, .ref qy, .int (nI (pc_ + 1)), .int (nI (pn + 1)), .int (nI pn)])), (qk, .inl (cI, 3000, .inl (upd K pc_ 0))), (qf, .inl (cI, 3000, .inl (upd Fi pc_ (nI pn)))), (qx, .inl (cI, 9000, .inl (upd X pn (X pb)))), (qy, .inl (cI, 9000, .inl (upd Y pn (Y pb))))] := hD
    refine W.eq (g2 := F0 m 29 ls []) rfl ?_
    exact ct_retv hQ hx hb hr hlocks hP hD hS (pc_ + 1, pn + 1, pn, upd K pc_ 0, upd Fi pc_ (nI pn), upd X pn (X pb), upd Y pn (Y pb)) [(hp, .inr (5, [.ref qk, .ref qf, .ref qx, .ref qy, .int (nI (pc_ + 1)), .int (nI (pn + 1)), .int (nI pn)])), (qk, .inl (cI, 3000, .inl (upd K pc_ 0))), (qf, .inl (cI, 3000, .inl (upd Fi pc_ (nI pn)))), (qx, .inl (cI, 9000, .inl (upd X pn (X pb)))), (qy, .inl (cI, 9000, .inl (upd Y pn (Y pb))))] [0, 1, 2, 3, 4] (rfl) (open_y hR hg hk3) (rfl) rfl rfl (by omega) (by omega) d_Path_goOn_29
