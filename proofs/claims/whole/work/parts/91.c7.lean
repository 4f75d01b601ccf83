set_option maxHeartbeats 40000000 in
set_option maxRecDepth 100000 in
/-- take -/
theorem c_Halving_take (l : Launch) (D : va_G) (cI cB cJ : ClassId) (qQ : Nat) (hh : Nat) (qz : Nat) (qv : Nat) (Z : Nat → Int32) (V_ : Nat → Int32) (hp : Nat) (qk : Nat) (qf : Nat) (qx : Nat) (qy : Nat) (pc_ : Nat) (pn : Nat) (pb : Nat) (X : Nat → Int32) (Y : Nat → Int32) (f : Nat) (hf1 : 1 ≤ f) (hf : f + 2 < pn) (hpn : pn ≤ 9000) : ct l D cl [(cI, .int), (cB, .byte), (cJ, .long)] (amb qQ) y_Halving_take w_Halving_take 1 21 (0) (0) [.ref hh, .ref hp, .int (nI f)] [(hh, .inr (4, [.ref qz, .ref qv])), (qz, .inl (cI, 88, .inl Z)), (qv, .inl (cI, 11, .inl V_)), (hp, .inr (5, [.ref qk, .ref qf, .ref qx, .ref qy, .int (nI pc_), .int (nI pn), .int (nI pb)])), (qx, .inl (cI, 9000, .inl X)), (qy, .inl (cI, 9000, .inl Y))] (fun u_ : (Nat → Int32) × (Nat → Int32) => match u_ with | (Z', V') => (Z' 0 = X (f - 1) ∧ Z' 1 = Y (f - 1) ∧ Z' 2 = X f ∧ Z' 3 = Y f ∧ Z' 4 = X (f + 1) ∧ Z' 5 = Y (f + 1) ∧ Z' 6 = X (f + 2) ∧ Z' 7 = Y (f + 2)) ∧ V' 0 = 0) (fun u_ : (Nat → Int32) × (Nat → Int32) => match u_ with | (Z', V') => none) (fun u_ : (Nat → Int32) × (Nat → Int32) => match u_ with | (Z', V') => [(hh, .inr (4, [.ref qz, .ref qv])), (qz, .inl (cI, 88, .inl Z')), (qv, .inl (cI, 11, .inl V')), (hp, .inr (5, [.ref qk, .ref qf, .ref qx, .ref qy, .int (nI pc_), .int (nI pn), .int (nI pb)])), (qx, .inl (cI, 9000, .inl X)), (qy, .inl (cI, 9000, .inl Y))]) := by
  refine ct_ofW (cc := b_Halving_take) (maxL := 5) (ret := none) (by decide) rfl (Nat.le_of_ble_eq_true rfl) ?_
  intro p e R s m args below meth c A Q ls hx hb hr hml hts hown hlocks hname hRf hRc hRs hRl hQ hK hP hD hS hA hM hl
  have hl : lv_has ls 5 [(0, .ref hh), (1, .ref hp), (2, .int (nI f))] := hl
  refine lv_aload_n hx hb d_Halving_take_0 rfl (lv_at hl 0 rfl) ?_
  refine va_get (D := D) (ci := 4) (v := .ref qv) (C := R_Halving) (T := T_Halving) (N := 2) hx hb hts (ui_Halving _) hown hK hP 0 rfl rfl 1 (by decide) (hts _ (gwc gw_95)) (fun _ h9 => h9) rfl d_Halving_take_1 ?_
  refine lv_iconst (v := 0) hx hb d_Halving_take_4 (by decide) ?_
  refine lv_iconst (v := 0) hx hb d_Halving_take_5 (by decide) ?_
  refine st_i hx hb hK hP hD hS 2 0 rfl rfl 0 (by omega) (by omega) d_Halving_take_6 (fun H locs hP hD hS => ?_)
  have hP : va_P D cl [(hh, .inr (4, [.ref qz, .ref qv])), (qz, .inl (cI, 88, .inl Z)), (qv, .inl (cI, 11, .inl (upd V_ 0 0))), (hp, .inr (5, [.ref qk, .ref qf, .ref qx, .ref qy, .int (nI pc_), .int (nI pn), .int (nI pb)])), (qx, .inl (cI, 9000, .inl X)), (qy, .inl (cI, 9000, .inl Y))] H := hP
  have hD : va_D A [(hh, .inr (4, [.ref qz, .ref qv])), (qz, .inl (cI, 88, .inl Z)), (qv, .inl (cI, 11, .inl (upd V_ 0 0))), (hp, .inr (5, [.ref qk, .ref qf, .ref qx, .ref qy, .int (nI pc_), .int (nI pn), .int (nI pb)])), (qx, .inl (cI, 9000, .inl X)), (qy, .inl (cI, 9000, .inl Y))] := hD
  refine lv_iload_n hx hb d_Halving_take_7 rfl (lv_at hl 2 rfl) ?_
  refine lv_iconst (v := 1) hx hb d_Halving_take_8 (by decide) ?_
  refine lv_isub hx hb d_Halving_take_9 ?_
  refine tp_i (nI (f - 1)) (pk_sub (a := f) (b := 1) (by omega)) ?_
  refine lv_iconst (v := 0) hx hb d_Halving_take_10 (by decide) ?_
  refine ct_callS (av := [.int (nI (f - 1)), .int 0]) (rest := []) (wr := [(hh, .inr (4, [.ref qz, .ref qv])), (qz, .inl (cI, 88, .inl Z)), (qv, .inl (cI, 11, .inl (upd V_ 0 0))), (hp, .inr (5, [.ref qk, .ref qf, .ref qx, .ref qy, .int (nI pc_), .int (nI pn), .int (nI pb)])), (qx, .inl (cI, 9000, .inl X)), (qy, .inl (cI, 9000, .inl Y))]) (n := 2) (c_max l D cI cB cJ qQ  (nI (f - 1)) 0 ) hx hb hml hown hts (amb_ok qQ) hK hP hD hS hA hM (gi_S gw_389 gw_390 gw_35 gw_391) rfl (by decide +kernel) ⟨by omega, by omega⟩ [] [0, 1, 2, 3, 4, 5] rfl rfl rfl rfl (by decide) rfl hl.1 rfl (Nat.le_of_ble_eq_true rfl) d_Halving_take_11 ⟨by omega, by omega⟩ (fun u_1 H locs hok hP hD hS => ?_)
  have hP : va_P D cl [(hh, .inr (4, [.ref qz, .ref qv])), (qz, .inl (cI, 88, .inl Z)), (qv, .inl (cI, 11, .inl (upd V_ 0 0))), (hp, .inr (5, [.ref qk, .ref qf, .ref qx, .ref qy, .int (nI pc_), .int (nI pn), .int (nI pb)])), (qx, .inl (cI, 9000, .inl X)), (qy, .inl (cI, 9000, .inl Y))] H := hP
  have hD : va_D A [(hh, .inr (4, [.ref qz, .ref qv])), (qz, .inl (cI, 88, .inl Z)), (qv, .inl (cI, 11, .inl (upd V_ 0 0))), (hp, .inr (5, [.ref qk, .ref qf, .ref qx, .ref qy, .int (nI pc_), .int (nI pn), .int (nI pb)])), (qx, .inl (cI, 9000, .inl X)), (qy, .inl (cI, 9000, .inl Y))] := hD
  refine W.eq (g2 := F0 m 14 ls [.int (i32max (nI (f - 1)) 0)]) rfl ?_
  refine tp_i (nI (f - 1)) (mx0 (by omega)) ?_
  refine lv_istore_n (lv' := [(3, .int (nI (f - 1))), (0, .ref hh), (1, .ref hp), (2, .int (nI f))]) hx hb d_Halving_take_14 rfl hl (by decide) rfl (fun ls hl => ?_)
  refine lv_iconst (v := 0) hx hb d_Halving_take_15 (by decide) ?_
  refine lv_istore (lv' := [(4, .int 0), (3, .int (nI (f - 1))), (0, .ref hh), (1, .ref hp), (2, .int (nI f))]) hx hb d_Halving_take_16 hl (by decide) rfl (fun ls hl => ?_)
  refine lv_iload hx hb d_Halving_take_18 (lv_at hl 0 rfl) ?_
  refine lv_iconst (v := 4) hx hb d_Halving_take_20 (by decide) ?_
  refine bn_ge (a1 := 0) (b1 := 4) (tgt := 79) hx hb (by omega) (by omega) d_Halving_take_21 (by decide) (fun c_2 => ?_) (fun c_2 => ?_)
  · exact absurd c_2 (by decide)
  refine lv_iload_n hx hb d_Halving_take_24 rfl (lv_at hl 1 rfl) ?_
  refine lv_iload hx hb d_Halving_take_25 (lv_at hl 0 rfl) ?_
  refine lv_iadd hx hb d_Halving_take_27 ?_
  refine tp_i (nI ((f - 1) + 0)) (nI_add _ _) ?_
  refine lv_aload_n hx hb d_Halving_take_28 rfl (lv_at hl 3 rfl) ?_
  refine va_get (D := D) (ci := 5) (v := .int (nI pn)) (C := R_Path) (T := T_Path) (N := 7) hx hb hts (ui_Path _) hown hK hP 3 rfl rfl 5 (by decide) (hts _ (gwc gw_119)) (fun _ h9 => h9) rfl d_Halving_take_29 ?_
  refine bn_ge (a1 := (f - 1) + 0) (b1 := pn) (tgt := 79) hx hb (by omega) (by omega) d_Halving_take_32 (by decide) (fun c_3 => ?_) (fun c_3 => ?_)
  · skip
    exact absurd c_3 (by omega)
  · skip
    refine lv_aload_n hx hb d_Halving_take_35 rfl (lv_at hl 2 rfl) ?_
    refine va_get (D := D) (ci := 4) (v := .ref qz) (C := R_Halving) (T := T_Halving) (N := 2) hx hb hts (ui_Halving _) hown hK hP 0 rfl rfl 0 (by decide) (hts _ (gwc gw_94)) (fun _ h9 => h9) rfl d_Halving_take_36 ?_
    refine lv_iconst (v := 2) hx hb d_Halving_take_39 (by decide) ?_
    refine lv_iload hx hb d_Halving_take_40 (lv_at hl 0 rfl) ?_
    refine lv_imul hx hb d_Halving_take_42 ?_
    refine tp_i (0) (by decide) ?_
    refine lv_aload_n hx hb d_Halving_take_43 rfl (lv_at hl 3 rfl) ?_
    refine va_get (D := D) (ci := 5) (v := .ref qx) (C := R_Path) (T := T_Path) (N := 7) hx hb hts (ui_Path _) hown hK hP 3 rfl rfl 2 (by decide) (hts _ (gwc gw_112)) (fun _ h9 => h9) rfl d_Halving_take_44 ?_
    refine lv_iload_n hx hb d_Halving_take_47 rfl (lv_at hl 1 rfl) ?_
    refine lv_iload hx hb d_Halving_take_48 (lv_at hl 0 rfl) ?_
    refine lv_iadd hx hb d_Halving_take_50 ?_
    refine tp_i (nI ((f - 1) + 0)) (nI_add _ _) ?_
    refine ld_i hx hb hK hP 4 0 rfl rfl ((f - 1) + 0) (by omega) (by omega) d_Halving_take_51 ?_
    refine st_i hx hb hK hP hD hS 1 0 rfl rfl 0 (by omega) (by omega) d_Halving_take_52 (fun H locs hP hD hS => ?_)
    have hP : va_P D cl [(hh, .inr (4, [.ref qz, .ref qv])), (qz, .inl (cI, 88, .inl (upd Z 0 (X ((f - 1) + 0))))), (qv, .inl (cI, 11, .inl (upd V_ 0 0))), (hp, .inr (5, [.ref qk, .ref qf, .ref qx, .ref qy, .int (nI pc_), .int (nI pn), .int (nI pb)])), (qx, .inl (cI, 9000, .inl X)), (qy, .inl (cI, 9000, .inl Y))] H := hP
    have hD : va_D A [(hh, .inr (4, [.ref qz, .ref qv])), (qz, .inl (cI, 88, .inl (upd Z 0 (X ((f - 1) + 0))))), (qv, .inl (cI, 11, .inl (upd V_ 0 0))), (hp, .inr (5, [.ref qk, .ref qf, .ref qx, .ref qy, .int (nI pc_), .int (nI pn), .int (nI pb)])), (qx, .inl (cI, 9000, .inl X)), (qy, .inl (cI, 9000, .inl Y))] := hD
    refine lv_aload_n hx hb d_Halving_take_53 rfl (lv_at hl 2 rfl) ?_
    refine va_get (D := D) (ci := 4) (v := .ref qz) (C := R_Halving) (T := T_Halving) (N := 2) hx hb hts (ui_Halving _) hown hK hP 0 rfl rfl 0 (by decide) (hts _ (gwc gw_94)) (fun _ h9 => h9) rfl d_Halving_take_54 ?_
    refine lv_iconst (v := 2) hx hb d_Halving_take_57 (by decide) ?_
    refine lv_iload hx hb d_Halving_take_58 (lv_at hl 0 rfl) ?_
    refine lv_imul hx hb d_Halving_take_60 ?_
    refine tp_i (0) (by decide) ?_
    refine lv_iconst (v := 1) hx hb d_Halving_take_61 (by decide) ?_
    refine lv_iadd hx hb d_Halving_take_62 ?_
    refine tp_i (1) (by decide) ?_
    refine lv_aload_n hx hb d_Halving_take_63 rfl (lv_at hl 3 rfl) ?_
    refine va_get (D := D) (ci := 5) (v := .ref qy) (C := R_Path) (T := T_Path) (N := 7) hx hb hts (ui_Path _) hown hK hP 3 rfl rfl 3 (by decide) (hts _ (gwc gw_115)) (fun _ h9 => h9) rfl d_Halving_take_64 ?_
    refine lv_iload_n hx hb d_Halving_take_67 rfl (lv_at hl 1 rfl) ?_
    refine lv_iload hx hb d_Halving_take_68 (lv_at hl 0 rfl) ?_
    refine lv_iadd hx hb d_Halving_take_70 ?_
    refine tp_i (nI ((f - 1) + 0)) (nI_add _ _) ?_
    refine ld_i hx hb hK hP 5 0 rfl rfl ((f - 1) + 0) (by omega) (by omega) d_Halving_take_71 ?_
    refine st_i hx hb hK hP hD hS 1 0 rfl rfl 1 (by omega) (by omega) d_Halving_take_72 (fun H locs hP hD hS => ?_)
    have hP : va_P D cl [(hh, .inr (4, [.ref qz, .ref qv])), (qz, .inl (cI, 88, .inl (upd (upd Z 0 (X ((f - 1) + 0))) 1 (Y ((f - 1) + 0))))), (qv, .inl (cI, 11, .inl (upd V_ 0 0))), (hp, .inr (5, [.ref qk, .ref qf, .ref qx, .ref qy, .int (nI pc_), .int (nI pn), .int (nI pb)])), (qx, .inl (cI, 9000, .inl X)), (qy, .inl (cI, 9000, .inl Y))] H := hP
    have hD : va_D A [(hh, .inr (4, [.ref qz, .ref qv])), (qz, .inl (cI, 88, .inl (upd (upd Z 0 (X ((f - 1) + 0))) 1 (Y ((f - 1) + 0))))), (qv, .inl (cI, 11, .inl (upd V_ 0 0))), (hp, .inr (5, [.ref qk, .ref qf, .ref qx, .ref qy, .int (nI pc_), .int (nI pn), .int (nI pb)])), (qx, .inl (cI, 9000, .inl X)), (qy, .inl (cI, 9000, .inl Y))] := hD
    refine lv_iinc (v := 1) (lv' := [(4, .int 1), (3, .int (nI (f - 1))), (0, .ref hh), (1, .ref hp), (2, .int (nI f))]) hx hb d_Halving_take_73 hl (k := 0) rfl (by first | exact nI_add _ 1 | rfl | decide) (by decide) rfl (fun ls hl => ?_)
    refine lv_goto (tgt := 18) hx hb d_Halving_take_76 (by decide) ?_
    refine lv_iload hx hb d_Halving_take_18 (lv_at hl 0 rfl) ?_
    refine lv_iconst (v := 4) hx hb d_Halving_take_20 (by decide) ?_
    refine bn_ge (a1 := 1) (b1 := 4) (tgt := 79) hx hb (by omega) (by omega) d_Halving_take_21 (by decide) (fun c_4 => ?_) (fun c_4 => ?_)
    · exact absurd c_4 (by decide)
    refine lv_iload_n hx hb d_Halving_take_24 rfl (lv_at hl 1 rfl) ?_
    refine lv_iload hx hb d_Halving_take_25 (lv_at hl 0 rfl) ?_
    refine lv_iadd hx hb d_Halving_take_27 ?_
    refine tp_i (nI ((f - 1) + 1)) (nI_add _ _) ?_
    refine lv_aload_n hx hb d_Halving_take_28 rfl (lv_at hl 3 rfl) ?_
    refine va_get (D := D) (ci := 5) (v := .int (nI pn)) (C := R_Path) (T := T_Path) (N := 7) hx hb hts (ui_Path _) hown hK hP 3 rfl rfl 5 (by decide) (hts _ (gwc gw_119)) (fun _ h9 => h9) rfl d_Halving_take_29 ?_
    refine bn_ge (a1 := (f - 1) + 1) (b1 := pn) (tgt := 79) hx hb (by omega) (by omega) d_Halving_take_32 (by decide) (fun c_5 => ?_) (fun c_5 => ?_)
    · skip
      exact absurd c_5 (by omega)
    · skip
      refine lv_aload_n hx hb d_Halving_take_35 rfl (lv_at hl 2 rfl) ?_
      refine va_get (D := D) (ci := 4) (v := .ref qz) (C := R_Halving) (T := T_Halving) (N := 2) hx hb hts (ui_Halving _) hown hK hP 0 rfl rfl 0 (by decide) (hts _ (gwc gw_94)) (fun _ h9 => h9) rfl d_Halving_take_36 ?_
      refine lv_iconst (v := 2) hx hb d_Halving_take_39 (by decide) ?_
      refine lv_iload hx hb d_Halving_take_40 (lv_at hl 0 rfl) ?_
      refine lv_imul hx hb d_Halving_take_42 ?_
      refine tp_i (2) (by decide) ?_
      refine lv_aload_n hx hb d_Halving_take_43 rfl (lv_at hl 3 rfl) ?_
      refine va_get (D := D) (ci := 5) (v := .ref qx) (C := R_Path) (T := T_Path) (N := 7) hx hb hts (ui_Path _) hown hK hP 3 rfl rfl 2 (by decide) (hts _ (gwc gw_112)) (fun _ h9 => h9) rfl d_Halving_take_44 ?_
      refine lv_iload_n hx hb d_Halving_take_47 rfl (lv_at hl 1 rfl) ?_
      refine lv_iload hx hb d_Halving_take_48 (lv_at hl 0 rfl) ?_
      refine lv_iadd hx hb d_Halving_take_50 ?_
      refine tp_i (nI ((f - 1) + 1)) (nI_add _ _) ?_
      refine ld_i hx hb hK hP 4 0 rfl rfl ((f - 1) + 1) (by omega) (by omega) d_Halving_take_51 ?_
      refine st_i hx hb hK hP hD hS 1 0 rfl rfl 2 (by omega) (by omega) d_Halving_take_52 (fun H locs hP hD hS => ?_)
      have hP : va_P D cl [(hh, .inr (4, [.ref qz, .ref qv])), (qz, .inl (cI, 88, .inl (upd (upd (upd Z 0 (X ((f - 1) + 0))) 1 (Y ((f - 1) + 0))) 2 (X ((f - 1) + 1))))), (qv, .inl (cI, 11, .inl (upd V_ 0 0))), (hp, .inr (5, [.ref qk, .ref qf, .ref qx, .ref qy, .int (nI pc_), .int (nI pn), .int (nI pb)])), (qx, .inl (cI, 9000, .inl X)), (qy, .inl (cI, 9000, .inl Y))] H := hP
      have hD : va_D A [(hh, .inr (4, [.ref qz, .ref qv])), (qz, .inl (cI, 88, .inl (upd (upd (upd Z 0 (X ((f - 1) + 0))) 1 (Y ((f - 1) + 0))) 2 (X ((f - 1) + 1))))), (qv, .inl (cI, 11, .inl (upd V_ 0 0))), (hp, .inr (5, [.ref qk, .ref qf, .ref qx, .ref qy, .int (nI pc_), .int (nI pn), .int (nI pb)])), (qx, .inl (cI, 9000, .inl X)), (qy, .inl (cI, 9000, .inl Y))] := hD
      refine lv_aload_n hx hb d_Halving_take_53 rfl (lv_at hl 2 rfl) ?_
      refine va_get (D := D) (ci := 4) (v := .ref qz) (C := R_Halving) (T := T_Halving) (N := 2) hx hb hts (ui_Halving _) hown hK hP 0 rfl rfl 0 (by decide) (hts _ (gwc gw_94)) (fun _ h9 => h9) rfl d_Halving_take_54 ?_
      refine lv_iconst (v := 2) hx hb d_Halving_take_57 (by decide) ?_
      refine lv_iload hx hb d_Halving_take_58 (lv_at hl 0 rfl) ?_
      refine lv_imul hx hb d_Halving_take_60 ?_
      refine tp_i (2) (by decide) ?_
      refine lv_iconst (v := 1) hx hb d_Halving_take_61 (by decide) ?_
      refine lv_iadd hx hb d_Halving_take_62 ?_
      refine tp_i (3) (by decide) ?_
      refine lv_aload_n hx hb d_Halving_take_63 rfl (lv_at hl 3 rfl) ?_
      refine va_get (D := D) (ci := 5) (v := .ref qy) (C := R_Path) (T := T_Path) (N := 7) hx hb hts (ui_Path _) hown hK hP 3 rfl rfl 3 (by decide) (hts _ (gwc gw_115)) (fun _ h9 => h9) rfl d_Halving_take_64 ?_
      refine lv_iload_n hx hb d_Halving_take_67 rfl (lv_at hl 1 rfl) ?_
      refine lv_iload hx hb d_Halving_take_68 (lv_at hl 0 rfl) ?_
      refine lv_iadd hx hb d_Halving_take_70 ?_
      refine tp_i (nI ((f - 1) + 1)) (nI_add _ _) ?_
      refine ld_i hx hb hK hP 5 0 rfl rfl ((f - 1) + 1) (by omega) (by omega) d_Halving_take_71 ?_
      refine st_i hx hb hK hP hD hS 1 0 rfl rfl 3 (by omega) (by omega) d_Halving_take_72 (fun H locs hP hD hS => ?_)
      have hP : va_P D cl [(hh, .inr (4, [.ref qz, .ref qv])), (qz, .inl (cI, 88, .inl (upd (upd (upd (upd Z 0 (X ((f - 1) + 0))) 1 (Y ((f - 1) + 0))) 2 (X ((f - 1) + 1))) 3 (Y ((f - 1) + 1))))), (qv, .inl (cI, 11, .inl (upd V_ 0 0))), (hp, .inr (5, [.ref qk, .ref qf, .ref qx, .ref qy, .int (nI pc_), .int (nI pn), .int (nI pb)])), (qx, .inl (cI, 9000, .inl X)), (qy, .inl (cI, 9000, .inl Y))] H := hP
      have hD : va_D A [(hh, .inr (4, [.ref qz, .ref qv])), (qz, .inl (cI, 88, .inl (upd (upd (upd (upd Z 0 (X ((f - 1) + 0))) 1 (Y ((f - 1) + 0))) 2 (X ((f - 1) + 1))) 3 (Y ((f - 1) + 1))))), (qv, .inl (cI, 11, .inl (upd V_ 0 0))), (hp, .inr (5, [.ref qk, .ref qf, .ref qx, .ref qy, .int (nI pc_), .int (nI pn), .int (nI pb)])), (qx, .inl (cI, 9000, .inl X)), (qy, .inl (cI, 9000, .inl Y))] := hD
      refine lv_iinc (v := 2) (lv' := [(4, .int 2), (3, .int (nI (f - 1))), (0, .ref hh), (1, .ref hp), (2, .int (nI f))]) hx hb d_Halving_take_73 hl (k := 0) rfl (by first | exact nI_add _ 1 | rfl | decide) (by decide) rfl (fun ls hl => ?_)
      refine lv_goto (tgt := 18) hx hb d_Halving_take_76 (by decide) ?_
      refine lv_iload hx hb d_Halving_take_18 (lv_at hl 0 rfl) ?_
      refine lv_iconst (v := 4) hx hb d_Halving_take_20 (by decide) ?_
      refine bn_ge (a1 := 2) (b1 := 4) (tgt := 79) hx hb (by omega) (by omega) d_Halving_take_21 (by decide) (fun c_6 => ?_) (fun c_6 => ?_)
      · exact absurd c_6 (by decide)
      refine lv_iload_n hx hb d_Halving_take_24 rfl (lv_at hl 1 rfl) ?_
      refine lv_iload hx hb d_Halving_take_25 (lv_at hl 0 rfl) ?_
      refine lv_iadd hx hb d_Halving_take_27 ?_
      refine tp_i (nI ((f - 1) + 2)) (nI_add _ _) ?_
      refine lv_aload_n hx hb d_Halving_take_28 rfl (lv_at hl 3 rfl) ?_
      refine va_get (D := D) (ci := 5) (v := .int (nI pn)) (C := R_Path) (T := T_Path) (N := 7) hx hb hts (ui_Path _) hown hK hP 3 rfl rfl 5 (by decide) (hts _ (gwc gw_119)) (fun _ h9 => h9) rfl d_Halving_take_29 ?_
      refine bn_ge (a1 := (f - 1) + 2) (b1 := pn) (tgt := 79) hx hb (by omega) (by omega) d_Halving_take_32 (by decide) (fun c_7 => ?_) (fun c_7 => ?_)
      · skip
        exact absurd c_7 (by omega)
      · skip
        refine lv_aload_n hx hb d_Halving_take_35 rfl (lv_at hl 2 rfl) ?_
        refine va_get (D := D) (ci := 4) (v := .ref qz) (C := R_Halving) (T := T_Halving) (N := 2) hx hb hts (ui_Halving _) hown hK hP 0 rfl rfl 0 (by decide) (hts _ (gwc gw_94)) (fun _ h9 => h9) rfl d_Halving_take_36 ?_
        refine lv_iconst (v := 2) hx hb d_Halving_take_39 (by decide) ?_
        refine lv_iload hx hb d_Halving_take_40 (lv_at hl 0 rfl) ?_
        refine lv_imul hx hb d_Halving_take_42 ?_
        refine tp_i (4) (by decide) ?_
        refine lv_aload_n hx hb d_Halving_take_43 rfl (lv_at hl 3 rfl) ?_
        refine va_get (D := D) (ci := 5) (v := .ref qx) (C := R_Path) (T := T_Path) (N := 7) hx hb hts (ui_Path _) hown hK hP 3 rfl rfl 2 (by decide) (hts _ (gwc gw_112)) (fun _ h9 => h9) rfl d_Halving_take_44 ?_
        refine lv_iload_n hx hb d_Halving_take_47 rfl (lv_at hl 1 rfl) ?_
        refine lv_iload hx hb d_Halving_take_48 (lv_at hl 0 rfl) ?_
        refine lv_iadd hx hb d_Halving_take_50 ?_
        refine tp_i (nI ((f - 1) + 2)) (nI_add _ _) ?_
        refine ld_i hx hb hK hP 4 0 rfl rfl ((f - 1) + 2) (by omega) (by omega) d_Halving_take_51 ?_
        refine st_i hx hb hK hP hD hS 1 0 rfl rfl 4 (by omega) (by omega) d_Halving_take_52 (fun H locs hP hD hS => ?_)
        have hP : va_P D cl [(hh, .inr (4, [.ref qz, .ref qv])), (qz, .inl (cI, 88, .inl (upd (upd (upd (upd (upd Z 0 (X ((f - 1) + 0))) 1 (Y ((f - 1) + 0))) 2 (X ((f - 1) + 1))) 3 (Y ((f - 1) + 1))) 4 (X ((f - 1) + 2))))), (qv, .inl (cI, 11, .inl (upd V_ 0 0))), (hp, .inr (5, [.ref qk, .ref qf, .ref qx, .ref qy, .int (nI pc_), .int (nI pn), .int (nI pb)])), (qx, .inl (cI, 9000, .inl X)), (qy, .inl (cI, 9000, .inl Y))] H := hP
        have hD : va_D A [(hh, .inr (4, [.ref qz, .ref qv])), (qz, .inl (cI, 88, .inl (upd (upd (upd (upd (upd Z 0 (X ((f - 1) + 0))) 1 (Y ((f - 1) + 0))) 2 (X ((f - 1) + 1))) 3 (Y ((f - 1) + 1))) 4 (X ((f - 1) + 2))))), (qv, .inl (cI, 11, .inl (upd V_ 0 0))), (hp, .inr (5, [.ref qk, .ref qf, .ref qx, .ref qy, .int (nI pc_), .int (nI pn), .int (nI pb)])), (qx, .inl (cI, 9000, .inl X)), (qy, .inl (cI, 9000, .inl Y))] := hD
        refine lv_aload_n hx hb d_Halving_take_53 rfl (lv_at hl 2 rfl) ?_
        refine va_get (D := D) (ci := 4) (v := .ref qz) (C := R_Halving) (T := T_Halving) (N := 2) hx hb hts (ui_Halving _) hown hK hP 0 rfl rfl 0 (by decide) (hts _ (gwc gw_94)) (fun _ h9 => h9) rfl d_Halving_take_54 ?_
        refine lv_iconst (v := 2) hx hb d_Halving_take_57 (by decide) ?_
        refine lv_iload hx hb d_Halving_take_58 (lv_at hl 0 rfl) ?_
        refine lv_imul hx hb d_Halving_take_60 ?_
        refine tp_i (4) (by decide) ?_
        refine lv_iconst (v := 1) hx hb d_Halving_take_61 (by decide) ?_
        refine lv_iadd hx hb d_Halving_take_62 ?_
        refine tp_i (5) (by decide) ?_
        refine lv_aload_n hx hb d_Halving_take_63 rfl (lv_at hl 3 rfl) ?_
        refine va_get (D := D) (ci := 5) (v := .ref qy) (C := R_Path) (T := T_Path) (N := 7) hx hb hts (ui_Path _) hown hK hP 3 rfl rfl 3 (by decide) (hts _ (gwc gw_115)) (fun _ h9 => h9) rfl d_Halving_take_64 ?_
        refine lv_iload_n hx hb d_Halving_take_67 rfl (lv_at hl 1 rfl) ?_
        refine lv_iload hx hb d_Halving_take_68 (lv_at hl 0 rfl) ?_
        refine lv_iadd hx hb d_Halving_take_70 ?_
        refine tp_i (nI ((f - 1) + 2)) (nI_add _ _) ?_
        refine ld_i hx hb hK hP 5 0 rfl rfl ((f - 1) + 2) (by omega) (by omega) d_Halving_take_71 ?_
        refine st_i hx hb hK hP hD hS 1 0 rfl rfl 5 (by omega) (by omega) d_Halving_take_72 (fun H locs hP hD hS => ?_)
        have hP : va_P D cl [(hh, .inr (4, [.ref qz, .ref qv])), (qz, .inl (cI, 88, .inl (upd (upd (upd (upd (upd (upd Z 0 (X ((f - 1) + 0))) 1 (Y ((f - 1) + 0))) 2 (X ((f - 1) + 1))) 3 (Y ((f - 1) + 1))) 4 (X ((f - 1) + 2))) 5 (Y ((f - 1) + 2))))), (qv, .inl (cI, 11, .inl (upd V_ 0 0))), (hp, .inr (5, [.ref qk, .ref qf, .ref qx, .ref qy, .int (nI pc_), .int (nI pn), .int (nI pb)])), (qx, .inl (cI, 9000, .inl X)), (qy, .inl (cI, 9000, .inl Y))] H := hP
        have hD : va_D A [(hh, .inr (4, [.ref qz, .ref qv])), (qz, .inl (cI, 88, .inl (upd (upd (upd (upd (upd (upd Z 0 (X ((f - 1) + 0))) 1 (Y ((f - 1) + 0))) 2 (X ((f - 1) + 1))) 3 (Y ((f - 1) + 1))) 4 (X ((f - 1) + 2))) 5 (Y ((f - 1) + 2))))), (qv, .inl (cI, 11, .inl (upd V_ 0 0))), (hp, .inr (5, [.ref qk, .ref qf, .ref qx, .ref qy, .int (nI pc_), .int (nI pn), .int (nI pb)])), (qx, .inl (cI, 9000, .inl X)), (qy, .inl (cI, 9000, .inl Y))] := hD
        refine lv_iinc (v := 3) (lv' := [(4, .int 3), (3, .int (nI (f - 1))), (0, .ref hh), (1, .ref hp), (2, .int (nI f))]) hx hb d_Halving_take_73 hl (k := 0) rfl (by first | exact nI_add _ 1 | rfl | decide) (by decide) rfl (fun ls hl => ?_)
        refine lv_goto (tgt := 18) hx hb d_Halving_take_76 (by decide) ?_
        refine lv_iload hx hb d_Halving_take_18 (lv_at hl 0 rfl) ?_
        refine lv_iconst (v := 4) hx hb d_Halving_take_20 (by decide) ?_
        refine bn_ge (a1 := 3) (b1 := 4) (tgt := 79) hx hb (by omega) (by omega) d_Halving_take_21 (by decide) (fun c_8 => ?_) (fun c_8 => ?_)
        · exact absurd c_8 (by decide)
        refine lv_iload_n hx hb d_Halving_take_24 rfl (lv_at hl 1 rfl) ?_
        refine lv_iload hx hb d_Halving_take_25 (lv_at hl 0 rfl) ?_
        refine lv_iadd hx hb d_Halving_take_27 ?_
        refine tp_i (nI ((f - 1) + 3)) (nI_add _ _) ?_
        refine lv_aload_n hx hb d_Halving_take_28 rfl (lv_at hl 3 rfl) ?_
        refine va_get (D := D) (ci := 5) (v := .int (nI pn)) (C := R_Path) (T := T_Path) (N := 7) hx hb hts (ui_Path _) hown hK hP 3 rfl rfl 5 (by decide) (hts _ (gwc gw_119)) (fun _ h9 => h9) rfl d_Halving_take_29 ?_
        refine bn_ge (a1 := (f - 1) + 3) (b1 := pn) (tgt := 79) hx hb (by omega) (by omega) d_Halving_take_32 (by decide) (fun c_9 => ?_) (fun c_9 => ?_)
        · skip
          exact absurd c_9 (by omega)
        · skip
          refine lv_aload_n hx hb d_Halving_take_35 rfl (lv_at hl 2 rfl) ?_
          refine va_get (D := D) (ci := 4) (v := .ref qz) (C := R_Halving) (T := T_Halving) (N := 2) hx hb hts (ui_Halving _) hown hK hP 0 rfl rfl 0 (by decide) (hts _ (gwc gw_94)) (fun _ h9 => h9) rfl d_Halving_take_36 ?_
          refine lv_iconst (v := 2) hx hb d_Halving_take_39 (by decide) ?_
          refine lv_iload hx hb d_Halving_take_40 (lv_at hl 0 rfl) ?_
          refine lv_imul hx hb d_Halving_take_42 ?_
          refine tp_i (6) (by decide) ?_
          refine lv_aload_n hx hb d_Halving_take_43 rfl (lv_at hl 3 rfl) ?_
          refine va_get (D := D) (ci := 5) (v := .ref qx) (C := R_Path) (T := T_Path) (N := 7) hx hb hts (ui_Path _) hown hK hP 3 rfl rfl 2 (by decide) (hts _ (gwc gw_112)) (fun _ h9 => h9) rfl d_Halving_take_44 ?_
          refine lv_iload_n hx hb d_Halving_take_47 rfl (lv_at hl 1 rfl) ?_
          refine lv_iload hx hb d_Halving_take_48 (lv_at hl 0 rfl) ?_
          refine lv_iadd hx hb d_Halving_take_50 ?_
          refine tp_i (nI ((f - 1) + 3)) (nI_add _ _) ?_
          refine ld_i hx hb hK hP 4 0 rfl rfl ((f - 1) + 3) (by omega) (by omega) d_Halving_take_51 ?_
          refine st_i hx hb hK hP hD hS 1 0 rfl rfl 6 (by omega) (by omega) d_Halving_take_52 (fun H locs hP hD hS => ?_)
          have hP : va_P D cl [(hh, .inr (4, [.ref qz, .ref qv])), (qz, .inl (cI, 88, .inl (upd (upd (upd (upd (upd (upd (upd Z 0 (X ((f - 1) + 0))) 1 (Y ((f - 1) + 0))) 2 (X ((f - 1) + 1))) 3 (Y ((f - 1) + 1))) 4 (X ((f - 1) + 2))) 5 (Y ((f - 1) + 2))) 6 (X ((f - 1) + 3))))), (qv, .inl (cI, 11, .inl (upd V_ 0 0))), (hp, .inr (5, [.ref qk, .ref qf, .ref qx, .ref qy, .int (nI pc_), .int (nI pn), .int (nI pb)])), (qx, .inl (cI, 9000, .inl X)), (qy, .inl (cI, 9000, .inl Y))] H := hP
          have hD : va_D A [(hh, .inr (4, [.ref qz, .ref qv])), (qz, .inl (cI, 88, .inl (upd (upd (upd (upd (upd (upd (upd Z 0 (X ((f - 1) + 0))) 1 (Y ((f - 1) + 0))) 2 (X ((f - 1) + 1))) 3 (Y ((f - 1) + 1))) 4 (X ((f - 1) + 2))) 5 (Y ((f - 1) + 2))) 6 (X ((f - 1) + 3))))), (qv, .inl (cI, 11, .inl (upd V_ 0 0))), (hp, .inr (5, [.ref qk, .ref qf, .ref qx, .ref qy, .int (nI pc_), .int (nI pn), .int (nI pb)])), (qx, .inl (cI, 9000, .inl X)), (qy, .inl (cI, 9000, .inl Y))] := hD
          refine lv_aload_n hx hb d_Halving_take_53 rfl (lv_at hl 2 rfl) ?_
          refine va_get (D := D) (ci := 4) (v := .ref qz) (C := R_Halving) (T := T_Halving) (N := 2) hx hb hts (ui_Halving _) hown hK hP 0 rfl rfl 0 (by decide) (hts _ (gwc gw_94)) (fun _ h9 => h9) rfl d_Halving_take_54 ?_
          refine lv_iconst (v := 2) hx hb d_Halving_take_57 (by decide) ?_
          refine lv_iload hx hb d_Halving_take_58 (lv_at hl 0 rfl) ?_
          refine lv_imul hx hb d_Halving_take_60 ?_
          refine tp_i (6) (by decide) ?_
          refine lv_iconst (v := 1) hx hb d_Halving_take_61 (by decide) ?_
          refine lv_iadd hx hb d_Halving_take_62 ?_
          refine tp_i (7) (by decide) ?_
          refine lv_aload_n hx hb d_Halving_take_63 rfl (lv_at hl 3 rfl) ?_
          refine va_get (D := D) (ci := 5) (v := .ref qy) (C := R_Path) (T := T_Path) (N := 7) hx hb hts (ui_Path _) hown hK hP 3 rfl rfl 3 (by decide) (hts _ (gwc gw_115)) (fun _ h9 => h9) rfl d_Halving_take_64 ?_
          refine lv_iload_n hx hb d_Halving_take_67 rfl (lv_at hl 1 rfl) ?_
          refine lv_iload hx hb d_Halving_take_68 (lv_at hl 0 rfl) ?_
          refine lv_iadd hx hb d_Halving_take_70 ?_
          refine tp_i (nI ((f - 1) + 3)) (nI_add _ _) ?_
          refine ld_i hx hb hK hP 5 0 rfl rfl ((f - 1) + 3) (by omega) (by omega) d_Halving_take_71 ?_
          refine st_i hx hb hK hP hD hS 1 0 rfl rfl 7 (by omega) (by omega) d_Halving_take_72 (fun H locs hP hD hS => ?_)
          have hP : va_P D cl [(hh, .inr (4, [.ref qz, .ref qv])), (qz, .inl (cI, 88, .inl (upd (upd (upd (upd (upd (upd (upd (upd Z 0 (X ((f - 1) + 0))) 1 (Y ((f - 1) + 0))) 2 (X ((f - 1) + 1))) 3 (Y ((f - 1) + 1))) 4 (X ((f - 1) + 2))) 5 (Y ((f - 1) + 2))) 6 (X ((f - 1) + 3))) 7 (Y ((f - 1) + 3))))), (qv, .inl (cI, 11, .inl (upd V_ 0 0))), (hp, .inr (5, [.ref qk, .ref qf, .ref qx, .ref qy, .int (nI pc_), .int (nI pn), .int (nI pb)])), (qx, .inl (cI, 9000, .inl X)), (qy, .inl (cI, 9000, .inl Y))] H := hP
          have hD : va_D A [(hh, .inr (4, [.ref qz, .ref qv])), (qz, .inl (cI, 88, .inl (upd (upd (upd (upd (upd (upd (upd (upd Z 0 (X ((f - 1) + 0))) 1 (Y ((f - 1) + 0))) 2 (X ((f - 1) + 1))) 3 (Y ((f - 1) + 1))) 4 (X ((f - 1) + 2))) 5 (Y ((f - 1) + 2))) 6 (X ((f - 1) + 3))) 7 (Y ((f - 1) + 3))))), (qv, .inl (cI, 11, .inl (upd V_ 0 0))), (hp, .inr (5, [.ref qk, .ref qf, .ref qx, .ref qy, .int (nI pc_), .int (nI pn), .int (nI pb)])), (qx, .inl (cI, 9000, .inl X)), (qy, .inl (cI, 9000, .inl Y))] := hD
          refine lv_iinc (v := 4) (lv' := [(4, .int 4), (3, .int (nI (f - 1))), (0, .ref hh), (1, .ref hp), (2, .int (nI f))]) hx hb d_Halving_take_73 hl (k := 0) rfl (by first | exact nI_add _ 1 | rfl | decide) (by decide) rfl (fun ls hl => ?_)
          refine lv_goto (tgt := 18) hx hb d_Halving_take_76 (by decide) ?_
          refine lv_iload hx hb d_Halving_take_18 (lv_at hl 0 rfl) ?_
          refine lv_iconst (v := 4) hx hb d_Halving_take_20 (by decide) ?_
          refine bn_ge (a1 := 4) (b1 := 4) (tgt := 79) hx hb (by omega) (by omega) d_Halving_take_21 (by decide) (fun c_10 => ?_) (fun c_10 => ?_)
          rotate_left
          · exact absurd c_10 (by decide)
          have t1 : f - 1 + 1 = f := by omega
          have t2 : f - 1 + 2 = f + 1 := by omega
          have t3 : f - 1 + 3 = f + 2 := by omega
          exact ct_retv hQ hx hb hr hlocks hP hD hS (upd (upd (upd (upd (upd (upd (upd (upd Z 0 (X ((f - 1) + 0))) 1 (Y ((f - 1) + 0))) 2 (X ((f - 1) + 1))) 3 (Y ((f - 1) + 1))) 4 (X ((f - 1) + 2))) 5 (Y ((f - 1) + 2))) 6 (X ((f - 1) + 3))) 7 (Y ((f - 1) + 3)), upd V_ 0 0) [(hh, .inr (4, [.ref qz, .ref qv])), (qz, .inl (cI, 88, .inl (upd (upd (upd (upd (upd (upd (upd (upd Z 0 (X ((f - 1) + 0))) 1 (Y ((f - 1) + 0))) 2 (X ((f - 1) + 1))) 3 (Y ((f - 1) + 1))) 4 (X ((f - 1) + 2))) 5 (Y ((f - 1) + 2))) 6 (X ((f - 1) + 3))) 7 (Y ((f - 1) + 3))))), (qv, .inl (cI, 11, .inl (upd V_ 0 0))), (hp, .inr (5, [.ref qk, .ref qf, .ref qx, .ref qy, .int (nI pc_), .int (nI pn), .int (nI pb)])), (qx, .inl (cI, 9000, .inl X)), (qy, .inl (cI, 9000, .inl Y))] [0, 1, 2, 3, 4, 5] (rfl) (by simp [upd, t1, t2, t3]) (rfl) rfl rfl (by omega) (by omega) d_Halving_take_79
set_option maxHeartbeats 40000000 in
set_option maxRecDepth 100000 in
/-- addLinesTo -/
theorem c_Halving_addLinesTo (l : Launch) (D : va_G) (cI cB cJ : ClassId) (qQ : Nat) (hh : Nat) (qz : Nat) (qv : Nat) (Z : Nat → Int32) (V_ : Nat → Int32) (hp : Nat) (qk : Nat) (qf : Nat) (qx : Nat) (qy : Nat) (pc_ : Nat) (pn : Nat) (pb : Nat) (K : Nat → Int32) (Fi : Nat → Int32) (X : Nat → Int32) (Y : Nat → Int32) (bd : Int32) (ps : List Pt) (hR0 : RIp pc_ pn pb K Fi X Y ps) (hpc0 : pc_ ≤ 3000) (hV0 : V_ 0 = 0) (hz0 : nrZ Z 0) : ct l D cl [(cI, .int), (cB, .byte), (cJ, .long)] (amb qQ) y_Halving_addLinesTo w_Halving_addLinesTo 4 90 (0) (0) [.ref hh, .ref hp, .int bd] [(hh, .inr (4, [.ref qz, .ref qv])), (qz, .inl (cI, 88, .inl Z)), (qv, .inl (cI, 11, .inl V_)), (hp, .inr (5, [.ref qk, .ref qf, .ref qx, .ref qy, .int (nI pc_), .int (nI pn), .int (nI pb)])), (qk, .inl (cI, 3000, .inl K)), (qf, .inl (cI, 3000, .inl Fi)), (qx, .inl (cI, 9000, .inl X)), (qy, .inl (cI, 9000, .inl Y))] (fun u_ : Bool × (Nat → Int32) × (Nat → Int32) × Nat × Nat × Nat × (Nat → Int32) × (Nat → Int32) × (Nat → Int32) × (Nat → Int32) => match u_ with | (r, Z', V', pc', pn', pb', K', F', X', Y') => (r = true ∧ pc' ≤ 3000 ∧ RIp pc' pn' pb' K' F' X' Y' (ps ++ (layZ bd Z 0 0).map q7p)) ∨ (r = false ∧ 3000 < (ps ++ (layZ bd Z 0 0).map q7p).length)) (fun u_ : Bool × (Nat → Int32) × (Nat → Int32) × Nat × Nat × Nat × (Nat → Int32) × (Nat → Int32) × (Nat → Int32) × (Nat → Int32) => match u_ with | (r, Z', V', pc', pn', pb', K', F', X', Y') => some (.int (bz r))) (fun u_ : Bool × (Nat → Int32) × (Nat → Int32) × Nat × Nat × Nat × (Nat → Int32) × (Nat → Int32) × (Nat → Int32) × (Nat → Int32) => match u_ with | (r, Z', V', pc', pn', pb', K', F', X', Y') => [(hh, .inr (4, [.ref qz, .ref qv])), (qz, .inl (cI, 88, .inl Z')), (qv, .inl (cI, 11, .inl V')), (hp, .inr (5, [.ref qk, .ref qf, .ref qx, .ref qy, .int (nI pc'), .int (nI pn'), .int (nI pb')])), (qk, .inl (cI, 3000, .inl K')), (qf, .inl (cI, 3000, .inl F')), (qx, .inl (cI, 9000, .inl X')), (qy, .inl (cI, 9000, .inl Y'))]) := by
  refine ct_ofW (cc := b_Halving_addLinesTo) (maxL := 6) (ret := (some .boolean)) (by decide) rfl (Nat.le_of_ble_eq_true rfl) ?_
  intro p e R s m args below meth c A Q ls hx hb hr hml hts hown hlocks hname hRf hRc hRs hRl hQ hK hP hD hS hA hM hl
  have hl : lv_has ls 6 [(0, .ref hh), (1, .ref hp), (2, .int bd)] := hl
  refine lv_iconst (v := 1) hx hb d_Halving_addLinesTo_0 (by decide) ?_
  refine lv_istore_n (lv' := [(3, .int 1), (0, .ref hh), (1, .ref hp), (2, .int bd)]) hx hb d_Halving_addLinesTo_1 rfl hl (by decide) rfl (fun ls hl => ?_)
  refine lv_iconst (v := 0) hx hb d_Halving_addLinesTo_2 (by decide) ?_
  refine lv_istore (lv' := [(4, .int 0), (3, .int 1), (0, .ref hh), (1, .ref hp), (2, .int bd)]) hx hb d_Halving_addLinesTo_3 hl (by decide) rfl (fun ls hl => ?_)
  have L_5 : ∀ (n_ : Nat) (lf : Nat) (sp : Nat) (Z_ : Nat → Int32) (V9 : Nat → Int32) (Vn : Nat → Nat) (G : List Pt) (pc3 : Nat) (pn3 : Nat) (K3 : Nat → Int32) (F3 : Nat → Int32) (X3 : Nat → Int32) (Y3 : Nat → Int32), 2047 - sp < n_ → (LIp bd lf sp Z_ V9 Vn G (ps ++ (layZ bd Z 0 0).map q7p)) → (RIp pc3 pn3 pb K3 F3 X3 Y3 G) → (pc3 ≤ 3000) → (sp ≤ 2047) → ∀ (H : Heap) (locs : List Loc) (ls : Array Slot), va_P D cl [(hh, .inr (4, [.ref qz, .ref qv])), (qz, .inl (cI, 88, .inl Z_)), (qv, .inl (cI, 11, .inl V9)), (hp, .inr (5, [.ref qk, .ref qf, .ref qx, .ref qy, .int (nI pc3), .int (nI pn3), .int (nI pb)])), (qk, .inl (cI, 3000, .inl K3)), (qf, .inl (cI, 3000, .inl F3)), (qx, .inl (cI, 9000, .inl X3)), (qy, .inl (cI, 9000, .inl Y3))] H → va_D A [(hh, .inr (4, [.ref qz, .ref qv])), (qz, .inl (cI, 88, .inl Z_)), (qv, .inl (cI, 11, .inl V9)), (hp, .inr (5, [.ref qk, .ref qf, .ref qx, .ref qy, .int (nI pc3), .int (nI pn3), .int (nI pb)])), (qk, .inl (cI, 3000, .inl K3)), (qf, .inl (cI, 3000, .inl F3)), (qx, .inl (cI, 9000, .inl X3)), (qy, .inl (cI, 9000, .inl Y3))] → va_S A s.heap H locs → lv_has ls 6 [(0, .ref hh), (1, .ref hp), (2, .int bd), (3, .int (nI lf)), (4, .int (nI sp))] → W p l e R s m args below meth c H locs (0) (0) Q (F0 m 5 ls []) := by
    intro n_
    induction n_ with
    | zero => intro lf sp Z_ V9 Vn G pc3 pn3 K3 F3 X3 Y3 hm_; exact absurd hm_ (Nat.not_lt_zero _)
    | succ n_ ih_5 =>
      intro lf sp Z_ V9 Vn G pc3 pn3 K3 F3 X3 Y3 hm_ hL hR hpc hsp H locs ls hP hD hS hl
      have h11 := hL.1
      refine lv_iload hx hb d_Halving_addLinesTo_5 (lv_at hl 4 rfl) ?_
      refine lv_sipush (v := 2047) hx hb d_Halving_addLinesTo_7 (by decide) ?_
      refine bn_ge (a1 := sp) (b1 := 2047) (tgt := 108) hx hb (by omega) (by omega) d_Halving_addLinesTo_10 (by decide) (fun c_1 => ?_) (fun c_1 => ?_)
      · skip
        have hz9 : lf = 0 := LI_stop hL (by omega)
        refine lv_iconst (v := 1) hx hb d_Halving_addLinesTo_108 (by decide) ?_
        have hE : G = (ps ++ (layZ bd Z 0 0).map q7p) := LI_end (by rw [hz9] at hL; exact hL)
        exact ct_retz hQ hx hb hr hlocks hP hD hS (true, Z_, V9, pc3, pn3, pb, K3, F3, X3, Y3) [(hh, .inr (4, [.ref qz, .ref qv])), (qz, .inl (cI, 88, .inl Z_)), (qv, .inl (cI, 11, .inl V9)), (hp, .inr (5, [.ref qk, .ref qf, .ref qx, .ref qy, .int (nI pc3), .int (nI pn3), .int (nI pb)])), (qk, .inl (cI, 3000, .inl K3)), (qf, .inl (cI, 3000, .inl F3)), (qx, .inl (cI, 9000, .inl X3)), (qy, .inl (cI, 9000, .inl Y3))] [0, 1, 2, 3, 4, 5, 6, 7] (rfl) (Or.inl ⟨rfl, hpc, by rw [← hE]; exact hR⟩) (rfl) rfl rfl (by decide) (by omega) (by omega) d_Halving_addLinesTo_109
      · skip
        refine lv_iload_n hx hb d_Halving_addLinesTo_13 rfl (lv_at hl 3 rfl) ?_
        refine bz_le (a1 := lf) (tgt := 108) hx hb (by omega) d_Halving_addLinesTo_14 (by decide) (fun c_2 => ?_) (fun c_2 => ?_)
        · skip
          have hz9 : lf = 0 := by omega
          refine lv_iconst (v := 1) hx hb d_Halving_addLinesTo_108 (by decide) ?_
          have hE : G = (ps ++ (layZ bd Z 0 0).map q7p) := LI_end (by rw [hz9] at hL; exact hL)
          exact ct_retz hQ hx hb hr hlocks hP hD hS (true, Z_, V9, pc3, pn3, pb, K3, F3, X3, Y3) [(hh, .inr (4, [.ref qz, .ref qv])), (qz, .inl (cI, 88, .inl Z_)), (qv, .inl (cI, 11, .inl V9)), (hp, .inr (5, [.ref qk, .ref qf, .ref qx, .ref qy, .int (nI pc3), .int (nI pn3), .int (nI pb)])), (qk, .inl (cI, 3000, .inl K3)), (qf, .inl (cI, 3000, .inl F3)), (qx, .inl (cI, 9000, .inl X3)), (qy, .inl (cI, 9000, .inl Y3))] [0, 1, 2, 3, 4, 5, 6, 7] (rfl) (Or.inl ⟨rfl, hpc, by rw [← hE]; exact hR⟩) (rfl) rfl rfl (by decide) (by omega) (by omega) d_Halving_addLinesTo_109
        · skip
          have hlf : 0 < lf := by omega
          have hl1 : lf = lf - 1 + 1 := by omega
          have hVt := hL.2.1 (lf - 1) (by omega)
          have hpn3 := RI_pn hR
          have h11 := hL.1
          refine lv_iload_n hx hb d_Halving_addLinesTo_17 rfl (lv_at hl 3 rfl) ?_
          refine lv_iconst (v := 1) hx hb d_Halving_addLinesTo_18 (by decide) ?_
          refine lv_isub hx hb d_Halving_addLinesTo_19 ?_
          refine tp_i (nI (lf - 1)) (pk_sub (a := lf) (b := 1) (by omega)) ?_
          refine lv_istore (lv' := [(5, .int (nI (lf - 1))), (0, .ref hh), (1, .ref hp), (2, .int bd), (3, .int (nI lf)), (4, .int (nI sp))]) hx hb d_Halving_addLinesTo_20 hl (by decide) rfl (fun ls hl => ?_)
          refine lv_aload_n hx hb d_Halving_addLinesTo_22 rfl (lv_at hl 1 rfl) ?_
          refine va_get (D := D) (ci := 4) (v := .ref qv) (C := R_Halving) (T := T_Halving) (N := 2) hx hb hts (ui_Halving _) hown hK hP 0 rfl rfl 1 (by decide) (hts _ (gwc gw_95)) (fun _ h9 => h9) rfl d_Halving_addLinesTo_23 ?_
          refine lv_iload hx hb d_Halving_addLinesTo_26 (lv_at hl 0 rfl) ?_
          refine ld_i hx hb hK hP 2 0 rfl rfl (lf - 1) (by omega) (by omega) d_Halving_addLinesTo_28 ?_
          refine tp_i (nI (Vn (lf - 1))) (hVt.1) ?_
          refine lv_bipush (v := 10) hx hb d_Halving_addLinesTo_29 (by decide) ?_
          refine bn_ge (a1 := (Vn (lf - 1))) (b1 := 10) (tgt := 56) hx hb (by omega) (by omega) d_Halving_addLinesTo_31 (by decide) (fun c_3 => ?_) (fun c_3 => ?_)
          · skip
            have hfl : 10 ≤ Vn (lf - 1) ∨ flatZ Z_ (lf - 1) bd = true := Or.inl c_3
            refine lv_aload_n hx hb d_Halving_addLinesTo_56 rfl (lv_at hl 2 rfl) ?_
            refine lv_iconst (v := 1) hx hb d_Halving_addLinesTo_57 (by decide) ?_
            refine ct_callV (ci := 5) (q0 := 3) (As := [.int 1]) (rest := []) (wr := [(hh, .inr (4, [.ref qz, .ref qv])), (qz, .inl (cI, 88, .inl Z_)), (qv, .inl (cI, 11, .inl V9)), (qk, .inl (cI, 3000, .inl K3)), (qf, .inl (cI, 3000, .inl F3)), (qx, .inl (cI, 9000, .inl X3)), (qy, .inl (cI, 9000, .inl Y3))]) (n := 1) (c_Path_takes l D cI cB cJ qQ  hp qk qf qx qy pc3 pn3 pb 1 (hpc) (by decide)) hx hb hml hown hts (amb_ok qQ) hK hP hD hS hA hM (gi_V gw_423 gw_175 gw_176 gw_32 gw_177) rfl (by decide +kernel) ⟨by omega, by omega⟩ [3] [0, 1, 2, 4, 5, 6, 7] rfl rfl rfl rfl (by decide) rfl rfl rfl hl.1 rfl (Nat.le_of_ble_eq_true rfl) d_Halving_addLinesTo_58 ⟨by omega, by omega⟩ (fun u_4 H locs hok hP hD hS => ?_)
            have hP : va_P D cl [(hh, .inr (4, [.ref qz, .ref qv])), (qz, .inl (cI, 88, .inl Z_)), (qv, .inl (cI, 11, .inl V9)), (qk, .inl (cI, 3000, .inl K3)), (qf, .inl (cI, 3000, .inl F3)), (qx, .inl (cI, 9000, .inl X3)), (qy, .inl (cI, 9000, .inl Y3)), (hp, .inr (5, [.ref qk, .ref qf, .ref qx, .ref qy, .int (nI pc3), .int (nI pn3), .int (nI pb)]))] H := hP
            have hD : va_D A [(hh, .inr (4, [.ref qz, .ref qv])), (qz, .inl (cI, 88, .inl Z_)), (qv, .inl (cI, 11, .inl V9)), (qk, .inl (cI, 3000, .inl K3)), (qf, .inl (cI, 3000, .inl F3)), (qx, .inl (cI, 9000, .inl X3)), (qy, .inl (cI, 9000, .inl Y3)), (hp, .inr (5, [.ref qk, .ref qf, .ref qx, .ref qy, .int (nI pc3), .int (nI pn3), .int (nI pb)]))] := hD
            refine W.eq (g2 := F0 m 61 ls [.int (bz (decide (pc3 + 1 ≤ 3000)))]) rfl ?_
            refine bb_eq (tgt := 100) hx hb d_Halving_addLinesTo_61 (by decide) (fun c_5 => ?_) (fun c_5 => ?_)
            · skip
              have htk := of_decide_eq_false c_5
              have hlt := LI_full hl1 hL hfl
              rw [hR.1] at hlt
              refine lv_iconst (v := 0) hx hb d_Halving_addLinesTo_100 (by decide) ?_
              exact ct_retz hQ hx hb hr hlocks hP hD hS (false, Z_, V9, pc3, pn3, pb, K3, F3, X3, Y3) [(hh, .inr (4, [.ref qz, .ref qv])), (qz, .inl (cI, 88, .inl Z_)), (qv, .inl (cI, 11, .inl V9)), (hp, .inr (5, [.ref qk, .ref qf, .ref qx, .ref qy, .int (nI pc3), .int (nI pn3), .int (nI pb)])), (qk, .inl (cI, 3000, .inl K3)), (qf, .inl (cI, 3000, .inl F3)), (qx, .inl (cI, 9000, .inl X3)), (qy, .inl (cI, 9000, .inl Y3))] [0, 1, 2, 7, 3, 4, 5, 6] (rfl) (Or.inr ⟨rfl, by omega⟩) (rfl) rfl rfl (by decide) (by omega) (by omega) d_Halving_addLinesTo_101
            · skip
              have htk := of_decide_eq_true c_5
              have hL2 := LI_line hl1 hL hfl
              refine lv_aload_n hx hb d_Halving_addLinesTo_64 rfl (lv_at hl 2 rfl) ?_
              refine lv_aload_n hx hb d_Halving_addLinesTo_65 rfl (lv_at hl 1 rfl) ?_
              refine va_get (D := D) (ci := 4) (v := .ref qz) (C := R_Halving) (T := T_Halving) (N := 2) hx hb hts (ui_Halving _) hown hK hP 0 rfl rfl 0 (by decide) (hts _ (gwc gw_94)) (fun _ h9 => h9) rfl d_Halving_addLinesTo_66 ?_
              refine lv_bipush (v := 8) hx hb d_Halving_addLinesTo_69 (by decide) ?_
              refine lv_iload hx hb d_Halving_addLinesTo_71 (lv_at hl 0 rfl) ?_
              refine lv_imul hx hb d_Halving_addLinesTo_73 ?_
              refine tp_i (nI (8 * (lf - 1))) (pk_mul _ _) ?_
              refine lv_bipush (v := 6) hx hb d_Halving_addLinesTo_74 (by decide) ?_
              refine lv_iadd hx hb d_Halving_addLinesTo_76 ?_
              refine tp_i (nI (8 * (lf - 1) + 6)) (nI_add _ _) ?_
              refine ld_i hx hb hK hP 1 0 rfl rfl (8 * (lf - 1) + 6) (by omega) (by omega) d_Halving_addLinesTo_77 ?_
              refine lv_aload_n hx hb d_Halving_addLinesTo_78 rfl (lv_at hl 1 rfl) ?_
              refine va_get (D := D) (ci := 4) (v := .ref qz) (C := R_Halving) (T := T_Halving) (N := 2) hx hb hts (ui_Halving _) hown hK hP 0 rfl rfl 0 (by decide) (hts _ (gwc gw_94)) (fun _ h9 => h9) rfl d_Halving_addLinesTo_79 ?_
              refine lv_bipush (v := 8) hx hb d_Halving_addLinesTo_82 (by decide) ?_
              refine lv_iload hx hb d_Halving_addLinesTo_84 (lv_at hl 0 rfl) ?_
              refine lv_imul hx hb d_Halving_addLinesTo_86 ?_
              refine tp_i (nI (8 * (lf - 1))) (pk_mul _ _) ?_
              refine lv_bipush (v := 7) hx hb d_Halving_addLinesTo_87 (by decide) ?_
              refine lv_iadd hx hb d_Halving_addLinesTo_89 ?_
              refine tp_i (nI (8 * (lf - 1) + 7)) (nI_add _ _) ?_
              refine ld_i hx hb hK hP 1 0 rfl rfl (8 * (lf - 1) + 7) (by omega) (by omega) d_Halving_addLinesTo_90 ?_
              refine ct_callV (ci := 5) (q0 := 7) (As := [.int (Z_ (8 * (lf - 1) + 6)), .int (Z_ (8 * (lf - 1) + 7))]) (rest := []) (wr := [(hh, .inr (4, [.ref qz, .ref qv])), (qz, .inl (cI, 88, .inl Z_)), (qv, .inl (cI, 11, .inl V9))]) (n := 2) (c_Path_addLine l D cI cB cJ qQ  hp qk qf qx qy pc3 pn3 pb K3 F3 X3 Y3 (Z_ (8 * (lf - 1) + 6)) (Z_ (8 * (lf - 1) + 7)) (by omega) (by omega)) hx hb hml hown hts (amb_ok qQ) hK hP hD hS hA hM (gi_V gw_424 gw_213 gw_214 gw_32 gw_215) rfl (by decide +kernel) ⟨by omega, by omega⟩ [7, 3, 4, 5, 6] [0, 1, 2] rfl rfl rfl rfl (by decide) rfl rfl rfl hl.1 rfl (Nat.le_of_ble_eq_true rfl) d_Halving_addLinesTo_91 ⟨by omega, by omega⟩ (fun u_6 H locs hok hP hD hS => ?_)
              have hP : va_P D cl [(hh, .inr (4, [.ref qz, .ref qv])), (qz, .inl (cI, 88, .inl Z_)), (qv, .inl (cI, 11, .inl V9)), (hp, .inr (5, [.ref qk, .ref qf, .ref qx, .ref qy, .int (nI (pc3 + 1)), .int (nI (pn3 + 1)), .int (nI pb)])), (qk, .inl (cI, 3000, .inl (upd K3 pc3 1))), (qf, .inl (cI, 3000, .inl (upd F3 pc3 (nI pn3)))), (qx, .inl (cI, 9000, .inl (upd X3 pn3 (Z_ (8 * (lf - 1) + 6))))), (qy, .inl (cI, 9000, .inl (upd Y3 pn3 (Z_ (8 * (lf - 1) + 7)))))] H := hP
              have hD : va_D A [(hh, .inr (4, [.ref qz, .ref qv])), (qz, .inl (cI, 88, .inl Z_)), (qv, .inl (cI, 11, .inl V9)), (hp, .inr (5, [.ref qk, .ref qf, .ref qx, .ref qy, .int (nI (pc3 + 1)), .int (nI (pn3 + 1)), .int (nI pb)])), (qk, .inl (cI, 3000, .inl (upd K3 pc3 1))), (qf, .inl (cI, 3000, .inl (upd F3 pc3 (nI pn3)))), (qx, .inl (cI, 9000, .inl (upd X3 pn3 (Z_ (8 * (lf - 1) + 6))))), (qy, .inl (cI, 9000, .inl (upd Y3 pn3 (Z_ (8 * (lf - 1) + 7)))))] := hD
              refine W.eq (g2 := F0 m 94 ls []) rfl ?_
              refine lv_iinc (v := nI (lf - 1)) (lv' := [(3, .int (nI (lf - 1))), (5, .int (nI (lf - 1))), (0, .ref hh), (1, .ref hp), (2, .int bd), (4, .int (nI sp))]) hx hb d_Halving_addLinesTo_94 hl (k := 4) rfl (sb_m1 (show 0 < lf by omega)) (by decide) rfl (fun ls hl => ?_)
              refine lv_goto (tgt := 102) hx hb d_Halving_addLinesTo_97 (by decide) ?_
              refine lv_iinc (v := nI (sp + 1)) (lv' := [(4, .int (nI (sp + 1))), (3, .int (nI (lf - 1))), (5, .int (nI (lf - 1))), (0, .ref hh), (1, .ref hp), (2, .int bd)]) hx hb d_Halving_addLinesTo_102 hl (k := 5) rfl (by first | exact nI_add _ 1 | rfl | decide) (by decide) rfl (fun ls hl => ?_)
              refine lv_goto (tgt := 5) hx hb d_Halving_addLinesTo_105 (by decide) ?_
              exact ih_5 (lf - 1) (sp + 1) Z_ V9 Vn (G ++ [(1, Z_ (8 * (lf - 1) + 6), Z_ (8 * (lf - 1) + 7), 0, 0, 0, 0)]) (pc3 + 1) (pn3 + 1) (upd K3 pc3 1) (upd F3 pc3 (nI pn3)) (upd X3 pn3 (Z_ (8 * (lf - 1) + 6))) (upd Y3 pn3 (Z_ (8 * (lf - 1) + 7))) (by omega) (hL2) (RI_addL hR) (by omega) (by omega) _ _ _ hP hD hS (lv_sub hl [3, 4, 5, 1, 0] rfl)
          · skip
            refine lv_aload_n hx hb d_Halving_addLinesTo_34 rfl (lv_at hl 1 rfl) ?_
            refine lv_iload hx hb d_Halving_addLinesTo_35 (lv_at hl 0 rfl) ?_
            refine lv_iload_n hx hb d_Halving_addLinesTo_37 rfl (lv_at hl 3 rfl) ?_
            refine ct_callV (ci := 4) (q0 := 0) (As := [.int (nI (lf - 1)), .int bd]) (rest := []) (wr := [(qv, .inl (cI, 11, .inl V9)), (hp, .inr (5, [.ref qk, .ref qf, .ref qx, .ref qy, .int (nI pc3), .int (nI pn3), .int (nI pb)])), (qk, .inl (cI, 3000, .inl K3)), (qf, .inl (cI, 3000, .inl F3)), (qx, .inl (cI, 9000, .inl X3)), (qy, .inl (cI, 9000, .inl Y3))]) (n := 2) (c_Halving_isFlat l D cI cB cJ qQ  hh qz qv Z_ (lf - 1) bd (by omega)) hx hb hml hown hts (amb_ok qQ) hK hP hD hS hA hM (gi_V gw_396 gw_398 gw_12 gw_31 gw_399) rfl (by decide +kernel) ⟨by omega, by omega⟩ [0, 1] [2, 3, 4, 5, 6, 7] rfl rfl rfl rfl (by decide) rfl rfl rfl hl.1 rfl (Nat.le_of_ble_eq_true rfl) d_Halving_addLinesTo_38 ⟨by omega, by omega⟩ (fun u_7 H locs hok hP hD hS => ?_)
            have hP : va_P D cl [(qv, .inl (cI, 11, .inl V9)), (hp, .inr (5, [.ref qk, .ref qf, .ref qx, .ref qy, .int (nI pc3), .int (nI pn3), .int (nI pb)])), (qk, .inl (cI, 3000, .inl K3)), (qf, .inl (cI, 3000, .inl F3)), (qx, .inl (cI, 9000, .inl X3)), (qy, .inl (cI, 9000, .inl Y3)), (hh, .inr (4, [.ref qz, .ref qv])), (qz, .inl (cI, 88, .inl Z_))] H := hP
            have hD : va_D A [(qv, .inl (cI, 11, .inl V9)), (hp, .inr (5, [.ref qk, .ref qf, .ref qx, .ref qy, .int (nI pc3), .int (nI pn3), .int (nI pb)])), (qk, .inl (cI, 3000, .inl K3)), (qf, .inl (cI, 3000, .inl F3)), (qx, .inl (cI, 9000, .inl X3)), (qy, .inl (cI, 9000, .inl Y3)), (hh, .inr (4, [.ref qz, .ref qv])), (qz, .inl (cI, 88, .inl Z_))] := hD
            refine W.eq (g2 := F0 m 41 ls [.int (bz (flatZ Z_ (lf - 1) bd))]) rfl ?_
            refine bb_ne (tgt := 56) hx hb d_Halving_addLinesTo_41 (by decide) (fun c_8 => ?_) (fun c_8 => ?_)
            · skip
              have hfl : 10 ≤ Vn (lf - 1) ∨ flatZ Z_ (lf - 1) bd = true := Or.inr c_8
              refine lv_aload_n hx hb d_Halving_addLinesTo_56 rfl (lv_at hl 2 rfl) ?_
              refine lv_iconst (v := 1) hx hb d_Halving_addLinesTo_57 (by decide) ?_
              refine ct_callV (ci := 5) (q0 := 1) (As := [.int 1]) (rest := []) (wr := [(qv, .inl (cI, 11, .inl V9)), (qk, .inl (cI, 3000, .inl K3)), (qf, .inl (cI, 3000, .inl F3)), (qx, .inl (cI, 9000, .inl X3)), (qy, .inl (cI, 9000, .inl Y3)), (hh, .inr (4, [.ref qz, .ref qv])), (qz, .inl (cI, 88, .inl Z_))]) (n := 1) (c_Path_takes l D cI cB cJ qQ  hp qk qf qx qy pc3 pn3 pb 1 (hpc) (by decide)) hx hb hml hown hts (amb_ok qQ) hK hP hD hS hA hM (gi_V gw_423 gw_175 gw_176 gw_32 gw_177) rfl (by decide +kernel) ⟨by omega, by omega⟩ [1] [0, 2, 3, 4, 5, 6, 7] rfl rfl rfl rfl (by decide) rfl rfl rfl hl.1 rfl (Nat.le_of_ble_eq_true rfl) d_Halving_addLinesTo_58 ⟨by omega, by omega⟩ (fun u_9 H locs hok hP hD hS => ?_)
              have hP : va_P D cl [(qv, .inl (cI, 11, .inl V9)), (qk, .inl (cI, 3000, .inl K3)), (qf, .inl (cI, 3000, .inl F3)), (qx, .inl (cI, 9000, .inl X3)), (qy, .inl (cI, 9000, .inl Y3)), (hh, .inr (4, [.ref qz, .ref qv])), (qz, .inl (cI, 88, .inl Z_)), (hp, .inr (5, [.ref qk, .ref qf, .ref qx, .ref qy, .int (nI pc3), .int (nI pn3), .int (nI pb)]))] H := hP
              have hD : va_D A [(qv, .inl (cI, 11, .inl V9)), (qk, .inl (cI, 3000, .inl K3)), (qf, .inl (cI, 3000, .inl F3)), (qx, .inl (cI, 9000, .inl X3)), (qy, .inl (cI, 9000, .inl Y3)), (hh, .inr (4, [.ref qz, .ref qv])), (qz, .inl (cI, 88, .inl Z_)), (hp, .inr (5, [.ref qk, .ref qf, .ref qx, .ref qy, .int (nI pc3), .int (nI pn3), .int (nI pb)]))] := hD
              refine W.eq (g2 := F0 m 61 ls [.int (bz (decide (pc3 + 1 ≤ 3000)))]) rfl ?_
              refine bb_eq (tgt := 100) hx hb d_Halving_addLinesTo_61 (by decide) (fun c_10 => ?_) (fun c_10 => ?_)
              · skip
                have htk := of_decide_eq_false c_10
                have hlt := LI_full hl1 hL hfl
                rw [hR.1] at hlt
                refine lv_iconst (v := 0) hx hb d_Halving_addLinesTo_100 (by decide) ?_
                exact ct_retz hQ hx hb hr hlocks hP hD hS (false, Z_, V9, pc3, pn3, pb, K3, F3, X3, Y3) [(hh, .inr (4, [.ref qz, .ref qv])), (qz, .inl (cI, 88, .inl Z_)), (qv, .inl (cI, 11, .inl V9)), (hp, .inr (5, [.ref qk, .ref qf, .ref qx, .ref qy, .int (nI pc3), .int (nI pn3), .int (nI pb)])), (qk, .inl (cI, 3000, .inl K3)), (qf, .inl (cI, 3000, .inl F3)), (qx, .inl (cI, 9000, .inl X3)), (qy, .inl (cI, 9000, .inl Y3))] [5, 6, 0, 7, 1, 2, 3, 4] (rfl) (Or.inr ⟨rfl, by omega⟩) (rfl) rfl rfl (by decide) (by omega) (by omega) d_Halving_addLinesTo_101
              · skip
                have htk := of_decide_eq_true c_10
                have hL2 := LI_line hl1 hL hfl
                refine lv_aload_n hx hb d_Halving_addLinesTo_64 rfl (lv_at hl 2 rfl) ?_
                refine lv_aload_n hx hb d_Halving_addLinesTo_65 rfl (lv_at hl 1 rfl) ?_
                refine va_get (D := D) (ci := 4) (v := .ref qz) (C := R_Halving) (T := T_Halving) (N := 2) hx hb hts (ui_Halving _) hown hK hP 5 rfl rfl 0 (by decide) (hts _ (gwc gw_94)) (fun _ h9 => h9) rfl d_Halving_addLinesTo_66 ?_
                refine lv_bipush (v := 8) hx hb d_Halving_addLinesTo_69 (by decide) ?_
                refine lv_iload hx hb d_Halving_addLinesTo_71 (lv_at hl 0 rfl) ?_
                refine lv_imul hx hb d_Halving_addLinesTo_73 ?_
                refine tp_i (nI (8 * (lf - 1))) (pk_mul _ _) ?_
                refine lv_bipush (v := 6) hx hb d_Halving_addLinesTo_74 (by decide) ?_
                refine lv_iadd hx hb d_Halving_addLinesTo_76 ?_
                refine tp_i (nI (8 * (lf - 1) + 6)) (nI_add _ _) ?_
                refine ld_i hx hb hK hP 6 0 rfl rfl (8 * (lf - 1) + 6) (by omega) (by omega) d_Halving_addLinesTo_77 ?_
                refine lv_aload_n hx hb d_Halving_addLinesTo_78 rfl (lv_at hl 1 rfl) ?_
                refine va_get (D := D) (ci := 4) (v := .ref qz) (C := R_Halving) (T := T_Halving) (N := 2) hx hb hts (ui_Halving _) hown hK hP 5 rfl rfl 0 (by decide) (hts _ (gwc gw_94)) (fun _ h9 => h9) rfl d_Halving_addLinesTo_79 ?_
                refine lv_bipush (v := 8) hx hb d_Halving_addLinesTo_82 (by decide) ?_
                refine lv_iload hx hb d_Halving_addLinesTo_84 (lv_at hl 0 rfl) ?_
                refine lv_imul hx hb d_Halving_addLinesTo_86 ?_
                refine tp_i (nI (8 * (lf - 1))) (pk_mul _ _) ?_
                refine lv_bipush (v := 7) hx hb d_Halving_addLinesTo_87 (by decide) ?_
                refine lv_iadd hx hb d_Halving_addLinesTo_89 ?_
                refine tp_i (nI (8 * (lf - 1) + 7)) (nI_add _ _) ?_
                refine ld_i hx hb hK hP 6 0 rfl rfl (8 * (lf - 1) + 7) (by omega) (by omega) d_Halving_addLinesTo_90 ?_
                refine ct_callV (ci := 5) (q0 := 7) (As := [.int (Z_ (8 * (lf - 1) + 6)), .int (Z_ (8 * (lf - 1) + 7))]) (rest := []) (wr := [(qv, .inl (cI, 11, .inl V9)), (hh, .inr (4, [.ref qz, .ref qv])), (qz, .inl (cI, 88, .inl Z_))]) (n := 2) (c_Path_addLine l D cI cB cJ qQ  hp qk qf qx qy pc3 pn3 pb K3 F3 X3 Y3 (Z_ (8 * (lf - 1) + 6)) (Z_ (8 * (lf - 1) + 7)) (by omega) (by omega)) hx hb hml hown hts (amb_ok qQ) hK hP hD hS hA hM (gi_V gw_424 gw_213 gw_214 gw_32 gw_215) rfl (by decide +kernel) ⟨by omega, by omega⟩ [7, 1, 2, 3, 4] [0, 5, 6] rfl rfl rfl rfl (by decide) rfl rfl rfl hl.1 rfl (Nat.le_of_ble_eq_true rfl) d_Halving_addLinesTo_91 ⟨by omega, by omega⟩ (fun u_11 H locs hok hP hD hS => ?_)
                have hP : va_P D cl [(qv, .inl (cI, 11, .inl V9)), (hh, .inr (4, [.ref qz, .ref qv])), (qz, .inl (cI, 88, .inl Z_)), (hp, .inr (5, [.ref qk, .ref qf, .ref qx, .ref qy, .int (nI (pc3 + 1)), .int (nI (pn3 + 1)), .int (nI pb)])), (qk, .inl (cI, 3000, .inl (upd K3 pc3 1))), (qf, .inl (cI, 3000, .inl (upd F3 pc3 (nI pn3)))), (qx, .inl (cI, 9000, .inl (upd X3 pn3 (Z_ (8 * (lf - 1) + 6))))), (qy, .inl (cI, 9000, .inl (upd Y3 pn3 (Z_ (8 * (lf - 1) + 7)))))] H := hP
                have hD : va_D A [(qv, .inl (cI, 11, .inl V9)), (hh, .inr (4, [.ref qz, .ref qv])), (qz, .inl (cI, 88, .inl Z_)), (hp, .inr (5, [.ref qk, .ref qf, .ref qx, .ref qy, .int (nI (pc3 + 1)), .int (nI (pn3 + 1)), .int (nI pb)])), (qk, .inl (cI, 3000, .inl (upd K3 pc3 1))), (qf, .inl (cI, 3000, .inl (upd F3 pc3 (nI pn3)))), (qx, .inl (cI, 9000, .inl (upd X3 pn3 (Z_ (8 * (lf - 1) + 6))))), (qy, .inl (cI, 9000, .inl (upd Y3 pn3 (Z_ (8 * (lf - 1) + 7)))))] := hD
                refine W.eq (g2 := F0 m 94 ls []) rfl ?_
                refine lv_iinc (v := nI (lf - 1)) (lv' := [(3, .int (nI (lf - 1))), (5, .int (nI (lf - 1))), (0, .ref hh), (1, .ref hp), (2, .int bd), (4, .int (nI sp))]) hx hb d_Halving_addLinesTo_94 hl (k := 4) rfl (sb_m1 (show 0 < lf by omega)) (by decide) rfl (fun ls hl => ?_)
                refine lv_goto (tgt := 102) hx hb d_Halving_addLinesTo_97 (by decide) ?_
                refine lv_iinc (v := nI (sp + 1)) (lv' := [(4, .int (nI (sp + 1))), (3, .int (nI (lf - 1))), (5, .int (nI (lf - 1))), (0, .ref hh), (1, .ref hp), (2, .int bd)]) hx hb d_Halving_addLinesTo_102 hl (k := 5) rfl (by first | exact nI_add _ 1 | rfl | decide) (by decide) rfl (fun ls hl => ?_)
                refine lv_goto (tgt := 5) hx hb d_Halving_addLinesTo_105 (by decide) ?_
                exact ih_5 (lf - 1) (sp + 1) Z_ V9 Vn (G ++ [(1, Z_ (8 * (lf - 1) + 6), Z_ (8 * (lf - 1) + 7), 0, 0, 0, 0)]) (pc3 + 1) (pn3 + 1) (upd K3 pc3 1) (upd F3 pc3 (nI pn3)) (upd X3 pn3 (Z_ (8 * (lf - 1) + 6))) (upd Y3 pn3 (Z_ (8 * (lf - 1) + 7))) (by omega) (hL2) (RI_addL hR) (by omega) (by omega) _ _ _ (hP.sub [1, 2, 0, 3, 4, 5, 6, 7] rfl) (hD.sub [1, 2, 0, 3, 4, 5, 6, 7] (by decide) rfl) hS (lv_sub hl [3, 4, 5, 1, 0] rfl)
            · skip
              have hL2 := LI_halve hl1 hL c_3 c_8
              refine lv_aload_n hx hb d_Halving_addLinesTo_44 rfl (lv_at hl 1 rfl) ?_
              refine lv_iload hx hb d_Halving_addLinesTo_45 (lv_at hl 0 rfl) ?_
              refine ct_callV (ci := 4) (q0 := 6) (As := [.int (nI (lf - 1))]) (rest := []) (wr := [(hp, .inr (5, [.ref qk, .ref qf, .ref qx, .ref qy, .int (nI pc3), .int (nI pn3), .int (nI pb)])), (qk, .inl (cI, 3000, .inl K3)), (qf, .inl (cI, 3000, .inl F3)), (qx, .inl (cI, 9000, .inl X3)), (qy, .inl (cI, 9000, .inl Y3))]) (n := 1) (c_Halving_halve l D cI cB cJ qQ  hh qz qv Z_ V9 (lf - 1) (by omega)) hx hb hml hown hts (amb_ok qQ) hK hP hD hS hA hM (gi_V gw_411 gw_413 gw_15 gw_31 gw_414) rfl (by decide +kernel) ⟨by omega, by omega⟩ [6, 7, 0] [1, 2, 3, 4, 5] rfl rfl rfl rfl (by decide) rfl rfl rfl hl.1 rfl (Nat.le_of_ble_eq_true rfl) d_Halving_addLinesTo_47 ⟨by omega, by omega⟩ (fun u_12 H locs hok hP hD hS => ?_)
              have hP : va_P D cl [(hp, .inr (5, [.ref qk, .ref qf, .ref qx, .ref qy, .int (nI pc3), .int (nI pn3), .int (nI pb)])), (qk, .inl (cI, 3000, .inl K3)), (qf, .inl (cI, 3000, .inl F3)), (qx, .inl (cI, 9000, .inl X3)), (qy, .inl (cI, 9000, .inl Y3)), (hh, .inr (4, [.ref qz, .ref qv])), (qz, .inl (cI, 88, .inl (halfZ (halfZ Z_ (8 * (lf - 1))) (8 * (lf - 1) + 1)))), (qv, .inl (cI, 11, .inl (upd (upd V9 (lf - 1) (V9 (lf - 1) + 1)) ((lf - 1) + 1) (V9 (lf - 1) + 1))))] H := hP
              have hD : va_D A [(hp, .inr (5, [.ref qk, .ref qf, .ref qx, .ref qy, .int (nI pc3), .int (nI pn3), .int (nI pb)])), (qk, .inl (cI, 3000, .inl K3)), (qf, .inl (cI, 3000, .inl F3)), (qx, .inl (cI, 9000, .inl X3)), (qy, .inl (cI, 9000, .inl Y3)), (hh, .inr (4, [.ref qz, .ref qv])), (qz, .inl (cI, 88, .inl (halfZ (halfZ Z_ (8 * (lf - 1))) (8 * (lf - 1) + 1)))), (qv, .inl (cI, 11, .inl (upd (upd V9 (lf - 1) (V9 (lf - 1) + 1)) ((lf - 1) + 1) (V9 (lf - 1) + 1))))] := hD
              refine W.eq (g2 := F0 m 50 ls []) rfl ?_
              refine lv_iinc (v := nI (lf + 1)) (lv' := [(3, .int (nI (lf + 1))), (5, .int (nI (lf - 1))), (0, .ref hh), (1, .ref hp), (2, .int bd), (4, .int (nI sp))]) hx hb d_Halving_addLinesTo_50 hl (k := 4) rfl (by first | exact nI_add _ 1 | rfl | decide) (by decide) rfl (fun ls hl => ?_)
              refine lv_goto (tgt := 102) hx hb d_Halving_addLinesTo_53 (by decide) ?_
              refine lv_iinc (v := nI (sp + 1)) (lv' := [(4, .int (nI (sp + 1))), (3, .int (nI (lf + 1))), (5, .int (nI (lf - 1))), (0, .ref hh), (1, .ref hp), (2, .int bd)]) hx hb d_Halving_addLinesTo_102 hl (k := 5) rfl (by first | exact nI_add _ 1 | rfl | decide) (by decide) rfl (fun ls hl => ?_)
              refine lv_goto (tgt := 5) hx hb d_Halving_addLinesTo_105 (by decide) ?_
              exact ih_5 (lf + 1) (sp + 1) (halfZ (halfZ Z_ (8 * (lf - 1))) (8 * (lf - 1) + 1)) (upd (upd V9 (lf - 1) (V9 (lf - 1) + 1)) ((lf - 1) + 1) (V9 (lf - 1) + 1)) (vnh Vn (lf - 1)) G pc3 pn3 K3 F3 X3 Y3 (by omega) (hL2) (hR) (by omega) (by omega) _ _ _ (hP.sub [5, 6, 7, 0, 1, 2, 3, 4] rfl) (hD.sub [5, 6, 7, 0, 1, 2, 3, 4] (by decide) rfl) hS (lv_sub hl [3, 4, 5, 1, 0] rfl)
  exact L_5 ((2047 - 0) + 1) 1 0 Z V_ (fun _ => 0) ps pc_ pn K Fi X Y (Nat.lt_succ_self _) (LI_0 hV0 hz0) (hR0) (hpc0) (by omega) _ _ _ hP hD hS (lv_sub hl [2, 3, 4, 1, 0] rfl)
set_option maxHeartbeats 40000000 in
set_option maxRecDepth 100000 in
/-- addCurvesTo -/
theorem c_Arc_addCurvesTo (l : Launch) (D : va_G) (cI cB cJ : ClassId) (qQ : Nat) (ha_ : Nat) (qax : Nat) (qay : Nat) (qaa : Nat) (qab : Nat) (n : Nat) (XA : Nat → Int32) (YA : Nat → Int32) (hp : Nat) (qk : Nat) (qf : Nat) (qx : Nat) (qy : Nat) (pc_ : Nat) (pn : Nat) (pb : Nat) (K : Nat → Int32) (Fi : Nat → Int32) (X : Nat → Int32) (Y : Nat → Int32) (ps : List Pt) (hn : n ≤ 124) (hn1 : 1 ≤ n) (hR0 : RIp pc_ pn pb K Fi X Y ps) (hrm0 : pc_ + (tri ((plst n XA YA).drop 1)).length ≤ 3000) : ct l D cl [(cI, .int), (cB, .byte), (cJ, .long)] (amb qQ) y_Arc_addCurvesTo w_Arc_addCurvesTo 2 48 (0) (0) [.ref ha_, .ref hp] [(ha_, .inr (2, [.ref qax, .ref qay, .ref qaa, .ref qab, .int (nI n)])), (qax, .inl (cI, 124, .inl XA)), (qay, .inl (cI, 124, .inl YA)), (hp, .inr (5, [.ref qk, .ref qf, .ref qx, .ref qy, .int (nI pc_), .int (nI pn), .int (nI pb)])), (qk, .inl (cI, 3000, .inl K)), (qf, .inl (cI, 3000, .inl Fi)), (qx, .inl (cI, 9000, .inl X)), (qy, .inl (cI, 9000, .inl Y))] (fun u_ : Nat × Nat × Nat × (Nat → Int32) × (Nat → Int32) × (Nat → Int32) × (Nat → Int32) => match u_ with | (pc', pn', pb', K', F', X', Y') => RIp pc' pn' pb' K' F' X' Y' (ps ++ (tri ((plst n XA YA).drop 1)).map cvp)) (fun u_ : Nat × Nat × Nat × (Nat → Int32) × (Nat → Int32) × (Nat → Int32) × (Nat → Int32) => match u_ with | (pc', pn', pb', K', F', X', Y') => none) (fun u_ : Nat × Nat × Nat × (Nat → Int32) × (Nat → Int32) × (Nat → Int32) × (Nat → Int32) => match u_ with | (pc', pn', pb', K', F', X', Y') => [(ha_, .inr (2, [.ref qax, .ref qay, .ref qaa, .ref qab, .int (nI n)])), (qax, .inl (cI, 124, .inl XA)), (qay, .inl (cI, 124, .inl YA)), (hp, .inr (5, [.ref qk, .ref qf, .ref qx, .ref qy, .int (nI pc'), .int (nI pn'), .int (nI pb')])), (qk, .inl (cI, 3000, .inl K')), (qf, .inl (cI, 3000, .inl F')), (qx, .inl (cI, 9000, .inl X')), (qy, .inl (cI, 9000, .inl Y'))]) := by
  refine ct_ofW (cc := b_Arc_addCurvesTo) (maxL := 3) (ret := none) (by decide) rfl (Nat.le_of_ble_eq_true rfl) ?_
  intro p e R s m args below meth c A Q ls hx hb hr hml hts hown hlocks hname hRf hRc hRs hRl hQ hK hP hD hS hA hM hl
  have hl : lv_has ls 3 [(0, .ref ha_), (1, .ref hp)] := hl
  refine lv_iconst (v := 1) hx hb d_Arc_addCurvesTo_0 (by decide) ?_
  refine lv_istore_n (lv' := [(2, .int 1), (0, .ref ha_), (1, .ref hp)]) hx hb d_Arc_addCurvesTo_1 rfl hl (by decide) rfl (fun ls hl => ?_)
  have L_2 : ∀ (n_ : Nat) (k : Nat) (G : List Pt) (pc3 : Nat) (pn3 : Nat) (K3 : Nat → Int32) (F3 : Nat → Int32) (X3 : Nat → Int32) (Y3 : Nat → Int32), n + 3 - k < n_ → (1 ≤ k) → (k ≤ n + 3) → (G ++ (tri ((plst n XA YA).drop k)).map cvp = ps ++ (tri ((plst n XA YA).drop 1)).map cvp) → (RIp pc3 pn3 pb K3 F3 X3 Y3 G) → (pc3 + (tri ((plst n XA YA).drop k)).length ≤ 3000) → ∀ (H : Heap) (locs : List Loc) (ls : Array Slot), va_P D cl [(ha_, .inr (2, [.ref qax, .ref qay, .ref qaa, .ref qab, .int (nI n)])), (qax, .inl (cI, 124, .inl XA)), (qay, .inl (cI, 124, .inl YA)), (hp, .inr (5, [.ref qk, .ref qf, .ref qx, .ref qy, .int (nI pc3), .int (nI pn3), .int (nI pb)])), (qk, .inl (cI, 3000, .inl K3)), (qf, .inl (cI, 3000, .inl F3)), (qx, .inl (cI, 9000, .inl X3)), (qy, .inl (cI, 9000, .inl Y3))] H → va_D A [(ha_, .inr (2, [.ref qax, .ref qay, .ref qaa, .ref qab, .int (nI n)])), (qax, .inl (cI, 124, .inl XA)), (qay, .inl (cI, 124, .inl YA)), (hp, .inr (5, [.ref qk, .ref qf, .ref qx, .ref qy, .int (nI pc3), .int (nI pn3), .int (nI pb)])), (qk, .inl (cI, 3000, .inl K3)), (qf, .inl (cI, 3000, .inl F3)), (qx, .inl (cI, 9000, .inl X3)), (qy, .inl (cI, 9000, .inl Y3))] → va_S A s.heap H locs → lv_has ls 3 [(0, .ref ha_), (1, .ref hp), (2, .int (nI k))] → W p l e R s m args below meth c H locs (0) (0) Q (F0 m 2 ls []) := by
    intro n_
    induction n_ with
    | zero => intro k G pc3 pn3 K3 F3 X3 Y3 hm_; exact absurd hm_ (Nat.not_lt_zero _)
    | succ n_ ih_2 =>
      intro k G pc3 pn3 K3 F3 X3 Y3 hm_ hk1 hkn hG hR hrm H locs ls hP hD hS hl
      refine lv_iload_n hx hb d_Arc_addCurvesTo_2 rfl (lv_at hl 2 rfl) ?_
      refine lv_iconst (v := 2) hx hb d_Arc_addCurvesTo_3 (by decide) ?_
      refine lv_iadd hx hb d_Arc_addCurvesTo_4 ?_
      refine tp_i (nI (k + 2)) (nI_add _ _) ?_
      refine lv_aload_n hx hb d_Arc_addCurvesTo_5 rfl (lv_at hl 0 rfl) ?_
      refine va_get (D := D) (ci := 2) (v := .int (nI n)) (C := R_Arc) (T := T_Arc) (N := 5) hx hb hts (ui_Arc _) hown hK hP 0 rfl rfl 4 (by decide) (hts _ (gwc gw_75)) (fun _ h9 => h9) rfl d_Arc_addCurvesTo_6 ?_
      refine bn_ge (a1 := k + 2) (b1 := n) (tgt := 66) hx hb (by omega) (by omega) d_Arc_addCurvesTo_9 (by decide) (fun c_1 => ?_) (fun c_1 => ?_)
      · skip
        have hE : G = ps ++ (tri ((plst n XA YA).drop 1)).map cvp := by
          rw [← hG, drop_e (by omega), List.map_nil, List.append_nil]
        exact ct_retv hQ hx hb hr hlocks hP hD hS (pc3, pn3, pb, K3, F3, X3, Y3) [(ha_, .inr (2, [.ref qax, .ref qay, .ref qaa, .ref qab, .int (nI n)])), (qax, .inl (cI, 124, .inl XA)), (qay, .inl (cI, 124, .inl YA)), (hp, .inr (5, [.ref qk, .ref qf, .ref qx, .ref qy, .int (nI pc3), .int (nI pn3), .int (nI pb)])), (qk, .inl (cI, 3000, .inl K3)), (qf, .inl (cI, 3000, .inl F3)), (qx, .inl (cI, 9000, .inl X3)), (qy, .inl (cI, 9000, .inl Y3))] [0, 1, 2, 3, 4, 5, 6, 7] (rfl) (by rw [← hE]; exact hR) (rfl) rfl rfl (by omega) (by omega) d_Arc_addCurvesTo_66
      · skip
        have hk2 : k + 2 < n := c_1
        have h9 : (tri ((plst n XA YA).drop k)).length = (tri ((plst n XA YA).drop (k + 3))).length + 1 := by
          have := congrArg List.length (tri_3 (X := XA) (Y := YA) hk2)
          simpa using this
        have hpn3 := RI_pn hR
        refine lv_aload_n hx hb d_Arc_addCurvesTo_12 rfl (lv_at hl 1 rfl) ?_
        refine lv_aload_n hx hb d_Arc_addCurvesTo_13 rfl (lv_at hl 0 rfl) ?_
        refine va_get (D := D) (ci := 2) (v := .ref qax) (C := R_Arc) (T := T_Arc) (N := 5) hx hb hts (ui_Arc _) hown hK hP 0 rfl rfl 0 (by decide) (hts _ (gwc gw_69)) (fun _ h9 => h9) rfl d_Arc_addCurvesTo_14 ?_
        refine lv_iload_n hx hb d_Arc_addCurvesTo_17 rfl (lv_at hl 2 rfl) ?_
        refine ld_i hx hb hK hP 1 0 rfl rfl k (by omega) (by omega) d_Arc_addCurvesTo_18 ?_
        refine lv_aload_n hx hb d_Arc_addCurvesTo_19 rfl (lv_at hl 0 rfl) ?_
        refine va_get (D := D) (ci := 2) (v := .ref qay) (C := R_Arc) (T := T_Arc) (N := 5) hx hb hts (ui_Arc _) hown hK hP 0 rfl rfl 1 (by decide) (hts _ (gwc gw_71)) (fun _ h9 => h9) rfl d_Arc_addCurvesTo_20 ?_
        refine lv_iload_n hx hb d_Arc_addCurvesTo_23 rfl (lv_at hl 2 rfl) ?_
        refine ld_i hx hb hK hP 2 0 rfl rfl k (by omega) (by omega) d_Arc_addCurvesTo_24 ?_
        refine lv_aload_n hx hb d_Arc_addCurvesTo_25 rfl (lv_at hl 0 rfl) ?_
        refine va_get (D := D) (ci := 2) (v := .ref qax) (C := R_Arc) (T := T_Arc) (N := 5) hx hb hts (ui_Arc _) hown hK hP 0 rfl rfl 0 (by decide) (hts _ (gwc gw_69)) (fun _ h9 => h9) rfl d_Arc_addCurvesTo_26 ?_
        refine lv_iload_n hx hb d_Arc_addCurvesTo_29 rfl (lv_at hl 2 rfl) ?_
        refine lv_iconst (v := 1) hx hb d_Arc_addCurvesTo_30 (by decide) ?_
        refine lv_iadd hx hb d_Arc_addCurvesTo_31 ?_
        refine tp_i (nI (k + 1)) (nI_add _ _) ?_
        refine ld_i hx hb hK hP 1 0 rfl rfl (k + 1) (by omega) (by omega) d_Arc_addCurvesTo_32 ?_
        refine lv_aload_n hx hb d_Arc_addCurvesTo_33 rfl (lv_at hl 0 rfl) ?_
        refine va_get (D := D) (ci := 2) (v := .ref qay) (C := R_Arc) (T := T_Arc) (N := 5) hx hb hts (ui_Arc _) hown hK hP 0 rfl rfl 1 (by decide) (hts _ (gwc gw_71)) (fun _ h9 => h9) rfl d_Arc_addCurvesTo_34 ?_
        refine lv_iload_n hx hb d_Arc_addCurvesTo_37 rfl (lv_at hl 2 rfl) ?_
        refine lv_iconst (v := 1) hx hb d_Arc_addCurvesTo_38 (by decide) ?_
        refine lv_iadd hx hb d_Arc_addCurvesTo_39 ?_
        refine tp_i (nI (k + 1)) (nI_add _ _) ?_
        refine ld_i hx hb hK hP 2 0 rfl rfl (k + 1) (by omega) (by omega) d_Arc_addCurvesTo_40 ?_
        refine lv_aload_n hx hb d_Arc_addCurvesTo_41 rfl (lv_at hl 0 rfl) ?_
        refine va_get (D := D) (ci := 2) (v := .ref qax) (C := R_Arc) (T := T_Arc) (N := 5) hx hb hts (ui_Arc _) hown hK hP 0 rfl rfl 0 (by decide) (hts _ (gwc gw_69)) (fun _ h9 => h9) rfl d_Arc_addCurvesTo_42 ?_
        refine lv_iload_n hx hb d_Arc_addCurvesTo_45 rfl (lv_at hl 2 rfl) ?_
        refine lv_iconst (v := 2) hx hb d_Arc_addCurvesTo_46 (by decide) ?_
        refine lv_iadd hx hb d_Arc_addCurvesTo_47 ?_
        refine tp_i (nI (k + 2)) (nI_add _ _) ?_
        refine ld_i hx hb hK hP 1 0 rfl rfl (k + 2) (by omega) (by omega) d_Arc_addCurvesTo_48 ?_
        refine lv_aload_n hx hb d_Arc_addCurvesTo_49 rfl (lv_at hl 0 rfl) ?_
        refine va_get (D := D) (ci := 2) (v := .ref qay) (C := R_Arc) (T := T_Arc) (N := 5) hx hb hts (ui_Arc _) hown hK hP 0 rfl rfl 1 (by decide) (hts _ (gwc gw_71)) (fun _ h9 => h9) rfl d_Arc_addCurvesTo_50 ?_
        refine lv_iload_n hx hb d_Arc_addCurvesTo_53 rfl (lv_at hl 2 rfl) ?_
        refine lv_iconst (v := 2) hx hb d_Arc_addCurvesTo_54 (by decide) ?_
        refine lv_iadd hx hb d_Arc_addCurvesTo_55 ?_
        refine tp_i (nI (k + 2)) (nI_add _ _) ?_
        refine ld_i hx hb hK hP 2 0 rfl rfl (k + 2) (by omega) (by omega) d_Arc_addCurvesTo_56 ?_
        refine ct_callV (ci := 5) (q0 := 3) (As := [.int (XA k), .int (YA k), .int (XA (k + 1)), .int (YA (k + 1)), .int (XA (k + 2)), .int (YA (k + 2))]) (rest := []) (wr := [(ha_, .inr (2, [.ref qax, .ref qay, .ref qaa, .ref qab, .int (nI n)])), (qax, .inl (cI, 124, .inl XA)), (qay, .inl (cI, 124, .inl YA))]) (n := 6) (c_Path_addCurve l D cI cB cJ qQ  hp qk qf qx qy pc3 pn3 pb K3 F3 X3 Y3 (XA k) (YA k) (XA (k + 1)) (YA (k + 1)) (XA (k + 2)) (YA (k + 2)) (by omega) (by omega)) hx hb hml hown hts (amb_ok qQ) hK hP hD hS hA hM (gi_V gw_344 gw_221 gw_222 gw_32 gw_223) rfl (by decide +kernel) ⟨by omega, by omega⟩ [3, 4, 5, 6, 7] [0, 1, 2] rfl rfl rfl rfl (by decide) rfl rfl rfl hl.1 rfl (Nat.le_of_ble_eq_true rfl) d_Arc_addCurvesTo_57 ⟨by omega, by omega⟩ (fun u_2 H locs hok hP hD hS => ?_)
        have hP : va_P D cl [(ha_, .inr (2, [.ref qax, .ref qay, .ref qaa, .ref qab, .int (nI n)])), (qax, .inl (cI, 124, .inl XA)), (qay, .inl (cI, 124, .inl YA)), (hp, .inr (5, [.ref qk, .ref qf, .ref qx, .ref qy, .int (nI (pc3 + 1)), .int (nI (pn3 + 1 + 1 + 1)), .int (nI pb)])), (qk, .inl (cI, 3000, .inl (upd K3 pc3 2))), (qf, .inl (cI, 3000, .inl (upd F3 pc3 (nI pn3)))), (qx, .inl (cI, 9000, .inl (upd (upd (upd X3 pn3 (XA k)) (pn3 + 1) (XA (k + 1))) (pn3 + 1 + 1) (XA (k + 2))))), (qy, .inl (cI, 9000, .inl (upd (upd (upd Y3 pn3 (YA k)) (pn3 + 1) (YA (k + 1))) (pn3 + 1 + 1) (YA (k + 2)))))] H := hP
        have hD : va_D A [(ha_, .inr (2, [.ref qax, .ref qay, .ref qaa, .ref qab, .int (nI n)])), (qax, .inl (cI, 124, .inl XA)), (qay, .inl (cI, 124, .inl YA)), (hp, .inr (5, [.ref qk, .ref qf, .ref qx, .ref qy, .int (nI (pc3 + 1)), .int (nI (pn3 + 1 + 1 + 1)), .int (nI pb)])), (qk, .inl (cI, 3000, .inl (upd K3 pc3 2))), (qf, .inl (cI, 3000, .inl (upd F3 pc3 (nI pn3)))), (qx, .inl (cI, 9000, .inl (upd (upd (upd X3 pn3 (XA k)) (pn3 + 1) (XA (k + 1))) (pn3 + 1 + 1) (XA (k + 2))))), (qy, .inl (cI, 9000, .inl (upd (upd (upd Y3 pn3 (YA k)) (pn3 + 1) (YA (k + 1))) (pn3 + 1 + 1) (YA (k + 2)))))] := hD
        refine W.eq (g2 := F0 m 60 ls []) rfl ?_
        refine lv_iinc (v := nI (k + 3)) (lv' := [(2, .int (nI (k + 3))), (0, .ref ha_), (1, .ref hp)]) hx hb d_Arc_addCurvesTo_60 hl (k := 2) rfl (by first | exact nI_add _ 3 | rfl | decide) (by decide) rfl (fun ls hl => ?_)
        refine lv_goto (tgt := 2) hx hb d_Arc_addCurvesTo_63 (by decide) ?_
        exact ih_2 (k + 3) (G ++ [(2, XA (k + 2), YA (k + 2), XA k, YA k, XA (k + 1), YA (k + 1))]) (pc3 + 1) (pn3 + 1 + 1 + 1) (upd K3 pc3 2) (upd F3 pc3 (nI pn3)) (upd (upd (upd X3 pn3 (XA k)) (pn3 + 1) (XA (k + 1))) (pn3 + 1 + 1) (XA (k + 2))) (upd (upd (upd Y3 pn3 (YA k)) (pn3 + 1) (YA (k + 1))) (pn3 + 1 + 1) (YA (k + 2))) (by omega) (by omega) (by omega) (by rw [← hG, tri_3 hk2, List.append_assoc]; rfl) (RI_addC hR) (by rw [h9] at hrm; omega) _ _ _ hP hD hS (lv_sub hl [1, 2, 0] rfl)
  exact L_2 ((n + 3 - 1) + 1) 1 ps pc_ pn K Fi X Y (Nat.lt_succ_self _) (by omega) (by omega) (rfl) (hR0) (hrm0) _ _ _ hP hD hS (lv_sub hl [1, 2, 0] rfl)
