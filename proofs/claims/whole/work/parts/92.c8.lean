set_option maxHeartbeats 4000000 in
set_option maxRecDepth 100000 in
/-- move -/
theorem c_CP_move (l : Launch) (D : va_G) (cI cB cJ : ClassId) (qQ : Nat) (hc : Nat) (hx_ : Nat) (ha_ : Nat) (hh : Nat) (hs : Nat) (hp : Nat) (qk : Nat) (qf : Nat) (qx : Nat) (qy : Nat) (pc_ : Nat) (pn : Nat) (pb : Nat) (K : Nat → Int32) (Fi : Nat → Int32) (X : Nat → Int32) (Y : Nat → Int32) (ps : List Pt) (x : Int32) (y : Int32) (hR : RIp pc_ pn pb K Fi X Y ps) (hps : pkp ps) : ct l D cl [(cI, .int), (cB, .byte), (cJ, .long)] (amb qQ) y_CP_move w_CP_move 2 44 (0) (0) [.ref hc, .int x, .int y] [(hc, .inr (0, [.ref hx_, .ref ha_, .ref hh, .ref hp, .ref hs])), (hp, .inr (5, [.ref qk, .ref qf, .ref qx, .ref qy, .int (nI pc_), .int (nI pn), .int (nI pb)])), (qk, .inl (cI, 3000, .inl K)), (qf, .inl (cI, 3000, .inl Fi)), (qx, .inl (cI, 9000, .inl X)), (qy, .inl (cI, 9000, .inl Y))] (fun u_ : Int32 × Nat × Nat × Nat × (Nat → Int32) × (Nat → Int32) × (Nat → Int32) × (Nat → Int32) => match u_ with | (r, pc', pn', pb', K', F', X', Y') => RIp pc' pn' pb' K' F' X' Y' (rMove ps x y).2 ∧ r = (rMove ps x y).1) (fun u_ : Int32 × Nat × Nat × Nat × (Nat → Int32) × (Nat → Int32) × (Nat → Int32) × (Nat → Int32) => match u_ with | (r, pc', pn', pb', K', F', X', Y') => some (.int r)) (fun u_ : Int32 × Nat × Nat × Nat × (Nat → Int32) × (Nat → Int32) × (Nat → Int32) × (Nat → Int32) => match u_ with | (r, pc', pn', pb', K', F', X', Y') => [(hc, .inr (0, [.ref hx_, .ref ha_, .ref hh, .ref hp, .ref hs])), (hp, .inr (5, [.ref qk, .ref qf, .ref qx, .ref qy, .int (nI pc'), .int (nI pn'), .int (nI pb')])), (qk, .inl (cI, 3000, .inl K')), (qf, .inl (cI, 3000, .inl F')), (qx, .inl (cI, 9000, .inl X')), (qy, .inl (cI, 9000, .inl Y'))]) := by
  refine ct_ofW (cc := b_CP_move) (maxL := 3) (ret := (some .int)) (by decide) rfl (Nat.le_of_ble_eq_true rfl) ?_
  intro p e R s m args below meth c A Q ls hx hb hr hml hts hown hlocks hname hRf hRc hRs hRl hQ hK hP hD hS hA hM hl
  have hl : lv_has ls 3 [(0, .ref hc), (1, .int x), (2, .int y)] := hl
  have hpc := hps.2
  rw [hR.1] at hpc
  have hpn := RI_pn hR
  refine lv_iload_n hx hb d_CP_move_0 rfl (lv_at hl 1 rfl) ?_
  refine lv_i2l (v := x.toInt64) hx hb d_CP_move_1 rfl ?_
  refine lv_iload_n hx hb d_CP_move_2 rfl (lv_at hl 2 rfl) ?_
  refine lv_i2l (v := y.toInt64) hx hb d_CP_move_3 rfl ?_
  refine ct_callS (av := [.long x.toInt64, .long y.toInt64]) (rest := []) (wr := [(hc, .inr (0, [.ref hx_, .ref ha_, .ref hh, .ref hp, .ref hs])), (hp, .inr (5, [.ref qk, .ref qf, .ref qx, .ref qy, .int (nI pc_), .int (nI pn), .int (nI pb)])), (qk, .inl (cI, 3000, .inl K)), (qf, .inl (cI, 3000, .inl Fi)), (qx, .inl (cI, 9000, .inl X)), (qy, .inl (cI, 9000, .inl Y))]) (n := 2) (c_CP_isFarPoint l D cI cB cJ qQ  x.toInt64 y.toInt64 ) hx hb hml hown hts (amb_ok qQ) hK hP hD hS hA hM (gi_S gw_158 gw_159 gw_28 gw_160) rfl (by decide +kernel) ⟨by omega, by omega⟩ [] [0, 1, 2, 3, 4, 5] rfl rfl rfl rfl (by decide) rfl hl.1 rfl (Nat.le_of_ble_eq_true rfl) d_CP_move_4 ⟨by omega, by omega⟩ (fun u_1 H locs hok hP hD hS => ?_)
  have hP : va_P D cl [(hc, .inr (0, [.ref hx_, .ref ha_, .ref hh, .ref hp, .ref hs])), (hp, .inr (5, [.ref qk, .ref qf, .ref qx, .ref qy, .int (nI pc_), .int (nI pn), .int (nI pb)])), (qk, .inl (cI, 3000, .inl K)), (qf, .inl (cI, 3000, .inl Fi)), (qx, .inl (cI, 9000, .inl X)), (qy, .inl (cI, 9000, .inl Y))] H := hP
  have hD : va_D A [(hc, .inr (0, [.ref hx_, .ref ha_, .ref hh, .ref hp, .ref hs])), (hp, .inr (5, [.ref qk, .ref qf, .ref qx, .ref qy, .int (nI pc_), .int (nI pn), .int (nI pb)])), (qk, .inl (cI, 3000, .inl K)), (qf, .inl (cI, 3000, .inl Fi)), (qx, .inl (cI, 9000, .inl X)), (qy, .inl (cI, 9000, .inl Y))] := hD
  refine W.eq (g2 := F0 m 7 ls [.int (bz (fr x.toInt64 || fr y.toInt64))]) rfl ?_
  refine bb_eq (tgt := 13) hx hb d_CP_move_7 (by decide) (fun c_2 => ?_) (fun c_2 => ?_)
  · skip
    refine lv_aload_n hx hb d_CP_move_13 rfl (lv_at hl 0 rfl) ?_
    refine va_get (D := D) (ci := 0) (v := .ref hp) (C := R_CP) (T := T_CP) (N := 5) hx hb hts (ui_CP _) hown hK hP 0 rfl rfl 3 (by decide) (hts _ (gwc gw_141)) (fun _ h9 => h9) rfl d_CP_move_14 ?_
    refine ct_callV (ci := 5) (q0 := 1) (As := []) (rest := []) (wr := [(hc, .inr (0, [.ref hx_, .ref ha_, .ref hh, .ref hp, .ref hs])), (qf, .inl (cI, 3000, .inl Fi)), (qx, .inl (cI, 9000, .inl X)), (qy, .inl (cI, 9000, .inl Y))]) (n := 0) (c_Path_onlyBegan l D cI cB cJ qQ  hp qk qf qx qy pc_ pn pb 3000 K (hpc) (hpc) (by decide)) hx hb hml hown hts (amb_ok qQ) hK hP hD hS hA hM (gi_V gw_166 gw_167 gw_168 gw_32 gw_169) rfl (by decide +kernel) ⟨by omega, by omega⟩ [1, 2] [0, 3, 4, 5] rfl rfl rfl rfl (by decide) rfl rfl rfl hl.1 rfl (Nat.le_of_ble_eq_true rfl) d_CP_move_17 ⟨by omega, by omega⟩ (fun u_3 H locs hok hP hD hS => ?_)
    have hP : va_P D cl [(hc, .inr (0, [.ref hx_, .ref ha_, .ref hh, .ref hp, .ref hs])), (qf, .inl (cI, 3000, .inl Fi)), (qx, .inl (cI, 9000, .inl X)), (qy, .inl (cI, 9000, .inl Y)), (hp, .inr (5, [.ref qk, .ref qf, .ref qx, .ref qy, .int (nI pc_), .int (nI pn), .int (nI pb)])), (qk, .inl (cI, 3000, .inl K))] H := hP
    have hD : va_D A [(hc, .inr (0, [.ref hx_, .ref ha_, .ref hh, .ref hp, .ref hs])), (qf, .inl (cI, 3000, .inl Fi)), (qx, .inl (cI, 9000, .inl X)), (qy, .inl (cI, 9000, .inl Y)), (hp, .inr (5, [.ref qk, .ref qf, .ref qx, .ref qy, .int (nI pc_), .int (nI pn), .int (nI pb)])), (qk, .inl (cI, 3000, .inl K))] := hD
    refine W.eq (g2 := F0 m 20 ls [.int (bz (decide (0 < pc_ ∧ K (pc_ - 1) = 0)))]) rfl ?_
    refine bb_eq (tgt := 40) hx hb d_CP_move_20 (by decide) (fun c_4 => ?_) (fun c_4 => ?_)
    · skip
      have hk0 : ¬ lk ps = 0 := fun z => of_decide_eq_false c_4 ((RI_lk hR (by decide)).mpr z)
      refine lv_aload_n hx hb d_CP_move_40 rfl (lv_at hl 0 rfl) ?_
      refine va_get (D := D) (ci := 0) (v := .ref hp) (C := R_CP) (T := T_CP) (N := 5) hx hb hts (ui_CP _) hown hK hP 0 rfl rfl 3 (by decide) (hts _ (gwc gw_141)) (fun _ h9 => h9) rfl d_CP_move_41 ?_
      refine lv_iconst (v := 1) hx hb d_CP_move_44 (by decide) ?_
      refine ct_callV (ci := 5) (q0 := 4) (As := [.int 1]) (rest := []) (wr := [(hc, .inr (0, [.ref hx_, .ref ha_, .ref hh, .ref hp, .ref hs])), (qf, .inl (cI, 3000, .inl Fi)), (qx, .inl (cI, 9000, .inl X)), (qy, .inl (cI, 9000, .inl Y)), (qk, .inl (cI, 3000, .inl K))]) (n := 1) (c_Path_takes l D cI cB cJ qQ  hp qk qf qx qy pc_ pn pb 1 (hpc) (by decide)) hx hb hml hown hts (amb_ok qQ) hK hP hD hS hA hM (gi_V gw_174 gw_175 gw_176 gw_32 gw_177) rfl (by decide +kernel) ⟨by omega, by omega⟩ [4] [0, 1, 2, 3, 5] rfl rfl rfl rfl (by decide) rfl rfl rfl hl.1 rfl (Nat.le_of_ble_eq_true rfl) d_CP_move_45 ⟨by omega, by omega⟩ (fun u_5 H locs hok hP hD hS => ?_)
      have hP : va_P D cl [(hc, .inr (0, [.ref hx_, .ref ha_, .ref hh, .ref hp, .ref hs])), (qf, .inl (cI, 3000, .inl Fi)), (qx, .inl (cI, 9000, .inl X)), (qy, .inl (cI, 9000, .inl Y)), (qk, .inl (cI, 3000, .inl K)), (hp, .inr (5, [.ref qk, .ref qf, .ref qx, .ref qy, .int (nI pc_), .int (nI pn), .int (nI pb)]))] H := hP
      have hD : va_D A [(hc, .inr (0, [.ref hx_, .ref ha_, .ref hh, .ref hp, .ref hs])), (qf, .inl (cI, 3000, .inl Fi)), (qx, .inl (cI, 9000, .inl X)), (qy, .inl (cI, 9000, .inl Y)), (qk, .inl (cI, 3000, .inl K)), (hp, .inr (5, [.ref qk, .ref qf, .ref qx, .ref qy, .int (nI pc_), .int (nI pn), .int (nI pb)]))] := hD
      refine W.eq (g2 := F0 m 48 ls [.int (bz (decide (pc_ + 1 ≤ 3000)))]) rfl ?_
      refine bb_ne (tgt := 54) hx hb d_CP_move_48 (by decide) (fun c_6 => ?_) (fun c_6 => ?_)
      · skip
        have htk := of_decide_eq_true c_6
        refine lv_aload_n hx hb d_CP_move_54 rfl (lv_at hl 0 rfl) ?_
        refine va_get (D := D) (ci := 0) (v := .ref hp) (C := R_CP) (T := T_CP) (N := 5) hx hb hts (ui_CP _) hown hK hP 0 rfl rfl 3 (by decide) (hts _ (gwc gw_141)) (fun _ h9 => h9) rfl d_CP_move_55 ?_
        refine lv_iload_n hx hb d_CP_move_58 rfl (lv_at hl 1 rfl) ?_
        refine lv_iload_n hx hb d_CP_move_59 rfl (lv_at hl 2 rfl) ?_
        refine ct_callV (ci := 5) (q0 := 5) (As := [.int x, .int y]) (rest := []) (wr := [(hc, .inr (0, [.ref hx_, .ref ha_, .ref hh, .ref hp, .ref hs]))]) (n := 2) (c_Path_addBeginning l D cI cB cJ qQ  hp qk qf qx qy pc_ pn pb K Fi X Y x y (by omega) (by omega)) hx hb hml hown hts (amb_ok qQ) hK hP hD hS hA hM (gi_V gw_178 gw_179 gw_180 gw_32 gw_181) rfl (by decide +kernel) ⟨by omega, by omega⟩ [5, 4, 1, 2, 3] [0] rfl rfl rfl rfl (by decide) rfl rfl rfl hl.1 rfl (Nat.le_of_ble_eq_true rfl) d_CP_move_60 ⟨by omega, by omega⟩ (fun u_7 H locs hok hP hD hS => ?_)
        have hP : va_P D cl [(hc, .inr (0, [.ref hx_, .ref ha_, .ref hh, .ref hp, .ref hs])), (hp, .inr (5, [.ref qk, .ref qf, .ref qx, .ref qy, .int (nI (pc_ + 1)), .int (nI (pn + 1)), .int (nI pn)])), (qk, .inl (cI, 3000, .inl (upd K pc_ 0))), (qf, .inl (cI, 3000, .inl (upd Fi pc_ (nI pn)))), (qx, .inl (cI, 9000, .inl (upd X pn x))), (qy, .inl (cI, 9000, .inl (upd Y pn y)))] H := hP
        have hD : va_D A [(hc, .inr (0, [.ref hx_, .ref ha_, .ref hh, .ref hp, .ref hs])), (hp, .inr (5, [.ref qk, .ref qf, .ref qx, .ref qy, .int (nI (pc_ + 1)), .int (nI (pn + 1)), .int (nI pn)])), (qk, .inl (cI, 3000, .inl (upd K pc_ 0))), (qf, .inl (cI, 3000, .inl (upd Fi pc_ (nI pn)))), (qx, .inl (cI, 9000, .inl (upd X pn x))), (qy, .inl (cI, 9000, .inl (upd Y pn y)))] := hD
        refine W.eq (g2 := F0 m 63 ls []) rfl ?_
        refine lv_aload_n hx hb d_CP_move_63 rfl (lv_at hl 0 rfl) ?_
        refine va_get (D := D) (ci := 0) (v := .ref hp) (C := R_CP) (T := T_CP) (N := 5) hx hb hts (ui_CP _) hown hK hP 0 rfl rfl 3 (by decide) (hts _ (gwc gw_141)) (fun _ h9 => h9) rfl d_CP_move_64 ?_
        refine va_get (D := D) (ci := 5) (v := .int (nI (pc_ + 1))) (C := R_Path) (T := T_Path) (N := 7) hx hb hts (ui_Path _) hown hK hP 1 rfl rfl 4 (by decide) (hts _ (gwc gw_118)) (fun _ h9 => h9) rfl d_CP_move_67 ?_
        exact ct_reti hQ hx hb hr hlocks hP hD hS (nI (pc_ + 1), pc_ + 1, pn + 1, pn, upd K pc_ 0, upd Fi pc_ (nI pn), upd X pn x, upd Y pn y) [(hc, .inr (0, [.ref hx_, .ref ha_, .ref hh, .ref hp, .ref hs])), (hp, .inr (5, [.ref qk, .ref qf, .ref qx, .ref qy, .int (nI (pc_ + 1)), .int (nI (pn + 1)), .int (nI pn)])), (qk, .inl (cI, 3000, .inl (upd K pc_ 0))), (qf, .inl (cI, 3000, .inl (upd Fi pc_ (nI pn)))), (qx, .inl (cI, 9000, .inl (upd X pn x))), (qy, .inl (cI, 9000, .inl (upd Y pn y)))] [0, 1, 2, 3, 4, 5] (rfl) (move_okc hps c_2 hk0 (by rw [hR.1]; exact htk) hR) (rfl) rfl rfl (by omega) (by omega) d_CP_move_70
      · skip
        have htk := of_decide_eq_false c_6
        refine lv_bipush (v := (-3)) hx hb d_CP_move_51 (by decide) ?_
        exact ct_reti hQ hx hb hr hlocks hP hD hS ((-3), pc_, pn, pb, K, Fi, X, Y) [(hc, .inr (0, [.ref hx_, .ref ha_, .ref hh, .ref hp, .ref hs])), (hp, .inr (5, [.ref qk, .ref qf, .ref qx, .ref qy, .int (nI pc_), .int (nI pn), .int (nI pb)])), (qk, .inl (cI, 3000, .inl K)), (qf, .inl (cI, 3000, .inl Fi)), (qx, .inl (cI, 9000, .inl X)), (qy, .inl (cI, 9000, .inl Y))] [0, 5, 4, 1, 2, 3] (rfl) (by rw [move_full hps c_2 hk0 (by rw [hR.1]; exact htk)]; exact ⟨hR, rfl⟩) (rfl) rfl rfl (by omega) (by omega) d_CP_move_53
    · skip
      have hk0 := (RI_lk hR (by decide)).mp (of_decide_eq_true c_4)
      have hpb := began_pb hps.1 hk0 hR
      refine lv_aload_n hx hb d_CP_move_23 rfl (lv_at hl 0 rfl) ?_
      refine va_get (D := D) (ci := 0) (v := .ref hp) (C := R_CP) (T := T_CP) (N := 5) hx hb hts (ui_CP _) hown hK hP 0 rfl rfl 3 (by decide) (hts _ (gwc gw_141)) (fun _ h9 => h9) rfl d_CP_move_24 ?_
      refine lv_iload_n hx hb d_CP_move_27 rfl (lv_at hl 1 rfl) ?_
      refine lv_iload_n hx hb d_CP_move_28 rfl (lv_at hl 2 rfl) ?_
      refine ct_callV (ci := 5) (q0 := 4) (As := [.int x, .int y]) (rest := []) (wr := [(hc, .inr (0, [.ref hx_, .ref ha_, .ref hh, .ref hp, .ref hs])), (qf, .inl (cI, 3000, .inl Fi)), (qk, .inl (cI, 3000, .inl K))]) (n := 2) (c_Path_replaceBeginning l D cI cB cJ qQ  hp qk qf qx qy pc_ pn pb 9000 X Y x y (by omega) (by decide)) hx hb hml hown hts (amb_ok qQ) hK hP hD hS hA hM (gi_V gw_170 gw_171 gw_172 gw_32 gw_173) rfl (by decide +kernel) ⟨by omega, by omega⟩ [4, 2, 3] [0, 1, 5] rfl rfl rfl rfl (by decide) rfl rfl rfl hl.1 rfl (Nat.le_of_ble_eq_true rfl) d_CP_move_29 ⟨by omega, by omega⟩ (fun u_8 H locs hok hP hD hS => ?_)
      have hP : va_P D cl [(hc, .inr (0, [.ref hx_, .ref ha_, .ref hh, .ref hp, .ref hs])), (qf, .inl (cI, 3000, .inl Fi)), (qk, .inl (cI, 3000, .inl K)), (hp, .inr (5, [.ref qk, .ref qf, .ref qx, .ref qy, .int (nI pc_), .int (nI pn), .int (nI pb)])), (qx, .inl (cI, 9000, .inl (upd X pb x))), (qy, .inl (cI, 9000, .inl (upd Y pb y)))] H := hP
      have hD : va_D A [(hc, .inr (0, [.ref hx_, .ref ha_, .ref hh, .ref hp, .ref hs])), (qf, .inl (cI, 3000, .inl Fi)), (qk, .inl (cI, 3000, .inl K)), (hp, .inr (5, [.ref qk, .ref qf, .ref qx, .ref qy, .int (nI pc_), .int (nI pn), .int (nI pb)])), (qx, .inl (cI, 9000, .inl (upd X pb x))), (qy, .inl (cI, 9000, .inl (upd Y pb y)))] := hD
      refine W.eq (g2 := F0 m 32 ls []) rfl ?_
      refine lv_aload_n hx hb d_CP_move_32 rfl (lv_at hl 0 rfl) ?_
      refine va_get (D := D) (ci := 0) (v := .ref hp) (C := R_CP) (T := T_CP) (N := 5) hx hb hts (ui_CP _) hown hK hP 0 rfl rfl 3 (by decide) (hts _ (gwc gw_141)) (fun _ h9 => h9) rfl d_CP_move_33 ?_
      refine va_get (D := D) (ci := 5) (v := .int (nI pc_)) (C := R_Path) (T := T_Path) (N := 7) hx hb hts (ui_Path _) hown hK hP 3 rfl rfl 4 (by decide) (hts _ (gwc gw_118)) (fun _ h9 => h9) rfl d_CP_move_36 ?_
      exact ct_reti hQ hx hb hr hlocks hP hD hS (nI pc_, pc_, pn, pb, K, Fi, upd X pb x, upd Y pb y) [(hc, .inr (0, [.ref hx_, .ref ha_, .ref hh, .ref hp, .ref hs])), (hp, .inr (5, [.ref qk, .ref qf, .ref qx, .ref qy, .int (nI pc_), .int (nI pn), .int (nI pb)])), (qk, .inl (cI, 3000, .inl K)), (qf, .inl (cI, 3000, .inl Fi)), (qx, .inl (cI, 9000, .inl (upd X pb x))), (qy, .inl (cI, 9000, .inl (upd Y pb y)))] [0, 3, 2, 1, 4, 5] (rfl) (move_repl hps c_2 hk0 hR) (rfl) rfl rfl (by omega) (by omega) d_CP_move_39
  · skip
    refine lv_bipush (v := (-4)) hx hb d_CP_move_10 (by decide) ?_
    exact ct_reti hQ hx hb hr hlocks hP hD hS ((-4), pc_, pn, pb, K, Fi, X, Y) [(hc, .inr (0, [.ref hx_, .ref ha_, .ref hh, .ref hp, .ref hs])), (hp, .inr (5, [.ref qk, .ref qf, .ref qx, .ref qy, .int (nI pc_), .int (nI pn), .int (nI pb)])), (qk, .inl (cI, 3000, .inl K)), (qf, .inl (cI, 3000, .inl Fi)), (qx, .inl (cI, 9000, .inl X)), (qy, .inl (cI, 9000, .inl Y))] [0, 1, 2, 3, 4, 5] (rfl) (by rw [move_far hps c_2]; exact ⟨hR, rfl⟩) (rfl) rfl rfl (by omega) (by omega) d_CP_move_12
set_option maxHeartbeats 4000000 in
set_option maxRecDepth 100000 in
/-- line -/
theorem c_CP_line (l : Launch) (D : va_G) (cI cB cJ : ClassId) (qQ : Nat) (hc : Nat) (hx_ : Nat) (ha_ : Nat) (hh : Nat) (hs : Nat) (hp : Nat) (qk : Nat) (qf : Nat) (qx : Nat) (qy : Nat) (pc_ : Nat) (pn : Nat) (pb : Nat) (K : Nat → Int32) (Fi : Nat → Int32) (X : Nat → Int32) (Y : Nat → Int32) (ps : List Pt) (x : Int32) (y : Int32) (hR : RIp pc_ pn pb K Fi X Y ps) (hps : pkp ps) : ct l D cl [(cI, .int), (cB, .byte), (cJ, .long)] (amb qQ) y_CP_line w_CP_line 3 64 (0) (0) [.ref hc, .int x, .int y] [(hc, .inr (0, [.ref hx_, .ref ha_, .ref hh, .ref hp, .ref hs])), (hp, .inr (5, [.ref qk, .ref qf, .ref qx, .ref qy, .int (nI pc_), .int (nI pn), .int (nI pb)])), (qk, .inl (cI, 3000, .inl K)), (qf, .inl (cI, 3000, .inl Fi)), (qx, .inl (cI, 9000, .inl X)), (qy, .inl (cI, 9000, .inl Y))] (fun u_ : Int32 × Nat × Nat × Nat × (Nat → Int32) × (Nat → Int32) × (Nat → Int32) × (Nat → Int32) => match u_ with | (r, pc', pn', pb', K', F', X', Y') => RIp pc' pn' pb' K' F' X' Y' (rLine ps x y).2 ∧ r = (rLine ps x y).1) (fun u_ : Int32 × Nat × Nat × Nat × (Nat → Int32) × (Nat → Int32) × (Nat → Int32) × (Nat → Int32) => match u_ with | (r, pc', pn', pb', K', F', X', Y') => some (.int r)) (fun u_ : Int32 × Nat × Nat × Nat × (Nat → Int32) × (Nat → Int32) × (Nat → Int32) × (Nat → Int32) => match u_ with | (r, pc', pn', pb', K', F', X', Y') => [(hc, .inr (0, [.ref hx_, .ref ha_, .ref hh, .ref hp, .ref hs])), (hp, .inr (5, [.ref qk, .ref qf, .ref qx, .ref qy, .int (nI pc'), .int (nI pn'), .int (nI pb')])), (qk, .inl (cI, 3000, .inl K')), (qf, .inl (cI, 3000, .inl F')), (qx, .inl (cI, 9000, .inl X')), (qy, .inl (cI, 9000, .inl Y'))]) := by
  refine ct_ofW (cc := b_CP_line) (maxL := 3) (ret := (some .int)) (by decide) rfl (Nat.le_of_ble_eq_true rfl) ?_
  intro p e R s m args below meth c A Q ls hx hb hr hml hts hown hlocks hname hRf hRc hRs hRl hQ hK hP hD hS hA hM hl
  have hl : lv_has ls 3 [(0, .ref hc), (1, .int x), (2, .int y)] := hl
  have hpc := hps.2
  rw [hR.1] at hpc
  have hpn := RI_pn hR
  refine lv_aload_n hx hb d_CP_line_0 rfl (lv_at hl 0 rfl) ?_
  refine va_get (D := D) (ci := 0) (v := .ref hp) (C := R_CP) (T := T_CP) (N := 5) hx hb hts (ui_CP _) hown hK hP 0 rfl rfl 3 (by decide) (hts _ (gwc gw_141)) (fun _ h9 => h9) rfl d_CP_line_1 ?_
  refine ct_callV (ci := 5) (q0 := 1) (As := []) (rest := []) (wr := [(hc, .inr (0, [.ref hx_, .ref ha_, .ref hh, .ref hp, .ref hs])), (qk, .inl (cI, 3000, .inl K)), (qf, .inl (cI, 3000, .inl Fi)), (qx, .inl (cI, 9000, .inl X)), (qy, .inl (cI, 9000, .inl Y))]) (n := 0) (c_Path_isEmpty l D cI cB cJ qQ  hp qk qf qx qy pc_ pn pb (hpc)) hx hb hml hown hts (amb_ok qQ) hK hP hD hS hA hM (gi_V gw_194 gw_195 gw_196 gw_32 gw_197) rfl (by decide +kernel) ⟨by omega, by omega⟩ [1] [0, 2, 3, 4, 5] rfl rfl rfl rfl (by decide) rfl rfl rfl hl.1 rfl (Nat.le_of_ble_eq_true rfl) d_CP_line_4 ⟨by omega, by omega⟩ (fun u_1 H locs hok hP hD hS => ?_)
  have hP : va_P D cl [(hc, .inr (0, [.ref hx_, .ref ha_, .ref hh, .ref hp, .ref hs])), (qk, .inl (cI, 3000, .inl K)), (qf, .inl (cI, 3000, .inl Fi)), (qx, .inl (cI, 9000, .inl X)), (qy, .inl (cI, 9000, .inl Y)), (hp, .inr (5, [.ref qk, .ref qf, .ref qx, .ref qy, .int (nI pc_), .int (nI pn), .int (nI pb)]))] H := hP
  have hD : va_D A [(hc, .inr (0, [.ref hx_, .ref ha_, .ref hh, .ref hp, .ref hs])), (qk, .inl (cI, 3000, .inl K)), (qf, .inl (cI, 3000, .inl Fi)), (qx, .inl (cI, 9000, .inl X)), (qy, .inl (cI, 9000, .inl Y)), (hp, .inr (5, [.ref qk, .ref qf, .ref qx, .ref qy, .int (nI pc_), .int (nI pn), .int (nI pb)]))] := hD
  refine W.eq (g2 := F0 m 7 ls [.int (bz (decide (pc_ = 0)))]) rfl ?_
  refine bb_eq (tgt := 13) hx hb d_CP_line_7 (by decide) (fun c_2 => ?_) (fun c_2 => ?_)
  · skip
    have hz : ¬ ps.length = 0 := by rw [hR.1]; exact of_decide_eq_false c_2
    refine lv_iload_n hx hb d_CP_line_13 rfl (lv_at hl 1 rfl) ?_
    refine lv_i2l (v := x.toInt64) hx hb d_CP_line_14 rfl ?_
    refine lv_iload_n hx hb d_CP_line_15 rfl (lv_at hl 2 rfl) ?_
    refine lv_i2l (v := y.toInt64) hx hb d_CP_line_16 rfl ?_
    refine ct_callS (av := [.long x.toInt64, .long y.toInt64]) (rest := []) (wr := [(hc, .inr (0, [.ref hx_, .ref ha_, .ref hh, .ref hp, .ref hs])), (qk, .inl (cI, 3000, .inl K)), (qf, .inl (cI, 3000, .inl Fi)), (qx, .inl (cI, 9000, .inl X)), (qy, .inl (cI, 9000, .inl Y)), (hp, .inr (5, [.ref qk, .ref qf, .ref qx, .ref qy, .int (nI pc_), .int (nI pn), .int (nI pb)]))]) (n := 2) (c_CP_isFarPoint l D cI cB cJ qQ  x.toInt64 y.toInt64 ) hx hb hml hown hts (amb_ok qQ) hK hP hD hS hA hM (gi_S gw_158 gw_159 gw_28 gw_160) rfl (by decide +kernel) ⟨by omega, by omega⟩ [] [0, 1, 2, 3, 4, 5] rfl rfl rfl rfl (by decide) rfl hl.1 rfl (Nat.le_of_ble_eq_true rfl) d_CP_line_17 ⟨by omega, by omega⟩ (fun u_3 H locs hok hP hD hS => ?_)
    have hP : va_P D cl [(hc, .inr (0, [.ref hx_, .ref ha_, .ref hh, .ref hp, .ref hs])), (qk, .inl (cI, 3000, .inl K)), (qf, .inl (cI, 3000, .inl Fi)), (qx, .inl (cI, 9000, .inl X)), (qy, .inl (cI, 9000, .inl Y)), (hp, .inr (5, [.ref qk, .ref qf, .ref qx, .ref qy, .int (nI pc_), .int (nI pn), .int (nI pb)]))] H := hP
    have hD : va_D A [(hc, .inr (0, [.ref hx_, .ref ha_, .ref hh, .ref hp, .ref hs])), (qk, .inl (cI, 3000, .inl K)), (qf, .inl (cI, 3000, .inl Fi)), (qx, .inl (cI, 9000, .inl X)), (qy, .inl (cI, 9000, .inl Y)), (hp, .inr (5, [.ref qk, .ref qf, .ref qx, .ref qy, .int (nI pc_), .int (nI pn), .int (nI pb)]))] := hD
    refine W.eq (g2 := F0 m 20 ls [.int (bz (fr x.toInt64 || fr y.toInt64))]) rfl ?_
    refine bb_eq (tgt := 26) hx hb d_CP_line_20 (by decide) (fun c_4 => ?_) (fun c_4 => ?_)
    · skip
      refine lv_aload_n hx hb d_CP_line_26 rfl (lv_at hl 0 rfl) ?_
      refine va_get (D := D) (ci := 0) (v := .ref hp) (C := R_CP) (T := T_CP) (N := 5) hx hb hts (ui_CP _) hown hK hP 0 rfl rfl 3 (by decide) (hts _ (gwc gw_141)) (fun _ h9 => h9) rfl d_CP_line_27 ?_
      refine lv_iconst (v := 1) hx hb d_CP_line_30 (by decide) ?_
      refine ct_callV (ci := 5) (q0 := 5) (As := [.int 1]) (rest := []) (wr := [(hc, .inr (0, [.ref hx_, .ref ha_, .ref hh, .ref hp, .ref hs])), (qf, .inl (cI, 3000, .inl Fi)), (qx, .inl (cI, 9000, .inl X)), (qy, .inl (cI, 9000, .inl Y))]) (n := 1) (c_Path_takesSegments l D cI cB cJ qQ  hp qk qf qx qy pc_ pn pb 3000 K 1 (hpc) (hpc) (by decide) (by decide)) hx hb hml hown hts (amb_ok qQ) hK hP hD hS hA hM (gi_V gw_198 gw_199 gw_200 gw_32 gw_201) rfl (by decide +kernel) ⟨by omega, by omega⟩ [5, 1] [0, 2, 3, 4] rfl rfl rfl rfl (by decide) rfl rfl rfl hl.1 rfl (Nat.le_of_ble_eq_true rfl) d_CP_line_31 ⟨by omega, by omega⟩ (fun u_5 H locs hok hP hD hS => ?_)
      have hP : va_P D cl [(hc, .inr (0, [.ref hx_, .ref ha_, .ref hh, .ref hp, .ref hs])), (qf, .inl (cI, 3000, .inl Fi)), (qx, .inl (cI, 9000, .inl X)), (qy, .inl (cI, 9000, .inl Y)), (hp, .inr (5, [.ref qk, .ref qf, .ref qx, .ref qy, .int (nI pc_), .int (nI pn), .int (nI pb)])), (qk, .inl (cI, 3000, .inl K))] H := hP
      have hD : va_D A [(hc, .inr (0, [.ref hx_, .ref ha_, .ref hh, .ref hp, .ref hs])), (qf, .inl (cI, 3000, .inl Fi)), (qx, .inl (cI, 9000, .inl X)), (qy, .inl (cI, 9000, .inl Y)), (hp, .inr (5, [.ref qk, .ref qf, .ref qx, .ref qy, .int (nI pc_), .int (nI pn), .int (nI pb)])), (qk, .inl (cI, 3000, .inl K))] := hD
      refine W.eq (g2 := F0 m 34 ls [.int (bz (decide (pc_ + (if 0 < pc_ ∧ K (pc_ - 1) = 3 then 1 + 1 else 1) ≤ 3000)))]) rfl ?_
      refine bb_ne (tgt := 40) hx hb d_CP_line_34 (by decide) (fun c_6 => ?_) (fun c_6 => ?_)
      · skip
        have htk := of_decide_eq_true c_6
        rw [RI_seg hR] at htk
        refine lv_aload_n hx hb d_CP_line_40 rfl (lv_at hl 0 rfl) ?_
        refine va_get (D := D) (ci := 0) (v := .ref hp) (C := R_CP) (T := T_CP) (N := 5) hx hb hts (ui_CP _) hown hK hP 0 rfl rfl 3 (by decide) (hts _ (gwc gw_141)) (fun _ h9 => h9) rfl d_CP_line_41 ?_
        refine ct_callV (ci := 5) (q0 := 4) (As := []) (rest := []) (wr := [(hc, .inr (0, [.ref hx_, .ref ha_, .ref hh, .ref hp, .ref hs]))]) (n := 0) (c_Path_goOn l D cI cB cJ qQ  hp qk qf qx qy pc_ pn pb K Fi X Y ps (hR) (hps.1) (by omega)) hx hb hml hown hts (amb_ok qQ) hK hP hD hS hA hM (gi_V gw_207 gw_208 gw_209 gw_32 gw_210) rfl (by decide +kernel) ⟨by omega, by omega⟩ [4, 5, 1, 2, 3] [0] rfl rfl rfl rfl (by decide) rfl rfl rfl hl.1 rfl (Nat.le_of_ble_eq_true rfl) d_CP_line_44 ⟨by omega, by omega⟩ (fun u_7 H locs hok hP hD hS => ?_)
        obtain ⟨pc2, pn2, pb2, K2, F2, X2, Y2⟩ := u_7
        have hgo : RIp pc2 pn2 pb2 K2 F2 X2 Y2 (ps ++ (opn ps).map q7p) := hok
        have hP : va_P D cl [(hc, .inr (0, [.ref hx_, .ref ha_, .ref hh, .ref hp, .ref hs])), (hp, .inr (5, [.ref qk, .ref qf, .ref qx, .ref qy, .int (nI pc2), .int (nI pn2), .int (nI pb2)])), (qk, .inl (cI, 3000, .inl K2)), (qf, .inl (cI, 3000, .inl F2)), (qx, .inl (cI, 9000, .inl X2)), (qy, .inl (cI, 9000, .inl Y2))] H := hP
        have hD : va_D A [(hc, .inr (0, [.ref hx_, .ref ha_, .ref hh, .ref hp, .ref hs])), (hp, .inr (5, [.ref qk, .ref qf, .ref qx, .ref qy, .int (nI pc2), .int (nI pn2), .int (nI pb2)])), (qk, .inl (cI, 3000, .inl K2)), (qf, .inl (cI, 3000, .inl F2)), (qx, .inl (cI, 9000, .inl X2)), (qy, .inl (cI, 9000, .inl Y2))] := hD
        refine W.eq (g2 := F0 m 47 ls []) rfl ?_
        have hb2 := RI_pn hgo
        have hc2 := hgo.1
        rw [List.length_append, List.length_map, hR.1] at hc2
        refine lv_aload_n hx hb d_CP_line_47 rfl (lv_at hl 0 rfl) ?_
        refine va_get (D := D) (ci := 0) (v := .ref hp) (C := R_CP) (T := T_CP) (N := 5) hx hb hts (ui_CP _) hown hK hP 0 rfl rfl 3 (by decide) (hts _ (gwc gw_141)) (fun _ h9 => h9) rfl d_CP_line_48 ?_
        refine lv_iload_n hx hb d_CP_line_51 rfl (lv_at hl 1 rfl) ?_
        refine lv_iload_n hx hb d_CP_line_52 rfl (lv_at hl 2 rfl) ?_
        refine ct_callV (ci := 5) (q0 := 1) (As := [.int x, .int y]) (rest := []) (wr := [(hc, .inr (0, [.ref hx_, .ref ha_, .ref hh, .ref hp, .ref hs]))]) (n := 2) (c_Path_addLine l D cI cB cJ qQ  hp qk qf qx qy pc2 pn2 pb2 K2 F2 X2 Y2 x y (by omega) (by omega)) hx hb hml hown hts (amb_ok qQ) hK hP hD hS hA hM (gi_V gw_212 gw_213 gw_214 gw_32 gw_215) rfl (by decide +kernel) ⟨by omega, by omega⟩ [1, 2, 3, 4, 5] [0] rfl rfl rfl rfl (by decide) rfl rfl rfl hl.1 rfl (Nat.le_of_ble_eq_true rfl) d_CP_line_53 ⟨by omega, by omega⟩ (fun u_8 H locs hok hP hD hS => ?_)
        have hP : va_P D cl [(hc, .inr (0, [.ref hx_, .ref ha_, .ref hh, .ref hp, .ref hs])), (hp, .inr (5, [.ref qk, .ref qf, .ref qx, .ref qy, .int (nI (pc2 + 1)), .int (nI (pn2 + 1)), .int (nI pb2)])), (qk, .inl (cI, 3000, .inl (upd K2 pc2 1))), (qf, .inl (cI, 3000, .inl (upd F2 pc2 (nI pn2)))), (qx, .inl (cI, 9000, .inl (upd X2 pn2 x))), (qy, .inl (cI, 9000, .inl (upd Y2 pn2 y)))] H := hP
        have hD : va_D A [(hc, .inr (0, [.ref hx_, .ref ha_, .ref hh, .ref hp, .ref hs])), (hp, .inr (5, [.ref qk, .ref qf, .ref qx, .ref qy, .int (nI (pc2 + 1)), .int (nI (pn2 + 1)), .int (nI pb2)])), (qk, .inl (cI, 3000, .inl (upd K2 pc2 1))), (qf, .inl (cI, 3000, .inl (upd F2 pc2 (nI pn2)))), (qx, .inl (cI, 9000, .inl (upd X2 pn2 x))), (qy, .inl (cI, 9000, .inl (upd Y2 pn2 y)))] := hD
        refine W.eq (g2 := F0 m 56 ls []) rfl ?_
        refine lv_aload_n hx hb d_CP_line_56 rfl (lv_at hl 0 rfl) ?_
        refine va_get (D := D) (ci := 0) (v := .ref hp) (C := R_CP) (T := T_CP) (N := 5) hx hb hts (ui_CP _) hown hK hP 0 rfl rfl 3 (by decide) (hts _ (gwc gw_141)) (fun _ h9 => h9) rfl d_CP_line_57 ?_
        refine va_get (D := D) (ci := 5) (v := .int (nI (pc2 + 1))) (C := R_Path) (T := T_Path) (N := 7) hx hb hts (ui_Path _) hown hK hP 1 rfl rfl 4 (by decide) (hts _ (gwc gw_118)) (fun _ h9 => h9) rfl d_CP_line_60 ?_
        exact ct_reti hQ hx hb hr hlocks hP hD hS (nI (pc2 + 1), pc2 + 1, pn2 + 1, pb2, upd K2 pc2 1, upd F2 pc2 (nI pn2), upd X2 pn2 x, upd Y2 pn2 y) [(hc, .inr (0, [.ref hx_, .ref ha_, .ref hh, .ref hp, .ref hs])), (hp, .inr (5, [.ref qk, .ref qf, .ref qx, .ref qy, .int (nI (pc2 + 1)), .int (nI (pn2 + 1)), .int (nI pb2)])), (qk, .inl (cI, 3000, .inl (upd K2 pc2 1))), (qf, .inl (cI, 3000, .inl (upd F2 pc2 (nI pn2)))), (qx, .inl (cI, 9000, .inl (upd X2 pn2 x))), (qy, .inl (cI, 9000, .inl (upd Y2 pn2 y)))] [0, 1, 2, 3, 4, 5] (rfl) (line_okc hps hz c_4 (by rw [hR.1]; exact htk) hgo) (rfl) rfl rfl (by omega) (by omega) d_CP_line_63
      · skip
        have htk := of_decide_eq_false c_6
        rw [RI_seg hR] at htk
        refine lv_bipush (v := (-3)) hx hb d_CP_line_37 (by decide) ?_
        exact ct_reti hQ hx hb hr hlocks hP hD hS ((-3), pc_, pn, pb, K, Fi, X, Y) [(hc, .inr (0, [.ref hx_, .ref ha_, .ref hh, .ref hp, .ref hs])), (hp, .inr (5, [.ref qk, .ref qf, .ref qx, .ref qy, .int (nI pc_), .int (nI pn), .int (nI pb)])), (qk, .inl (cI, 3000, .inl K)), (qf, .inl (cI, 3000, .inl Fi)), (qx, .inl (cI, 9000, .inl X)), (qy, .inl (cI, 9000, .inl Y))] [0, 4, 5, 1, 2, 3] (rfl) (by rw [line_full hps hz c_4 (by rw [hR.1]; exact htk)]; exact ⟨hR, rfl⟩) (rfl) rfl rfl (by omega) (by omega) d_CP_line_39
    · skip
      refine lv_bipush (v := (-4)) hx hb d_CP_line_23 (by decide) ?_
      exact ct_reti hQ hx hb hr hlocks hP hD hS ((-4), pc_, pn, pb, K, Fi, X, Y) [(hc, .inr (0, [.ref hx_, .ref ha_, .ref hh, .ref hp, .ref hs])), (hp, .inr (5, [.ref qk, .ref qf, .ref qx, .ref qy, .int (nI pc_), .int (nI pn), .int (nI pb)])), (qk, .inl (cI, 3000, .inl K)), (qf, .inl (cI, 3000, .inl Fi)), (qx, .inl (cI, 9000, .inl X)), (qy, .inl (cI, 9000, .inl Y))] [0, 5, 1, 2, 3, 4] (rfl) (by rw [line_far hps hz c_4]; exact ⟨hR, rfl⟩) (rfl) rfl rfl (by omega) (by omega) d_CP_line_25
  · skip
    have hz : ps.length = 0 := by rw [hR.1]; exact of_decide_eq_true c_2
    refine lv_bipush (v := (-2)) hx hb d_CP_line_10 (by decide) ?_
    exact ct_reti hQ hx hb hr hlocks hP hD hS ((-2), pc_, pn, pb, K, Fi, X, Y) [(hc, .inr (0, [.ref hx_, .ref ha_, .ref hh, .ref hp, .ref hs])), (hp, .inr (5, [.ref qk, .ref qf, .ref qx, .ref qy, .int (nI pc_), .int (nI pn), .int (nI pb)])), (qk, .inl (cI, 3000, .inl K)), (qf, .inl (cI, 3000, .inl Fi)), (qx, .inl (cI, 9000, .inl X)), (qy, .inl (cI, 9000, .inl Y))] [0, 5, 1, 2, 3, 4] (rfl) (by rw [line_no hz]; exact ⟨hR, rfl⟩) (rfl) rfl rfl (by omega) (by omega) d_CP_line_12
set_option maxHeartbeats 4000000 in
set_option maxRecDepth 100000 in
/-- curve -/
theorem c_CP_curve (l : Launch) (D : va_G) (cI cB cJ : ClassId) (qQ : Nat) (hc : Nat) (hx_ : Nat) (ha_ : Nat) (hh : Nat) (hs : Nat) (hp : Nat) (qk : Nat) (qf : Nat) (qx : Nat) (qy : Nat) (pc_ : Nat) (pn : Nat) (pb : Nat) (K : Nat → Int32) (Fi : Nat → Int32) (X : Nat → Int32) (Y : Nat → Int32) (ps : List Pt) (x1 : Int32) (y1 : Int32) (x2 : Int32) (y2 : Int32) (x3 : Int32) (y3 : Int32) (hR : RIp pc_ pn pb K Fi X Y ps) (hps : pkp ps) : ct l D cl [(cI, .int), (cB, .byte), (cJ, .long)] (amb qQ) y_CP_curve w_CP_curve 3 64 (0) (0) [.ref hc, .int x1, .int y1, .int x2, .int y2, .int x3, .int y3] [(hc, .inr (0, [.ref hx_, .ref ha_, .ref hh, .ref hp, .ref hs])), (hp, .inr (5, [.ref qk, .ref qf, .ref qx, .ref qy, .int (nI pc_), .int (nI pn), .int (nI pb)])), (qk, .inl (cI, 3000, .inl K)), (qf, .inl (cI, 3000, .inl Fi)), (qx, .inl (cI, 9000, .inl X)), (qy, .inl (cI, 9000, .inl Y))] (fun u_ : Int32 × Nat × Nat × Nat × (Nat → Int32) × (Nat → Int32) × (Nat → Int32) × (Nat → Int32) => match u_ with | (r, pc', pn', pb', K', F', X', Y') => RIp pc' pn' pb' K' F' X' Y' (rCurve ps x1 y1 x2 y2 x3 y3).2 ∧ r = (rCurve ps x1 y1 x2 y2 x3 y3).1) (fun u_ : Int32 × Nat × Nat × Nat × (Nat → Int32) × (Nat → Int32) × (Nat → Int32) × (Nat → Int32) => match u_ with | (r, pc', pn', pb', K', F', X', Y') => some (.int r)) (fun u_ : Int32 × Nat × Nat × Nat × (Nat → Int32) × (Nat → Int32) × (Nat → Int32) × (Nat → Int32) => match u_ with | (r, pc', pn', pb', K', F', X', Y') => [(hc, .inr (0, [.ref hx_, .ref ha_, .ref hh, .ref hp, .ref hs])), (hp, .inr (5, [.ref qk, .ref qf, .ref qx, .ref qy, .int (nI pc'), .int (nI pn'), .int (nI pb')])), (qk, .inl (cI, 3000, .inl K')), (qf, .inl (cI, 3000, .inl F')), (qx, .inl (cI, 9000, .inl X')), (qy, .inl (cI, 9000, .inl Y'))]) := by
  refine ct_ofW (cc := b_CP_curve) (maxL := 7) (ret := (some .int)) (by decide) rfl (Nat.le_of_ble_eq_true rfl) ?_
  intro p e R s m args below meth c A Q ls hx hb hr hml hts hown hlocks hname hRf hRc hRs hRl hQ hK hP hD hS hA hM hl
  have hl : lv_has ls 7 [(0, .ref hc), (1, .int x1), (2, .int y1), (3, .int x2), (4, .int y2), (5, .int x3), (6, .int y3)] := hl
  have hpc := hps.2
  rw [hR.1] at hpc
  have hpn := RI_pn hR
  refine lv_aload_n hx hb d_CP_curve_0 rfl (lv_at hl 0 rfl) ?_
  refine va_get (D := D) (ci := 0) (v := .ref hp) (C := R_CP) (T := T_CP) (N := 5) hx hb hts (ui_CP _) hown hK hP 0 rfl rfl 3 (by decide) (hts _ (gwc gw_141)) (fun _ h9 => h9) rfl d_CP_curve_1 ?_
  refine ct_callV (ci := 5) (q0 := 1) (As := []) (rest := []) (wr := [(hc, .inr (0, [.ref hx_, .ref ha_, .ref hh, .ref hp, .ref hs])), (qk, .inl (cI, 3000, .inl K)), (qf, .inl (cI, 3000, .inl Fi)), (qx, .inl (cI, 9000, .inl X)), (qy, .inl (cI, 9000, .inl Y))]) (n := 0) (c_Path_isEmpty l D cI cB cJ qQ  hp qk qf qx qy pc_ pn pb (hpc)) hx hb hml hown hts (amb_ok qQ) hK hP hD hS hA hM (gi_V gw_194 gw_195 gw_196 gw_32 gw_197) rfl (by decide +kernel) ⟨by omega, by omega⟩ [1] [0, 2, 3, 4, 5] rfl rfl rfl rfl (by decide) rfl rfl rfl hl.1 rfl (Nat.le_of_ble_eq_true rfl) d_CP_curve_4 ⟨by omega, by omega⟩ (fun u_1 H locs hok hP hD hS => ?_)
  have hP : va_P D cl [(hc, .inr (0, [.ref hx_, .ref ha_, .ref hh, .ref hp, .ref hs])), (qk, .inl (cI, 3000, .inl K)), (qf, .inl (cI, 3000, .inl Fi)), (qx, .inl (cI, 9000, .inl X)), (qy, .inl (cI, 9000, .inl Y)), (hp, .inr (5, [.ref qk, .ref qf, .ref qx, .ref qy, .int (nI pc_), .int (nI pn), .int (nI pb)]))] H := hP
  have hD : va_D A [(hc, .inr (0, [.ref hx_, .ref ha_, .ref hh, .ref hp, .ref hs])), (qk, .inl (cI, 3000, .inl K)), (qf, .inl (cI, 3000, .inl Fi)), (qx, .inl (cI, 9000, .inl X)), (qy, .inl (cI, 9000, .inl Y)), (hp, .inr (5, [.ref qk, .ref qf, .ref qx, .ref qy, .int (nI pc_), .int (nI pn), .int (nI pb)]))] := hD
  refine W.eq (g2 := F0 m 7 ls [.int (bz (decide (pc_ = 0)))]) rfl ?_
  refine bb_eq (tgt := 13) hx hb d_CP_curve_7 (by decide) (fun c_2 => ?_) (fun c_2 => ?_)
  · skip
    have hz : ¬ ps.length = 0 := by rw [hR.1]; exact of_decide_eq_false c_2
    refine lv_iload_n hx hb d_CP_curve_13 rfl (lv_at hl 1 rfl) ?_
    refine lv_i2l (v := x1.toInt64) hx hb d_CP_curve_14 rfl ?_
    refine lv_iload_n hx hb d_CP_curve_15 rfl (lv_at hl 2 rfl) ?_
    refine lv_i2l (v := y1.toInt64) hx hb d_CP_curve_16 rfl ?_
    refine ct_callS (av := [.long x1.toInt64, .long y1.toInt64]) (rest := []) (wr := [(hc, .inr (0, [.ref hx_, .ref ha_, .ref hh, .ref hp, .ref hs])), (qk, .inl (cI, 3000, .inl K)), (qf, .inl (cI, 3000, .inl Fi)), (qx, .inl (cI, 9000, .inl X)), (qy, .inl (cI, 9000, .inl Y)), (hp, .inr (5, [.ref qk, .ref qf, .ref qx, .ref qy, .int (nI pc_), .int (nI pn), .int (nI pb)]))]) (n := 2) (c_CP_isFarPoint l D cI cB cJ qQ  x1.toInt64 y1.toInt64 ) hx hb hml hown hts (amb_ok qQ) hK hP hD hS hA hM (gi_S gw_158 gw_159 gw_28 gw_160) rfl (by decide +kernel) ⟨by omega, by omega⟩ [] [0, 1, 2, 3, 4, 5] rfl rfl rfl rfl (by decide) rfl hl.1 rfl (Nat.le_of_ble_eq_true rfl) d_CP_curve_17 ⟨by omega, by omega⟩ (fun u_3 H locs hok hP hD hS => ?_)
    have hP : va_P D cl [(hc, .inr (0, [.ref hx_, .ref ha_, .ref hh, .ref hp, .ref hs])), (qk, .inl (cI, 3000, .inl K)), (qf, .inl (cI, 3000, .inl Fi)), (qx, .inl (cI, 9000, .inl X)), (qy, .inl (cI, 9000, .inl Y)), (hp, .inr (5, [.ref qk, .ref qf, .ref qx, .ref qy, .int (nI pc_), .int (nI pn), .int (nI pb)]))] H := hP
    have hD : va_D A [(hc, .inr (0, [.ref hx_, .ref ha_, .ref hh, .ref hp, .ref hs])), (qk, .inl (cI, 3000, .inl K)), (qf, .inl (cI, 3000, .inl Fi)), (qx, .inl (cI, 9000, .inl X)), (qy, .inl (cI, 9000, .inl Y)), (hp, .inr (5, [.ref qk, .ref qf, .ref qx, .ref qy, .int (nI pc_), .int (nI pn), .int (nI pb)]))] := hD
    refine W.eq (g2 := F0 m 20 ls [.int (bz (fr x1.toInt64 || fr y1.toInt64))]) rfl ?_
    refine bb_ne (tgt := 46) hx hb d_CP_curve_20 (by decide) (fun c_4 => ?_) (fun c_4 => ?_)
    · skip
      refine lv_bipush (v := (-4)) hx hb d_CP_curve_46 (by decide) ?_
      exact ct_reti hQ hx hb hr hlocks hP hD hS ((-4), pc_, pn, pb, K, Fi, X, Y) [(hc, .inr (0, [.ref hx_, .ref ha_, .ref hh, .ref hp, .ref hs])), (hp, .inr (5, [.ref qk, .ref qf, .ref qx, .ref qy, .int (nI pc_), .int (nI pn), .int (nI pb)])), (qk, .inl (cI, 3000, .inl K)), (qf, .inl (cI, 3000, .inl Fi)), (qx, .inl (cI, 9000, .inl X)), (qy, .inl (cI, 9000, .inl Y))] [0, 5, 1, 2, 3, 4] (rfl) (by rw [curve_f1 hps hz c_4]; exact ⟨hR, rfl⟩) (rfl) rfl rfl (by omega) (by omega) d_CP_curve_48
    · skip
      refine lv_iload_n hx hb d_CP_curve_23 rfl (lv_at hl 3 rfl) ?_
      refine lv_i2l (v := x2.toInt64) hx hb d_CP_curve_24 rfl ?_
      refine lv_iload hx hb d_CP_curve_25 (lv_at hl 4 rfl) ?_
      refine lv_i2l (v := y2.toInt64) hx hb d_CP_curve_27 rfl ?_
      refine ct_callS (av := [.long x2.toInt64, .long y2.toInt64]) (rest := []) (wr := [(hc, .inr (0, [.ref hx_, .ref ha_, .ref hh, .ref hp, .ref hs])), (qk, .inl (cI, 3000, .inl K)), (qf, .inl (cI, 3000, .inl Fi)), (qx, .inl (cI, 9000, .inl X)), (qy, .inl (cI, 9000, .inl Y)), (hp, .inr (5, [.ref qk, .ref qf, .ref qx, .ref qy, .int (nI pc_), .int (nI pn), .int (nI pb)]))]) (n := 2) (c_CP_isFarPoint l D cI cB cJ qQ  x2.toInt64 y2.toInt64 ) hx hb hml hown hts (amb_ok qQ) hK hP hD hS hA hM (gi_S gw_158 gw_159 gw_28 gw_160) rfl (by decide +kernel) ⟨by omega, by omega⟩ [] [0, 1, 2, 3, 4, 5] rfl rfl rfl rfl (by decide) rfl hl.1 rfl (Nat.le_of_ble_eq_true rfl) d_CP_curve_28 ⟨by omega, by omega⟩ (fun u_5 H locs hok hP hD hS => ?_)
      have hP : va_P D cl [(hc, .inr (0, [.ref hx_, .ref ha_, .ref hh, .ref hp, .ref hs])), (qk, .inl (cI, 3000, .inl K)), (qf, .inl (cI, 3000, .inl Fi)), (qx, .inl (cI, 9000, .inl X)), (qy, .inl (cI, 9000, .inl Y)), (hp, .inr (5, [.ref qk, .ref qf, .ref qx, .ref qy, .int (nI pc_), .int (nI pn), .int (nI pb)]))] H := hP
      have hD : va_D A [(hc, .inr (0, [.ref hx_, .ref ha_, .ref hh, .ref hp, .ref hs])), (qk, .inl (cI, 3000, .inl K)), (qf, .inl (cI, 3000, .inl Fi)), (qx, .inl (cI, 9000, .inl X)), (qy, .inl (cI, 9000, .inl Y)), (hp, .inr (5, [.ref qk, .ref qf, .ref qx, .ref qy, .int (nI pc_), .int (nI pn), .int (nI pb)]))] := hD
      refine W.eq (g2 := F0 m 31 ls [.int (bz (fr x2.toInt64 || fr y2.toInt64))]) rfl ?_
      refine bb_ne (tgt := 46) hx hb d_CP_curve_31 (by decide) (fun c_6 => ?_) (fun c_6 => ?_)
      · skip
        refine lv_bipush (v := (-4)) hx hb d_CP_curve_46 (by decide) ?_
        exact ct_reti hQ hx hb hr hlocks hP hD hS ((-4), pc_, pn, pb, K, Fi, X, Y) [(hc, .inr (0, [.ref hx_, .ref ha_, .ref hh, .ref hp, .ref hs])), (hp, .inr (5, [.ref qk, .ref qf, .ref qx, .ref qy, .int (nI pc_), .int (nI pn), .int (nI pb)])), (qk, .inl (cI, 3000, .inl K)), (qf, .inl (cI, 3000, .inl Fi)), (qx, .inl (cI, 9000, .inl X)), (qy, .inl (cI, 9000, .inl Y))] [0, 5, 1, 2, 3, 4] (rfl) (by rw [curve_f2 hps hz c_6]; exact ⟨hR, rfl⟩) (rfl) rfl rfl (by omega) (by omega) d_CP_curve_48
      · skip
        refine lv_iload hx hb d_CP_curve_34 (lv_at hl 5 rfl) ?_
        refine lv_i2l (v := x3.toInt64) hx hb d_CP_curve_36 rfl ?_
        refine lv_iload hx hb d_CP_curve_37 (lv_at hl 6 rfl) ?_
        refine lv_i2l (v := y3.toInt64) hx hb d_CP_curve_39 rfl ?_
        refine ct_callS (av := [.long x3.toInt64, .long y3.toInt64]) (rest := []) (wr := [(hc, .inr (0, [.ref hx_, .ref ha_, .ref hh, .ref hp, .ref hs])), (qk, .inl (cI, 3000, .inl K)), (qf, .inl (cI, 3000, .inl Fi)), (qx, .inl (cI, 9000, .inl X)), (qy, .inl (cI, 9000, .inl Y)), (hp, .inr (5, [.ref qk, .ref qf, .ref qx, .ref qy, .int (nI pc_), .int (nI pn), .int (nI pb)]))]) (n := 2) (c_CP_isFarPoint l D cI cB cJ qQ  x3.toInt64 y3.toInt64 ) hx hb hml hown hts (amb_ok qQ) hK hP hD hS hA hM (gi_S gw_158 gw_159 gw_28 gw_160) rfl (by decide +kernel) ⟨by omega, by omega⟩ [] [0, 1, 2, 3, 4, 5] rfl rfl rfl rfl (by decide) rfl hl.1 rfl (Nat.le_of_ble_eq_true rfl) d_CP_curve_40 ⟨by omega, by omega⟩ (fun u_7 H locs hok hP hD hS => ?_)
        have hP : va_P D cl [(hc, .inr (0, [.ref hx_, .ref ha_, .ref hh, .ref hp, .ref hs])), (qk, .inl (cI, 3000, .inl K)), (qf, .inl (cI, 3000, .inl Fi)), (qx, .inl (cI, 9000, .inl X)), (qy, .inl (cI, 9000, .inl Y)), (hp, .inr (5, [.ref qk, .ref qf, .ref qx, .ref qy, .int (nI pc_), .int (nI pn), .int (nI pb)]))] H := hP
        have hD : va_D A [(hc, .inr (0, [.ref hx_, .ref ha_, .ref hh, .ref hp, .ref hs])), (qk, .inl (cI, 3000, .inl K)), (qf, .inl (cI, 3000, .inl Fi)), (qx, .inl (cI, 9000, .inl X)), (qy, .inl (cI, 9000, .inl Y)), (hp, .inr (5, [.ref qk, .ref qf, .ref qx, .ref qy, .int (nI pc_), .int (nI pn), .int (nI pb)]))] := hD
        refine W.eq (g2 := F0 m 43 ls [.int (bz (fr x3.toInt64 || fr y3.toInt64))]) rfl ?_
        refine bb_eq (tgt := 49) hx hb d_CP_curve_43 (by decide) (fun c_8 => ?_) (fun c_8 => ?_)
        · skip
          refine lv_aload_n hx hb d_CP_curve_49 rfl (lv_at hl 0 rfl) ?_
          refine va_get (D := D) (ci := 0) (v := .ref hp) (C := R_CP) (T := T_CP) (N := 5) hx hb hts (ui_CP _) hown hK hP 0 rfl rfl 3 (by decide) (hts _ (gwc gw_141)) (fun _ h9 => h9) rfl d_CP_curve_50 ?_
          refine lv_iconst (v := 1) hx hb d_CP_curve_53 (by decide) ?_
          refine ct_callV (ci := 5) (q0 := 5) (As := [.int 1]) (rest := []) (wr := [(hc, .inr (0, [.ref hx_, .ref ha_, .ref hh, .ref hp, .ref hs])), (qf, .inl (cI, 3000, .inl Fi)), (qx, .inl (cI, 9000, .inl X)), (qy, .inl (cI, 9000, .inl Y))]) (n := 1) (c_Path_takesSegments l D cI cB cJ qQ  hp qk qf qx qy pc_ pn pb 3000 K 1 (hpc) (hpc) (by decide) (by decide)) hx hb hml hown hts (amb_ok qQ) hK hP hD hS hA hM (gi_V gw_198 gw_199 gw_200 gw_32 gw_201) rfl (by decide +kernel) ⟨by omega, by omega⟩ [5, 1] [0, 2, 3, 4] rfl rfl rfl rfl (by decide) rfl rfl rfl hl.1 rfl (Nat.le_of_ble_eq_true rfl) d_CP_curve_54 ⟨by omega, by omega⟩ (fun u_9 H locs hok hP hD hS => ?_)
          have hP : va_P D cl [(hc, .inr (0, [.ref hx_, .ref ha_, .ref hh, .ref hp, .ref hs])), (qf, .inl (cI, 3000, .inl Fi)), (qx, .inl (cI, 9000, .inl X)), (qy, .inl (cI, 9000, .inl Y)), (hp, .inr (5, [.ref qk, .ref qf, .ref qx, .ref qy, .int (nI pc_), .int (nI pn), .int (nI pb)])), (qk, .inl (cI, 3000, .inl K))] H := hP
          have hD : va_D A [(hc, .inr (0, [.ref hx_, .ref ha_, .ref hh, .ref hp, .ref hs])), (qf, .inl (cI, 3000, .inl Fi)), (qx, .inl (cI, 9000, .inl X)), (qy, .inl (cI, 9000, .inl Y)), (hp, .inr (5, [.ref qk, .ref qf, .ref qx, .ref qy, .int (nI pc_), .int (nI pn), .int (nI pb)])), (qk, .inl (cI, 3000, .inl K))] := hD
          refine W.eq (g2 := F0 m 57 ls [.int (bz (decide (pc_ + (if 0 < pc_ ∧ K (pc_ - 1) = 3 then 1 + 1 else 1) ≤ 3000)))]) rfl ?_
          refine bb_ne (tgt := 63) hx hb d_CP_curve_57 (by decide) (fun c_10 => ?_) (fun c_10 => ?_)
          · skip
            have htk := of_decide_eq_true c_10
            rw [RI_seg hR] at htk
            refine lv_aload_n hx hb d_CP_curve_63 rfl (lv_at hl 0 rfl) ?_
            refine va_get (D := D) (ci := 0) (v := .ref hp) (C := R_CP) (T := T_CP) (N := 5) hx hb hts (ui_CP _) hown hK hP 0 rfl rfl 3 (by decide) (hts _ (gwc gw_141)) (fun _ h9 => h9) rfl d_CP_curve_64 ?_
            refine ct_callV (ci := 5) (q0 := 4) (As := []) (rest := []) (wr := [(hc, .inr (0, [.ref hx_, .ref ha_, .ref hh, .ref hp, .ref hs]))]) (n := 0) (c_Path_goOn l D cI cB cJ qQ  hp qk qf qx qy pc_ pn pb K Fi X Y ps (hR) (hps.1) (by omega)) hx hb hml hown hts (amb_ok qQ) hK hP hD hS hA hM (gi_V gw_207 gw_208 gw_209 gw_32 gw_210) rfl (by decide +kernel) ⟨by omega, by omega⟩ [4, 5, 1, 2, 3] [0] rfl rfl rfl rfl (by decide) rfl rfl rfl hl.1 rfl (Nat.le_of_ble_eq_true rfl) d_CP_curve_67 ⟨by omega, by omega⟩ (fun u_11 H locs hok hP hD hS => ?_)
            obtain ⟨pc2, pn2, pb2, K2, F2, X2, Y2⟩ := u_11
            have hgo : RIp pc2 pn2 pb2 K2 F2 X2 Y2 (ps ++ (opn ps).map q7p) := hok
            have hP : va_P D cl [(hc, .inr (0, [.ref hx_, .ref ha_, .ref hh, .ref hp, .ref hs])), (hp, .inr (5, [.ref qk, .ref qf, .ref qx, .ref qy, .int (nI pc2), .int (nI pn2), .int (nI pb2)])), (qk, .inl (cI, 3000, .inl K2)), (qf, .inl (cI, 3000, .inl F2)), (qx, .inl (cI, 9000, .inl X2)), (qy, .inl (cI, 9000, .inl Y2))] H := hP
            have hD : va_D A [(hc, .inr (0, [.ref hx_, .ref ha_, .ref hh, .ref hp, .ref hs])), (hp, .inr (5, [.ref qk, .ref qf, .ref qx, .ref qy, .int (nI pc2), .int (nI pn2), .int (nI pb2)])), (qk, .inl (cI, 3000, .inl K2)), (qf, .inl (cI, 3000, .inl F2)), (qx, .inl (cI, 9000, .inl X2)), (qy, .inl (cI, 9000, .inl Y2))] := hD
            refine W.eq (g2 := F0 m 70 ls []) rfl ?_
            have hb2 := RI_pn hgo
            have hc2 := hgo.1
            rw [List.length_append, List.length_map, hR.1] at hc2
            refine lv_aload_n hx hb d_CP_curve_70 rfl (lv_at hl 0 rfl) ?_
            refine va_get (D := D) (ci := 0) (v := .ref hp) (C := R_CP) (T := T_CP) (N := 5) hx hb hts (ui_CP _) hown hK hP 0 rfl rfl 3 (by decide) (hts _ (gwc gw_141)) (fun _ h9 => h9) rfl d_CP_curve_71 ?_
            refine lv_iload_n hx hb d_CP_curve_74 rfl (lv_at hl 1 rfl) ?_
            refine lv_iload_n hx hb d_CP_curve_75 rfl (lv_at hl 2 rfl) ?_
            refine lv_iload_n hx hb d_CP_curve_76 rfl (lv_at hl 3 rfl) ?_
            refine lv_iload hx hb d_CP_curve_77 (lv_at hl 4 rfl) ?_
            refine lv_iload hx hb d_CP_curve_79 (lv_at hl 5 rfl) ?_
            refine lv_iload hx hb d_CP_curve_81 (lv_at hl 6 rfl) ?_
            refine ct_callV (ci := 5) (q0 := 1) (As := [.int x1, .int y1, .int x2, .int y2, .int x3, .int y3]) (rest := []) (wr := [(hc, .inr (0, [.ref hx_, .ref ha_, .ref hh, .ref hp, .ref hs]))]) (n := 6) (c_Path_addCurve l D cI cB cJ qQ  hp qk qf qx qy pc2 pn2 pb2 K2 F2 X2 Y2 x1 y1 x2 y2 x3 y3 (by omega) (by omega)) hx hb hml hown hts (amb_ok qQ) hK hP hD hS hA hM (gi_V gw_220 gw_221 gw_222 gw_32 gw_223) rfl (by decide +kernel) ⟨by omega, by omega⟩ [1, 2, 3, 4, 5] [0] rfl rfl rfl rfl (by decide) rfl rfl rfl hl.1 rfl (Nat.le_of_ble_eq_true rfl) d_CP_curve_83 ⟨by omega, by omega⟩ (fun u_12 H locs hok hP hD hS => ?_)
            have hP : va_P D cl [(hc, .inr (0, [.ref hx_, .ref ha_, .ref hh, .ref hp, .ref hs])), (hp, .inr (5, [.ref qk, .ref qf, .ref qx, .ref qy, .int (nI (pc2 + 1)), .int (nI (pn2 + 1 + 1 + 1)), .int (nI pb2)])), (qk, .inl (cI, 3000, .inl (upd K2 pc2 2))), (qf, .inl (cI, 3000, .inl (upd F2 pc2 (nI pn2)))), (qx, .inl (cI, 9000, .inl (upd (upd (upd X2 pn2 x1) (pn2 + 1) x2) (pn2 + 1 + 1) x3))), (qy, .inl (cI, 9000, .inl (upd (upd (upd Y2 pn2 y1) (pn2 + 1) y2) (pn2 + 1 + 1) y3)))] H := hP
            have hD : va_D A [(hc, .inr (0, [.ref hx_, .ref ha_, .ref hh, .ref hp, .ref hs])), (hp, .inr (5, [.ref qk, .ref qf, .ref qx, .ref qy, .int (nI (pc2 + 1)), .int (nI (pn2 + 1 + 1 + 1)), .int (nI pb2)])), (qk, .inl (cI, 3000, .inl (upd K2 pc2 2))), (qf, .inl (cI, 3000, .inl (upd F2 pc2 (nI pn2)))), (qx, .inl (cI, 9000, .inl (upd (upd (upd X2 pn2 x1) (pn2 + 1) x2) (pn2 + 1 + 1) x3))), (qy, .inl (cI, 9000, .inl (upd (upd (upd Y2 pn2 y1) (pn2 + 1) y2) (pn2 + 1 + 1) y3)))] := hD
            refine W.eq (g2 := F0 m 86 ls []) rfl ?_
            refine lv_aload_n hx hb d_CP_curve_86 rfl (lv_at hl 0 rfl) ?_
            refine va_get (D := D) (ci := 0) (v := .ref hp) (C := R_CP) (T := T_CP) (N := 5) hx hb hts (ui_CP _) hown hK hP 0 rfl rfl 3 (by decide) (hts _ (gwc gw_141)) (fun _ h9 => h9) rfl d_CP_curve_87 ?_
            refine va_get (D := D) (ci := 5) (v := .int (nI (pc2 + 1))) (C := R_Path) (T := T_Path) (N := 7) hx hb hts (ui_Path _) hown hK hP 1 rfl rfl 4 (by decide) (hts _ (gwc gw_118)) (fun _ h9 => h9) rfl d_CP_curve_90 ?_
            exact ct_reti hQ hx hb hr hlocks hP hD hS (nI (pc2 + 1), pc2 + 1, pn2 + 1 + 1 + 1, pb2, upd K2 pc2 2, upd F2 pc2 (nI pn2), upd (upd (upd X2 pn2 x1) (pn2 + 1) x2) (pn2 + 1 + 1) x3, upd (upd (upd Y2 pn2 y1) (pn2 + 1) y2) (pn2 + 1 + 1) y3) [(hc, .inr (0, [.ref hx_, .ref ha_, .ref hh, .ref hp, .ref hs])), (hp, .inr (5, [.ref qk, .ref qf, .ref qx, .ref qy, .int (nI (pc2 + 1)), .int (nI (pn2 + 1 + 1 + 1)), .int (nI pb2)])), (qk, .inl (cI, 3000, .inl (upd K2 pc2 2))), (qf, .inl (cI, 3000, .inl (upd F2 pc2 (nI pn2)))), (qx, .inl (cI, 9000, .inl (upd (upd (upd X2 pn2 x1) (pn2 + 1) x2) (pn2 + 1 + 1) x3))), (qy, .inl (cI, 9000, .inl (upd (upd (upd Y2 pn2 y1) (pn2 + 1) y2) (pn2 + 1 + 1) y3)))] [0, 1, 2, 3, 4, 5] (rfl) (curve_okc hps hz c_4 c_6 c_8 (by rw [hR.1]; exact htk) hgo) (rfl) rfl rfl (by omega) (by omega) d_CP_curve_93
          · skip
            have htk := of_decide_eq_false c_10
            rw [RI_seg hR] at htk
            refine lv_bipush (v := (-3)) hx hb d_CP_curve_60 (by decide) ?_
            exact ct_reti hQ hx hb hr hlocks hP hD hS ((-3), pc_, pn, pb, K, Fi, X, Y) [(hc, .inr (0, [.ref hx_, .ref ha_, .ref hh, .ref hp, .ref hs])), (hp, .inr (5, [.ref qk, .ref qf, .ref qx, .ref qy, .int (nI pc_), .int (nI pn), .int (nI pb)])), (qk, .inl (cI, 3000, .inl K)), (qf, .inl (cI, 3000, .inl Fi)), (qx, .inl (cI, 9000, .inl X)), (qy, .inl (cI, 9000, .inl Y))] [0, 4, 5, 1, 2, 3] (rfl) (by rw [curve_full hps hz c_4 c_6 c_8 (by rw [hR.1]; exact htk)]; exact ⟨hR, rfl⟩) (rfl) rfl rfl (by omega) (by omega) d_CP_curve_62
        · skip
          refine lv_bipush (v := (-4)) hx hb d_CP_curve_46 (by decide) ?_
          exact ct_reti hQ hx hb hr hlocks hP hD hS ((-4), pc_, pn, pb, K, Fi, X, Y) [(hc, .inr (0, [.ref hx_, .ref ha_, .ref hh, .ref hp, .ref hs])), (hp, .inr (5, [.ref qk, .ref qf, .ref qx, .ref qy, .int (nI pc_), .int (nI pn), .int (nI pb)])), (qk, .inl (cI, 3000, .inl K)), (qf, .inl (cI, 3000, .inl Fi)), (qx, .inl (cI, 9000, .inl X)), (qy, .inl (cI, 9000, .inl Y))] [0, 5, 1, 2, 3, 4] (rfl) (by rw [curve_f3 hps hz c_8]; exact ⟨hR, rfl⟩) (rfl) rfl rfl (by omega) (by omega) d_CP_curve_48
  · skip
    have hz : ps.length = 0 := by rw [hR.1]; exact of_decide_eq_true c_2
    refine lv_bipush (v := (-2)) hx hb d_CP_curve_10 (by decide) ?_
    exact ct_reti hQ hx hb hr hlocks hP hD hS ((-2), pc_, pn, pb, K, Fi, X, Y) [(hc, .inr (0, [.ref hx_, .ref ha_, .ref hh, .ref hp, .ref hs])), (hp, .inr (5, [.ref qk, .ref qf, .ref qx, .ref qy, .int (nI pc_), .int (nI pn), .int (nI pb)])), (qk, .inl (cI, 3000, .inl K)), (qf, .inl (cI, 3000, .inl Fi)), (qx, .inl (cI, 9000, .inl X)), (qy, .inl (cI, 9000, .inl Y))] [0, 5, 1, 2, 3, 4] (rfl) (by rw [curve_no hz]; exact ⟨hR, rfl⟩) (rfl) rfl rfl (by omega) (by omega) d_CP_curve_12
set_option maxHeartbeats 4000000 in
set_option maxRecDepth 100000 in
/-- close -/
theorem c_CP_close (l : Launch) (D : va_G) (cI cB cJ : ClassId) (qQ : Nat) (hc : Nat) (hx_ : Nat) (ha_ : Nat) (hh : Nat) (hs : Nat) (hp : Nat) (qk : Nat) (qf : Nat) (qx : Nat) (qy : Nat) (pc_ : Nat) (pn : Nat) (pb : Nat) (K : Nat → Int32) (Fi : Nat → Int32) (X : Nat → Int32) (Y : Nat → Int32) (ps : List Pt) (hR : RIp pc_ pn pb K Fi X Y ps) (hps : pkp ps) : ct l D cl [(cI, .int), (cB, .byte), (cJ, .long)] (amb qQ) y_CP_close w_CP_close 2 42 (0) (0) [.ref hc] [(hc, .inr (0, [.ref hx_, .ref ha_, .ref hh, .ref hp, .ref hs])), (hp, .inr (5, [.ref qk, .ref qf, .ref qx, .ref qy, .int (nI pc_), .int (nI pn), .int (nI pb)])), (qk, .inl (cI, 3000, .inl K)), (qf, .inl (cI, 3000, .inl Fi)), (qx, .inl (cI, 9000, .inl X)), (qy, .inl (cI, 9000, .inl Y))] (fun u_ : Int32 × Nat × Nat × Nat × (Nat → Int32) × (Nat → Int32) × (Nat → Int32) × (Nat → Int32) => match u_ with | (r, pc', pn', pb', K', F', X', Y') => RIp pc' pn' pb' K' F' X' Y' (rClose ps).2 ∧ r = (rClose ps).1) (fun u_ : Int32 × Nat × Nat × Nat × (Nat → Int32) × (Nat → Int32) × (Nat → Int32) × (Nat → Int32) => match u_ with | (r, pc', pn', pb', K', F', X', Y') => some (.int r)) (fun u_ : Int32 × Nat × Nat × Nat × (Nat → Int32) × (Nat → Int32) × (Nat → Int32) × (Nat → Int32) => match u_ with | (r, pc', pn', pb', K', F', X', Y') => [(hc, .inr (0, [.ref hx_, .ref ha_, .ref hh, .ref hp, .ref hs])), (hp, .inr (5, [.ref qk, .ref qf, .ref qx, .ref qy, .int (nI pc'), .int (nI pn'), .int (nI pb')])), (qk, .inl (cI, 3000, .inl K')), (qf, .inl (cI, 3000, .inl F')), (qx, .inl (cI, 9000, .inl X')), (qy, .inl (cI, 9000, .inl Y'))]) := by
  refine ct_ofW (cc := b_CP_close) (maxL := 1) (ret := (some .int)) (by decide) rfl (Nat.le_of_ble_eq_true rfl) ?_
  intro p e R s m args below meth c A Q ls hx hb hr hml hts hown hlocks hname hRf hRc hRs hRl hQ hK hP hD hS hA hM hl
  have hl : lv_has ls 1 [(0, .ref hc)] := hl
  have hpc := hps.2
  rw [hR.1] at hpc
  have hpn := RI_pn hR
  refine lv_aload_n hx hb d_CP_close_0 rfl (lv_at hl 0 rfl) ?_
  refine va_get (D := D) (ci := 0) (v := .ref hp) (C := R_CP) (T := T_CP) (N := 5) hx hb hts (ui_CP _) hown hK hP 0 rfl rfl 3 (by decide) (hts _ (gwc gw_141)) (fun _ h9 => h9) rfl d_CP_close_1 ?_
  refine ct_callV (ci := 5) (q0 := 1) (As := []) (rest := []) (wr := [(hc, .inr (0, [.ref hx_, .ref ha_, .ref hh, .ref hp, .ref hs])), (qk, .inl (cI, 3000, .inl K)), (qf, .inl (cI, 3000, .inl Fi)), (qx, .inl (cI, 9000, .inl X)), (qy, .inl (cI, 9000, .inl Y))]) (n := 0) (c_Path_isEmpty l D cI cB cJ qQ  hp qk qf qx qy pc_ pn pb (hpc)) hx hb hml hown hts (amb_ok qQ) hK hP hD hS hA hM (gi_V gw_194 gw_195 gw_196 gw_32 gw_197) rfl (by decide +kernel) ⟨by omega, by omega⟩ [1] [0, 2, 3, 4, 5] rfl rfl rfl rfl (by decide) rfl rfl rfl hl.1 rfl (Nat.le_of_ble_eq_true rfl) d_CP_close_4 ⟨by omega, by omega⟩ (fun u_1 H locs hok hP hD hS => ?_)
  have hP : va_P D cl [(hc, .inr (0, [.ref hx_, .ref ha_, .ref hh, .ref hp, .ref hs])), (qk, .inl (cI, 3000, .inl K)), (qf, .inl (cI, 3000, .inl Fi)), (qx, .inl (cI, 9000, .inl X)), (qy, .inl (cI, 9000, .inl Y)), (hp, .inr (5, [.ref qk, .ref qf, .ref qx, .ref qy, .int (nI pc_), .int (nI pn), .int (nI pb)]))] H := hP
  have hD : va_D A [(hc, .inr (0, [.ref hx_, .ref ha_, .ref hh, .ref hp, .ref hs])), (qk, .inl (cI, 3000, .inl K)), (qf, .inl (cI, 3000, .inl Fi)), (qx, .inl (cI, 9000, .inl X)), (qy, .inl (cI, 9000, .inl Y)), (hp, .inr (5, [.ref qk, .ref qf, .ref qx, .ref qy, .int (nI pc_), .int (nI pn), .int (nI pb)]))] := hD
  refine W.eq (g2 := F0 m 7 ls [.int (bz (decide (pc_ = 0)))]) rfl ?_
  refine bb_ne (tgt := 20) hx hb d_CP_close_7 (by decide) (fun c_2 => ?_) (fun c_2 => ?_)
  · skip
    have hz : ps.length = 0 := by rw [hR.1]; exact of_decide_eq_true c_2
    refine lv_aload_n hx hb d_CP_close_20 rfl (lv_at hl 0 rfl) ?_
    refine va_get (D := D) (ci := 0) (v := .ref hp) (C := R_CP) (T := T_CP) (N := 5) hx hb hts (ui_CP _) hown hK hP 0 rfl rfl 3 (by decide) (hts _ (gwc gw_141)) (fun _ h9 => h9) rfl d_CP_close_21 ?_
    refine va_get (D := D) (ci := 5) (v := .int (nI pc_)) (C := R_Path) (T := T_Path) (N := 7) hx hb hts (ui_Path _) hown hK hP 5 rfl rfl 4 (by decide) (hts _ (gwc gw_118)) (fun _ h9 => h9) rfl d_CP_close_24 ?_
    exact ct_reti hQ hx hb hr hlocks hP hD hS (nI pc_, pc_, pn, pb, K, Fi, X, Y) [(hc, .inr (0, [.ref hx_, .ref ha_, .ref hh, .ref hp, .ref hs])), (hp, .inr (5, [.ref qk, .ref qf, .ref qx, .ref qy, .int (nI pc_), .int (nI pn), .int (nI pb)])), (qk, .inl (cI, 3000, .inl K)), (qf, .inl (cI, 3000, .inl Fi)), (qx, .inl (cI, 9000, .inl X)), (qy, .inl (cI, 9000, .inl Y))] [0, 5, 1, 2, 3, 4] (rfl) (by rw [close_id (Or.inl hz), hR.1]; exact ⟨hR, rfl⟩) (rfl) rfl rfl (by omega) (by omega) d_CP_close_27
  · skip
    have hz : ¬ ps.length = 0 := by rw [hR.1]; exact of_decide_eq_false c_2
    refine lv_aload_n hx hb d_CP_close_10 rfl (lv_at hl 0 rfl) ?_
    refine va_get (D := D) (ci := 0) (v := .ref hp) (C := R_CP) (T := T_CP) (N := 5) hx hb hts (ui_CP _) hown hK hP 0 rfl rfl 3 (by decide) (hts _ (gwc gw_141)) (fun _ h9 => h9) rfl d_CP_close_11 ?_
    refine ct_callV (ci := 5) (q0 := 5) (As := []) (rest := []) (wr := [(hc, .inr (0, [.ref hx_, .ref ha_, .ref hh, .ref hp, .ref hs])), (qf, .inl (cI, 3000, .inl Fi)), (qx, .inl (cI, 9000, .inl X)), (qy, .inl (cI, 9000, .inl Y))]) (n := 0) (c_Path_isClosed l D cI cB cJ qQ  hp qk qf qx qy pc_ pn pb 3000 K (hpc) (hpc) (by decide)) hx hb hml hown hts (amb_ok qQ) hK hP hD hS hA hM (gi_V gw_228 gw_203 gw_204 gw_32 gw_205) rfl (by decide +kernel) ⟨by omega, by omega⟩ [5, 1] [0, 2, 3, 4] rfl rfl rfl rfl (by decide) rfl rfl rfl hl.1 rfl (Nat.le_of_ble_eq_true rfl) d_CP_close_14 ⟨by omega, by omega⟩ (fun u_3 H locs hok hP hD hS => ?_)
    have hP : va_P D cl [(hc, .inr (0, [.ref hx_, .ref ha_, .ref hh, .ref hp, .ref hs])), (qf, .inl (cI, 3000, .inl Fi)), (qx, .inl (cI, 9000, .inl X)), (qy, .inl (cI, 9000, .inl Y)), (hp, .inr (5, [.ref qk, .ref qf, .ref qx, .ref qy, .int (nI pc_), .int (nI pn), .int (nI pb)])), (qk, .inl (cI, 3000, .inl K))] H := hP
    have hD : va_D A [(hc, .inr (0, [.ref hx_, .ref ha_, .ref hh, .ref hp, .ref hs])), (qf, .inl (cI, 3000, .inl Fi)), (qx, .inl (cI, 9000, .inl X)), (qy, .inl (cI, 9000, .inl Y)), (hp, .inr (5, [.ref qk, .ref qf, .ref qx, .ref qy, .int (nI pc_), .int (nI pn), .int (nI pb)])), (qk, .inl (cI, 3000, .inl K))] := hD
    refine W.eq (g2 := F0 m 17 ls [.int (bz (decide (0 < pc_ ∧ K (pc_ - 1) = 3)))]) rfl ?_
    refine bb_eq (tgt := 28) hx hb d_CP_close_17 (by decide) (fun c_4 => ?_) (fun c_4 => ?_)
    · skip
      have hk3 : ¬ lk ps = 3 := fun z => of_decide_eq_false c_4 ((RI_lk hR (by decide)).mpr z)
      refine lv_aload_n hx hb d_CP_close_28 rfl (lv_at hl 0 rfl) ?_
      refine va_get (D := D) (ci := 0) (v := .ref hp) (C := R_CP) (T := T_CP) (N := 5) hx hb hts (ui_CP _) hown hK hP 0 rfl rfl 3 (by decide) (hts _ (gwc gw_141)) (fun _ h9 => h9) rfl d_CP_close_29 ?_
      refine lv_iconst (v := 1) hx hb d_CP_close_32 (by decide) ?_
      refine ct_callV (ci := 5) (q0 := 4) (As := [.int 1]) (rest := []) (wr := [(hc, .inr (0, [.ref hx_, .ref ha_, .ref hh, .ref hp, .ref hs])), (qf, .inl (cI, 3000, .inl Fi)), (qx, .inl (cI, 9000, .inl X)), (qy, .inl (cI, 9000, .inl Y)), (qk, .inl (cI, 3000, .inl K))]) (n := 1) (c_Path_takes l D cI cB cJ qQ  hp qk qf qx qy pc_ pn pb 1 (hpc) (by decide)) hx hb hml hown hts (amb_ok qQ) hK hP hD hS hA hM (gi_V gw_174 gw_175 gw_176 gw_32 gw_177) rfl (by decide +kernel) ⟨by omega, by omega⟩ [4] [0, 1, 2, 3, 5] rfl rfl rfl rfl (by decide) rfl rfl rfl hl.1 rfl (Nat.le_of_ble_eq_true rfl) d_CP_close_33 ⟨by omega, by omega⟩ (fun u_5 H locs hok hP hD hS => ?_)
      have hP : va_P D cl [(hc, .inr (0, [.ref hx_, .ref ha_, .ref hh, .ref hp, .ref hs])), (qf, .inl (cI, 3000, .inl Fi)), (qx, .inl (cI, 9000, .inl X)), (qy, .inl (cI, 9000, .inl Y)), (qk, .inl (cI, 3000, .inl K)), (hp, .inr (5, [.ref qk, .ref qf, .ref qx, .ref qy, .int (nI pc_), .int (nI pn), .int (nI pb)]))] H := hP
      have hD : va_D A [(hc, .inr (0, [.ref hx_, .ref ha_, .ref hh, .ref hp, .ref hs])), (qf, .inl (cI, 3000, .inl Fi)), (qx, .inl (cI, 9000, .inl X)), (qy, .inl (cI, 9000, .inl Y)), (qk, .inl (cI, 3000, .inl K)), (hp, .inr (5, [.ref qk, .ref qf, .ref qx, .ref qy, .int (nI pc_), .int (nI pn), .int (nI pb)]))] := hD
      refine W.eq (g2 := F0 m 36 ls [.int (bz (decide (pc_ + 1 ≤ 3000)))]) rfl ?_
      refine bb_ne (tgt := 42) hx hb d_CP_close_36 (by decide) (fun c_6 => ?_) (fun c_6 => ?_)
      · skip
        have htk := of_decide_eq_true c_6
        refine lv_aload_n hx hb d_CP_close_42 rfl (lv_at hl 0 rfl) ?_
        refine va_get (D := D) (ci := 0) (v := .ref hp) (C := R_CP) (T := T_CP) (N := 5) hx hb hts (ui_CP _) hown hK hP 0 rfl rfl 3 (by decide) (hts _ (gwc gw_141)) (fun _ h9 => h9) rfl d_CP_close_43 ?_
        refine ct_callV (ci := 5) (q0 := 5) (As := []) (rest := []) (wr := [(hc, .inr (0, [.ref hx_, .ref ha_, .ref hh, .ref hp, .ref hs])), (qx, .inl (cI, 9000, .inl X)), (qy, .inl (cI, 9000, .inl Y))]) (n := 0) (c_Path_addClosing l D cI cB cJ qQ  hp qk qf qx qy pc_ pn pb K Fi (by omega)) hx hb hml hown hts (amb_ok qQ) hK hP hD hS hA hM (gi_V gw_229 gw_230 gw_231 gw_32 gw_232) rfl (by decide +kernel) ⟨by omega, by omega⟩ [5, 4, 1] [0, 2, 3] rfl rfl rfl rfl (by decide) rfl rfl rfl hl.1 rfl (Nat.le_of_ble_eq_true rfl) d_CP_close_46 ⟨by omega, by omega⟩ (fun u_7 H locs hok hP hD hS => ?_)
        have hP : va_P D cl [(hc, .inr (0, [.ref hx_, .ref ha_, .ref hh, .ref hp, .ref hs])), (qx, .inl (cI, 9000, .inl X)), (qy, .inl (cI, 9000, .inl Y)), (hp, .inr (5, [.ref qk, .ref qf, .ref qx, .ref qy, .int (nI (pc_ + 1)), .int (nI pn), .int (nI pb)])), (qk, .inl (cI, 3000, .inl (upd K pc_ 3))), (qf, .inl (cI, 3000, .inl (upd Fi pc_ (nI pb))))] H := hP
        have hD : va_D A [(hc, .inr (0, [.ref hx_, .ref ha_, .ref hh, .ref hp, .ref hs])), (qx, .inl (cI, 9000, .inl X)), (qy, .inl (cI, 9000, .inl Y)), (hp, .inr (5, [.ref qk, .ref qf, .ref qx, .ref qy, .int (nI (pc_ + 1)), .int (nI pn), .int (nI pb)])), (qk, .inl (cI, 3000, .inl (upd K pc_ 3))), (qf, .inl (cI, 3000, .inl (upd Fi pc_ (nI pb))))] := hD
        refine W.eq (g2 := F0 m 49 ls []) rfl ?_
        refine lv_aload_n hx hb d_CP_close_49 rfl (lv_at hl 0 rfl) ?_
        refine va_get (D := D) (ci := 0) (v := .ref hp) (C := R_CP) (T := T_CP) (N := 5) hx hb hts (ui_CP _) hown hK hP 0 rfl rfl 3 (by decide) (hts _ (gwc gw_141)) (fun _ h9 => h9) rfl d_CP_close_50 ?_
        refine va_get (D := D) (ci := 5) (v := .int (nI (pc_ + 1))) (C := R_Path) (T := T_Path) (N := 7) hx hb hts (ui_Path _) hown hK hP 3 rfl rfl 4 (by decide) (hts _ (gwc gw_118)) (fun _ h9 => h9) rfl d_CP_close_53 ?_
        exact ct_reti hQ hx hb hr hlocks hP hD hS (nI (pc_ + 1), pc_ + 1, pn, pb, upd K pc_ 3, upd Fi pc_ (nI pb), X, Y) [(hc, .inr (0, [.ref hx_, .ref ha_, .ref hh, .ref hp, .ref hs])), (hp, .inr (5, [.ref qk, .ref qf, .ref qx, .ref qy, .int (nI (pc_ + 1)), .int (nI pn), .int (nI pb)])), (qk, .inl (cI, 3000, .inl (upd K pc_ 3))), (qf, .inl (cI, 3000, .inl (upd Fi pc_ (nI pb)))), (qx, .inl (cI, 9000, .inl X)), (qy, .inl (cI, 9000, .inl Y))] [0, 3, 4, 5, 1, 2] (rfl) (close_okc hps hz hk3 (by rw [hR.1]; exact htk) hR) (rfl) rfl rfl (by omega) (by omega) d_CP_close_56
      · skip
        have htk := of_decide_eq_false c_6
        refine lv_bipush (v := (-3)) hx hb d_CP_close_39 (by decide) ?_
        exact ct_reti hQ hx hb hr hlocks hP hD hS ((-3), pc_, pn, pb, K, Fi, X, Y) [(hc, .inr (0, [.ref hx_, .ref ha_, .ref hh, .ref hp, .ref hs])), (hp, .inr (5, [.ref qk, .ref qf, .ref qx, .ref qy, .int (nI pc_), .int (nI pn), .int (nI pb)])), (qk, .inl (cI, 3000, .inl K)), (qf, .inl (cI, 3000, .inl Fi)), (qx, .inl (cI, 9000, .inl X)), (qy, .inl (cI, 9000, .inl Y))] [0, 5, 4, 1, 2, 3] (rfl) (by rw [close_full hps hz hk3 (by rw [hR.1]; exact htk)]; exact ⟨hR, rfl⟩) (rfl) rfl rfl (by omega) (by omega) d_CP_close_41
    · skip
      have hk3 := (RI_lk hR (by decide)).mp (of_decide_eq_true c_4)
      refine lv_aload_n hx hb d_CP_close_20 rfl (lv_at hl 0 rfl) ?_
      refine va_get (D := D) (ci := 0) (v := .ref hp) (C := R_CP) (T := T_CP) (N := 5) hx hb hts (ui_CP _) hown hK hP 0 rfl rfl 3 (by decide) (hts _ (gwc gw_141)) (fun _ h9 => h9) rfl d_CP_close_21 ?_
      refine va_get (D := D) (ci := 5) (v := .int (nI pc_)) (C := R_Path) (T := T_Path) (N := 7) hx hb hts (ui_Path _) hown hK hP 4 rfl rfl 4 (by decide) (hts _ (gwc gw_118)) (fun _ h9 => h9) rfl d_CP_close_24 ?_
      exact ct_reti hQ hx hb hr hlocks hP hD hS (nI pc_, pc_, pn, pb, K, Fi, X, Y) [(hc, .inr (0, [.ref hx_, .ref ha_, .ref hh, .ref hp, .ref hs])), (hp, .inr (5, [.ref qk, .ref qf, .ref qx, .ref qy, .int (nI pc_), .int (nI pn), .int (nI pb)])), (qk, .inl (cI, 3000, .inl K)), (qf, .inl (cI, 3000, .inl Fi)), (qx, .inl (cI, 9000, .inl X)), (qy, .inl (cI, 9000, .inl Y))] [0, 4, 5, 1, 2, 3] (rfl) (by rw [close_id (Or.inr hk3), hR.1]; exact ⟨hR, rfl⟩) (rfl) rfl rfl (by omega) (by omega) d_CP_close_27
set_option maxHeartbeats 4000000 in
set_option maxRecDepth 100000 in
/-- clear -/
theorem c_CP_clear (l : Launch) (D : va_G) (cI cB cJ : ClassId) (qQ : Nat) (hc : Nat) (hx_ : Nat) (ha_ : Nat) (hh : Nat) (hs : Nat) (hp : Nat) (qk : Nat) (qf : Nat) (qx : Nat) (qy : Nat) (pc_ : Nat) (pn : Nat) (pb : Nat) (K : Nat → Int32) (Fi : Nat → Int32) (X : Nat → Int32) (Y : Nat → Int32) (ps : List Pt) (hR : RIp pc_ pn pb K Fi X Y ps) (hps : pkp ps) : ct l D cl [(cI, .int), (cB, .byte), (cJ, .long)] (amb qQ) y_CP_clear w_CP_clear 1 20 (0) (0) [.ref hc] [(hc, .inr (0, [.ref hx_, .ref ha_, .ref hh, .ref hp, .ref hs])), (hp, .inr (5, [.ref qk, .ref qf, .ref qx, .ref qy, .int (nI pc_), .int (nI pn), .int (nI pb)])), (qk, .inl (cI, 3000, .inl K)), (qf, .inl (cI, 3000, .inl Fi)), (qx, .inl (cI, 9000, .inl X)), (qy, .inl (cI, 9000, .inl Y))] (fun u_ : Int32 × Nat × Nat × Nat × (Nat → Int32) × (Nat → Int32) × (Nat → Int32) × (Nat → Int32) => match u_ with | (r, pc', pn', pb', K', F', X', Y') => RIp pc' pn' pb' K' F' X' Y' (rClear ps).2 ∧ r = (rClear ps).1) (fun u_ : Int32 × Nat × Nat × Nat × (Nat → Int32) × (Nat → Int32) × (Nat → Int32) × (Nat → Int32) => match u_ with | (r, pc', pn', pb', K', F', X', Y') => some (.int r)) (fun u_ : Int32 × Nat × Nat × Nat × (Nat → Int32) × (Nat → Int32) × (Nat → Int32) × (Nat → Int32) => match u_ with | (r, pc', pn', pb', K', F', X', Y') => [(hc, .inr (0, [.ref hx_, .ref ha_, .ref hh, .ref hp, .ref hs])), (hp, .inr (5, [.ref qk, .ref qf, .ref qx, .ref qy, .int (nI pc'), .int (nI pn'), .int (nI pb')])), (qk, .inl (cI, 3000, .inl K')), (qf, .inl (cI, 3000, .inl F')), (qx, .inl (cI, 9000, .inl X')), (qy, .inl (cI, 9000, .inl Y'))]) := by
  refine ct_ofW (cc := b_CP_clear) (maxL := 2) (ret := (some .int)) (by decide) rfl (Nat.le_of_ble_eq_true rfl) ?_
  intro p e R s m args below meth c A Q ls hx hb hr hml hts hown hlocks hname hRf hRc hRs hRl hQ hK hP hD hS hA hM hl
  have hl : lv_has ls 2 [(0, .ref hc)] := hl
  have hpc := hps.2
  rw [hR.1] at hpc
  have hpn := RI_pn hR
  refine lv_aload_n hx hb d_CP_clear_0 rfl (lv_at hl 0 rfl) ?_
  refine va_get (D := D) (ci := 0) (v := .ref hp) (C := R_CP) (T := T_CP) (N := 5) hx hb hts (ui_CP _) hown hK hP 0 rfl rfl 3 (by decide) (hts _ (gwc gw_141)) (fun _ h9 => h9) rfl d_CP_clear_1 ?_
  refine va_get (D := D) (ci := 5) (v := .int (nI pc_)) (C := R_Path) (T := T_Path) (N := 7) hx hb hts (ui_Path _) hown hK hP 1 rfl rfl 4 (by decide) (hts _ (gwc gw_118)) (fun _ h9 => h9) rfl d_CP_clear_4 ?_
  refine lv_istore_n (lv' := [(1, .int (nI pc_)), (0, .ref hc)]) hx hb d_CP_clear_7 rfl hl (by decide) rfl (fun ls hl => ?_)
  refine lv_aload_n hx hb d_CP_clear_8 rfl (lv_at hl 1 rfl) ?_
  refine va_get (D := D) (ci := 0) (v := .ref hp) (C := R_CP) (T := T_CP) (N := 5) hx hb hts (ui_CP _) hown hK hP 0 rfl rfl 3 (by decide) (hts _ (gwc gw_141)) (fun _ h9 => h9) rfl d_CP_clear_9 ?_
  refine ct_callV (ci := 5) (q0 := 1) (As := []) (rest := []) (wr := [(hc, .inr (0, [.ref hx_, .ref ha_, .ref hh, .ref hp, .ref hs])), (qk, .inl (cI, 3000, .inl K)), (qf, .inl (cI, 3000, .inl Fi)), (qx, .inl (cI, 9000, .inl X)), (qy, .inl (cI, 9000, .inl Y))]) (n := 0) (c_Path_makeEmpty l D cI cB cJ qQ  hp qk qf qx qy pc_ pn pb ) hx hb hml hown hts (amb_ok qQ) hK hP hD hS hA hM (gi_V gw_377 gw_378 gw_379 gw_32 gw_380) rfl (by decide +kernel) ⟨by omega, by omega⟩ [1] [0, 2, 3, 4, 5] rfl rfl rfl rfl (by decide) rfl rfl rfl hl.1 rfl (Nat.le_of_ble_eq_true rfl) d_CP_clear_12 ⟨by omega, by omega⟩ (fun u_1 H locs hok hP hD hS => ?_)
  have hP : va_P D cl [(hc, .inr (0, [.ref hx_, .ref ha_, .ref hh, .ref hp, .ref hs])), (qk, .inl (cI, 3000, .inl K)), (qf, .inl (cI, 3000, .inl Fi)), (qx, .inl (cI, 9000, .inl X)), (qy, .inl (cI, 9000, .inl Y)), (hp, .inr (5, [.ref qk, .ref qf, .ref qx, .ref qy, .int (nI 0), .int (nI 0), .int (nI 0)]))] H := hP
  have hD : va_D A [(hc, .inr (0, [.ref hx_, .ref ha_, .ref hh, .ref hp, .ref hs])), (qk, .inl (cI, 3000, .inl K)), (qf, .inl (cI, 3000, .inl Fi)), (qx, .inl (cI, 9000, .inl X)), (qy, .inl (cI, 9000, .inl Y)), (hp, .inr (5, [.ref qk, .ref qf, .ref qx, .ref qy, .int (nI 0), .int (nI 0), .int (nI 0)]))] := hD
  refine W.eq (g2 := F0 m 15 ls []) rfl ?_
  refine lv_iload_n hx hb d_CP_clear_15 rfl (lv_at hl 0 rfl) ?_
  exact ct_reti hQ hx hb hr hlocks hP hD hS (nI pc_, 0, 0, 0, K, Fi, X, Y) [(hc, .inr (0, [.ref hx_, .ref ha_, .ref hh, .ref hp, .ref hs])), (hp, .inr (5, [.ref qk, .ref qf, .ref qx, .ref qy, .int (nI 0), .int (nI 0), .int (nI 0)])), (qk, .inl (cI, 3000, .inl K)), (qf, .inl (cI, 3000, .inl Fi)), (qx, .inl (cI, 9000, .inl X)), (qy, .inl (cI, 9000, .inl Y))] [0, 5, 1, 2, 3, 4] (rfl) (⟨RI_0, by rw [← hR.1]; rfl⟩) (rfl) rfl rfl (by omega) (by omega) d_CP_clear_16
set_option maxHeartbeats 4000000 in
set_option maxRecDepth 100000 in
/-- shift -/
theorem c_CP_shift (l : Launch) (D : va_G) (cI cB cJ : ClassId) (qQ : Nat) (hc : Nat) (hx_ : Nat) (ha_ : Nat) (hh : Nat) (hs : Nat) (hp : Nat) (qk : Nat) (qf : Nat) (qx : Nat) (qy : Nat) (pc_ : Nat) (pn : Nat) (pb : Nat) (K : Nat → Int32) (Fi : Nat → Int32) (X : Nat → Int32) (Y : Nat → Int32) (ps : List Pt) (dx : Int32) (dy : Int32) (hR : RIp pc_ pn pb K Fi X Y ps) (hps : pkp ps) : ct l D cl [(cI, .int), (cB, .byte), (cJ, .long)] (amb qQ) y_CP_shift w_CP_shift 2 44 (0) (0) [.ref hc, .int dx, .int dy] [(hc, .inr (0, [.ref hx_, .ref ha_, .ref hh, .ref hp, .ref hs])), (hp, .inr (5, [.ref qk, .ref qf, .ref qx, .ref qy, .int (nI pc_), .int (nI pn), .int (nI pb)])), (qk, .inl (cI, 3000, .inl K)), (qf, .inl (cI, 3000, .inl Fi)), (qx, .inl (cI, 9000, .inl X)), (qy, .inl (cI, 9000, .inl Y))] (fun u_ : Int32 × Nat × Nat × Nat × (Nat → Int32) × (Nat → Int32) × (Nat → Int32) × (Nat → Int32) => match u_ with | (r, pc', pn', pb', K', F', X', Y') => RIp pc' pn' pb' K' F' X' Y' (rShift ps dx dy).2 ∧ r = (rShift ps dx dy).1) (fun u_ : Int32 × Nat × Nat × Nat × (Nat → Int32) × (Nat → Int32) × (Nat → Int32) × (Nat → Int32) => match u_ with | (r, pc', pn', pb', K', F', X', Y') => some (.int r)) (fun u_ : Int32 × Nat × Nat × Nat × (Nat → Int32) × (Nat → Int32) × (Nat → Int32) × (Nat → Int32) => match u_ with | (r, pc', pn', pb', K', F', X', Y') => [(hc, .inr (0, [.ref hx_, .ref ha_, .ref hh, .ref hp, .ref hs])), (hp, .inr (5, [.ref qk, .ref qf, .ref qx, .ref qy, .int (nI pc'), .int (nI pn'), .int (nI pb')])), (qk, .inl (cI, 3000, .inl K')), (qf, .inl (cI, 3000, .inl F')), (qx, .inl (cI, 9000, .inl X')), (qy, .inl (cI, 9000, .inl Y'))]) := by
  refine ct_ofW (cc := b_CP_shift) (maxL := 3) (ret := (some .int)) (by decide) rfl (Nat.le_of_ble_eq_true rfl) ?_
  intro p e R s m args below meth c A Q ls hx hb hr hml hts hown hlocks hname hRf hRc hRs hRl hQ hK hP hD hS hA hM hl
  have hl : lv_has ls 3 [(0, .ref hc), (1, .int dx), (2, .int dy)] := hl
  have hpc := hps.2
  rw [hR.1] at hpc
  have hpn := RI_pn hR
  refine lv_aload_n hx hb d_CP_shift_0 rfl (lv_at hl 0 rfl) ?_
  refine va_get (D := D) (ci := 0) (v := .ref hp) (C := R_CP) (T := T_CP) (N := 5) hx hb hts (ui_CP _) hown hK hP 0 rfl rfl 3 (by decide) (hts _ (gwc gw_141)) (fun _ h9 => h9) rfl d_CP_shift_1 ?_
  refine va_get (D := D) (ci := 5) (v := .ref qx) (C := R_Path) (T := T_Path) (N := 7) hx hb hts (ui_Path _) hown hK hP 1 rfl rfl 2 (by decide) (hts _ (gwc gw_113)) (fun _ h9 => h9) rfl d_CP_shift_4 ?_
  refine lv_aload_n hx hb d_CP_shift_7 rfl (lv_at hl 0 rfl) ?_
  refine va_get (D := D) (ci := 0) (v := .ref hp) (C := R_CP) (T := T_CP) (N := 5) hx hb hts (ui_CP _) hown hK hP 0 rfl rfl 3 (by decide) (hts _ (gwc gw_141)) (fun _ h9 => h9) rfl d_CP_shift_8 ?_
  refine va_get (D := D) (ci := 5) (v := .int (nI pn)) (C := R_Path) (T := T_Path) (N := 7) hx hb hts (ui_Path _) hown hK hP 1 rfl rfl 5 (by decide) (hts _ (gwc gw_120)) (fun _ h9 => h9) rfl d_CP_shift_11 ?_
  refine lv_iload_n hx hb d_CP_shift_14 rfl (lv_at hl 1 rfl) ?_
  refine ct_callS (av := [.ref qx, .int (nI pn), .int dx]) (rest := []) (wr := [(hc, .inr (0, [.ref hx_, .ref ha_, .ref hh, .ref hp, .ref hs])), (hp, .inr (5, [.ref qk, .ref qf, .ref qx, .ref qy, .int (nI pc_), .int (nI pn), .int (nI pb)])), (qk, .inl (cI, 3000, .inl K)), (qf, .inl (cI, 3000, .inl Fi)), (qy, .inl (cI, 9000, .inl Y))]) (n := 3) (c_CP_staysNear l D cI cB cJ qQ  qx 9000 X pn dx (by omega) (by decide)) hx hb hml hown hts (amb_ok qQ) hK hP hD hS hA hM (gi_S gw_349 gw_350 gw_28 gw_351) rfl (by decide +kernel) ⟨by omega, by omega⟩ [4] [0, 1, 2, 3, 5] rfl rfl rfl rfl (by decide) rfl hl.1 rfl (Nat.le_of_ble_eq_true rfl) d_CP_shift_15 ⟨by omega, by omega⟩ (fun u_1 H locs hok hP hD hS => ?_)
  obtain ⟨r1, er1⟩ : ∃ z, z = u_1 := ⟨_, rfl⟩
  subst er1
  have hn1 : r1 = true ↔ near X pn dx := hok
  have hP : va_P D cl [(hc, .inr (0, [.ref hx_, .ref ha_, .ref hh, .ref hp, .ref hs])), (hp, .inr (5, [.ref qk, .ref qf, .ref qx, .ref qy, .int (nI pc_), .int (nI pn), .int (nI pb)])), (qk, .inl (cI, 3000, .inl K)), (qf, .inl (cI, 3000, .inl Fi)), (qy, .inl (cI, 9000, .inl Y)), (qx, .inl (cI, 9000, .inl X))] H := hP
  have hD : va_D A [(hc, .inr (0, [.ref hx_, .ref ha_, .ref hh, .ref hp, .ref hs])), (hp, .inr (5, [.ref qk, .ref qf, .ref qx, .ref qy, .int (nI pc_), .int (nI pn), .int (nI pb)])), (qk, .inl (cI, 3000, .inl K)), (qf, .inl (cI, 3000, .inl Fi)), (qy, .inl (cI, 9000, .inl Y)), (qx, .inl (cI, 9000, .inl X))] := hD
  refine W.eq (g2 := F0 m 18 ls [.int (bz r1)]) rfl ?_
  refine bb_eq (tgt := 42) hx hb d_CP_shift_18 (by decide) (fun c_2 => ?_) (fun c_2 => ?_)
  · skip
    have hno : ¬ (near X pn dx ∧ near Y pn dy) := fun z => by
      have q := hn1.mpr z.1
      rw [c_2] at q
      cases q
    refine lv_bipush (v := (-4)) hx hb d_CP_shift_42 (by decide) ?_
    exact ct_reti hQ hx hb hr hlocks hP hD hS ((-4), pc_, pn, pb, K, Fi, X, Y) [(hc, .inr (0, [.ref hx_, .ref ha_, .ref hh, .ref hp, .ref hs])), (hp, .inr (5, [.ref qk, .ref qf, .ref qx, .ref qy, .int (nI pc_), .int (nI pn), .int (nI pb)])), (qk, .inl (cI, 3000, .inl K)), (qf, .inl (cI, 3000, .inl Fi)), (qx, .inl (cI, 9000, .inl X)), (qy, .inl (cI, 9000, .inl Y))] [0, 1, 2, 3, 5, 4] (rfl) (by rw [shc_f hps hR hno]; exact ⟨hR, rfl⟩) (rfl) rfl rfl (by omega) (by omega) d_CP_shift_44
  · skip
    refine lv_aload_n hx hb d_CP_shift_21 rfl (lv_at hl 0 rfl) ?_
    refine va_get (D := D) (ci := 0) (v := .ref hp) (C := R_CP) (T := T_CP) (N := 5) hx hb hts (ui_CP _) hown hK hP 0 rfl rfl 3 (by decide) (hts _ (gwc gw_141)) (fun _ h9 => h9) rfl d_CP_shift_22 ?_
    refine va_get (D := D) (ci := 5) (v := .ref qy) (C := R_Path) (T := T_Path) (N := 7) hx hb hts (ui_Path _) hown hK hP 1 rfl rfl 3 (by decide) (hts _ (gwc gw_116)) (fun _ h9 => h9) rfl d_CP_shift_25 ?_
    refine lv_aload_n hx hb d_CP_shift_28 rfl (lv_at hl 0 rfl) ?_
    refine va_get (D := D) (ci := 0) (v := .ref hp) (C := R_CP) (T := T_CP) (N := 5) hx hb hts (ui_CP _) hown hK hP 0 rfl rfl 3 (by decide) (hts _ (gwc gw_141)) (fun _ h9 => h9) rfl d_CP_shift_29 ?_
    refine va_get (D := D) (ci := 5) (v := .int (nI pn)) (C := R_Path) (T := T_Path) (N := 7) hx hb hts (ui_Path _) hown hK hP 1 rfl rfl 5 (by decide) (hts _ (gwc gw_120)) (fun _ h9 => h9) rfl d_CP_shift_32 ?_
    refine lv_iload_n hx hb d_CP_shift_35 rfl (lv_at hl 2 rfl) ?_
    refine ct_callS (av := [.ref qy, .int (nI pn), .int dy]) (rest := []) (wr := [(hc, .inr (0, [.ref hx_, .ref ha_, .ref hh, .ref hp, .ref hs])), (hp, .inr (5, [.ref qk, .ref qf, .ref qx, .ref qy, .int (nI pc_), .int (nI pn), .int (nI pb)])), (qk, .inl (cI, 3000, .inl K)), (qf, .inl (cI, 3000, .inl Fi)), (qx, .inl (cI, 9000, .inl X))]) (n := 3) (c_CP_staysNear l D cI cB cJ qQ  qy 9000 Y pn dy (by omega) (by decide)) hx hb hml hown hts (amb_ok qQ) hK hP hD hS hA hM (gi_S gw_349 gw_350 gw_28 gw_351) rfl (by decide +kernel) ⟨by omega, by omega⟩ [4] [0, 1, 2, 3, 5] rfl rfl rfl rfl (by decide) rfl hl.1 rfl (Nat.le_of_ble_eq_true rfl) d_CP_shift_36 ⟨by omega, by omega⟩ (fun u_3 H locs hok hP hD hS => ?_)
    obtain ⟨r2, er2⟩ : ∃ z, z = u_3 := ⟨_, rfl⟩
    subst er2
    have hn2 : r2 = true ↔ near Y pn dy := hok
    have hP : va_P D cl [(hc, .inr (0, [.ref hx_, .ref ha_, .ref hh, .ref hp, .ref hs])), (hp, .inr (5, [.ref qk, .ref qf, .ref qx, .ref qy, .int (nI pc_), .int (nI pn), .int (nI pb)])), (qk, .inl (cI, 3000, .inl K)), (qf, .inl (cI, 3000, .inl Fi)), (qx, .inl (cI, 9000, .inl X)), (qy, .inl (cI, 9000, .inl Y))] H := hP
    have hD : va_D A [(hc, .inr (0, [.ref hx_, .ref ha_, .ref hh, .ref hp, .ref hs])), (hp, .inr (5, [.ref qk, .ref qf, .ref qx, .ref qy, .int (nI pc_), .int (nI pn), .int (nI pb)])), (qk, .inl (cI, 3000, .inl K)), (qf, .inl (cI, 3000, .inl Fi)), (qx, .inl (cI, 9000, .inl X)), (qy, .inl (cI, 9000, .inl Y))] := hD
    refine W.eq (g2 := F0 m 39 ls [.int (bz r2)]) rfl ?_
    refine bb_ne (tgt := 45) hx hb d_CP_shift_39 (by decide) (fun c_4 => ?_) (fun c_4 => ?_)
    · skip
      have hye := And.intro (hn1.mp c_2) (hn2.mp c_4)
      refine lv_aload_n hx hb d_CP_shift_45 rfl (lv_at hl 0 rfl) ?_
      refine va_get (D := D) (ci := 0) (v := .ref hp) (C := R_CP) (T := T_CP) (N := 5) hx hb hts (ui_CP _) hown hK hP 0 rfl rfl 3 (by decide) (hts _ (gwc gw_141)) (fun _ h9 => h9) rfl d_CP_shift_46 ?_
      refine va_get (D := D) (ci := 5) (v := .ref qx) (C := R_Path) (T := T_Path) (N := 7) hx hb hts (ui_Path _) hown hK hP 1 rfl rfl 2 (by decide) (hts _ (gwc gw_113)) (fun _ h9 => h9) rfl d_CP_shift_49 ?_
      refine lv_aload_n hx hb d_CP_shift_52 rfl (lv_at hl 0 rfl) ?_
      refine va_get (D := D) (ci := 0) (v := .ref hp) (C := R_CP) (T := T_CP) (N := 5) hx hb hts (ui_CP _) hown hK hP 0 rfl rfl 3 (by decide) (hts _ (gwc gw_141)) (fun _ h9 => h9) rfl d_CP_shift_53 ?_
      refine va_get (D := D) (ci := 5) (v := .int (nI pn)) (C := R_Path) (T := T_Path) (N := 7) hx hb hts (ui_Path _) hown hK hP 1 rfl rfl 5 (by decide) (hts _ (gwc gw_120)) (fun _ h9 => h9) rfl d_CP_shift_56 ?_
      refine lv_iload_n hx hb d_CP_shift_59 rfl (lv_at hl 1 rfl) ?_
      refine ct_callS (av := [.ref qx, .int (nI pn), .int dx]) (rest := []) (wr := [(hc, .inr (0, [.ref hx_, .ref ha_, .ref hh, .ref hp, .ref hs])), (hp, .inr (5, [.ref qk, .ref qf, .ref qx, .ref qy, .int (nI pc_), .int (nI pn), .int (nI pb)])), (qk, .inl (cI, 3000, .inl K)), (qf, .inl (cI, 3000, .inl Fi)), (qy, .inl (cI, 9000, .inl Y))]) (n := 3) (c_CP_addToAll l D cI cB cJ qQ  qx 9000 X pn dx (by omega) (by decide)) hx hb hml hown hts (amb_ok qQ) hK hP hD hS hA hM (gi_S gw_352 gw_353 gw_28 gw_354) rfl (by decide +kernel) ⟨by omega, by omega⟩ [4] [0, 1, 2, 3, 5] rfl rfl rfl rfl (by decide) rfl hl.1 rfl (Nat.le_of_ble_eq_true rfl) d_CP_shift_60 ⟨by omega, by omega⟩ (fun u_5 H locs hok hP hD hS => ?_)
      obtain ⟨X3, eX3⟩ : ∃ z, z = u_5 := ⟨_, rfl⟩
      subst eX3
      have ha3 : ∀ k, X3 k = if k < pn then X k + dx else X k := hok
      have hP : va_P D cl [(hc, .inr (0, [.ref hx_, .ref ha_, .ref hh, .ref hp, .ref hs])), (hp, .inr (5, [.ref qk, .ref qf, .ref qx, .ref qy, .int (nI pc_), .int (nI pn), .int (nI pb)])), (qk, .inl (cI, 3000, .inl K)), (qf, .inl (cI, 3000, .inl Fi)), (qy, .inl (cI, 9000, .inl Y)), (qx, .inl (cI, 9000, .inl X3))] H := hP
      have hD : va_D A [(hc, .inr (0, [.ref hx_, .ref ha_, .ref hh, .ref hp, .ref hs])), (hp, .inr (5, [.ref qk, .ref qf, .ref qx, .ref qy, .int (nI pc_), .int (nI pn), .int (nI pb)])), (qk, .inl (cI, 3000, .inl K)), (qf, .inl (cI, 3000, .inl Fi)), (qy, .inl (cI, 9000, .inl Y)), (qx, .inl (cI, 9000, .inl X3))] := hD
      refine W.eq (g2 := F0 m 63 ls []) rfl ?_
      refine lv_aload_n hx hb d_CP_shift_63 rfl (lv_at hl 0 rfl) ?_
      refine va_get (D := D) (ci := 0) (v := .ref hp) (C := R_CP) (T := T_CP) (N := 5) hx hb hts (ui_CP _) hown hK hP 0 rfl rfl 3 (by decide) (hts _ (gwc gw_141)) (fun _ h9 => h9) rfl d_CP_shift_64 ?_
      refine va_get (D := D) (ci := 5) (v := .ref qy) (C := R_Path) (T := T_Path) (N := 7) hx hb hts (ui_Path _) hown hK hP 1 rfl rfl 3 (by decide) (hts _ (gwc gw_116)) (fun _ h9 => h9) rfl d_CP_shift_67 ?_
      refine lv_aload_n hx hb d_CP_shift_70 rfl (lv_at hl 0 rfl) ?_
      refine va_get (D := D) (ci := 0) (v := .ref hp) (C := R_CP) (T := T_CP) (N := 5) hx hb hts (ui_CP _) hown hK hP 0 rfl rfl 3 (by decide) (hts _ (gwc gw_141)) (fun _ h9 => h9) rfl d_CP_shift_71 ?_
      refine va_get (D := D) (ci := 5) (v := .int (nI pn)) (C := R_Path) (T := T_Path) (N := 7) hx hb hts (ui_Path _) hown hK hP 1 rfl rfl 5 (by decide) (hts _ (gwc gw_120)) (fun _ h9 => h9) rfl d_CP_shift_74 ?_
      refine lv_iload_n hx hb d_CP_shift_77 rfl (lv_at hl 2 rfl) ?_
      refine ct_callS (av := [.ref qy, .int (nI pn), .int dy]) (rest := []) (wr := [(hc, .inr (0, [.ref hx_, .ref ha_, .ref hh, .ref hp, .ref hs])), (hp, .inr (5, [.ref qk, .ref qf, .ref qx, .ref qy, .int (nI pc_), .int (nI pn), .int (nI pb)])), (qk, .inl (cI, 3000, .inl K)), (qf, .inl (cI, 3000, .inl Fi)), (qx, .inl (cI, 9000, .inl X3))]) (n := 3) (c_CP_addToAll l D cI cB cJ qQ  qy 9000 Y pn dy (by omega) (by decide)) hx hb hml hown hts (amb_ok qQ) hK hP hD hS hA hM (gi_S gw_352 gw_353 gw_28 gw_354) rfl (by decide +kernel) ⟨by omega, by omega⟩ [4] [0, 1, 2, 3, 5] rfl rfl rfl rfl (by decide) rfl hl.1 rfl (Nat.le_of_ble_eq_true rfl) d_CP_shift_78 ⟨by omega, by omega⟩ (fun u_6 H locs hok hP hD hS => ?_)
      obtain ⟨X4, eX4⟩ : ∃ z, z = u_6 := ⟨_, rfl⟩
      subst eX4
      have ha4 : ∀ k, X4 k = if k < pn then Y k + dy else Y k := hok
      have hP : va_P D cl [(hc, .inr (0, [.ref hx_, .ref ha_, .ref hh, .ref hp, .ref hs])), (hp, .inr (5, [.ref qk, .ref qf, .ref qx, .ref qy, .int (nI pc_), .int (nI pn), .int (nI pb)])), (qk, .inl (cI, 3000, .inl K)), (qf, .inl (cI, 3000, .inl Fi)), (qx, .inl (cI, 9000, .inl X3)), (qy, .inl (cI, 9000, .inl X4))] H := hP
      have hD : va_D A [(hc, .inr (0, [.ref hx_, .ref ha_, .ref hh, .ref hp, .ref hs])), (hp, .inr (5, [.ref qk, .ref qf, .ref qx, .ref qy, .int (nI pc_), .int (nI pn), .int (nI pb)])), (qk, .inl (cI, 3000, .inl K)), (qf, .inl (cI, 3000, .inl Fi)), (qx, .inl (cI, 9000, .inl X3)), (qy, .inl (cI, 9000, .inl X4))] := hD
      refine W.eq (g2 := F0 m 81 ls []) rfl ?_
      refine lv_aload_n hx hb d_CP_shift_81 rfl (lv_at hl 0 rfl) ?_
      refine va_get (D := D) (ci := 0) (v := .ref hp) (C := R_CP) (T := T_CP) (N := 5) hx hb hts (ui_CP _) hown hK hP 0 rfl rfl 3 (by decide) (hts _ (gwc gw_141)) (fun _ h9 => h9) rfl d_CP_shift_82 ?_
      refine va_get (D := D) (ci := 5) (v := .int (nI pc_)) (C := R_Path) (T := T_Path) (N := 7) hx hb hts (ui_Path _) hown hK hP 1 rfl rfl 4 (by decide) (hts _ (gwc gw_118)) (fun _ h9 => h9) rfl d_CP_shift_85 ?_
      exact ct_reti hQ hx hb hr hlocks hP hD hS (nI pc_, pc_, pn, pb, K, Fi, X3, X4) [(hc, .inr (0, [.ref hx_, .ref ha_, .ref hh, .ref hp, .ref hs])), (hp, .inr (5, [.ref qk, .ref qf, .ref qx, .ref qy, .int (nI pc_), .int (nI pn), .int (nI pb)])), (qk, .inl (cI, 3000, .inl K)), (qf, .inl (cI, 3000, .inl Fi)), (qx, .inl (cI, 9000, .inl X3)), (qy, .inl (cI, 9000, .inl X4))] [0, 1, 2, 3, 4, 5] (rfl) (shc_y hps hR hye ha3 ha4) (rfl) rfl rfl (by omega) (by omega) d_CP_shift_88
    · skip
      have hno : ¬ (near X pn dx ∧ near Y pn dy) := fun z => by
        have q := hn2.mpr z.2
        rw [c_4] at q
        cases q
      refine lv_bipush (v := (-4)) hx hb d_CP_shift_42 (by decide) ?_
      exact ct_reti hQ hx hb hr hlocks hP hD hS ((-4), pc_, pn, pb, K, Fi, X, Y) [(hc, .inr (0, [.ref hx_, .ref ha_, .ref hh, .ref hp, .ref hs])), (hp, .inr (5, [.ref qk, .ref qf, .ref qx, .ref qy, .int (nI pc_), .int (nI pn), .int (nI pb)])), (qk, .inl (cI, 3000, .inl K)), (qf, .inl (cI, 3000, .inl Fi)), (qx, .inl (cI, 9000, .inl X)), (qy, .inl (cI, 9000, .inl Y))] [0, 1, 2, 3, 4, 5] (rfl) (by rw [shc_f hps hR hno]; exact ⟨hR, rfl⟩) (rfl) rfl rfl (by omega) (by omega) d_CP_shift_44
set_option maxHeartbeats 4000000 in
set_option maxRecDepth 100000 in
/-- reverse -/
theorem c_CP_reverse (l : Launch) (D : va_G) (cI cB cJ : ClassId) (qQ : Nat) (hc : Nat) (hx_ : Nat) (ha_ : Nat) (hh : Nat) (hs : Nat) (hp : Nat) (qk : Nat) (qf : Nat) (qx : Nat) (qy : Nat) (pc_ : Nat) (pn : Nat) (pb : Nat) (K : Nat → Int32) (Fi : Nat → Int32) (X : Nat → Int32) (Y : Nat → Int32) (ps : List Pt) (hR : RIp pc_ pn pb K Fi X Y ps) (hps : pkp ps) : ct l D cl [(cI, .int), (cB, .byte), (cJ, .long)] (amb qQ) y_CP_reverse w_CP_reverse 3 74 (0) (0) [.ref hc] [(hc, .inr (0, [.ref hx_, .ref ha_, .ref hh, .ref hp, .ref hs])), (hp, .inr (5, [.ref qk, .ref qf, .ref qx, .ref qy, .int (nI pc_), .int (nI pn), .int (nI pb)])), (qk, .inl (cI, 3000, .inl K)), (qf, .inl (cI, 3000, .inl Fi)), (qx, .inl (cI, 9000, .inl X)), (qy, .inl (cI, 9000, .inl Y))] (fun u_ : Int32 × Nat × Nat × Nat × (Nat → Int32) × (Nat → Int32) × (Nat → Int32) × (Nat → Int32) => match u_ with | (r, pc', pn', pb', K', F', X', Y') => RIp pc' pn' pb' K' F' X' Y' (rReverse ps).2 ∧ r = (rReverse ps).1) (fun u_ : Int32 × Nat × Nat × Nat × (Nat → Int32) × (Nat → Int32) × (Nat → Int32) × (Nat → Int32) => match u_ with | (r, pc', pn', pb', K', F', X', Y') => some (.int r)) (fun u_ : Int32 × Nat × Nat × Nat × (Nat → Int32) × (Nat → Int32) × (Nat → Int32) × (Nat → Int32) => match u_ with | (r, pc', pn', pb', K', F', X', Y') => [(hc, .inr (0, [.ref hx_, .ref ha_, .ref hh, .ref hp, .ref hs])), (hp, .inr (5, [.ref qk, .ref qf, .ref qx, .ref qy, .int (nI pc'), .int (nI pn'), .int (nI pb')])), (qk, .inl (cI, 3000, .inl K')), (qf, .inl (cI, 3000, .inl F')), (qx, .inl (cI, 9000, .inl X')), (qy, .inl (cI, 9000, .inl Y'))]) := by
  refine ct_ofW (cc := b_CP_reverse) (maxL := 1) (ret := (some .int)) (by decide) rfl (Nat.le_of_ble_eq_true rfl) ?_
  intro p e R s m args below meth c A Q ls hx hb hr hml hts hown hlocks hname hRf hRc hRs hRl hQ hK hP hD hS hA hM hl
  have hl : lv_has ls 1 [(0, .ref hc)] := hl
  have hpc := hps.2
  rw [hR.1] at hpc
  have hpn := RI_pn hR
  obtain ⟨subs, hse, hsb⟩ := hps.1
  refine lv_aload_n hx hb d_CP_reverse_0 rfl (lv_at hl 0 rfl) ?_
  refine va_get (D := D) (ci := 0) (v := .ref hp) (C := R_CP) (T := T_CP) (N := 5) hx hb hts (ui_CP _) hown hK hP 0 rfl rfl 3 (by decide) (hts _ (gwc gw_141)) (fun _ h9 => h9) rfl d_CP_reverse_1 ?_
  refine ct_callV (ci := 5) (q0 := 1) (As := []) (rest := []) (wr := [(hc, .inr (0, [.ref hx_, .ref ha_, .ref hh, .ref hp, .ref hs]))]) (n := 0) (c_Path_turnSubpaths l D cI cB cJ qQ  hp qk qf qx qy pc_ pn pb 3000 9000 K Fi X Y subs (by decide) (by decide) (hpc) (by omega) (hsb) (by rw [← hse]; exact hR)) hx hb hml hown hts (amb_ok qQ) hK hP hD hS hA hM (gi_V gw_359 gw_360 gw_361 gw_32 gw_362) rfl (by decide +kernel) ⟨by omega, by omega⟩ [1, 2, 3, 4, 5] [0] rfl rfl rfl rfl (by decide) rfl rfl rfl hl.1 rfl (Nat.le_of_ble_eq_true rfl) d_CP_reverse_4 ⟨by omega, by omega⟩ (fun u_1 H locs hok hP hD hS => ?_)
  obtain ⟨K'_2, F'_3, X'_4, Y'_5⟩ := u_1
  have hrv : RIp pc_ pn pb K'_2 F'_3 X'_4 Y'_5 (subs.flatMap renT) := hok
  have hP : va_P D cl [(hc, .inr (0, [.ref hx_, .ref ha_, .ref hh, .ref hp, .ref hs])), (hp, .inr (5, [.ref qk, .ref qf, .ref qx, .ref qy, .int (nI pc_), .int (nI pn), .int (nI pb)])), (qk, .inl (cI, 3000, .inl K'_2)), (qf, .inl (cI, 3000, .inl F'_3)), (qx, .inl (cI, 9000, .inl X'_4)), (qy, .inl (cI, 9000, .inl Y'_5))] H := hP
  have hD : va_D A [(hc, .inr (0, [.ref hx_, .ref ha_, .ref hh, .ref hp, .ref hs])), (hp, .inr (5, [.ref qk, .ref qf, .ref qx, .ref qy, .int (nI pc_), .int (nI pn), .int (nI pb)])), (qk, .inl (cI, 3000, .inl K'_2)), (qf, .inl (cI, 3000, .inl F'_3)), (qx, .inl (cI, 9000, .inl X'_4)), (qy, .inl (cI, 9000, .inl Y'_5))] := hD
  refine W.eq (g2 := F0 m 7 ls []) rfl ?_
  refine lv_aload_n hx hb d_CP_reverse_7 rfl (lv_at hl 0 rfl) ?_
  refine va_get (D := D) (ci := 0) (v := .ref hp) (C := R_CP) (T := T_CP) (N := 5) hx hb hts (ui_CP _) hown hK hP 0 rfl rfl 3 (by decide) (hts _ (gwc gw_141)) (fun _ h9 => h9) rfl d_CP_reverse_8 ?_
  refine va_get (D := D) (ci := 5) (v := .int (nI pc_)) (C := R_Path) (T := T_Path) (N := 7) hx hb hts (ui_Path _) hown hK hP 1 rfl rfl 4 (by decide) (hts _ (gwc gw_118)) (fun _ h9 => h9) rfl d_CP_reverse_11 ?_
  exact ct_reti hQ hx hb hr hlocks hP hD hS (nI pc_, pc_, pn, pb, K'_2, F'_3, X'_4, Y'_5) [(hc, .inr (0, [.ref hx_, .ref ha_, .ref hh, .ref hp, .ref hs])), (hp, .inr (5, [.ref qk, .ref qf, .ref qx, .ref qy, .int (nI pc_), .int (nI pn), .int (nI pb)])), (qk, .inl (cI, 3000, .inl K'_2)), (qf, .inl (cI, 3000, .inl F'_3)), (qx, .inl (cI, 9000, .inl X'_4)), (qy, .inl (cI, 9000, .inl Y'_5))] [0, 1, 2, 3, 4, 5] (rfl) (rev_ok hps hR hse hsb hrv) (rfl) rfl rfl (by omega) (by omega) d_CP_reverse_14
set_option maxHeartbeats 4000000 in
set_option maxRecDepth 100000 in
/-- parts -/
theorem c_CP_parts (l : Launch) (D : va_G) (cI cB cJ : ClassId) (qQ : Nat) (hc : Nat) (hx_ : Nat) (ha_ : Nat) (hh : Nat) (hs : Nat) (hp : Nat) (qk : Nat) (qf : Nat) (qx : Nat) (qy : Nat) (pc_ : Nat) (pn : Nat) (pb : Nat) (K : Nat → Int32) (Fi : Nat → Int32) (X : Nat → Int32) (Y : Nat → Int32) (ps : List Pt) (hR : RIp pc_ pn pb K Fi X Y ps) (hps : pkp ps) : ct l D cl [(cI, .int), (cB, .byte), (cJ, .long)] (amb qQ) y_CP_parts w_CP_parts 0 0 (0) (0) [.ref hc] [(hc, .inr (0, [.ref hx_, .ref ha_, .ref hh, .ref hp, .ref hs])), (hp, .inr (5, [.ref qk, .ref qf, .ref qx, .ref qy, .int (nI pc_), .int (nI pn), .int (nI pb)])), (qk, .inl (cI, 3000, .inl K)), (qf, .inl (cI, 3000, .inl Fi)), (qx, .inl (cI, 9000, .inl X)), (qy, .inl (cI, 9000, .inl Y))] (fun _ : Unit => True) (fun _ : Unit => some (.int (nI pc_))) (fun _ : Unit => [(hc, .inr (0, [.ref hx_, .ref ha_, .ref hh, .ref hp, .ref hs])), (hp, .inr (5, [.ref qk, .ref qf, .ref qx, .ref qy, .int (nI pc_), .int (nI pn), .int (nI pb)])), (qk, .inl (cI, 3000, .inl K)), (qf, .inl (cI, 3000, .inl Fi)), (qx, .inl (cI, 9000, .inl X)), (qy, .inl (cI, 9000, .inl Y))]) := by
  refine ct_ofW (cc := b_CP_parts) (maxL := 1) (ret := (some .int)) (by decide) rfl (Nat.le_of_ble_eq_true rfl) ?_
  intro p e R s m args below meth c A Q ls hx hb hr hml hts hown hlocks hname hRf hRc hRs hRl hQ hK hP hD hS hA hM hl
  have hl : lv_has ls 1 [(0, .ref hc)] := hl
  have hpc := hps.2
  rw [hR.1] at hpc
  have hpn := RI_pn hR
  refine lv_aload_n hx hb d_CP_parts_0 rfl (lv_at hl 0 rfl) ?_
  refine va_get (D := D) (ci := 0) (v := .ref hp) (C := R_CP) (T := T_CP) (N := 5) hx hb hts (ui_CP _) hown hK hP 0 rfl rfl 3 (by decide) (hts _ (gwc gw_141)) (fun _ h9 => h9) rfl d_CP_parts_1 ?_
  refine va_get (D := D) (ci := 5) (v := .int (nI pc_)) (C := R_Path) (T := T_Path) (N := 7) hx hb hts (ui_Path _) hown hK hP 1 rfl rfl 4 (by decide) (hts _ (gwc gw_118)) (fun _ h9 => h9) rfl d_CP_parts_4 ?_
  exact ct_reti hQ hx hb hr hlocks hP hD hS () [(hc, .inr (0, [.ref hx_, .ref ha_, .ref hh, .ref hp, .ref hs])), (hp, .inr (5, [.ref qk, .ref qf, .ref qx, .ref qy, .int (nI pc_), .int (nI pn), .int (nI pb)])), (qk, .inl (cI, 3000, .inl K)), (qf, .inl (cI, 3000, .inl Fi)), (qx, .inl (cI, 9000, .inl X)), (qy, .inl (cI, 9000, .inl Y))] [0, 1, 2, 3, 4, 5] (rfl) (trivial) (rfl) rfl rfl (by omega) (by omega) d_CP_parts_7
set_option maxHeartbeats 4000000 in
set_option maxRecDepth 100000 in
/-- kind -/
theorem c_CP_kind (l : Launch) (D : va_G) (cI cB cJ : ClassId) (qQ : Nat) (hc : Nat) (hx_ : Nat) (ha_ : Nat) (hh : Nat) (hs : Nat) (hp : Nat) (qk : Nat) (qf : Nat) (qx : Nat) (qy : Nat) (pc_ : Nat) (pn : Nat) (pb : Nat) (K : Nat → Int32) (Fi : Nat → Int32) (X : Nat → Int32) (Y : Nat → Int32) (ps : List Pt) (i : Int32) (hR : RIp pc_ pn pb K Fi X Y ps) (hps : pkp ps) : ct l D cl [(cI, .int), (cB, .byte), (cJ, .long)] (amb qQ) y_CP_kind w_CP_kind 1 21 (0) (0) [.ref hc, .int i] [(hc, .inr (0, [.ref hx_, .ref ha_, .ref hh, .ref hp, .ref hs])), (hp, .inr (5, [.ref qk, .ref qf, .ref qx, .ref qy, .int (nI pc_), .int (nI pn), .int (nI pb)])), (qk, .inl (cI, 3000, .inl K)), (qf, .inl (cI, 3000, .inl Fi)), (qx, .inl (cI, 9000, .inl X)), (qy, .inl (cI, 9000, .inl Y))] (fun _ : Unit => True) (fun _ : Unit => some (.int (rKind ps i))) (fun _ : Unit => [(hc, .inr (0, [.ref hx_, .ref ha_, .ref hh, .ref hp, .ref hs])), (hp, .inr (5, [.ref qk, .ref qf, .ref qx, .ref qy, .int (nI pc_), .int (nI pn), .int (nI pb)])), (qk, .inl (cI, 3000, .inl K)), (qf, .inl (cI, 3000, .inl Fi)), (qx, .inl (cI, 9000, .inl X)), (qy, .inl (cI, 9000, .inl Y))]) := by
  refine ct_ofW (cc := b_CP_kind) (maxL := 2) (ret := (some .int)) (by decide) rfl (Nat.le_of_ble_eq_true rfl) ?_
  intro p e R s m args below meth c A Q ls hx hb hr hml hts hown hlocks hname hRf hRc hRs hRl hQ hK hP hD hS hA hM hl
  have hl : lv_has ls 2 [(0, .ref hc), (1, .int i)] := hl
  have hpc := hps.2
  rw [hR.1] at hpc
  have hpn := RI_pn hR
  refine lv_aload_n hx hb d_CP_kind_0 rfl (lv_at hl 0 rfl) ?_
  refine va_get (D := D) (ci := 0) (v := .ref hp) (C := R_CP) (T := T_CP) (N := 5) hx hb hts (ui_CP _) hown hK hP 0 rfl rfl 3 (by decide) (hts _ (gwc gw_141)) (fun _ h9 => h9) rfl d_CP_kind_1 ?_
  refine lv_iload_n hx hb d_CP_kind_4 rfl (lv_at hl 1 rfl) ?_
  refine ct_callV (ci := 5) (q0 := 1) (As := [.int i]) (rest := []) (wr := [(hc, .inr (0, [.ref hx_, .ref ha_, .ref hh, .ref hp, .ref hs])), (qk, .inl (cI, 3000, .inl K)), (qf, .inl (cI, 3000, .inl Fi)), (qx, .inl (cI, 9000, .inl X)), (qy, .inl (cI, 9000, .inl Y))]) (n := 1) (c_Path_hasPart l D cI cB cJ qQ  hp qk qf qx qy pc_ pn pb i (hpc)) hx hb hml hown hts (amb_ok qQ) hK hP hD hS hA hM (gi_V gw_437 gw_438 gw_439 gw_32 gw_440) rfl (by decide +kernel) ⟨by omega, by omega⟩ [1] [0, 2, 3, 4, 5] rfl rfl rfl rfl (by decide) rfl rfl rfl hl.1 rfl (Nat.le_of_ble_eq_true rfl) d_CP_kind_5 ⟨by omega, by omega⟩ (fun u_1 H locs hok hP hD hS => ?_)
  have hP : va_P D cl [(hc, .inr (0, [.ref hx_, .ref ha_, .ref hh, .ref hp, .ref hs])), (qk, .inl (cI, 3000, .inl K)), (qf, .inl (cI, 3000, .inl Fi)), (qx, .inl (cI, 9000, .inl X)), (qy, .inl (cI, 9000, .inl Y)), (hp, .inr (5, [.ref qk, .ref qf, .ref qx, .ref qy, .int (nI pc_), .int (nI pn), .int (nI pb)]))] H := hP
  have hD : va_D A [(hc, .inr (0, [.ref hx_, .ref ha_, .ref hh, .ref hp, .ref hs])), (qk, .inl (cI, 3000, .inl K)), (qf, .inl (cI, 3000, .inl Fi)), (qx, .inl (cI, 9000, .inl X)), (qy, .inl (cI, 9000, .inl Y)), (hp, .inr (5, [.ref qk, .ref qf, .ref qx, .ref qy, .int (nI pc_), .int (nI pn), .int (nI pb)]))] := hD
  refine W.eq (g2 := F0 m 8 ls [.int (bz (decide (¬ i < 0 ∧ ¬ nI pc_ ≤ i)))]) rfl ?_
  refine bb_eq (tgt := 23) hx hb d_CP_kind_8 (by decide) (fun c_2 => ?_) (fun c_2 => ?_)
  · skip
    refine lv_iconst (v := (-1)) hx hb d_CP_kind_23 (by decide) ?_
    exact ct_reti hQ hx hb hr hlocks hP hD hS () [(hc, .inr (0, [.ref hx_, .ref ha_, .ref hh, .ref hp, .ref hs])), (hp, .inr (5, [.ref qk, .ref qf, .ref qx, .ref qy, .int (nI pc_), .int (nI pn), .int (nI pb)])), (qk, .inl (cI, 3000, .inl K)), (qf, .inl (cI, 3000, .inl Fi)), (qx, .inl (cI, 9000, .inl X)), (qy, .inl (cI, 9000, .inl Y))] [0, 5, 1, 2, 3, 4] (by rw [kind_no hR (of_decide_eq_false c_2)]) (trivial) (rfl) rfl rfl (by omega) (by omega) d_CP_kind_24
  · skip
    have hd := of_decide_eq_true c_2
    obtain ⟨j, hj, ej⟩ := ix_lt hd.1 hd.2 (by omega)
    obtain ⟨f, f1, f2, f3, f4, f5, f6⟩ := RI_read hR hps.1 hj
    refine lv_aload_n hx hb d_CP_kind_11 rfl (lv_at hl 0 rfl) ?_
    refine va_get (D := D) (ci := 0) (v := .ref hp) (C := R_CP) (T := T_CP) (N := 5) hx hb hts (ui_CP _) hown hK hP 0 rfl rfl 3 (by decide) (hts _ (gwc gw_141)) (fun _ h9 => h9) rfl d_CP_kind_12 ?_
    refine va_get (D := D) (ci := 5) (v := .ref qk) (C := R_Path) (T := T_Path) (N := 7) hx hb hts (ui_Path _) hown hK hP 5 rfl rfl 0 (by decide) (hts _ (gwc gw_108)) (fun _ h9 => h9) rfl d_CP_kind_15 ?_
    refine lv_iload_n hx hb d_CP_kind_18 rfl (lv_at hl 1 rfl) ?_
    refine tp_i (nI j) (ej) ?_
    refine ld_i hx hb hK hP 1 0 rfl rfl j (by omega) (by omega) d_CP_kind_19 ?_
    refine lv_goto (tgt := 24) hx hb d_CP_kind_20 (by decide) ?_
    exact ct_reti hQ hx hb hr hlocks hP hD hS () [(hc, .inr (0, [.ref hx_, .ref ha_, .ref hh, .ref hp, .ref hs])), (hp, .inr (5, [.ref qk, .ref qf, .ref qx, .ref qy, .int (nI pc_), .int (nI pn), .int (nI pb)])), (qk, .inl (cI, 3000, .inl K)), (qf, .inl (cI, 3000, .inl Fi)), (qx, .inl (cI, 9000, .inl X)), (qy, .inl (cI, 9000, .inl Y))] [0, 5, 1, 2, 3, 4] (by rw [ej, kind_j hR hps.1 hj hpc]) (trivial) (rfl) rfl rfl (by omega) (by omega) d_CP_kind_24
set_option maxHeartbeats 40000000 in
set_option maxRecDepth 100000 in
/-- place -/
theorem c_CP_place (l : Launch) (D : va_G) (cI cB cJ : ClassId) (qQ : Nat) (hc : Nat) (hx_ : Nat) (ha_ : Nat) (hh : Nat) (hs : Nat) (hp : Nat) (qk : Nat) (qf : Nat) (qx : Nat) (qy : Nat) (pc_ : Nat) (pn : Nat) (pb : Nat) (K : Nat → Int32) (Fi : Nat → Int32) (X : Nat → Int32) (Y : Nat → Int32) (ps : List Pt) (i : Int32) (wh : Int32) (hR : RIp pc_ pn pb K Fi X Y ps) (hps : pkp ps) : ct l D cl [(cI, .int), (cB, .byte), (cJ, .long)] (amb qQ) y_CP_place w_CP_place 1 22 (0) (0) [.ref hc, .int i, .int wh] [(hc, .inr (0, [.ref hx_, .ref ha_, .ref hh, .ref hp, .ref hs])), (hp, .inr (5, [.ref qk, .ref qf, .ref qx, .ref qy, .int (nI pc_), .int (nI pn), .int (nI pb)])), (qk, .inl (cI, 3000, .inl K)), (qf, .inl (cI, 3000, .inl Fi)), (qx, .inl (cI, 9000, .inl X)), (qy, .inl (cI, 9000, .inl Y))] (fun _ : Unit => True) (fun _ : Unit => some (.int (rPlace ps i wh))) (fun _ : Unit => [(hc, .inr (0, [.ref hx_, .ref ha_, .ref hh, .ref hp, .ref hs])), (hp, .inr (5, [.ref qk, .ref qf, .ref qx, .ref qy, .int (nI pc_), .int (nI pn), .int (nI pb)])), (qk, .inl (cI, 3000, .inl K)), (qf, .inl (cI, 3000, .inl Fi)), (qx, .inl (cI, 9000, .inl X)), (qy, .inl (cI, 9000, .inl Y))]) := by
  refine ct_ofW (cc := b_CP_place) (maxL := 3) (ret := (some .int)) (by decide) rfl (Nat.le_of_ble_eq_true rfl) ?_
  intro p e R s m args below meth c A Q ls hx hb hr hml hts hown hlocks hname hRf hRc hRs hRl hQ hK hP hD hS hA hM hl
  have hl : lv_has ls 3 [(0, .ref hc), (1, .int i), (2, .int wh)] := hl
  have hpc := hps.2
  rw [hR.1] at hpc
  have hpn := RI_pn hR
  refine lv_aload_n hx hb d_CP_place_0 rfl (lv_at hl 0 rfl) ?_
  refine va_get (D := D) (ci := 0) (v := .ref hp) (C := R_CP) (T := T_CP) (N := 5) hx hb hts (ui_CP _) hown hK hP 0 rfl rfl 3 (by decide) (hts _ (gwc gw_141)) (fun _ h9 => h9) rfl d_CP_place_1 ?_
  refine lv_iload_n hx hb d_CP_place_4 rfl (lv_at hl 1 rfl) ?_
  refine ct_callV (ci := 5) (q0 := 1) (As := [.int i]) (rest := []) (wr := [(hc, .inr (0, [.ref hx_, .ref ha_, .ref hh, .ref hp, .ref hs])), (qk, .inl (cI, 3000, .inl K)), (qf, .inl (cI, 3000, .inl Fi)), (qx, .inl (cI, 9000, .inl X)), (qy, .inl (cI, 9000, .inl Y))]) (n := 1) (c_Path_hasPart l D cI cB cJ qQ  hp qk qf qx qy pc_ pn pb i (hpc)) hx hb hml hown hts (amb_ok qQ) hK hP hD hS hA hM (gi_V gw_437 gw_438 gw_439 gw_32 gw_440) rfl (by decide +kernel) ⟨by omega, by omega⟩ [1] [0, 2, 3, 4, 5] rfl rfl rfl rfl (by decide) rfl rfl rfl hl.1 rfl (Nat.le_of_ble_eq_true rfl) d_CP_place_5 ⟨by omega, by omega⟩ (fun u_1 H locs hok hP hD hS => ?_)
  have hP : va_P D cl [(hc, .inr (0, [.ref hx_, .ref ha_, .ref hh, .ref hp, .ref hs])), (qk, .inl (cI, 3000, .inl K)), (qf, .inl (cI, 3000, .inl Fi)), (qx, .inl (cI, 9000, .inl X)), (qy, .inl (cI, 9000, .inl Y)), (hp, .inr (5, [.ref qk, .ref qf, .ref qx, .ref qy, .int (nI pc_), .int (nI pn), .int (nI pb)]))] H := hP
  have hD : va_D A [(hc, .inr (0, [.ref hx_, .ref ha_, .ref hh, .ref hp, .ref hs])), (qk, .inl (cI, 3000, .inl K)), (qf, .inl (cI, 3000, .inl Fi)), (qx, .inl (cI, 9000, .inl X)), (qy, .inl (cI, 9000, .inl Y)), (hp, .inr (5, [.ref qk, .ref qf, .ref qx, .ref qy, .int (nI pc_), .int (nI pn), .int (nI pb)]))] := hD
  refine W.eq (g2 := F0 m 8 ls [.int (bz (decide (¬ i < 0 ∧ ¬ nI pc_ ≤ i)))]) rfl ?_
  refine bb_eq (tgt := 20) hx hb d_CP_place_8 (by decide) (fun c_2 => ?_) (fun c_2 => ?_)
  · skip
    refine lv_iconst (v := 0) hx hb d_CP_place_20 (by decide) ?_
    exact ct_reti hQ hx hb hr hlocks hP hD hS () [(hc, .inr (0, [.ref hx_, .ref ha_, .ref hh, .ref hp, .ref hs])), (hp, .inr (5, [.ref qk, .ref qf, .ref qx, .ref qy, .int (nI pc_), .int (nI pn), .int (nI pb)])), (qk, .inl (cI, 3000, .inl K)), (qf, .inl (cI, 3000, .inl Fi)), (qx, .inl (cI, 9000, .inl X)), (qy, .inl (cI, 9000, .inl Y))] [0, 5, 1, 2, 3, 4] (by rw [place_no hR (of_decide_eq_false c_2)]) (trivial) (rfl) rfl rfl (by omega) (by omega) d_CP_place_21
  · skip
    have hd := of_decide_eq_true c_2
    obtain ⟨j, hj, ej⟩ := ix_lt hd.1 hd.2 (by omega)
    obtain ⟨f, f1, f2, f3, f4, f5, f6⟩ := RI_read hR hps.1 hj
    refine lv_iload_n hx hb d_CP_place_11 rfl (lv_at hl 2 rfl) ?_
    refine lv_if_lt (tgt := 20) hx hb d_CP_place_12 (by decide) (fun c_3 => ?_) (fun c_3 => ?_)
    · skip
      refine lv_iconst (v := 0) hx hb d_CP_place_20 (by decide) ?_
      exact ct_reti hQ hx hb hr hlocks hP hD hS () [(hc, .inr (0, [.ref hx_, .ref ha_, .ref hh, .ref hp, .ref hs])), (hp, .inr (5, [.ref qk, .ref qf, .ref qx, .ref qy, .int (nI pc_), .int (nI pn), .int (nI pb)])), (qk, .inl (cI, 3000, .inl K)), (qf, .inl (cI, 3000, .inl Fi)), (qx, .inl (cI, 9000, .inl X)), (qy, .inl (cI, 9000, .inl Y))] [0, 5, 1, 2, 3, 4] (by rw [place_w (Or.inl c_3)]) (trivial) (rfl) rfl rfl (by omega) (by omega) d_CP_place_21
    · skip
      refine lv_iload_n hx hb d_CP_place_15 rfl (lv_at hl 2 rfl) ?_
      refine lv_iconst (v := 5) hx hb d_CP_place_16 (by decide) ?_
      refine lv_icmp_le (tgt := 22) hx hb d_CP_place_17 (by decide) (fun c_4 => ?_) (fun c_4 => ?_)
      · skip
        refine lv_iload_n hx hb d_CP_place_22 rfl (lv_at hl 2 rfl) ?_
        refine lv_iconst (v := 2) hx hb d_CP_place_23 (by decide) ?_
        refine lv_icmp_ge (tgt := 44) hx hb d_CP_place_24 (by decide) (fun c_5 => ?_) (fun c_5 => ?_)
        · skip
          refine lv_aload_n hx hb d_CP_place_44 rfl (lv_at hl 0 rfl) ?_
          refine va_get (D := D) (ci := 0) (v := .ref hp) (C := R_CP) (T := T_CP) (N := 5) hx hb hts (ui_CP _) hown hK hP 0 rfl rfl 3 (by decide) (hts _ (gwc gw_141)) (fun _ h9 => h9) rfl d_CP_place_45 ?_
          refine va_get (D := D) (ci := 5) (v := .ref qk) (C := R_Path) (T := T_Path) (N := 7) hx hb hts (ui_Path _) hown hK hP 5 rfl rfl 0 (by decide) (hts _ (gwc gw_108)) (fun _ h9 => h9) rfl d_CP_place_48 ?_
          refine lv_iload_n hx hb d_CP_place_51 rfl (lv_at hl 1 rfl) ?_
          refine tp_i (nI j) (ej) ?_
          refine ld_i hx hb hK hP 1 0 rfl rfl j (by omega) (by omega) d_CP_place_52 ?_
          refine lv_iconst (v := 2) hx hb d_CP_place_53 (by decide) ?_
          refine lv_icmp_eq (tgt := 59) hx hb d_CP_place_54 (by decide) (fun c_6 => ?_) (fun c_6 => ?_)
          · skip
            have hpt : f + 2 < pn := by
              rw [if_pos c_6] at f3
              exact f3
            rcases w25 (Int32.not_lt.mpr c_5) c_4 with hw9 | hw9 | hw9 | hw9
            · skip
              refine lv_aload_n hx hb d_CP_place_59 rfl (lv_at hl 0 rfl) ?_
              refine va_get (D := D) (ci := 0) (v := .ref hp) (C := R_CP) (T := T_CP) (N := 5) hx hb hts (ui_CP _) hown hK hP 0 rfl rfl 3 (by decide) (hts _ (gwc gw_141)) (fun _ h9 => h9) rfl d_CP_place_60 ?_
              refine lv_aload_n hx hb d_CP_place_63 rfl (lv_at hl 0 rfl) ?_
              refine va_get (D := D) (ci := 0) (v := .ref hp) (C := R_CP) (T := T_CP) (N := 5) hx hb hts (ui_CP _) hown hK hP 0 rfl rfl 3 (by decide) (hts _ (gwc gw_141)) (fun _ h9 => h9) rfl d_CP_place_64 ?_
              refine va_get (D := D) (ci := 5) (v := .ref qf) (C := R_Path) (T := T_Path) (N := 7) hx hb hts (ui_Path _) hown hK hP 5 rfl rfl 1 (by decide) (hts _ (gwc gw_110)) (fun _ h9 => h9) rfl d_CP_place_67 ?_
              refine lv_iload_n hx hb d_CP_place_70 rfl (lv_at hl 1 rfl) ?_
              refine tp_i (nI j) (ej) ?_
              refine ld_i hx hb hK hP 2 0 rfl rfl j (by omega) (by omega) d_CP_place_71 ?_
              refine tp_i (nI f) (f1) ?_
              refine lv_iload_n hx hb d_CP_place_72 rfl (lv_at hl 2 rfl) ?_
              refine tp_i (2) (hw9) ?_
              refine lv_iconst (v := 2) hx hb d_CP_place_73 (by decide) ?_
              refine lv_idiv hx hb d_CP_place_74 (by decide) ?_
              refine tp_i (1) (by decide) ?_
              refine lv_iadd hx hb d_CP_place_75 ?_
              refine tp_i (nI (f + 1)) (nI_add _ _) ?_
              refine lv_iconst (v := 1) hx hb d_CP_place_76 (by decide) ?_
              refine lv_isub hx hb d_CP_place_77 ?_
              refine tp_i (nI (f + 1 - 1)) (pk_sub (a := f + 1) (b := 1) (by omega)) ?_
              refine lv_iload_n hx hb d_CP_place_78 rfl (lv_at hl 2 rfl) ?_
              refine tp_i (2) (hw9) ?_
              refine lv_iconst (v := 2) hx hb d_CP_place_79 (by decide) ?_
              refine lv_irem hx hb d_CP_place_80 (by decide) ?_
              refine tp_i (0) (by decide) ?_
              refine ct_callV (ci := 5) (q0 := 5) (As := [.int (nI (f + 1 - 1)), .int 0]) (rest := []) (wr := [(hc, .inr (0, [.ref hx_, .ref ha_, .ref hh, .ref hp, .ref hs])), (qk, .inl (cI, 3000, .inl K)), (qf, .inl (cI, 3000, .inl Fi))]) (n := 2) (c_Path_coordinate l D cI cB cJ qQ  hp qk qf qx qy pc_ pn pb 9000 X Y (f + 1 - 1) 0 (by omega) (by decide)) hx hb hml hown hts (amb_ok qQ) hK hP hD hS hA hM (gi_V gw_446 gw_447 gw_448 gw_32 gw_449) rfl (by decide +kernel) ⟨by omega, by omega⟩ [5, 3, 4] [0, 1, 2] rfl rfl rfl rfl (by decide) rfl rfl rfl hl.1 rfl (Nat.le_of_ble_eq_true rfl) d_CP_place_81 ⟨by omega, by omega⟩ (fun u_7 H locs hok hP hD hS => ?_)
              have hP : va_P D cl [(hc, .inr (0, [.ref hx_, .ref ha_, .ref hh, .ref hp, .ref hs])), (qk, .inl (cI, 3000, .inl K)), (qf, .inl (cI, 3000, .inl Fi)), (hp, .inr (5, [.ref qk, .ref qf, .ref qx, .ref qy, .int (nI pc_), .int (nI pn), .int (nI pb)])), (qx, .inl (cI, 9000, .inl X)), (qy, .inl (cI, 9000, .inl Y))] H := hP
              have hD : va_D A [(hc, .inr (0, [.ref hx_, .ref ha_, .ref hh, .ref hp, .ref hs])), (qk, .inl (cI, 3000, .inl K)), (qf, .inl (cI, 3000, .inl Fi)), (hp, .inr (5, [.ref qk, .ref qf, .ref qx, .ref qy, .int (nI pc_), .int (nI pn), .int (nI pb)])), (qx, .inl (cI, 9000, .inl X)), (qy, .inl (cI, 9000, .inl Y))] := hD
              refine W.eq (g2 := F0 m 84 ls [.int (if 0 = 0 then X (f + 1 - 1) else Y (f + 1 - 1))]) rfl ?_
              exact ct_reti hQ hx hb hr hlocks hP hD hS () [(hc, .inr (0, [.ref hx_, .ref ha_, .ref hh, .ref hp, .ref hs])), (hp, .inr (5, [.ref qk, .ref qf, .ref qx, .ref qy, .int (nI pc_), .int (nI pn), .int (nI pb)])), (qk, .inl (cI, 3000, .inl K)), (qf, .inl (cI, 3000, .inl Fi)), (qx, .inl (cI, 9000, .inl X)), (qy, .inl (cI, 9000, .inl Y))] [0, 3, 1, 2, 4, 5] (by
      have e9 := place_k (k := 2) hR hj hpc (by decide) f2 c_6
      have g9 := f6 (by rw [← f2]; exact c_6)
      rw [ej, hw9, show (2 : Int32) = nI 2 from rfl, e9]
      have t1 : f + 1 - 1 = f := by omega
      have t2 : f + 2 - 1 = f + 1 := by omega
      simp [cmp6, g9, t1, t2]) (trivial) (rfl) rfl rfl (by omega) (by omega) d_CP_place_84
            · skip
              refine lv_aload_n hx hb d_CP_place_59 rfl (lv_at hl 0 rfl) ?_
              refine va_get (D := D) (ci := 0) (v := .ref hp) (C := R_CP) (T := T_CP) (N := 5) hx hb hts (ui_CP _) hown hK hP 0 rfl rfl 3 (by decide) (hts _ (gwc gw_141)) (fun _ h9 => h9) rfl d_CP_place_60 ?_
              refine lv_aload_n hx hb d_CP_place_63 rfl (lv_at hl 0 rfl) ?_
              refine va_get (D := D) (ci := 0) (v := .ref hp) (C := R_CP) (T := T_CP) (N := 5) hx hb hts (ui_CP _) hown hK hP 0 rfl rfl 3 (by decide) (hts _ (gwc gw_141)) (fun _ h9 => h9) rfl d_CP_place_64 ?_
              refine va_get (D := D) (ci := 5) (v := .ref qf) (C := R_Path) (T := T_Path) (N := 7) hx hb hts (ui_Path _) hown hK hP 5 rfl rfl 1 (by decide) (hts _ (gwc gw_110)) (fun _ h9 => h9) rfl d_CP_place_67 ?_
              refine lv_iload_n hx hb d_CP_place_70 rfl (lv_at hl 1 rfl) ?_
              refine tp_i (nI j) (ej) ?_
              refine ld_i hx hb hK hP 2 0 rfl rfl j (by omega) (by omega) d_CP_place_71 ?_
              refine tp_i (nI f) (f1) ?_
              refine lv_iload_n hx hb d_CP_place_72 rfl (lv_at hl 2 rfl) ?_
              refine tp_i (3) (hw9) ?_
              refine lv_iconst (v := 2) hx hb d_CP_place_73 (by decide) ?_
              refine lv_idiv hx hb d_CP_place_74 (by decide) ?_
              refine tp_i (1) (by decide) ?_
              refine lv_iadd hx hb d_CP_place_75 ?_
              refine tp_i (nI (f + 1)) (nI_add _ _) ?_
              refine lv_iconst (v := 1) hx hb d_CP_place_76 (by decide) ?_
              refine lv_isub hx hb d_CP_place_77 ?_
              refine tp_i (nI (f + 1 - 1)) (pk_sub (a := f + 1) (b := 1) (by omega)) ?_
              refine lv_iload_n hx hb d_CP_place_78 rfl (lv_at hl 2 rfl) ?_
              refine tp_i (3) (hw9) ?_
              refine lv_iconst (v := 2) hx hb d_CP_place_79 (by decide) ?_
              refine lv_irem hx hb d_CP_place_80 (by decide) ?_
              refine tp_i (1) (by decide) ?_
              refine ct_callV (ci := 5) (q0 := 5) (As := [.int (nI (f + 1 - 1)), .int 1]) (rest := []) (wr := [(hc, .inr (0, [.ref hx_, .ref ha_, .ref hh, .ref hp, .ref hs])), (qk, .inl (cI, 3000, .inl K)), (qf, .inl (cI, 3000, .inl Fi))]) (n := 2) (c_Path_coordinate l D cI cB cJ qQ  hp qk qf qx qy pc_ pn pb 9000 X Y (f + 1 - 1) 1 (by omega) (by decide)) hx hb hml hown hts (amb_ok qQ) hK hP hD hS hA hM (gi_V gw_446 gw_447 gw_448 gw_32 gw_449) rfl (by decide +kernel) ⟨by omega, by omega⟩ [5, 3, 4] [0, 1, 2] rfl rfl rfl rfl (by decide) rfl rfl rfl hl.1 rfl (Nat.le_of_ble_eq_true rfl) d_CP_place_81 ⟨by omega, by omega⟩ (fun u_8 H locs hok hP hD hS => ?_)
              have hP : va_P D cl [(hc, .inr (0, [.ref hx_, .ref ha_, .ref hh, .ref hp, .ref hs])), (qk, .inl (cI, 3000, .inl K)), (qf, .inl (cI, 3000, .inl Fi)), (hp, .inr (5, [.ref qk, .ref qf, .ref qx, .ref qy, .int (nI pc_), .int (nI pn), .int (nI pb)])), (qx, .inl (cI, 9000, .inl X)), (qy, .inl (cI, 9000, .inl Y))] H := hP
              have hD : va_D A [(hc, .inr (0, [.ref hx_, .ref ha_, .ref hh, .ref hp, .ref hs])), (qk, .inl (cI, 3000, .inl K)), (qf, .inl (cI, 3000, .inl Fi)), (hp, .inr (5, [.ref qk, .ref qf, .ref qx, .ref qy, .int (nI pc_), .int (nI pn), .int (nI pb)])), (qx, .inl (cI, 9000, .inl X)), (qy, .inl (cI, 9000, .inl Y))] := hD
              refine W.eq (g2 := F0 m 84 ls [.int (if 1 = 0 then X (f + 1 - 1) else Y (f + 1 - 1))]) rfl ?_
              exact ct_reti hQ hx hb hr hlocks hP hD hS () [(hc, .inr (0, [.ref hx_, .ref ha_, .ref hh, .ref hp, .ref hs])), (hp, .inr (5, [.ref qk, .ref qf, .ref qx, .ref qy, .int (nI pc_), .int (nI pn), .int (nI pb)])), (qk, .inl (cI, 3000, .inl K)), (qf, .inl (cI, 3000, .inl Fi)), (qx, .inl (cI, 9000, .inl X)), (qy, .inl (cI, 9000, .inl Y))] [0, 3, 1, 2, 4, 5] (by
      have e9 := place_k (k := 3) hR hj hpc (by decide) f2 c_6
      have g9 := f6 (by rw [← f2]; exact c_6)
      rw [ej, hw9, show (3 : Int32) = nI 3 from rfl, e9]
      have t1 : f + 1 - 1 = f := by omega
      have t2 : f + 2 - 1 = f + 1 := by omega
      simp [cmp6, g9, t1, t2]) (trivial) (rfl) rfl rfl (by omega) (by omega) d_CP_place_84
            · skip
              refine lv_aload_n hx hb d_CP_place_59 rfl (lv_at hl 0 rfl) ?_
              refine va_get (D := D) (ci := 0) (v := .ref hp) (C := R_CP) (T := T_CP) (N := 5) hx hb hts (ui_CP _) hown hK hP 0 rfl rfl 3 (by decide) (hts _ (gwc gw_141)) (fun _ h9 => h9) rfl d_CP_place_60 ?_
              refine lv_aload_n hx hb d_CP_place_63 rfl (lv_at hl 0 rfl) ?_
              refine va_get (D := D) (ci := 0) (v := .ref hp) (C := R_CP) (T := T_CP) (N := 5) hx hb hts (ui_CP _) hown hK hP 0 rfl rfl 3 (by decide) (hts _ (gwc gw_141)) (fun _ h9 => h9) rfl d_CP_place_64 ?_
              refine va_get (D := D) (ci := 5) (v := .ref qf) (C := R_Path) (T := T_Path) (N := 7) hx hb hts (ui_Path _) hown hK hP 5 rfl rfl 1 (by decide) (hts _ (gwc gw_110)) (fun _ h9 => h9) rfl d_CP_place_67 ?_
              refine lv_iload_n hx hb d_CP_place_70 rfl (lv_at hl 1 rfl) ?_
              refine tp_i (nI j) (ej) ?_
              refine ld_i hx hb hK hP 2 0 rfl rfl j (by omega) (by omega) d_CP_place_71 ?_
              refine tp_i (nI f) (f1) ?_
              refine lv_iload_n hx hb d_CP_place_72 rfl (lv_at hl 2 rfl) ?_
              refine tp_i (4) (hw9) ?_
              refine lv_iconst (v := 2) hx hb d_CP_place_73 (by decide) ?_
              refine lv_idiv hx hb d_CP_place_74 (by decide) ?_
              refine tp_i (2) (by decide) ?_
              refine lv_iadd hx hb d_CP_place_75 ?_
              refine tp_i (nI (f + 2)) (nI_add _ _) ?_
              refine lv_iconst (v := 1) hx hb d_CP_place_76 (by decide) ?_
              refine lv_isub hx hb d_CP_place_77 ?_
              refine tp_i (nI (f + 2 - 1)) (pk_sub (a := f + 2) (b := 1) (by omega)) ?_
              refine lv_iload_n hx hb d_CP_place_78 rfl (lv_at hl 2 rfl) ?_
              refine tp_i (4) (hw9) ?_
              refine lv_iconst (v := 2) hx hb d_CP_place_79 (by decide) ?_
              refine lv_irem hx hb d_CP_place_80 (by decide) ?_
              refine tp_i (0) (by decide) ?_
              refine ct_callV (ci := 5) (q0 := 5) (As := [.int (nI (f + 2 - 1)), .int 0]) (rest := []) (wr := [(hc, .inr (0, [.ref hx_, .ref ha_, .ref hh, .ref hp, .ref hs])), (qk, .inl (cI, 3000, .inl K)), (qf, .inl (cI, 3000, .inl Fi))]) (n := 2) (c_Path_coordinate l D cI cB cJ qQ  hp qk qf qx qy pc_ pn pb 9000 X Y (f + 2 - 1) 0 (by omega) (by decide)) hx hb hml hown hts (amb_ok qQ) hK hP hD hS hA hM (gi_V gw_446 gw_447 gw_448 gw_32 gw_449) rfl (by decide +kernel) ⟨by omega, by omega⟩ [5, 3, 4] [0, 1, 2] rfl rfl rfl rfl (by decide) rfl rfl rfl hl.1 rfl (Nat.le_of_ble_eq_true rfl) d_CP_place_81 ⟨by omega, by omega⟩ (fun u_9 H locs hok hP hD hS => ?_)
              have hP : va_P D cl [(hc, .inr (0, [.ref hx_, .ref ha_, .ref hh, .ref hp, .ref hs])), (qk, .inl (cI, 3000, .inl K)), (qf, .inl (cI, 3000, .inl Fi)), (hp, .inr (5, [.ref qk, .ref qf, .ref qx, .ref qy, .int (nI pc_), .int (nI pn), .int (nI pb)])), (qx, .inl (cI, 9000, .inl X)), (qy, .inl (cI, 9000, .inl Y))] H := hP
              have hD : va_D A [(hc, .inr (0, [.ref hx_, .ref ha_, .ref hh, .ref hp, .ref hs])), (qk, .inl (cI, 3000, .inl K)), (qf, .inl (cI, 3000, .inl Fi)), (hp, .inr (5, [.ref qk, .ref qf, .ref qx, .ref qy, .int (nI pc_), .int (nI pn), .int (nI pb)])), (qx, .inl (cI, 9000, .inl X)), (qy, .inl (cI, 9000, .inl Y))] := hD
              refine W.eq (g2 := F0 m 84 ls [.int (if 0 = 0 then X (f + 2 - 1) else Y (f + 2 - 1))]) rfl ?_
              exact ct_reti hQ hx hb hr hlocks hP hD hS () [(hc, .inr (0, [.ref hx_, .ref ha_, .ref hh, .ref hp, .ref hs])), (hp, .inr (5, [.ref qk, .ref qf, .ref qx, .ref qy, .int (nI pc_), .int (nI pn), .int (nI pb)])), (qk, .inl (cI, 3000, .inl K)), (qf, .inl (cI, 3000, .inl Fi)), (qx, .inl (cI, 9000, .inl X)), (qy, .inl (cI, 9000, .inl Y))] [0, 3, 1, 2, 4, 5] (by
      have e9 := place_k (k := 4) hR hj hpc (by decide) f2 c_6
      have g9 := f6 (by rw [← f2]; exact c_6)
      rw [ej, hw9, show (4 : Int32) = nI 4 from rfl, e9]
      have t1 : f + 1 - 1 = f := by omega
      have t2 : f + 2 - 1 = f + 1 := by omega
      simp [cmp6, g9, t1, t2]) (trivial) (rfl) rfl rfl (by omega) (by omega) d_CP_place_84
            · skip
              refine lv_aload_n hx hb d_CP_place_59 rfl (lv_at hl 0 rfl) ?_
              refine va_get (D := D) (ci := 0) (v := .ref hp) (C := R_CP) (T := T_CP) (N := 5) hx hb hts (ui_CP _) hown hK hP 0 rfl rfl 3 (by decide) (hts _ (gwc gw_141)) (fun _ h9 => h9) rfl d_CP_place_60 ?_
              refine lv_aload_n hx hb d_CP_place_63 rfl (lv_at hl 0 rfl) ?_
              refine va_get (D := D) (ci := 0) (v := .ref hp) (C := R_CP) (T := T_CP) (N := 5) hx hb hts (ui_CP _) hown hK hP 0 rfl rfl 3 (by decide) (hts _ (gwc gw_141)) (fun _ h9 => h9) rfl d_CP_place_64 ?_
              refine va_get (D := D) (ci := 5) (v := .ref qf) (C := R_Path) (T := T_Path) (N := 7) hx hb hts (ui_Path _) hown hK hP 5 rfl rfl 1 (by decide) (hts _ (gwc gw_110)) (fun _ h9 => h9) rfl d_CP_place_67 ?_
              refine lv_iload_n hx hb d_CP_place_70 rfl (lv_at hl 1 rfl) ?_
              refine tp_i (nI j) (ej) ?_
              refine ld_i hx hb hK hP 2 0 rfl rfl j (by omega) (by omega) d_CP_place_71 ?_
              refine tp_i (nI f) (f1) ?_
              refine lv_iload_n hx hb d_CP_place_72 rfl (lv_at hl 2 rfl) ?_
              refine tp_i (5) (hw9) ?_
              refine lv_iconst (v := 2) hx hb d_CP_place_73 (by decide) ?_
              refine lv_idiv hx hb d_CP_place_74 (by decide) ?_
              refine tp_i (2) (by decide) ?_
              refine lv_iadd hx hb d_CP_place_75 ?_
              refine tp_i (nI (f + 2)) (nI_add _ _) ?_
              refine lv_iconst (v := 1) hx hb d_CP_place_76 (by decide) ?_
              refine lv_isub hx hb d_CP_place_77 ?_
              refine tp_i (nI (f + 2 - 1)) (pk_sub (a := f + 2) (b := 1) (by omega)) ?_
              refine lv_iload_n hx hb d_CP_place_78 rfl (lv_at hl 2 rfl) ?_
              refine tp_i (5) (hw9) ?_
              refine lv_iconst (v := 2) hx hb d_CP_place_79 (by decide) ?_
              refine lv_irem hx hb d_CP_place_80 (by decide) ?_
              refine tp_i (1) (by decide) ?_
              refine ct_callV (ci := 5) (q0 := 5) (As := [.int (nI (f + 2 - 1)), .int 1]) (rest := []) (wr := [(hc, .inr (0, [.ref hx_, .ref ha_, .ref hh, .ref hp, .ref hs])), (qk, .inl (cI, 3000, .inl K)), (qf, .inl (cI, 3000, .inl Fi))]) (n := 2) (c_Path_coordinate l D cI cB cJ qQ  hp qk qf qx qy pc_ pn pb 9000 X Y (f + 2 - 1) 1 (by omega) (by decide)) hx hb hml hown hts (amb_ok qQ) hK hP hD hS hA hM (gi_V gw_446 gw_447 gw_448 gw_32 gw_449) rfl (by decide +kernel) ⟨by omega, by omega⟩ [5, 3, 4] [0, 1, 2] rfl rfl rfl rfl (by decide) rfl rfl rfl hl.1 rfl (Nat.le_of_ble_eq_true rfl) d_CP_place_81 ⟨by omega, by omega⟩ (fun u_10 H locs hok hP hD hS => ?_)
              have hP : va_P D cl [(hc, .inr (0, [.ref hx_, .ref ha_, .ref hh, .ref hp, .ref hs])), (qk, .inl (cI, 3000, .inl K)), (qf, .inl (cI, 3000, .inl Fi)), (hp, .inr (5, [.ref qk, .ref qf, .ref qx, .ref qy, .int (nI pc_), .int (nI pn), .int (nI pb)])), (qx, .inl (cI, 9000, .inl X)), (qy, .inl (cI, 9000, .inl Y))] H := hP
              have hD : va_D A [(hc, .inr (0, [.ref hx_, .ref ha_, .ref hh, .ref hp, .ref hs])), (qk, .inl (cI, 3000, .inl K)), (qf, .inl (cI, 3000, .inl Fi)), (hp, .inr (5, [.ref qk, .ref qf, .ref qx, .ref qy, .int (nI pc_), .int (nI pn), .int (nI pb)])), (qx, .inl (cI, 9000, .inl X)), (qy, .inl (cI, 9000, .inl Y))] := hD
              refine W.eq (g2 := F0 m 84 ls [.int (if 1 = 0 then X (f + 2 - 1) else Y (f + 2 - 1))]) rfl ?_
              exact ct_reti hQ hx hb hr hlocks hP hD hS () [(hc, .inr (0, [.ref hx_, .ref ha_, .ref hh, .ref hp, .ref hs])), (hp, .inr (5, [.ref qk, .ref qf, .ref qx, .ref qy, .int (nI pc_), .int (nI pn), .int (nI pb)])), (qk, .inl (cI, 3000, .inl K)), (qf, .inl (cI, 3000, .inl Fi)), (qx, .inl (cI, 9000, .inl X)), (qy, .inl (cI, 9000, .inl Y))] [0, 3, 1, 2, 4, 5] (by
      have e9 := place_k (k := 5) hR hj hpc (by decide) f2 c_6
      have g9 := f6 (by rw [← f2]; exact c_6)
      rw [ej, hw9, show (5 : Int32) = nI 5 from rfl, e9]
      have t1 : f + 1 - 1 = f := by omega
      have t2 : f + 2 - 1 = f + 1 := by omega
      simp [cmp6, g9, t1, t2]) (trivial) (rfl) rfl rfl (by omega) (by omega) d_CP_place_84
          · skip
            refine lv_iconst (v := 0) hx hb d_CP_place_57 (by decide) ?_
            exact ct_reti hQ hx hb hr hlocks hP hD hS () [(hc, .inr (0, [.ref hx_, .ref ha_, .ref hh, .ref hp, .ref hs])), (hp, .inr (5, [.ref qk, .ref qf, .ref qx, .ref qy, .int (nI pc_), .int (nI pn), .int (nI pb)])), (qk, .inl (cI, 3000, .inl K)), (qf, .inl (cI, 3000, .inl Fi)), (qx, .inl (cI, 9000, .inl X)), (qy, .inl (cI, 9000, .inl Y))] [0, 5, 1, 2, 3, 4] (by rw [ej, place_n2 hR hj hpc (Int32.not_lt.mpr c_5) c_4 f2 c_6]) (trivial) (rfl) rfl rfl (by omega) (by omega) d_CP_place_58
        · skip
          refine lv_aload_n hx hb d_CP_place_27 rfl (lv_at hl 0 rfl) ?_
          refine va_get (D := D) (ci := 0) (v := .ref hp) (C := R_CP) (T := T_CP) (N := 5) hx hb hts (ui_CP _) hown hK hP 0 rfl rfl 3 (by decide) (hts _ (gwc gw_141)) (fun _ h9 => h9) rfl d_CP_place_28 ?_
          refine lv_aload_n hx hb d_CP_place_31 rfl (lv_at hl 0 rfl) ?_
          refine va_get (D := D) (ci := 0) (v := .ref hp) (C := R_CP) (T := T_CP) (N := 5) hx hb hts (ui_CP _) hown hK hP 0 rfl rfl 3 (by decide) (hts _ (gwc gw_141)) (fun _ h9 => h9) rfl d_CP_place_32 ?_
          refine lv_iload_n hx hb d_CP_place_35 rfl (lv_at hl 1 rfl) ?_
          refine tp_i (nI j) (ej) ?_
          refine ct_callV (ci := 5) (q0 := 5) (As := [.int (nI j)]) (rest := [.ref hp]) (wr := [(hc, .inr (0, [.ref hx_, .ref ha_, .ref hh, .ref hp, .ref hs])), (qx, .inl (cI, 9000, .inl X)), (qy, .inl (cI, 9000, .inl Y))]) (n := 1) (c_Path_pointOf l D cI cB cJ qQ  hp qk qf qx qy pc_ pn pb 3000 K Fi (fun _ => f) j (by omega) (by decide) (f1)) hx hb hml hown hts (amb_ok qQ) hK hP hD hS hA hM (gi_V gw_445 gw_368 gw_369 gw_32 gw_370) rfl (by decide +kernel) ⟨by omega, by omega⟩ [5, 1, 2] [0, 3, 4] rfl rfl rfl rfl (by decide) rfl rfl rfl hl.1 rfl (Nat.le_of_ble_eq_true rfl) d_CP_place_36 ⟨by omega, by omega⟩ (fun u_11 H locs hok hP hD hS => ?_)
          have hP : va_P D cl [(hc, .inr (0, [.ref hx_, .ref ha_, .ref hh, .ref hp, .ref hs])), (qx, .inl (cI, 9000, .inl X)), (qy, .inl (cI, 9000, .inl Y)), (hp, .inr (5, [.ref qk, .ref qf, .ref qx, .ref qy, .int (nI pc_), .int (nI pn), .int (nI pb)])), (qk, .inl (cI, 3000, .inl K)), (qf, .inl (cI, 3000, .inl Fi))] H := hP
          have hD : va_D A [(hc, .inr (0, [.ref hx_, .ref ha_, .ref hh, .ref hp, .ref hs])), (qx, .inl (cI, 9000, .inl X)), (qy, .inl (cI, 9000, .inl Y)), (hp, .inr (5, [.ref qk, .ref qf, .ref qx, .ref qy, .int (nI pc_), .int (nI pn), .int (nI pb)])), (qk, .inl (cI, 3000, .inl K)), (qf, .inl (cI, 3000, .inl Fi))] := hD
          refine W.eq (g2 := F0 m 39 ls [.int (nI (if K j = 2 then (fun _ => f) j + 2 else (fun _ => f) j)), .ref hp]) rfl ?_
          refine lv_iload_n hx hb d_CP_place_39 rfl (lv_at hl 2 rfl) ?_
          refine ct_callV (ci := 5) (q0 := 3) (As := [.int (nI (if K j = 2 then (fun _ => f) j + 2 else (fun _ => f) j)), .int wh]) (rest := []) (wr := [(hc, .inr (0, [.ref hx_, .ref ha_, .ref hh, .ref hp, .ref hs])), (qk, .inl (cI, 3000, .inl K)), (qf, .inl (cI, 3000, .inl Fi))]) (n := 2) (c_Path_coordinate l D cI cB cJ qQ  hp qk qf qx qy pc_ pn pb 9000 X Y (if K j = 2 then (fun _ => f) j + 2 else (fun _ => f) j) wh (Nat.lt_of_lt_of_le f3 (by omega)) (by decide)) hx hb hml hown hts (amb_ok qQ) hK hP hD hS hA hM (gi_V gw_446 gw_447 gw_448 gw_32 gw_449) rfl (by decide +kernel) ⟨by omega, by omega⟩ [3, 1, 2] [0, 4, 5] rfl rfl rfl rfl (by decide) rfl rfl rfl hl.1 rfl (Nat.le_of_ble_eq_true rfl) d_CP_place_40 ⟨by omega, by omega⟩ (fun u_12 H locs hok hP hD hS => ?_)
          have hP : va_P D cl [(hc, .inr (0, [.ref hx_, .ref ha_, .ref hh, .ref hp, .ref hs])), (qk, .inl (cI, 3000, .inl K)), (qf, .inl (cI, 3000, .inl Fi)), (hp, .inr (5, [.ref qk, .ref qf, .ref qx, .ref qy, .int (nI pc_), .int (nI pn), .int (nI pb)])), (qx, .inl (cI, 9000, .inl X)), (qy, .inl (cI, 9000, .inl Y))] H := hP
          have hD : va_D A [(hc, .inr (0, [.ref hx_, .ref ha_, .ref hh, .ref hp, .ref hs])), (qk, .inl (cI, 3000, .inl K)), (qf, .inl (cI, 3000, .inl Fi)), (hp, .inr (5, [.ref qk, .ref qf, .ref qx, .ref qy, .int (nI pc_), .int (nI pn), .int (nI pb)])), (qx, .inl (cI, 9000, .inl X)), (qy, .inl (cI, 9000, .inl Y))] := hD
          refine W.eq (g2 := F0 m 43 ls [.int (if wh = 0 then X (if K j = 2 then (fun _ => f) j + 2 else (fun _ => f) j) else Y (if K j = 2 then (fun _ => f) j + 2 else (fun _ => f) j))]) rfl ?_
          exact ct_reti hQ hx hb hr hlocks hP hD hS () [(hc, .inr (0, [.ref hx_, .ref ha_, .ref hh, .ref hp, .ref hs])), (hp, .inr (5, [.ref qk, .ref qf, .ref qx, .ref qy, .int (nI pc_), .int (nI pn), .int (nI pb)])), (qk, .inl (cI, 3000, .inl K)), (qf, .inl (cI, 3000, .inl Fi)), (qx, .inl (cI, 9000, .inl X)), (qy, .inl (cI, 9000, .inl Y))] [0, 3, 1, 2, 4, 5] (by rw [ej, place_01 hR hj hpc c_3 (Int32.not_le.mp c_5) f4 f5]) (trivial) (rfl) rfl rfl (by omega) (by omega) d_CP_place_43
      · skip
        refine lv_iconst (v := 0) hx hb d_CP_place_20 (by decide) ?_
        exact ct_reti hQ hx hb hr hlocks hP hD hS () [(hc, .inr (0, [.ref hx_, .ref ha_, .ref hh, .ref hp, .ref hs])), (hp, .inr (5, [.ref qk, .ref qf, .ref qx, .ref qy, .int (nI pc_), .int (nI pn), .int (nI pb)])), (qk, .inl (cI, 3000, .inl K)), (qf, .inl (cI, 3000, .inl Fi)), (qx, .inl (cI, 9000, .inl X)), (qy, .inl (cI, 9000, .inl Y))] [0, 5, 1, 2, 3, 4] (by rw [place_w (Or.inr (Int32.not_le.mp c_4))]) (trivial) (rfl) rfl rfl (by omega) (by omega) d_CP_place_21
set_option maxHeartbeats 4000000 in
set_option maxRecDepth 100000 in
/-- point -/
theorem c_CP_point (l : Launch) (D : va_G) (cI cB cJ : ClassId) (qQ : Nat) (hc : Nat) (hx_ : Nat) (ha_ : Nat) (hh : Nat) (hs : Nat) (hp : Nat) (qk : Nat) (qf : Nat) (qx : Nat) (qy : Nat) (pc_ : Nat) (pn : Nat) (pb : Nat) (K : Nat → Int32) (Fi : Nat → Int32) (X : Nat → Int32) (Y : Nat → Int32) (ps : List Pt) (wh : Int32) (hR : RIp pc_ pn pb K Fi X Y ps) (hps : pkp ps) : ct l D cl [(cI, .int), (cB, .byte), (cJ, .long)] (amb qQ) y_CP_point w_CP_point 2 41 (0) (0) [.ref hc, .int wh] [(hc, .inr (0, [.ref hx_, .ref ha_, .ref hh, .ref hp, .ref hs])), (hp, .inr (5, [.ref qk, .ref qf, .ref qx, .ref qy, .int (nI pc_), .int (nI pn), .int (nI pb)])), (qk, .inl (cI, 3000, .inl K)), (qf, .inl (cI, 3000, .inl Fi)), (qx, .inl (cI, 9000, .inl X)), (qy, .inl (cI, 9000, .inl Y))] (fun _ : Unit => True) (fun _ : Unit => some (.int (rPoint ps wh))) (fun _ : Unit => [(hc, .inr (0, [.ref hx_, .ref ha_, .ref hh, .ref hp, .ref hs])), (hp, .inr (5, [.ref qk, .ref qf, .ref qx, .ref qy, .int (nI pc_), .int (nI pn), .int (nI pb)])), (qk, .inl (cI, 3000, .inl K)), (qf, .inl (cI, 3000, .inl Fi)), (qx, .inl (cI, 9000, .inl X)), (qy, .inl (cI, 9000, .inl Y))]) := by
  refine ct_ofW (cc := b_CP_point) (maxL := 2) (ret := (some .int)) (by decide) rfl (Nat.le_of_ble_eq_true rfl) ?_
  intro p e R s m args below meth c A Q ls hx hb hr hml hts hown hlocks hname hRf hRc hRs hRl hQ hK hP hD hS hA hM hl
  have hl : lv_has ls 2 [(0, .ref hc), (1, .int wh)] := hl
  have hpc := hps.2
  rw [hR.1] at hpc
  have hpn := RI_pn hR
  refine lv_aload_n hx hb d_CP_point_0 rfl (lv_at hl 0 rfl) ?_
  refine va_get (D := D) (ci := 0) (v := .ref hp) (C := R_CP) (T := T_CP) (N := 5) hx hb hts (ui_CP _) hown hK hP 0 rfl rfl 3 (by decide) (hts _ (gwc gw_141)) (fun _ h9 => h9) rfl d_CP_point_1 ?_
  refine ct_callV (ci := 5) (q0 := 1) (As := []) (rest := []) (wr := [(hc, .inr (0, [.ref hx_, .ref ha_, .ref hh, .ref hp, .ref hs])), (qk, .inl (cI, 3000, .inl K)), (qf, .inl (cI, 3000, .inl Fi)), (qx, .inl (cI, 9000, .inl X)), (qy, .inl (cI, 9000, .inl Y))]) (n := 0) (c_Path_isEmpty l D cI cB cJ qQ  hp qk qf qx qy pc_ pn pb (hpc)) hx hb hml hown hts (amb_ok qQ) hK hP hD hS hA hM (gi_V gw_194 gw_195 gw_196 gw_32 gw_197) rfl (by decide +kernel) ⟨by omega, by omega⟩ [1] [0, 2, 3, 4, 5] rfl rfl rfl rfl (by decide) rfl rfl rfl hl.1 rfl (Nat.le_of_ble_eq_true rfl) d_CP_point_4 ⟨by omega, by omega⟩ (fun u_1 H locs hok hP hD hS => ?_)
  have hP : va_P D cl [(hc, .inr (0, [.ref hx_, .ref ha_, .ref hh, .ref hp, .ref hs])), (qk, .inl (cI, 3000, .inl K)), (qf, .inl (cI, 3000, .inl Fi)), (qx, .inl (cI, 9000, .inl X)), (qy, .inl (cI, 9000, .inl Y)), (hp, .inr (5, [.ref qk, .ref qf, .ref qx, .ref qy, .int (nI pc_), .int (nI pn), .int (nI pb)]))] H := hP
  have hD : va_D A [(hc, .inr (0, [.ref hx_, .ref ha_, .ref hh, .ref hp, .ref hs])), (qk, .inl (cI, 3000, .inl K)), (qf, .inl (cI, 3000, .inl Fi)), (qx, .inl (cI, 9000, .inl X)), (qy, .inl (cI, 9000, .inl Y)), (hp, .inr (5, [.ref qk, .ref qf, .ref qx, .ref qy, .int (nI pc_), .int (nI pn), .int (nI pb)]))] := hD
  refine W.eq (g2 := F0 m 7 ls [.int (bz (decide (pc_ = 0)))]) rfl ?_
  refine bb_ne (tgt := 19) hx hb d_CP_point_7 (by decide) (fun c_2 => ?_) (fun c_2 => ?_)
  · skip
    have hz := of_decide_eq_true c_2
    refine lv_iconst (v := 0) hx hb d_CP_point_19 (by decide) ?_
    exact ct_reti hQ hx hb hr hlocks hP hD hS () [(hc, .inr (0, [.ref hx_, .ref ha_, .ref hh, .ref hp, .ref hs])), (hp, .inr (5, [.ref qk, .ref qf, .ref qx, .ref qy, .int (nI pc_), .int (nI pn), .int (nI pb)])), (qk, .inl (cI, 3000, .inl K)), (qf, .inl (cI, 3000, .inl Fi)), (qx, .inl (cI, 9000, .inl X)), (qy, .inl (cI, 9000, .inl Y))] [0, 5, 1, 2, 3, 4] (by rw [point_0 hR hz]) (trivial) (rfl) rfl rfl (by omega) (by omega) d_CP_point_20
  · skip
    have hz := of_decide_eq_false c_2
    have hz : 0 < pc_ := by omega
    obtain ⟨f, f1, f2, f3, f4, f5, f6⟩ := RI_read hR hps.1 (show pc_ - 1 < pc_ by omega)
    have f3 : (if K (pc_ - 1) = 2 then f + 2 else f) < 9000 := Nat.lt_of_lt_of_le f3 (by omega)
    refine lv_iload_n hx hb d_CP_point_10 rfl (lv_at hl 1 rfl) ?_
    refine lv_if_lt (tgt := 19) hx hb d_CP_point_11 (by decide) (fun c_3 => ?_) (fun c_3 => ?_)
    · skip
      refine lv_iconst (v := 0) hx hb d_CP_point_19 (by decide) ?_
      exact ct_reti hQ hx hb hr hlocks hP hD hS () [(hc, .inr (0, [.ref hx_, .ref ha_, .ref hh, .ref hp, .ref hs])), (hp, .inr (5, [.ref qk, .ref qf, .ref qx, .ref qy, .int (nI pc_), .int (nI pn), .int (nI pb)])), (qk, .inl (cI, 3000, .inl K)), (qf, .inl (cI, 3000, .inl Fi)), (qx, .inl (cI, 9000, .inl X)), (qy, .inl (cI, 9000, .inl Y))] [0, 5, 1, 2, 3, 4] (by rw [point_w (Or.inl c_3)]) (trivial) (rfl) rfl rfl (by omega) (by omega) d_CP_point_20
    · skip
      refine lv_iload_n hx hb d_CP_point_14 rfl (lv_at hl 1 rfl) ?_
      refine lv_iconst (v := 1) hx hb d_CP_point_15 (by decide) ?_
      refine lv_icmp_le (tgt := 21) hx hb d_CP_point_16 (by decide) (fun c_4 => ?_) (fun c_4 => ?_)
      · skip
        refine lv_aload_n hx hb d_CP_point_21 rfl (lv_at hl 0 rfl) ?_
        refine va_get (D := D) (ci := 0) (v := .ref hp) (C := R_CP) (T := T_CP) (N := 5) hx hb hts (ui_CP _) hown hK hP 0 rfl rfl 3 (by decide) (hts _ (gwc gw_141)) (fun _ h9 => h9) rfl d_CP_point_22 ?_
        refine lv_aload_n hx hb d_CP_point_25 rfl (lv_at hl 0 rfl) ?_
        refine va_get (D := D) (ci := 0) (v := .ref hp) (C := R_CP) (T := T_CP) (N := 5) hx hb hts (ui_CP _) hown hK hP 0 rfl rfl 3 (by decide) (hts _ (gwc gw_141)) (fun _ h9 => h9) rfl d_CP_point_26 ?_
        refine ct_callV (ci := 5) (q0 := 5) (As := []) (rest := [.ref hp]) (wr := [(hc, .inr (0, [.ref hx_, .ref ha_, .ref hh, .ref hp, .ref hs])), (qx, .inl (cI, 9000, .inl X)), (qy, .inl (cI, 9000, .inl Y))]) (n := 0) (c_Path_latestPoint l D cI cB cJ qQ  hp qk qf qx qy pc_ pn pb 3000 K Fi (fun _ => f) (by omega) (by omega) (by decide) (f1)) hx hb hml hown hts (amb_ok qQ) hK hP hD hS hA hM (gi_V gw_454 gw_455 gw_456 gw_32 gw_457) rfl (by decide +kernel) ⟨by omega, by omega⟩ [5, 1, 2] [0, 3, 4] rfl rfl rfl rfl (by decide) rfl rfl rfl hl.1 rfl (Nat.le_of_ble_eq_true rfl) d_CP_point_29 ⟨by omega, by omega⟩ (fun u_5 H locs hok hP hD hS => ?_)
        have hP : va_P D cl [(hc, .inr (0, [.ref hx_, .ref ha_, .ref hh, .ref hp, .ref hs])), (qx, .inl (cI, 9000, .inl X)), (qy, .inl (cI, 9000, .inl Y)), (hp, .inr (5, [.ref qk, .ref qf, .ref qx, .ref qy, .int (nI pc_), .int (nI pn), .int (nI pb)])), (qk, .inl (cI, 3000, .inl K)), (qf, .inl (cI, 3000, .inl Fi))] H := hP
        have hD : va_D A [(hc, .inr (0, [.ref hx_, .ref ha_, .ref hh, .ref hp, .ref hs])), (qx, .inl (cI, 9000, .inl X)), (qy, .inl (cI, 9000, .inl Y)), (hp, .inr (5, [.ref qk, .ref qf, .ref qx, .ref qy, .int (nI pc_), .int (nI pn), .int (nI pb)])), (qk, .inl (cI, 3000, .inl K)), (qf, .inl (cI, 3000, .inl Fi))] := hD
        refine W.eq (g2 := F0 m 32 ls [.int (nI (if K (pc_ - 1) = 2 then (fun _ => f) (pc_ - 1) + 2 else (fun _ => f) (pc_ - 1))), .ref hp]) rfl ?_
        refine lv_iload_n hx hb d_CP_point_32 rfl (lv_at hl 1 rfl) ?_
        refine ct_callV (ci := 5) (q0 := 3) (As := [.int (nI (if K (pc_ - 1) = 2 then (fun _ => f) (pc_ - 1) + 2 else (fun _ => f) (pc_ - 1))), .int wh]) (rest := []) (wr := [(hc, .inr (0, [.ref hx_, .ref ha_, .ref hh, .ref hp, .ref hs])), (qk, .inl (cI, 3000, .inl K)), (qf, .inl (cI, 3000, .inl Fi))]) (n := 2) (c_Path_coordinate l D cI cB cJ qQ  hp qk qf qx qy pc_ pn pb 9000 X Y (if K (pc_ - 1) = 2 then (fun _ => f) (pc_ - 1) + 2 else (fun _ => f) (pc_ - 1)) wh (f3) (by decide)) hx hb hml hown hts (amb_ok qQ) hK hP hD hS hA hM (gi_V gw_446 gw_447 gw_448 gw_32 gw_449) rfl (by decide +kernel) ⟨by omega, by omega⟩ [3, 1, 2] [0, 4, 5] rfl rfl rfl rfl (by decide) rfl rfl rfl hl.1 rfl (Nat.le_of_ble_eq_true rfl) d_CP_point_33 ⟨by omega, by omega⟩ (fun u_6 H locs hok hP hD hS => ?_)
        have hP : va_P D cl [(hc, .inr (0, [.ref hx_, .ref ha_, .ref hh, .ref hp, .ref hs])), (qk, .inl (cI, 3000, .inl K)), (qf, .inl (cI, 3000, .inl Fi)), (hp, .inr (5, [.ref qk, .ref qf, .ref qx, .ref qy, .int (nI pc_), .int (nI pn), .int (nI pb)])), (qx, .inl (cI, 9000, .inl X)), (qy, .inl (cI, 9000, .inl Y))] H := hP
        have hD : va_D A [(hc, .inr (0, [.ref hx_, .ref ha_, .ref hh, .ref hp, .ref hs])), (qk, .inl (cI, 3000, .inl K)), (qf, .inl (cI, 3000, .inl Fi)), (hp, .inr (5, [.ref qk, .ref qf, .ref qx, .ref qy, .int (nI pc_), .int (nI pn), .int (nI pb)])), (qx, .inl (cI, 9000, .inl X)), (qy, .inl (cI, 9000, .inl Y))] := hD
        refine W.eq (g2 := F0 m 36 ls [.int (if wh = 0 then X (if K (pc_ - 1) = 2 then (fun _ => f) (pc_ - 1) + 2 else (fun _ => f) (pc_ - 1)) else Y (if K (pc_ - 1) = 2 then (fun _ => f) (pc_ - 1) + 2 else (fun _ => f) (pc_ - 1)))]) rfl ?_
        exact ct_reti hQ hx hb hr hlocks hP hD hS () [(hc, .inr (0, [.ref hx_, .ref ha_, .ref hh, .ref hp, .ref hs])), (hp, .inr (5, [.ref qk, .ref qf, .ref qx, .ref qy, .int (nI pc_), .int (nI pn), .int (nI pb)])), (qk, .inl (cI, 3000, .inl K)), (qf, .inl (cI, 3000, .inl Fi)), (qx, .inl (cI, 9000, .inl X)), (qy, .inl (cI, 9000, .inl Y))] [0, 3, 1, 2, 4, 5] (by rw [point_at hR hz c_3 c_4 f4 f5]) (trivial) (rfl) rfl rfl (by omega) (by omega) d_CP_point_36
      · skip
        refine lv_iconst (v := 0) hx hb d_CP_point_19 (by decide) ?_
        exact ct_reti hQ hx hb hr hlocks hP hD hS () [(hc, .inr (0, [.ref hx_, .ref ha_, .ref hh, .ref hp, .ref hs])), (hp, .inr (5, [.ref qk, .ref qf, .ref qx, .ref qy, .int (nI pc_), .int (nI pn), .int (nI pb)])), (qk, .inl (cI, 3000, .inl K)), (qf, .inl (cI, 3000, .inl Fi)), (qx, .inl (cI, 9000, .inl X)), (qy, .inl (cI, 9000, .inl Y))] [0, 5, 1, 2, 3, 4] (by rw [point_w (Or.inr (Int32.not_le.mp c_4))]) (trivial) (rfl) rfl rfl (by omega) (by omega) d_CP_point_20
set_option maxHeartbeats 4000000 in
set_option maxRecDepth 100000 in
/-- isPoint -/
theorem c_CP_isPoint (l : Launch) (D : va_G) (cI cB cJ : ClassId) (qQ : Nat) (hc : Nat) (hx_ : Nat) (ha_ : Nat) (hh : Nat) (hs : Nat) (hp : Nat) (qk : Nat) (qf : Nat) (qx : Nat) (qy : Nat) (pc_ : Nat) (pn : Nat) (pb : Nat) (K : Nat → Int32) (Fi : Nat → Int32) (X : Nat → Int32) (Y : Nat → Int32) (ps : List Pt) (hR : RIp pc_ pn pb K Fi X Y ps) (hps : pkp ps) : ct l D cl [(cI, .int), (cB, .byte), (cJ, .long)] (amb qQ) y_CP_isPoint w_CP_isPoint 1 20 (0) (0) [.ref hc] [(hc, .inr (0, [.ref hx_, .ref ha_, .ref hh, .ref hp, .ref hs])), (hp, .inr (5, [.ref qk, .ref qf, .ref qx, .ref qy, .int (nI pc_), .int (nI pn), .int (nI pb)])), (qk, .inl (cI, 3000, .inl K)), (qf, .inl (cI, 3000, .inl Fi)), (qx, .inl (cI, 9000, .inl X)), (qy, .inl (cI, 9000, .inl Y))] (fun _ : Unit => True) (fun _ : Unit => some (.int (bz (decide (0 < pc_))))) (fun _ : Unit => [(hc, .inr (0, [.ref hx_, .ref ha_, .ref hh, .ref hp, .ref hs])), (hp, .inr (5, [.ref qk, .ref qf, .ref qx, .ref qy, .int (nI pc_), .int (nI pn), .int (nI pb)])), (qk, .inl (cI, 3000, .inl K)), (qf, .inl (cI, 3000, .inl Fi)), (qx, .inl (cI, 9000, .inl X)), (qy, .inl (cI, 9000, .inl Y))]) := by
  refine ct_ofW (cc := b_CP_isPoint) (maxL := 1) (ret := (some .boolean)) (by decide) rfl (Nat.le_of_ble_eq_true rfl) ?_
  intro p e R s m args below meth c A Q ls hx hb hr hml hts hown hlocks hname hRf hRc hRs hRl hQ hK hP hD hS hA hM hl
  have hl : lv_has ls 1 [(0, .ref hc)] := hl
  have hpc := hps.2
  rw [hR.1] at hpc
  have hpn := RI_pn hR
  refine lv_aload_n hx hb d_CP_isPoint_0 rfl (lv_at hl 0 rfl) ?_
  refine va_get (D := D) (ci := 0) (v := .ref hp) (C := R_CP) (T := T_CP) (N := 5) hx hb hts (ui_CP _) hown hK hP 0 rfl rfl 3 (by decide) (hts _ (gwc gw_141)) (fun _ h9 => h9) rfl d_CP_isPoint_1 ?_
  refine ct_callV (ci := 5) (q0 := 1) (As := []) (rest := []) (wr := [(hc, .inr (0, [.ref hx_, .ref ha_, .ref hh, .ref hp, .ref hs])), (qk, .inl (cI, 3000, .inl K)), (qf, .inl (cI, 3000, .inl Fi)), (qx, .inl (cI, 9000, .inl X)), (qy, .inl (cI, 9000, .inl Y))]) (n := 0) (c_Path_isEmpty l D cI cB cJ qQ  hp qk qf qx qy pc_ pn pb (hpc)) hx hb hml hown hts (amb_ok qQ) hK hP hD hS hA hM (gi_V gw_194 gw_195 gw_196 gw_32 gw_197) rfl (by decide +kernel) ⟨by omega, by omega⟩ [1] [0, 2, 3, 4, 5] rfl rfl rfl rfl (by decide) rfl rfl rfl hl.1 rfl (Nat.le_of_ble_eq_true rfl) d_CP_isPoint_4 ⟨by omega, by omega⟩ (fun u_1 H locs hok hP hD hS => ?_)
  have hP : va_P D cl [(hc, .inr (0, [.ref hx_, .ref ha_, .ref hh, .ref hp, .ref hs])), (qk, .inl (cI, 3000, .inl K)), (qf, .inl (cI, 3000, .inl Fi)), (qx, .inl (cI, 9000, .inl X)), (qy, .inl (cI, 9000, .inl Y)), (hp, .inr (5, [.ref qk, .ref qf, .ref qx, .ref qy, .int (nI pc_), .int (nI pn), .int (nI pb)]))] H := hP
  have hD : va_D A [(hc, .inr (0, [.ref hx_, .ref ha_, .ref hh, .ref hp, .ref hs])), (qk, .inl (cI, 3000, .inl K)), (qf, .inl (cI, 3000, .inl Fi)), (qx, .inl (cI, 9000, .inl X)), (qy, .inl (cI, 9000, .inl Y)), (hp, .inr (5, [.ref qk, .ref qf, .ref qx, .ref qy, .int (nI pc_), .int (nI pn), .int (nI pb)]))] := hD
  refine W.eq (g2 := F0 m 7 ls [.int (bz (decide (pc_ = 0)))]) rfl ?_
  refine bb_ne (tgt := 14) hx hb d_CP_isPoint_7 (by decide) (fun c_2 => ?_) (fun c_2 => ?_)
  · skip
    refine lv_iconst (v := 0) hx hb d_CP_isPoint_14 (by decide) ?_
    exact ct_retz hQ hx hb hr hlocks hP hD hS () [(hc, .inr (0, [.ref hx_, .ref ha_, .ref hh, .ref hp, .ref hs])), (hp, .inr (5, [.ref qk, .ref qf, .ref qx, .ref qy, .int (nI pc_), .int (nI pn), .int (nI pb)])), (qk, .inl (cI, 3000, .inl K)), (qf, .inl (cI, 3000, .inl Fi)), (qx, .inl (cI, 9000, .inl X)), (qy, .inl (cI, 9000, .inl Y))] [0, 5, 1, 2, 3, 4] (by rw [decide_eq_false (by have := of_decide_eq_true c_2; omega)]; rfl) (trivial) (rfl) rfl rfl (by decide) (by omega) (by omega) d_CP_isPoint_15
  · skip
    refine lv_iconst (v := 1) hx hb d_CP_isPoint_10 (by decide) ?_
    refine lv_goto (tgt := 15) hx hb d_CP_isPoint_11 (by decide) ?_
    exact ct_retz hQ hx hb hr hlocks hP hD hS () [(hc, .inr (0, [.ref hx_, .ref ha_, .ref hh, .ref hp, .ref hs])), (hp, .inr (5, [.ref qk, .ref qf, .ref qx, .ref qy, .int (nI pc_), .int (nI pn), .int (nI pb)])), (qk, .inl (cI, 3000, .inl K)), (qf, .inl (cI, 3000, .inl Fi)), (qx, .inl (cI, 9000, .inl X)), (qy, .inl (cI, 9000, .inl Y))] [0, 5, 1, 2, 3, 4] (by rw [decide_eq_true (by have := of_decide_eq_false c_2; omega)]; rfl) (trivial) (rfl) rfl rfl (by decide) (by omega) (by omega) d_CP_isPoint_15
set_option maxHeartbeats 4000000 in
set_option maxRecDepth 100000 in
/-- bound -/
theorem c_CP_bound (l : Launch) (D : va_G) (cI cB cJ : ClassId) (qQ : Nat) (hc : Nat) (hx_ : Nat) (ha_ : Nat) (hh : Nat) (hs : Nat) (hp : Nat) (qk : Nat) (qf : Nat) (qx : Nat) (qy : Nat) (pc_ : Nat) (pn : Nat) (pb : Nat) (K : Nat → Int32) (Fi : Nat → Int32) (X : Nat → Int32) (Y : Nat → Int32) (ps : List Pt) (wh : Int32) (hR : RIp pc_ pn pb K Fi X Y ps) (hps : pkp ps) : ct l D cl [(cI, .int), (cB, .byte), (cJ, .long)] (amb qQ) y_CP_bound w_CP_bound 2 44 (0) (0) [.ref hc, .int wh] [(hc, .inr (0, [.ref hx_, .ref ha_, .ref hh, .ref hp, .ref hs])), (hp, .inr (5, [.ref qk, .ref qf, .ref qx, .ref qy, .int (nI pc_), .int (nI pn), .int (nI pb)])), (qk, .inl (cI, 3000, .inl K)), (qf, .inl (cI, 3000, .inl Fi)), (qx, .inl (cI, 9000, .inl X)), (qy, .inl (cI, 9000, .inl Y))] (fun _ : Unit => True) (fun _ : Unit => some (.int (rBound ps wh))) (fun _ : Unit => [(hc, .inr (0, [.ref hx_, .ref ha_, .ref hh, .ref hp, .ref hs])), (hp, .inr (5, [.ref qk, .ref qf, .ref qx, .ref qy, .int (nI pc_), .int (nI pn), .int (nI pb)])), (qk, .inl (cI, 3000, .inl K)), (qf, .inl (cI, 3000, .inl Fi)), (qx, .inl (cI, 9000, .inl X)), (qy, .inl (cI, 9000, .inl Y))]) := by
  refine ct_ofW (cc := b_CP_bound) (maxL := 2) (ret := (some .int)) (by decide) rfl (Nat.le_of_ble_eq_true rfl) ?_
  intro p e R s m args below meth c A Q ls hx hb hr hml hts hown hlocks hname hRf hRc hRs hRl hQ hK hP hD hS hA hM hl
  have hl : lv_has ls 2 [(0, .ref hc), (1, .int wh)] := hl
  have hpc := hps.2
  rw [hR.1] at hpc
  have hpn := RI_pn hR
  have hbr := bound_row (w := wh) hR hps.1
  refine lv_iload_n hx hb d_CP_bound_0 rfl (lv_at hl 1 rfl) ?_
  refine lv_if_ne (tgt := 22) hx hb d_CP_bound_1 (by decide) (fun c_1 => ?_) (fun c_1 => ?_)
  · skip
    refine lv_iload_n hx hb d_CP_bound_22 rfl (lv_at hl 1 rfl) ?_
    refine lv_iconst (v := 1) hx hb d_CP_bound_23 (by decide) ?_
    refine lv_icmp_ne (tgt := 45) hx hb d_CP_bound_24 (by decide) (fun c_2 => ?_) (fun c_2 => ?_)
    · skip
      refine lv_iload_n hx hb d_CP_bound_45 rfl (lv_at hl 1 rfl) ?_
      refine lv_iconst (v := 2) hx hb d_CP_bound_46 (by decide) ?_
      refine lv_icmp_ne (tgt := 68) hx hb d_CP_bound_47 (by decide) (fun c_3 => ?_) (fun c_3 => ?_)
      · skip
        refine lv_iload_n hx hb d_CP_bound_68 rfl (lv_at hl 1 rfl) ?_
        refine lv_iconst (v := 3) hx hb d_CP_bound_69 (by decide) ?_
        refine lv_icmp_ne (tgt := 93) hx hb d_CP_bound_70 (by decide) (fun c_4 => ?_) (fun c_4 => ?_)
        · skip
          refine lv_iconst (v := 0) hx hb d_CP_bound_93 (by decide) ?_
          exact ct_reti hQ hx hb hr hlocks hP hD hS () [(hc, .inr (0, [.ref hx_, .ref ha_, .ref hh, .ref hp, .ref hs])), (hp, .inr (5, [.ref qk, .ref qf, .ref qx, .ref qy, .int (nI pc_), .int (nI pn), .int (nI pb)])), (qk, .inl (cI, 3000, .inl K)), (qf, .inl (cI, 3000, .inl Fi)), (qx, .inl (cI, 9000, .inl X)), (qy, .inl (cI, 9000, .inl Y))] [0, 1, 2, 3, 4, 5] (by rw [hbr, if_neg c_1, if_neg c_2, if_neg c_3, if_neg c_4]) (trivial) (rfl) rfl rfl (by omega) (by omega) d_CP_bound_94
        · skip
          refine lv_aload_n hx hb d_CP_bound_73 rfl (lv_at hl 0 rfl) ?_
          refine va_get (D := D) (ci := 0) (v := .ref hp) (C := R_CP) (T := T_CP) (N := 5) hx hb hts (ui_CP _) hown hK hP 0 rfl rfl 3 (by decide) (hts _ (gwc gw_141)) (fun _ h9 => h9) rfl d_CP_bound_74 ?_
          refine va_get (D := D) (ci := 5) (v := .ref qy) (C := R_Path) (T := T_Path) (N := 7) hx hb hts (ui_Path _) hown hK hP 1 rfl rfl 3 (by decide) (hts _ (gwc gw_116)) (fun _ h9 => h9) rfl d_CP_bound_77 ?_
          refine lv_aload_n hx hb d_CP_bound_80 rfl (lv_at hl 0 rfl) ?_
          refine va_get (D := D) (ci := 0) (v := .ref hp) (C := R_CP) (T := T_CP) (N := 5) hx hb hts (ui_CP _) hown hK hP 0 rfl rfl 3 (by decide) (hts _ (gwc gw_141)) (fun _ h9 => h9) rfl d_CP_bound_81 ?_
          refine va_get (D := D) (ci := 5) (v := .int (nI pn)) (C := R_Path) (T := T_Path) (N := 7) hx hb hts (ui_Path _) hown hK hP 1 rfl rfl 5 (by decide) (hts _ (gwc gw_120)) (fun _ h9 => h9) rfl d_CP_bound_84 ?_
          refine ct_callS (av := [.ref qy, .int (nI pn)]) (rest := []) (wr := [(hc, .inr (0, [.ref hx_, .ref ha_, .ref hh, .ref hp, .ref hs])), (hp, .inr (5, [.ref qk, .ref qf, .ref qx, .ref qy, .int (nI pc_), .int (nI pn), .int (nI pb)])), (qk, .inl (cI, 3000, .inl K)), (qf, .inl (cI, 3000, .inl Fi)), (qx, .inl (cI, 9000, .inl X))]) (n := 2) (c_CP_greatest l D cI cB cJ qQ  qy 9000 Y pn (by omega) (by decide)) hx hb hml hown hts (amb_ok qQ) hK hP hD hS hA hM (gi_S gw_472 gw_473 gw_28 gw_474) rfl (by decide +kernel) ⟨by omega, by omega⟩ [5] [0, 1, 2, 3, 4] rfl rfl rfl rfl (by decide) rfl hl.1 rfl (Nat.le_of_ble_eq_true rfl) d_CP_bound_87 ⟨by omega, by omega⟩ (fun u_5 H locs hok hP hD hS => ?_)
          have hP : va_P D cl [(hc, .inr (0, [.ref hx_, .ref ha_, .ref hh, .ref hp, .ref hs])), (hp, .inr (5, [.ref qk, .ref qf, .ref qx, .ref qy, .int (nI pc_), .int (nI pn), .int (nI pb)])), (qk, .inl (cI, 3000, .inl K)), (qf, .inl (cI, 3000, .inl Fi)), (qx, .inl (cI, 9000, .inl X)), (qy, .inl (cI, 9000, .inl Y))] H := hP
          have hD : va_D A [(hc, .inr (0, [.ref hx_, .ref ha_, .ref hh, .ref hp, .ref hs])), (hp, .inr (5, [.ref qk, .ref qf, .ref qx, .ref qy, .int (nI pc_), .int (nI pn), .int (nI pb)])), (qk, .inl (cI, 3000, .inl K)), (qf, .inl (cI, 3000, .inl Fi)), (qx, .inl (cI, 9000, .inl X)), (qy, .inl (cI, 9000, .inl Y))] := hD
          refine W.eq (g2 := F0 m 90 ls [.int (rowMax Y pn)]) rfl ?_
          refine lv_goto (tgt := 94) hx hb d_CP_bound_90 (by decide) ?_
          exact ct_reti hQ hx hb hr hlocks hP hD hS () [(hc, .inr (0, [.ref hx_, .ref ha_, .ref hh, .ref hp, .ref hs])), (hp, .inr (5, [.ref qk, .ref qf, .ref qx, .ref qy, .int (nI pc_), .int (nI pn), .int (nI pb)])), (qk, .inl (cI, 3000, .inl K)), (qf, .inl (cI, 3000, .inl Fi)), (qx, .inl (cI, 9000, .inl X)), (qy, .inl (cI, 9000, .inl Y))] [0, 1, 2, 3, 4, 5] (by rw [hbr, if_neg c_1, if_neg c_2, if_neg c_3, if_pos c_4]) (trivial) (rfl) rfl rfl (by omega) (by omega) d_CP_bound_94
      · skip
        refine lv_aload_n hx hb d_CP_bound_50 rfl (lv_at hl 0 rfl) ?_
        refine va_get (D := D) (ci := 0) (v := .ref hp) (C := R_CP) (T := T_CP) (N := 5) hx hb hts (ui_CP _) hown hK hP 0 rfl rfl 3 (by decide) (hts _ (gwc gw_141)) (fun _ h9 => h9) rfl d_CP_bound_51 ?_
        refine va_get (D := D) (ci := 5) (v := .ref qx) (C := R_Path) (T := T_Path) (N := 7) hx hb hts (ui_Path _) hown hK hP 1 rfl rfl 2 (by decide) (hts _ (gwc gw_113)) (fun _ h9 => h9) rfl d_CP_bound_54 ?_
        refine lv_aload_n hx hb d_CP_bound_57 rfl (lv_at hl 0 rfl) ?_
        refine va_get (D := D) (ci := 0) (v := .ref hp) (C := R_CP) (T := T_CP) (N := 5) hx hb hts (ui_CP _) hown hK hP 0 rfl rfl 3 (by decide) (hts _ (gwc gw_141)) (fun _ h9 => h9) rfl d_CP_bound_58 ?_
        refine va_get (D := D) (ci := 5) (v := .int (nI pn)) (C := R_Path) (T := T_Path) (N := 7) hx hb hts (ui_Path _) hown hK hP 1 rfl rfl 5 (by decide) (hts _ (gwc gw_120)) (fun _ h9 => h9) rfl d_CP_bound_61 ?_
        refine ct_callS (av := [.ref qx, .int (nI pn)]) (rest := []) (wr := [(hc, .inr (0, [.ref hx_, .ref ha_, .ref hh, .ref hp, .ref hs])), (hp, .inr (5, [.ref qk, .ref qf, .ref qx, .ref qy, .int (nI pc_), .int (nI pn), .int (nI pb)])), (qk, .inl (cI, 3000, .inl K)), (qf, .inl (cI, 3000, .inl Fi)), (qy, .inl (cI, 9000, .inl Y))]) (n := 2) (c_CP_greatest l D cI cB cJ qQ  qx 9000 X pn (by omega) (by decide)) hx hb hml hown hts (amb_ok qQ) hK hP hD hS hA hM (gi_S gw_472 gw_473 gw_28 gw_474) rfl (by decide +kernel) ⟨by omega, by omega⟩ [4] [0, 1, 2, 3, 5] rfl rfl rfl rfl (by decide) rfl hl.1 rfl (Nat.le_of_ble_eq_true rfl) d_CP_bound_64 ⟨by omega, by omega⟩ (fun u_6 H locs hok hP hD hS => ?_)
        have hP : va_P D cl [(hc, .inr (0, [.ref hx_, .ref ha_, .ref hh, .ref hp, .ref hs])), (hp, .inr (5, [.ref qk, .ref qf, .ref qx, .ref qy, .int (nI pc_), .int (nI pn), .int (nI pb)])), (qk, .inl (cI, 3000, .inl K)), (qf, .inl (cI, 3000, .inl Fi)), (qy, .inl (cI, 9000, .inl Y)), (qx, .inl (cI, 9000, .inl X))] H := hP
        have hD : va_D A [(hc, .inr (0, [.ref hx_, .ref ha_, .ref hh, .ref hp, .ref hs])), (hp, .inr (5, [.ref qk, .ref qf, .ref qx, .ref qy, .int (nI pc_), .int (nI pn), .int (nI pb)])), (qk, .inl (cI, 3000, .inl K)), (qf, .inl (cI, 3000, .inl Fi)), (qy, .inl (cI, 9000, .inl Y)), (qx, .inl (cI, 9000, .inl X))] := hD
        refine W.eq (g2 := F0 m 67 ls [.int (rowMax X pn)]) rfl ?_
        exact ct_reti hQ hx hb hr hlocks hP hD hS () [(hc, .inr (0, [.ref hx_, .ref ha_, .ref hh, .ref hp, .ref hs])), (hp, .inr (5, [.ref qk, .ref qf, .ref qx, .ref qy, .int (nI pc_), .int (nI pn), .int (nI pb)])), (qk, .inl (cI, 3000, .inl K)), (qf, .inl (cI, 3000, .inl Fi)), (qx, .inl (cI, 9000, .inl X)), (qy, .inl (cI, 9000, .inl Y))] [0, 1, 2, 3, 5, 4] (by rw [hbr, if_neg c_1, if_neg c_2, if_pos c_3]) (trivial) (rfl) rfl rfl (by omega) (by omega) d_CP_bound_67
    · skip
      refine lv_aload_n hx hb d_CP_bound_27 rfl (lv_at hl 0 rfl) ?_
      refine va_get (D := D) (ci := 0) (v := .ref hp) (C := R_CP) (T := T_CP) (N := 5) hx hb hts (ui_CP _) hown hK hP 0 rfl rfl 3 (by decide) (hts _ (gwc gw_141)) (fun _ h9 => h9) rfl d_CP_bound_28 ?_
      refine va_get (D := D) (ci := 5) (v := .ref qy) (C := R_Path) (T := T_Path) (N := 7) hx hb hts (ui_Path _) hown hK hP 1 rfl rfl 3 (by decide) (hts _ (gwc gw_116)) (fun _ h9 => h9) rfl d_CP_bound_31 ?_
      refine lv_aload_n hx hb d_CP_bound_34 rfl (lv_at hl 0 rfl) ?_
      refine va_get (D := D) (ci := 0) (v := .ref hp) (C := R_CP) (T := T_CP) (N := 5) hx hb hts (ui_CP _) hown hK hP 0 rfl rfl 3 (by decide) (hts _ (gwc gw_141)) (fun _ h9 => h9) rfl d_CP_bound_35 ?_
      refine va_get (D := D) (ci := 5) (v := .int (nI pn)) (C := R_Path) (T := T_Path) (N := 7) hx hb hts (ui_Path _) hown hK hP 1 rfl rfl 5 (by decide) (hts _ (gwc gw_120)) (fun _ h9 => h9) rfl d_CP_bound_38 ?_
      refine ct_callS (av := [.ref qy, .int (nI pn)]) (rest := []) (wr := [(hc, .inr (0, [.ref hx_, .ref ha_, .ref hh, .ref hp, .ref hs])), (hp, .inr (5, [.ref qk, .ref qf, .ref qx, .ref qy, .int (nI pc_), .int (nI pn), .int (nI pb)])), (qk, .inl (cI, 3000, .inl K)), (qf, .inl (cI, 3000, .inl Fi)), (qx, .inl (cI, 9000, .inl X))]) (n := 2) (c_CP_least l D cI cB cJ qQ  qy 9000 Y pn (by omega) (by decide)) hx hb hml hown hts (amb_ok qQ) hK hP hD hS hA hM (gi_S gw_466 gw_467 gw_28 gw_468) rfl (by decide +kernel) ⟨by omega, by omega⟩ [5] [0, 1, 2, 3, 4] rfl rfl rfl rfl (by decide) rfl hl.1 rfl (Nat.le_of_ble_eq_true rfl) d_CP_bound_41 ⟨by omega, by omega⟩ (fun u_7 H locs hok hP hD hS => ?_)
      have hP : va_P D cl [(hc, .inr (0, [.ref hx_, .ref ha_, .ref hh, .ref hp, .ref hs])), (hp, .inr (5, [.ref qk, .ref qf, .ref qx, .ref qy, .int (nI pc_), .int (nI pn), .int (nI pb)])), (qk, .inl (cI, 3000, .inl K)), (qf, .inl (cI, 3000, .inl Fi)), (qx, .inl (cI, 9000, .inl X)), (qy, .inl (cI, 9000, .inl Y))] H := hP
      have hD : va_D A [(hc, .inr (0, [.ref hx_, .ref ha_, .ref hh, .ref hp, .ref hs])), (hp, .inr (5, [.ref qk, .ref qf, .ref qx, .ref qy, .int (nI pc_), .int (nI pn), .int (nI pb)])), (qk, .inl (cI, 3000, .inl K)), (qf, .inl (cI, 3000, .inl Fi)), (qx, .inl (cI, 9000, .inl X)), (qy, .inl (cI, 9000, .inl Y))] := hD
      refine W.eq (g2 := F0 m 44 ls [.int (rowMin Y pn)]) rfl ?_
      exact ct_reti hQ hx hb hr hlocks hP hD hS () [(hc, .inr (0, [.ref hx_, .ref ha_, .ref hh, .ref hp, .ref hs])), (hp, .inr (5, [.ref qk, .ref qf, .ref qx, .ref qy, .int (nI pc_), .int (nI pn), .int (nI pb)])), (qk, .inl (cI, 3000, .inl K)), (qf, .inl (cI, 3000, .inl Fi)), (qx, .inl (cI, 9000, .inl X)), (qy, .inl (cI, 9000, .inl Y))] [0, 1, 2, 3, 4, 5] (by rw [hbr, if_neg c_1, if_pos c_2]) (trivial) (rfl) rfl rfl (by omega) (by omega) d_CP_bound_44
  · skip
    refine lv_aload_n hx hb d_CP_bound_4 rfl (lv_at hl 0 rfl) ?_
    refine va_get (D := D) (ci := 0) (v := .ref hp) (C := R_CP) (T := T_CP) (N := 5) hx hb hts (ui_CP _) hown hK hP 0 rfl rfl 3 (by decide) (hts _ (gwc gw_141)) (fun _ h9 => h9) rfl d_CP_bound_5 ?_
    refine va_get (D := D) (ci := 5) (v := .ref qx) (C := R_Path) (T := T_Path) (N := 7) hx hb hts (ui_Path _) hown hK hP 1 rfl rfl 2 (by decide) (hts _ (gwc gw_113)) (fun _ h9 => h9) rfl d_CP_bound_8 ?_
    refine lv_aload_n hx hb d_CP_bound_11 rfl (lv_at hl 0 rfl) ?_
    refine va_get (D := D) (ci := 0) (v := .ref hp) (C := R_CP) (T := T_CP) (N := 5) hx hb hts (ui_CP _) hown hK hP 0 rfl rfl 3 (by decide) (hts _ (gwc gw_141)) (fun _ h9 => h9) rfl d_CP_bound_12 ?_
    refine va_get (D := D) (ci := 5) (v := .int (nI pn)) (C := R_Path) (T := T_Path) (N := 7) hx hb hts (ui_Path _) hown hK hP 1 rfl rfl 5 (by decide) (hts _ (gwc gw_120)) (fun _ h9 => h9) rfl d_CP_bound_15 ?_
    refine ct_callS (av := [.ref qx, .int (nI pn)]) (rest := []) (wr := [(hc, .inr (0, [.ref hx_, .ref ha_, .ref hh, .ref hp, .ref hs])), (hp, .inr (5, [.ref qk, .ref qf, .ref qx, .ref qy, .int (nI pc_), .int (nI pn), .int (nI pb)])), (qk, .inl (cI, 3000, .inl K)), (qf, .inl (cI, 3000, .inl Fi)), (qy, .inl (cI, 9000, .inl Y))]) (n := 2) (c_CP_least l D cI cB cJ qQ  qx 9000 X pn (by omega) (by decide)) hx hb hml hown hts (amb_ok qQ) hK hP hD hS hA hM (gi_S gw_466 gw_467 gw_28 gw_468) rfl (by decide +kernel) ⟨by omega, by omega⟩ [4] [0, 1, 2, 3, 5] rfl rfl rfl rfl (by decide) rfl hl.1 rfl (Nat.le_of_ble_eq_true rfl) d_CP_bound_18 ⟨by omega, by omega⟩ (fun u_8 H locs hok hP hD hS => ?_)
    have hP : va_P D cl [(hc, .inr (0, [.ref hx_, .ref ha_, .ref hh, .ref hp, .ref hs])), (hp, .inr (5, [.ref qk, .ref qf, .ref qx, .ref qy, .int (nI pc_), .int (nI pn), .int (nI pb)])), (qk, .inl (cI, 3000, .inl K)), (qf, .inl (cI, 3000, .inl Fi)), (qy, .inl (cI, 9000, .inl Y)), (qx, .inl (cI, 9000, .inl X))] H := hP
    have hD : va_D A [(hc, .inr (0, [.ref hx_, .ref ha_, .ref hh, .ref hp, .ref hs])), (hp, .inr (5, [.ref qk, .ref qf, .ref qx, .ref qy, .int (nI pc_), .int (nI pn), .int (nI pb)])), (qk, .inl (cI, 3000, .inl K)), (qf, .inl (cI, 3000, .inl Fi)), (qy, .inl (cI, 9000, .inl Y)), (qx, .inl (cI, 9000, .inl X))] := hD
    refine W.eq (g2 := F0 m 21 ls [.int (rowMin X pn)]) rfl ?_
    exact ct_reti hQ hx hb hr hlocks hP hD hS () [(hc, .inr (0, [.ref hx_, .ref ha_, .ref hh, .ref hp, .ref hs])), (hp, .inr (5, [.ref qk, .ref qf, .ref qx, .ref qy, .int (nI pc_), .int (nI pn), .int (nI pb)])), (qk, .inl (cI, 3000, .inl K)), (qf, .inl (cI, 3000, .inl Fi)), (qx, .inl (cI, 9000, .inl X)), (qy, .inl (cI, 9000, .inl Y))] [0, 1, 2, 3, 5, 4] (by rw [hbr, if_pos c_1]) (trivial) (rfl) rfl rfl (by omega) (by omega) d_CP_bound_21
set_option maxHeartbeats 4000000 in
set_option maxRecDepth 100000 in
/-- axes -/
theorem c_CP_axes (l : Launch) (D : va_G) (cI cB cJ : ClassId) (qQ : Nat) (hc : Nat) (hx_ : Nat) (ha_ : Nat) (hh : Nat) (hp : Nat) (hs : Nat) (p_ : Int64) (q_ : Int64) (r_ : Int64) (s_ : Int64) (i1 : Int32) (i2 : Int32) (i3 : Int32) (i4 : Int32)  : ct l D cl [(cI, .int), (cB, .byte), (cJ, .long)] (amb qQ) y_CP_axes w_CP_axes 2 44 (0) (0) [.ref hc, .int i1, .int i2, .int i3, .int i4] [(hc, .inr (0, [.ref hx_, .ref ha_, .ref hh, .ref hp, .ref hs])), (hx_, .inr (3, [.long p_, .long q_, .long r_, .long s_]))] (fun u_ : Bool × Int64 × Int64 × Int64 × Int64 => match u_ with | (r, p', q', r', s') => (r, (p', q', r', s')) = rAxes (p_, q_, r_, s_) i1 i2 i3 i4) (fun u_ : Bool × Int64 × Int64 × Int64 × Int64 => match u_ with | (r, p', q', r', s') => some (.int (bz r))) (fun u_ : Bool × Int64 × Int64 × Int64 × Int64 => match u_ with | (r, p', q', r', s') => [(hc, .inr (0, [.ref hx_, .ref ha_, .ref hh, .ref hp, .ref hs])), (hx_, .inr (3, [.long p', .long q', .long r', .long s']))]) := by
  refine ct_ofW (cc := b_CP_axes) (maxL := 5) (ret := (some .boolean)) (by decide) rfl (Nat.le_of_ble_eq_true rfl) ?_
  intro p e R s m args below meth c A Q ls hx hb hr hml hts hown hlocks hname hRf hRc hRs hRl hQ hK hP hD hS hA hM hl
  have hl : lv_has ls 5 [(0, .ref hc), (1, .int i1), (2, .int i2), (3, .int i3), (4, .int i4)] := hl
  refine lv_iload_n hx hb d_CP_axes_0 rfl (lv_at hl 1 rfl) ?_
  refine lv_i2l (v := i1.toInt64) hx hb d_CP_axes_1 rfl ?_
  refine lv_iload_n hx hb d_CP_axes_2 rfl (lv_at hl 2 rfl) ?_
  refine lv_i2l (v := i2.toInt64) hx hb d_CP_axes_3 rfl ?_
  refine ct_callS (av := [.long i1.toInt64, .long i2.toInt64]) (rest := []) (wr := [(hc, .inr (0, [.ref hx_, .ref ha_, .ref hh, .ref hp, .ref hs])), (hx_, .inr (3, [.long p_, .long q_, .long r_, .long s_]))]) (n := 2) (c_CP_isFarPoint l D cI cB cJ qQ  i1.toInt64 i2.toInt64 ) hx hb hml hown hts (amb_ok qQ) hK hP hD hS hA hM (gi_S gw_158 gw_159 gw_28 gw_160) rfl (by decide +kernel) ⟨by omega, by omega⟩ [] [0, 1] rfl rfl rfl rfl (by decide) rfl hl.1 rfl (Nat.le_of_ble_eq_true rfl) d_CP_axes_4 ⟨by omega, by omega⟩ (fun u_1 H locs hok hP hD hS => ?_)
  have hP : va_P D cl [(hc, .inr (0, [.ref hx_, .ref ha_, .ref hh, .ref hp, .ref hs])), (hx_, .inr (3, [.long p_, .long q_, .long r_, .long s_]))] H := hP
  have hD : va_D A [(hc, .inr (0, [.ref hx_, .ref ha_, .ref hh, .ref hp, .ref hs])), (hx_, .inr (3, [.long p_, .long q_, .long r_, .long s_]))] := hD
  refine W.eq (g2 := F0 m 7 ls [.int (bz (fr i1.toInt64 || fr i2.toInt64))]) rfl ?_
  refine bb_ne (tgt := 21) hx hb d_CP_axes_7 (by decide) (fun c_2 => ?_) (fun c_2 => ?_)
  · skip
    refine lv_iconst (v := 0) hx hb d_CP_axes_21 (by decide) ?_
    exact ct_retz hQ hx hb hr hlocks hP hD hS (false, p_, q_, r_, s_) [(hc, .inr (0, [.ref hx_, .ref ha_, .ref hh, .ref hp, .ref hs])), (hx_, .inr (3, [.long p_, .long q_, .long r_, .long s_]))] [0, 1] (rfl) (by unfold rAxes; rw [c_2]; rfl) (rfl) rfl rfl (by decide) (by omega) (by omega) d_CP_axes_22
  · skip
    refine lv_iload_n hx hb d_CP_axes_10 rfl (lv_at hl 3 rfl) ?_
    refine lv_i2l (v := i3.toInt64) hx hb d_CP_axes_11 rfl ?_
    refine lv_iload hx hb d_CP_axes_12 (lv_at hl 4 rfl) ?_
    refine lv_i2l (v := i4.toInt64) hx hb d_CP_axes_14 rfl ?_
    refine ct_callS (av := [.long i3.toInt64, .long i4.toInt64]) (rest := []) (wr := [(hc, .inr (0, [.ref hx_, .ref ha_, .ref hh, .ref hp, .ref hs])), (hx_, .inr (3, [.long p_, .long q_, .long r_, .long s_]))]) (n := 2) (c_CP_isFarPoint l D cI cB cJ qQ  i3.toInt64 i4.toInt64 ) hx hb hml hown hts (amb_ok qQ) hK hP hD hS hA hM (gi_S gw_158 gw_159 gw_28 gw_160) rfl (by decide +kernel) ⟨by omega, by omega⟩ [] [0, 1] rfl rfl rfl rfl (by decide) rfl hl.1 rfl (Nat.le_of_ble_eq_true rfl) d_CP_axes_15 ⟨by omega, by omega⟩ (fun u_3 H locs hok hP hD hS => ?_)
    have hP : va_P D cl [(hc, .inr (0, [.ref hx_, .ref ha_, .ref hh, .ref hp, .ref hs])), (hx_, .inr (3, [.long p_, .long q_, .long r_, .long s_]))] H := hP
    have hD : va_D A [(hc, .inr (0, [.ref hx_, .ref ha_, .ref hh, .ref hp, .ref hs])), (hx_, .inr (3, [.long p_, .long q_, .long r_, .long s_]))] := hD
    refine W.eq (g2 := F0 m 18 ls [.int (bz (fr i3.toInt64 || fr i4.toInt64))]) rfl ?_
    refine bb_eq (tgt := 23) hx hb d_CP_axes_18 (by decide) (fun c_4 => ?_) (fun c_4 => ?_)
    · skip
      refine lv_aload_n hx hb d_CP_axes_23 rfl (lv_at hl 0 rfl) ?_
      refine va_get (D := D) (ci := 0) (v := .ref hx_) (C := R_CP) (T := T_CP) (N := 5) hx hb hts (ui_CP _) hown hK hP 0 rfl rfl 0 (by decide) (hts _ (gwc gw_138)) (fun _ h9 => h9) rfl d_CP_axes_24 ?_
      refine lv_iload_n hx hb d_CP_axes_27 rfl (lv_at hl 1 rfl) ?_
      refine lv_iload_n hx hb d_CP_axes_28 rfl (lv_at hl 2 rfl) ?_
      refine lv_iload_n hx hb d_CP_axes_29 rfl (lv_at hl 3 rfl) ?_
      refine lv_iload hx hb d_CP_axes_30 (lv_at hl 4 rfl) ?_
      refine ct_callV (ci := 3) (q0 := 1) (As := [.int i1, .int i2, .int i3, .int i4]) (rest := []) (wr := [(hc, .inr (0, [.ref hx_, .ref ha_, .ref hh, .ref hp, .ref hs]))]) (n := 4) (c_Axes_set l D cI cB cJ qQ  hx_ p_ q_ r_ s_ i1 i2 i3 i4 ) hx hb hml hown hts (amb_ok qQ) hK hP hD hS hA hM (gi_V gw_237 gw_238 gw_239 gw_29 gw_240) rfl (by decide +kernel) ⟨by omega, by omega⟩ [1] [0] rfl rfl rfl rfl (by decide) rfl rfl rfl hl.1 rfl (Nat.le_of_ble_eq_true rfl) d_CP_axes_32 ⟨by omega, by omega⟩ (fun u_5 H locs hok hP hD hS => ?_)
      have hP : va_P D cl [(hc, .inr (0, [.ref hx_, .ref ha_, .ref hh, .ref hp, .ref hs])), (hx_, .inr (3, [.long i1.toInt64, .long i2.toInt64, .long i3.toInt64, .long i4.toInt64]))] H := hP
      have hD : va_D A [(hc, .inr (0, [.ref hx_, .ref ha_, .ref hh, .ref hp, .ref hs])), (hx_, .inr (3, [.long i1.toInt64, .long i2.toInt64, .long i3.toInt64, .long i4.toInt64]))] := hD
      refine W.eq (g2 := F0 m 35 ls []) rfl ?_
      refine lv_iconst (v := 1) hx hb d_CP_axes_35 (by decide) ?_
      exact ct_retz hQ hx hb hr hlocks hP hD hS (true, i1.toInt64, i2.toInt64, i3.toInt64, i4.toInt64) [(hc, .inr (0, [.ref hx_, .ref ha_, .ref hh, .ref hp, .ref hs])), (hx_, .inr (3, [.long i1.toInt64, .long i2.toInt64, .long i3.toInt64, .long i4.toInt64]))] [0, 1] (rfl) (by unfold rAxes; rw [c_2, Bool.false_or, c_4]; rfl) (rfl) rfl rfl (by decide) (by omega) (by omega) d_CP_axes_36
    · skip
      refine lv_iconst (v := 0) hx hb d_CP_axes_21 (by decide) ?_
      exact ct_retz hQ hx hb hr hlocks hP hD hS (false, p_, q_, r_, s_) [(hc, .inr (0, [.ref hx_, .ref ha_, .ref hh, .ref hp, .ref hs])), (hx_, .inr (3, [.long p_, .long q_, .long r_, .long s_]))] [0, 1] (rfl) (by unfold rAxes; rw [c_2, Bool.false_or, c_4]; rfl) (rfl) rfl rfl (by decide) (by omega) (by omega) d_CP_axes_22
