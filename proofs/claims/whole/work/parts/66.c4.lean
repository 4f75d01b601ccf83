set_option maxHeartbeats 40000000 in
set_option maxRecDepth 100000 in
/-- turnSubpath -/
theorem c_Path_turnSubpath0 (l : Launch) (D : va_G) (cI cB cJ : ClassId) (qQ : Nat) (hp : Nat) (qk : Nat) (qf : Nat) (qx : Nat) (qy : Nat) (pc_ : Nat) (pn : Nat) (pb : Nat) (nk : Nat) (nx : Nat) (K : Nat → Int32) (Fi : Nat → Int32) (X : Nat → Int32) (Y : Nat → Int32) (fo : Nat → Nat) (f : Nat) (e_ : Nat) (z : Nat) (hnk : nk ≤ 3000) (hnx : nx ≤ 9000) (hen : e_ ≤ nk) (hfe : f + 1 ≤ e_) (hc : ¬ K (e_ - 1) = 3) (hFf : Fi f = nI (fo f)) (hFl : Fi (e_ - 1) = nI (fo (e_ - 1))) (hz : z = (if K (e_ - 1) = 2 then fo (e_ - 1) + 2 else fo (e_ - 1))) (haz : fo f ≤ z) (hzn : z < nx) : ct l D cl [(cI, .int), (cB, .byte), (cJ, .long)] (amb qQ) y_Path_turnSubpath w_Path_turnSubpath 1 25 (0) (0) [.ref hp, .int (nI f), .int (nI e_)] [(hp, .inr (5, [.ref qk, .ref qf, .ref qx, .ref qy, .int (nI pc_), .int (nI pn), .int (nI pb)])), (qk, .inl (cI, nk, .inl K)), (qf, .inl (cI, nk, .inl Fi)), (qx, .inl (cI, nx, .inl X)), (qy, .inl (cI, nx, .inl Y))] (fun u_ : (Nat → Int32) × (Nat → Int32) × (Nat → Int32) × (Nat → Int32) => match u_ with | (K', F', X', Y') => (∀ k, K' k = tr K (f + 1) (e_ - 1) k) ∧ (∀ k, X' k = tr X (fo f) z k) ∧ (∀ k, Y' k = tr Y (fo f) z k) ∧ ∀ k, F' k = if f < k ∧ k ≤ e_ - 1 then nI (fo f + 1 + sk K' f (k - (f + 1))) else Fi k) (fun u_ : (Nat → Int32) × (Nat → Int32) × (Nat → Int32) × (Nat → Int32) => match u_ with | (K', F', X', Y') => none) (fun u_ : (Nat → Int32) × (Nat → Int32) × (Nat → Int32) × (Nat → Int32) => match u_ with | (K', F', X', Y') => [(hp, .inr (5, [.ref qk, .ref qf, .ref qx, .ref qy, .int (nI pc_), .int (nI pn), .int (nI pb)])), (qk, .inl (cI, nk, .inl K')), (qf, .inl (cI, nk, .inl F')), (qx, .inl (cI, nx, .inl X')), (qy, .inl (cI, nx, .inl Y'))]) := by
  refine ct_ofW (cc := b_Path_turnSubpath) (maxL := 8) (ret := none) (by decide) rfl (Nat.le_of_ble_eq_true rfl) ?_
  intro p e R s m args below meth c A Q ls hx hb hr hml hts hown hlocks hname hRf hRc hRs hRl hQ hK hP hD hS hA hM hl
  have hl : lv_has ls 8 [(0, .ref hp), (1, .int (nI f)), (2, .int (nI e_))] := hl
  refine lv_aload_n hx hb d_Path_turnSubpath_0 rfl (lv_at hl 0 rfl) ?_
  refine va_get (D := D) (ci := 5) (v := .ref qk) (C := R_Path) (T := T_Path) (N := 7) hx hb hts (ui_Path _) hown hK hP 0 rfl rfl 0 (by decide) (hts _ (gwc gw_107)) (fun _ h9 => h9) rfl d_Path_turnSubpath_1 ?_
  refine lv_iload_n hx hb d_Path_turnSubpath_4 rfl (lv_at hl 2 rfl) ?_
  refine lv_iconst (v := 1) hx hb d_Path_turnSubpath_5 (by decide) ?_
  refine lv_isub hx hb d_Path_turnSubpath_6 ?_
  refine tp_i (nI (e_ - 1)) (pk_sub (a := e_) (b := 1) (by omega)) ?_
  refine ld_i hx hb hK hP 1 0 rfl rfl (e_ - 1) (by omega) (by omega) d_Path_turnSubpath_7 ?_
  refine lv_iconst (v := 3) hx hb d_Path_turnSubpath_8 (by decide) ?_
  refine lv_icmp_ne (tgt := 18) hx hb d_Path_turnSubpath_9 (by decide) (fun c_1 => ?_) (fun c_1 => ?_)
  · skip
    refine lv_iload_n hx hb d_Path_turnSubpath_18 rfl (lv_at hl 2 rfl) ?_
    refine lv_iconst (v := 1) hx hb d_Path_turnSubpath_19 (by decide) ?_
    refine lv_isub hx hb d_Path_turnSubpath_20 ?_
    refine tp_i (nI (e_ - 1)) (pk_sub (a := e_) (b := 1) (by omega)) ?_
    refine lv_istore_n (lv' := [(3, .int (nI (e_ - 1))), (0, .ref hp), (1, .int (nI f)), (2, .int (nI e_))]) hx hb d_Path_turnSubpath_21 rfl hl (by decide) rfl (fun ls hl => ?_)
    refine lv_aload_n hx hb d_Path_turnSubpath_22 rfl (lv_at hl 1 rfl) ?_
    refine va_get (D := D) (ci := 5) (v := .ref qf) (C := R_Path) (T := T_Path) (N := 7) hx hb hts (ui_Path _) hown hK hP 0 rfl rfl 1 (by decide) (hts _ (gwc gw_109)) (fun _ h9 => h9) rfl d_Path_turnSubpath_23 ?_
    refine lv_iload_n hx hb d_Path_turnSubpath_26 rfl (lv_at hl 2 rfl) ?_
    refine ld_i hx hb hK hP 2 0 rfl rfl f (by omega) (by omega) d_Path_turnSubpath_27 ?_
    refine tp_i (nI (fo f)) (hFf) ?_
    refine lv_istore (lv' := [(4, .int (nI (fo f))), (3, .int (nI (e_ - 1))), (0, .ref hp), (1, .int (nI f)), (2, .int (nI e_))]) hx hb d_Path_turnSubpath_28 hl (by decide) rfl (fun ls hl => ?_)
    refine lv_aload_n hx hb d_Path_turnSubpath_30 rfl (lv_at hl 2 rfl) ?_
    refine lv_iload_n hx hb d_Path_turnSubpath_31 rfl (lv_at hl 1 rfl) ?_
    refine ct_callV (ci := 5) (q0 := 0) (As := [.int (nI (e_ - 1))]) (rest := []) (wr := [(qx, .inl (cI, nx, .inl X)), (qy, .inl (cI, nx, .inl Y))]) (n := 1) (c_Path_pointOf l D cI cB cJ qQ  hp qk qf qx qy pc_ pn pb nk K Fi fo (e_ - 1) (by omega) (hnk) (hFl)) hx hb hml hown hts (amb_ok qQ) hK hP hD hS hA hM (gi_V gw_367 gw_368 gw_369 gw_32 gw_370) rfl (by decide +kernel) ⟨by omega, by omega⟩ [0, 1, 2] [3, 4] rfl rfl rfl rfl (by decide) rfl rfl rfl hl.1 rfl (Nat.le_of_ble_eq_true rfl) d_Path_turnSubpath_32 ⟨by omega, by omega⟩ (fun u_2 H locs hok hP hD hS => ?_)
    have hP : va_P D cl [(qx, .inl (cI, nx, .inl X)), (qy, .inl (cI, nx, .inl Y)), (hp, .inr (5, [.ref qk, .ref qf, .ref qx, .ref qy, .int (nI pc_), .int (nI pn), .int (nI pb)])), (qk, .inl (cI, nk, .inl K)), (qf, .inl (cI, nk, .inl Fi))] H := hP
    have hD : va_D A [(qx, .inl (cI, nx, .inl X)), (qy, .inl (cI, nx, .inl Y)), (hp, .inr (5, [.ref qk, .ref qf, .ref qx, .ref qy, .int (nI pc_), .int (nI pn), .int (nI pb)])), (qk, .inl (cI, nk, .inl K)), (qf, .inl (cI, nk, .inl Fi))] := hD
    refine W.eq (g2 := F0 m 35 ls [.int (nI (if K (e_ - 1) = 2 then fo (e_ - 1) + 2 else fo (e_ - 1)))]) rfl ?_
    refine lv_istore (lv' := [(5, .int (nI (if K (e_ - 1) = 2 then fo (e_ - 1) + 2 else fo (e_ - 1)))), (4, .int (nI (fo f))), (3, .int (nI (e_ - 1))), (0, .ref hp), (1, .int (nI f)), (2, .int (nI e_))]) hx hb d_Path_turnSubpath_35 hl (by decide) rfl (fun ls hl => ?_)
    refine lv_aload_n hx hb d_Path_turnSubpath_37 rfl (lv_at hl 3 rfl) ?_
    refine va_get (D := D) (ci := 5) (v := .ref qx) (C := R_Path) (T := T_Path) (N := 7) hx hb hts (ui_Path _) hown hK hP 2 rfl rfl 2 (by decide) (hts _ (gwc gw_111)) (fun _ h9 => h9) rfl d_Path_turnSubpath_38 ?_
    refine lv_iload hx hb d_Path_turnSubpath_41 (lv_at hl 1 rfl) ?_
    refine lv_iload hx hb d_Path_turnSubpath_43 (lv_at hl 0 rfl) ?_
    refine ct_callSN (av := [.ref qx, .int (nI (fo f)), .int (nI (if K (e_ - 1) = 2 then fo (e_ - 1) + 2 else fo (e_ - 1)))]) (rest := []) (wr := [(qy, .inl (cI, nx, .inl Y)), (hp, .inr (5, [.ref qk, .ref qf, .ref qx, .ref qy, .int (nI pc_), .int (nI pn), .int (nI pb)])), (qk, .inl (cI, nk, .inl K)), (qf, .inl (cI, nk, .inl Fi))]) (n := 3) (c_CP_turnRow l D cI cB cJ qQ  qx nx X (fo f) (if K (e_ - 1) = 2 then fo (e_ - 1) + 2 else fo (e_ - 1)) (by rw [← hz]; exact hzn) (by rw [← hz]; omega) (by omega)) hx hb hml hown hts (amb_ok qQ) hK hP hD hS hA hM (gi_N gw_317) rfl (amb_nw_7 hM) (hts _ (gwc gw_28)) (hts _ (gwc gw_316)) (by decide +kernel) ⟨by omega, by omega⟩ [0] [1, 2, 3, 4] rfl rfl rfl rfl (by decide) rfl hl.1 rfl (Nat.le_of_ble_eq_true rfl) d_Path_turnSubpath_45 ⟨by omega, by omega⟩ (fun u_3 H locs hok hP hD hS => ?_)
    obtain ⟨X_, eX_⟩ : ∃ z, z = u_3 := ⟨_, rfl⟩
    subst eX_
    have hX : ∀ k, X_ k = tr X (fo f) (if K (e_ - 1) = 2 then fo (e_ - 1) + 2 else fo (e_ - 1)) k := hok
    have hP : va_P D cl [(qy, .inl (cI, nx, .inl Y)), (hp, .inr (5, [.ref qk, .ref qf, .ref qx, .ref qy, .int (nI pc_), .int (nI pn), .int (nI pb)])), (qk, .inl (cI, nk, .inl K)), (qf, .inl (cI, nk, .inl Fi)), (qx, .inl (cI, nx, .inl X_))] H := hP
    have hD : va_D A [(qy, .inl (cI, nx, .inl Y)), (hp, .inr (5, [.ref qk, .ref qf, .ref qx, .ref qy, .int (nI pc_), .int (nI pn), .int (nI pb)])), (qk, .inl (cI, nk, .inl K)), (qf, .inl (cI, nk, .inl Fi)), (qx, .inl (cI, nx, .inl X_))] := hD
    refine W.eq (g2 := F0 m 48 ls []) rfl ?_
    refine lv_aload_n hx hb d_Path_turnSubpath_48 rfl (lv_at hl 3 rfl) ?_
    refine va_get (D := D) (ci := 5) (v := .ref qy) (C := R_Path) (T := T_Path) (N := 7) hx hb hts (ui_Path _) hown hK hP 1 rfl rfl 3 (by decide) (hts _ (gwc gw_114)) (fun _ h9 => h9) rfl d_Path_turnSubpath_49 ?_
    refine lv_iload hx hb d_Path_turnSubpath_52 (lv_at hl 1 rfl) ?_
    refine lv_iload hx hb d_Path_turnSubpath_54 (lv_at hl 0 rfl) ?_
    refine ct_callSN (av := [.ref qy, .int (nI (fo f)), .int (nI (if K (e_ - 1) = 2 then fo (e_ - 1) + 2 else fo (e_ - 1)))]) (rest := []) (wr := [(hp, .inr (5, [.ref qk, .ref qf, .ref qx, .ref qy, .int (nI pc_), .int (nI pn), .int (nI pb)])), (qk, .inl (cI, nk, .inl K)), (qf, .inl (cI, nk, .inl Fi)), (qx, .inl (cI, nx, .inl X_))]) (n := 3) (c_CP_turnRow l D cI cB cJ qQ  qy nx Y (fo f) (if K (e_ - 1) = 2 then fo (e_ - 1) + 2 else fo (e_ - 1)) (by rw [← hz]; exact hzn) (by rw [← hz]; omega) (by omega)) hx hb hml hown hts (amb_ok qQ) hK hP hD hS hA hM (gi_N gw_317) rfl (amb_nw_7 hM) (hts _ (gwc gw_28)) (hts _ (gwc gw_316)) (by decide +kernel) ⟨by omega, by omega⟩ [0] [1, 2, 3, 4] rfl rfl rfl rfl (by decide) rfl hl.1 rfl (Nat.le_of_ble_eq_true rfl) d_Path_turnSubpath_56 ⟨by omega, by omega⟩ (fun u_4 H locs hok hP hD hS => ?_)
    obtain ⟨Y_, eY_⟩ : ∃ z, z = u_4 := ⟨_, rfl⟩
    subst eY_
    have hY : ∀ k, Y_ k = tr Y (fo f) (if K (e_ - 1) = 2 then fo (e_ - 1) + 2 else fo (e_ - 1)) k := hok
    have hP : va_P D cl [(hp, .inr (5, [.ref qk, .ref qf, .ref qx, .ref qy, .int (nI pc_), .int (nI pn), .int (nI pb)])), (qk, .inl (cI, nk, .inl K)), (qf, .inl (cI, nk, .inl Fi)), (qx, .inl (cI, nx, .inl X_)), (qy, .inl (cI, nx, .inl Y_))] H := hP
    have hD : va_D A [(hp, .inr (5, [.ref qk, .ref qf, .ref qx, .ref qy, .int (nI pc_), .int (nI pn), .int (nI pb)])), (qk, .inl (cI, nk, .inl K)), (qf, .inl (cI, nk, .inl Fi)), (qx, .inl (cI, nx, .inl X_)), (qy, .inl (cI, nx, .inl Y_))] := hD
    refine W.eq (g2 := F0 m 59 ls []) rfl ?_
    refine lv_aload_n hx hb d_Path_turnSubpath_59 rfl (lv_at hl 3 rfl) ?_
    refine va_get (D := D) (ci := 5) (v := .ref qk) (C := R_Path) (T := T_Path) (N := 7) hx hb hts (ui_Path _) hown hK hP 0 rfl rfl 0 (by decide) (hts _ (gwc gw_107)) (fun _ h9 => h9) rfl d_Path_turnSubpath_60 ?_
    refine lv_iload_n hx hb d_Path_turnSubpath_63 rfl (lv_at hl 4 rfl) ?_
    refine lv_iconst (v := 1) hx hb d_Path_turnSubpath_64 (by decide) ?_
    refine lv_iadd hx hb d_Path_turnSubpath_65 ?_
    refine tp_i (nI (f + 1)) (nI_add _ _) ?_
    refine lv_iload_n hx hb d_Path_turnSubpath_66 rfl (lv_at hl 2 rfl) ?_
    refine ct_callSN (av := [.ref qk, .int (nI (f + 1)), .int (nI (e_ - 1))]) (rest := []) (wr := [(hp, .inr (5, [.ref qk, .ref qf, .ref qx, .ref qy, .int (nI pc_), .int (nI pn), .int (nI pb)])), (qf, .inl (cI, nk, .inl Fi)), (qx, .inl (cI, nx, .inl X_)), (qy, .inl (cI, nx, .inl Y_))]) (n := 3) (c_CP_turnRow l D cI cB cJ qQ  qk nk K (f + 1) (e_ - 1) (by omega) (by omega) (by omega)) hx hb hml hown hts (amb_ok qQ) hK hP hD hS hA hM (gi_N gw_317) rfl (amb_nw_7 hM) (hts _ (gwc gw_28)) (hts _ (gwc gw_316)) (by decide +kernel) ⟨by omega, by omega⟩ [1] [0, 2, 3, 4] rfl rfl rfl rfl (by decide) rfl hl.1 rfl (Nat.le_of_ble_eq_true rfl) d_Path_turnSubpath_67 ⟨by omega, by omega⟩ (fun u_5 H locs hok hP hD hS => ?_)
    obtain ⟨K_, eK_⟩ : ∃ z, z = u_5 := ⟨_, rfl⟩
    subst eK_
    have hKt : ∀ k, K_ k = tr K (f + 1) (e_ - 1) k := hok
    have hP : va_P D cl [(hp, .inr (5, [.ref qk, .ref qf, .ref qx, .ref qy, .int (nI pc_), .int (nI pn), .int (nI pb)])), (qf, .inl (cI, nk, .inl Fi)), (qx, .inl (cI, nx, .inl X_)), (qy, .inl (cI, nx, .inl Y_)), (qk, .inl (cI, nk, .inl K_))] H := hP
    have hD : va_D A [(hp, .inr (5, [.ref qk, .ref qf, .ref qx, .ref qy, .int (nI pc_), .int (nI pn), .int (nI pb)])), (qf, .inl (cI, nk, .inl Fi)), (qx, .inl (cI, nx, .inl X_)), (qy, .inl (cI, nx, .inl Y_)), (qk, .inl (cI, nk, .inl K_))] := hD
    refine W.eq (g2 := F0 m 70 ls []) rfl ?_
    refine lv_iload hx hb d_Path_turnSubpath_70 (lv_at hl 1 rfl) ?_
    refine lv_iconst (v := 1) hx hb d_Path_turnSubpath_72 (by decide) ?_
    refine lv_iadd hx hb d_Path_turnSubpath_73 ?_
    refine tp_i (nI (fo f + 1)) (nI_add _ _) ?_
    refine lv_istore (lv' := [(6, .int (nI (fo f + 1))), (5, .int (nI (if K (e_ - 1) = 2 then fo (e_ - 1) + 2 else fo (e_ - 1)))), (4, .int (nI (fo f))), (3, .int (nI (e_ - 1))), (0, .ref hp), (1, .int (nI f)), (2, .int (nI e_))]) hx hb d_Path_turnSubpath_74 hl (by decide) rfl (fun ls hl => ?_)
    refine lv_iload_n hx hb d_Path_turnSubpath_76 rfl (lv_at hl 5 rfl) ?_
    refine lv_iconst (v := 1) hx hb d_Path_turnSubpath_77 (by decide) ?_
    refine lv_iadd hx hb d_Path_turnSubpath_78 ?_
    refine tp_i (nI (f + 1)) (nI_add _ _) ?_
    refine lv_istore (lv' := [(7, .int (nI (f + 1))), (6, .int (nI (fo f + 1))), (5, .int (nI (if K (e_ - 1) = 2 then fo (e_ - 1) + 2 else fo (e_ - 1)))), (4, .int (nI (fo f))), (3, .int (nI (e_ - 1))), (0, .ref hp), (1, .int (nI f)), (2, .int (nI e_))]) hx hb d_Path_turnSubpath_79 hl (by decide) rfl (fun ls hl => ?_)
    have L_81 : ∀ (n_ : Nat) (i : Nat) (at_ : Nat) (F_ : Nat → Int32), e_ - 1 + 1 - i < n_ → (f + 1 ≤ i) → (i ≤ e_ - 1 + 1) → (at_ = fo f + 1 + sk K_ f (i - (f + 1))) → (∀ k, F_ k = if f < k ∧ k < i then nI (fo f + 1 + sk K_ f (k - (f + 1))) else Fi k) → ∀ (H : Heap) (locs : List Loc) (ls : Array Slot), va_P D cl [(hp, .inr (5, [.ref qk, .ref qf, .ref qx, .ref qy, .int (nI pc_), .int (nI pn), .int (nI pb)])), (qk, .inl (cI, nk, .inl K_)), (qf, .inl (cI, nk, .inl F_)), (qx, .inl (cI, nx, .inl X_)), (qy, .inl (cI, nx, .inl Y_))] H → va_D A [(hp, .inr (5, [.ref qk, .ref qf, .ref qx, .ref qy, .int (nI pc_), .int (nI pn), .int (nI pb)])), (qk, .inl (cI, nk, .inl K_)), (qf, .inl (cI, nk, .inl F_)), (qx, .inl (cI, nx, .inl X_)), (qy, .inl (cI, nx, .inl Y_))] → va_S A s.heap H locs → lv_has ls 8 [(0, .ref hp), (1, .int (nI f)), (2, .int (nI e_)), (3, .int (nI (e_ - 1))), (4, .int (nI (fo f))), (5, .int (nI (if K (e_ - 1) = 2 then fo (e_ - 1) + 2 else fo (e_ - 1)))), (6, .int (nI at_)), (7, .int (nI i))] → W p l e R s m args below meth c H locs (0) (0) Q (F0 m 81 ls []) := by
      intro n_
      induction n_ with
      | zero => intro i at_ F_ hm_; exact absurd hm_ (Nat.not_lt_zero _)
      | succ n_ ih_81 =>
        intro i at_ F_ hm_ hi1 hil hat hFi H locs ls hP hD hS hl
        refine lv_iload hx hb d_Path_turnSubpath_81 (lv_at hl 7 rfl) ?_
        refine lv_iload_n hx hb d_Path_turnSubpath_83 rfl (lv_at hl 3 rfl) ?_
        refine bn_gt (a1 := i) (b1 := e_ - 1) (tgt := 123) hx hb (by omega) (by omega) d_Path_turnSubpath_84 (by decide) (fun c_6 => ?_) (fun c_6 => ?_)
        · skip
          have hF9 : ∀ k, F_ k = if f < k ∧ k ≤ e_ - 1 then nI (fo f + 1 + sk K_ f (k - (f + 1))) else Fi k := fun k => by
            rw [hFi]
            by_cases h8 : f < k ∧ k < i
            · rw [if_pos h8, if_pos (by omega)]
            · rw [if_neg h8, if_neg (by omega)]
          exact ct_retv hQ hx hb hr hlocks hP hD hS (K_, F_, X_, Y_) [(hp, .inr (5, [.ref qk, .ref qf, .ref qx, .ref qy, .int (nI pc_), .int (nI pn), .int (nI pb)])), (qk, .inl (cI, nk, .inl K_)), (qf, .inl (cI, nk, .inl F_)), (qx, .inl (cI, nx, .inl X_)), (qy, .inl (cI, nx, .inl Y_))] [0, 1, 2, 3, 4] (rfl) (⟨hKt, by rw [hz]; exact hX, by rw [hz]; exact hY, hF9⟩) (rfl) rfl rfl (by omega) (by omega) d_Path_turnSubpath_123
        · skip
          refine lv_aload_n hx hb d_Path_turnSubpath_87 rfl (lv_at hl 0 rfl) ?_
          refine va_get (D := D) (ci := 5) (v := .ref qf) (C := R_Path) (T := T_Path) (N := 7) hx hb hts (ui_Path _) hown hK hP 0 rfl rfl 1 (by decide) (hts _ (gwc gw_109)) (fun _ h9 => h9) rfl d_Path_turnSubpath_88 ?_
          refine lv_iload hx hb d_Path_turnSubpath_91 (lv_at hl 7 rfl) ?_
          refine lv_iload hx hb d_Path_turnSubpath_93 (lv_at hl 6 rfl) ?_
          refine st_i hx hb hK hP hD hS 2 0 rfl rfl i (by omega) (by omega) d_Path_turnSubpath_95 (fun H locs hP hD hS => ?_)
          have hP : va_P D cl [(hp, .inr (5, [.ref qk, .ref qf, .ref qx, .ref qy, .int (nI pc_), .int (nI pn), .int (nI pb)])), (qk, .inl (cI, nk, .inl K_)), (qf, .inl (cI, nk, .inl (upd F_ i (nI at_)))), (qx, .inl (cI, nx, .inl X_)), (qy, .inl (cI, nx, .inl Y_))] H := hP
          have hD : va_D A [(hp, .inr (5, [.ref qk, .ref qf, .ref qx, .ref qy, .int (nI pc_), .int (nI pn), .int (nI pb)])), (qk, .inl (cI, nk, .inl K_)), (qf, .inl (cI, nk, .inl (upd F_ i (nI at_)))), (qx, .inl (cI, nx, .inl X_)), (qy, .inl (cI, nx, .inl Y_))] := hD
          refine lv_iload hx hb d_Path_turnSubpath_96 (lv_at hl 6 rfl) ?_
          refine lv_aload_n hx hb d_Path_turnSubpath_98 rfl (lv_at hl 0 rfl) ?_
          refine va_get (D := D) (ci := 5) (v := .ref qk) (C := R_Path) (T := T_Path) (N := 7) hx hb hts (ui_Path _) hown hK hP 0 rfl rfl 0 (by decide) (hts _ (gwc gw_107)) (fun _ h9 => h9) rfl d_Path_turnSubpath_99 ?_
          refine lv_iload hx hb d_Path_turnSubpath_102 (lv_at hl 7 rfl) ?_
          refine ld_i hx hb hK hP 1 0 rfl rfl i (by omega) (by omega) d_Path_turnSubpath_104 ?_
          refine lv_iconst (v := 2) hx hb d_Path_turnSubpath_105 (by decide) ?_
          refine lv_icmp_ne (tgt := 113) hx hb d_Path_turnSubpath_106 (by decide) (fun c_7 => ?_) (fun c_7 => ?_)
          · skip
            refine lv_iconst (v := 1) hx hb d_Path_turnSubpath_113 (by decide) ?_
            refine lv_iadd hx hb d_Path_turnSubpath_114 ?_
            refine tp_i (nI (at_ + 1)) (nI_add _ _) ?_
            refine lv_istore (lv' := [(6, .int (nI (at_ + 1))), (0, .ref hp), (1, .int (nI f)), (2, .int (nI e_)), (3, .int (nI (e_ - 1))), (4, .int (nI (fo f))), (5, .int (nI (if K (e_ - 1) = 2 then fo (e_ - 1) + 2 else fo (e_ - 1)))), (7, .int (nI i))]) hx hb d_Path_turnSubpath_115 hl (by decide) rfl (fun ls hl => ?_)
            refine lv_iinc (v := nI (i + 1)) (lv' := [(7, .int (nI (i + 1))), (6, .int (nI (at_ + 1))), (0, .ref hp), (1, .int (nI f)), (2, .int (nI e_)), (3, .int (nI (e_ - 1))), (4, .int (nI (fo f))), (5, .int (nI (if K (e_ - 1) = 2 then fo (e_ - 1) + 2 else fo (e_ - 1))))]) hx hb d_Path_turnSubpath_117 hl (k := 7) rfl (by first | exact nI_add _ 1 | rfl | decide) (by decide) rfl (fun ls hl => ?_)
            refine lv_goto (tgt := 81) hx hb d_Path_turnSubpath_120 (by decide) ?_
            exact ih_81 (i + 1) (at_ + 1) (upd F_ i (nI at_)) (by omega) (by omega) (by omega) (by rw [sk_n hi1 c_7, hat]; omega) (fun k => by
      by_cases h9 : k = i
      · rw [h9, up_s, if_pos (by omega), hat]
      · rw [up_n h9, hFi]; by_cases h8 : f < k ∧ k < i
        · rw [if_pos h8, if_pos (by omega)]
        · rw [if_neg h8, if_neg (by omega)]) _ _ _ hP hD hS (lv_sub hl [2, 3, 4, 5, 6, 7, 1, 0] rfl)
          · skip
            refine lv_iconst (v := 3) hx hb d_Path_turnSubpath_109 (by decide) ?_
            refine lv_goto (tgt := 114) hx hb d_Path_turnSubpath_110 (by decide) ?_
            refine lv_iadd hx hb d_Path_turnSubpath_114 ?_
            refine tp_i (nI (at_ + 3)) (nI_add _ _) ?_
            refine lv_istore (lv' := [(6, .int (nI (at_ + 3))), (0, .ref hp), (1, .int (nI f)), (2, .int (nI e_)), (3, .int (nI (e_ - 1))), (4, .int (nI (fo f))), (5, .int (nI (if K (e_ - 1) = 2 then fo (e_ - 1) + 2 else fo (e_ - 1)))), (7, .int (nI i))]) hx hb d_Path_turnSubpath_115 hl (by decide) rfl (fun ls hl => ?_)
            refine lv_iinc (v := nI (i + 1)) (lv' := [(7, .int (nI (i + 1))), (6, .int (nI (at_ + 3))), (0, .ref hp), (1, .int (nI f)), (2, .int (nI e_)), (3, .int (nI (e_ - 1))), (4, .int (nI (fo f))), (5, .int (nI (if K (e_ - 1) = 2 then fo (e_ - 1) + 2 else fo (e_ - 1))))]) hx hb d_Path_turnSubpath_117 hl (k := 7) rfl (by first | exact nI_add _ 1 | rfl | decide) (by decide) rfl (fun ls hl => ?_)
            refine lv_goto (tgt := 81) hx hb d_Path_turnSubpath_120 (by decide) ?_
            exact ih_81 (i + 1) (at_ + 3) (upd F_ i (nI at_)) (by omega) (by omega) (by omega) (by rw [sk_y hi1 c_7, hat]; omega) (fun k => by
      by_cases h9 : k = i
      · rw [h9, up_s, if_pos (by omega), hat]
      · rw [up_n h9, hFi]; by_cases h8 : f < k ∧ k < i
        · rw [if_pos h8, if_pos (by omega)]
        · rw [if_neg h8, if_neg (by omega)]) _ _ _ hP hD hS (lv_sub hl [2, 3, 4, 5, 6, 7, 1, 0] rfl)
    exact L_81 ((e_ - 1 + 1 - (f + 1)) + 1) (f + 1) (fo f + 1) Fi (Nat.lt_succ_self _) (by omega) (by omega) (by rw [Nat.sub_self]; rfl) (fun k => (if_neg (by omega)).symm) _ _ _ (hP.sub [0, 4, 1, 2, 3] rfl) (hD.sub [0, 4, 1, 2, 3] (by decide) rfl) hS (lv_sub hl [5, 6, 7, 4, 3, 2, 1, 0] rfl)
  · skip
    exact absurd c_1 hc
set_option maxHeartbeats 40000000 in
set_option maxRecDepth 100000 in
/-- turnSubpath -/
theorem c_Path_turnSubpath1 (l : Launch) (D : va_G) (cI cB cJ : ClassId) (qQ : Nat) (hp : Nat) (qk : Nat) (qf : Nat) (qx : Nat) (qy : Nat) (pc_ : Nat) (pn : Nat) (pb : Nat) (nk : Nat) (nx : Nat) (K : Nat → Int32) (Fi : Nat → Int32) (X : Nat → Int32) (Y : Nat → Int32) (fo : Nat → Nat) (f : Nat) (e_ : Nat) (z : Nat) (hnk : nk ≤ 3000) (hnx : nx ≤ 9000) (hen : e_ ≤ nk) (hfe : f + 2 ≤ e_) (hc : K (e_ - 1) = 3) (hFf : Fi f = nI (fo f)) (hFl : Fi (e_ - 2) = nI (fo (e_ - 2))) (hz : z = (if K (e_ - 2) = 2 then fo (e_ - 2) + 2 else fo (e_ - 2))) (haz : fo f ≤ z) (hzn : z < nx) : ct l D cl [(cI, .int), (cB, .byte), (cJ, .long)] (amb qQ) y_Path_turnSubpath w_Path_turnSubpath 1 25 (0) (0) [.ref hp, .int (nI f), .int (nI e_)] [(hp, .inr (5, [.ref qk, .ref qf, .ref qx, .ref qy, .int (nI pc_), .int (nI pn), .int (nI pb)])), (qk, .inl (cI, nk, .inl K)), (qf, .inl (cI, nk, .inl Fi)), (qx, .inl (cI, nx, .inl X)), (qy, .inl (cI, nx, .inl Y))] (fun u_ : (Nat → Int32) × (Nat → Int32) × (Nat → Int32) × (Nat → Int32) => match u_ with | (K', F', X', Y') => (∀ k, K' k = tr K (f + 1) (e_ - 2) k) ∧ (∀ k, X' k = tr X (fo f) z k) ∧ (∀ k, Y' k = tr Y (fo f) z k) ∧ ∀ k, F' k = if f < k ∧ k ≤ e_ - 2 then nI (fo f + 1 + sk K' f (k - (f + 1))) else Fi k) (fun u_ : (Nat → Int32) × (Nat → Int32) × (Nat → Int32) × (Nat → Int32) => match u_ with | (K', F', X', Y') => none) (fun u_ : (Nat → Int32) × (Nat → Int32) × (Nat → Int32) × (Nat → Int32) => match u_ with | (K', F', X', Y') => [(hp, .inr (5, [.ref qk, .ref qf, .ref qx, .ref qy, .int (nI pc_), .int (nI pn), .int (nI pb)])), (qk, .inl (cI, nk, .inl K')), (qf, .inl (cI, nk, .inl F')), (qx, .inl (cI, nx, .inl X')), (qy, .inl (cI, nx, .inl Y'))]) := by
  refine ct_ofW (cc := b_Path_turnSubpath) (maxL := 8) (ret := none) (by decide) rfl (Nat.le_of_ble_eq_true rfl) ?_
  intro p e R s m args below meth c A Q ls hx hb hr hml hts hown hlocks hname hRf hRc hRs hRl hQ hK hP hD hS hA hM hl
  have hl : lv_has ls 8 [(0, .ref hp), (1, .int (nI f)), (2, .int (nI e_))] := hl
  refine lv_aload_n hx hb d_Path_turnSubpath_0 rfl (lv_at hl 0 rfl) ?_
  refine va_get (D := D) (ci := 5) (v := .ref qk) (C := R_Path) (T := T_Path) (N := 7) hx hb hts (ui_Path _) hown hK hP 0 rfl rfl 0 (by decide) (hts _ (gwc gw_107)) (fun _ h9 => h9) rfl d_Path_turnSubpath_1 ?_
  refine lv_iload_n hx hb d_Path_turnSubpath_4 rfl (lv_at hl 2 rfl) ?_
  refine lv_iconst (v := 1) hx hb d_Path_turnSubpath_5 (by decide) ?_
  refine lv_isub hx hb d_Path_turnSubpath_6 ?_
  refine tp_i (nI (e_ - 1)) (pk_sub (a := e_) (b := 1) (by omega)) ?_
  refine ld_i hx hb hK hP 1 0 rfl rfl (e_ - 1) (by omega) (by omega) d_Path_turnSubpath_7 ?_
  refine lv_iconst (v := 3) hx hb d_Path_turnSubpath_8 (by decide) ?_
  refine lv_icmp_ne (tgt := 18) hx hb d_Path_turnSubpath_9 (by decide) (fun c_1 => ?_) (fun c_1 => ?_)
  · skip
    exact absurd hc c_1
  · skip
    refine lv_iload_n hx hb d_Path_turnSubpath_12 rfl (lv_at hl 2 rfl) ?_
    refine lv_iconst (v := 2) hx hb d_Path_turnSubpath_13 (by decide) ?_
    refine lv_isub hx hb d_Path_turnSubpath_14 ?_
    refine tp_i (nI (e_ - 2)) (pk_sub (a := e_) (b := 2) (by omega)) ?_
    refine lv_goto (tgt := 21) hx hb d_Path_turnSubpath_15 (by decide) ?_
    refine lv_istore_n (lv' := [(3, .int (nI (e_ - 2))), (0, .ref hp), (1, .int (nI f)), (2, .int (nI e_))]) hx hb d_Path_turnSubpath_21 rfl hl (by decide) rfl (fun ls hl => ?_)
    refine lv_aload_n hx hb d_Path_turnSubpath_22 rfl (lv_at hl 1 rfl) ?_
    refine va_get (D := D) (ci := 5) (v := .ref qf) (C := R_Path) (T := T_Path) (N := 7) hx hb hts (ui_Path _) hown hK hP 0 rfl rfl 1 (by decide) (hts _ (gwc gw_109)) (fun _ h9 => h9) rfl d_Path_turnSubpath_23 ?_
    refine lv_iload_n hx hb d_Path_turnSubpath_26 rfl (lv_at hl 2 rfl) ?_
    refine ld_i hx hb hK hP 2 0 rfl rfl f (by omega) (by omega) d_Path_turnSubpath_27 ?_
    refine tp_i (nI (fo f)) (hFf) ?_
    refine lv_istore (lv' := [(4, .int (nI (fo f))), (3, .int (nI (e_ - 2))), (0, .ref hp), (1, .int (nI f)), (2, .int (nI e_))]) hx hb d_Path_turnSubpath_28 hl (by decide) rfl (fun ls hl => ?_)
    refine lv_aload_n hx hb d_Path_turnSubpath_30 rfl (lv_at hl 2 rfl) ?_
    refine lv_iload_n hx hb d_Path_turnSubpath_31 rfl (lv_at hl 1 rfl) ?_
    refine ct_callV (ci := 5) (q0 := 0) (As := [.int (nI (e_ - 2))]) (rest := []) (wr := [(qx, .inl (cI, nx, .inl X)), (qy, .inl (cI, nx, .inl Y))]) (n := 1) (c_Path_pointOf l D cI cB cJ qQ  hp qk qf qx qy pc_ pn pb nk K Fi fo (e_ - 2) (by omega) (hnk) (hFl)) hx hb hml hown hts (amb_ok qQ) hK hP hD hS hA hM (gi_V gw_367 gw_368 gw_369 gw_32 gw_370) rfl (by decide +kernel) ⟨by omega, by omega⟩ [0, 1, 2] [3, 4] rfl rfl rfl rfl (by decide) rfl rfl rfl hl.1 rfl (Nat.le_of_ble_eq_true rfl) d_Path_turnSubpath_32 ⟨by omega, by omega⟩ (fun u_2 H locs hok hP hD hS => ?_)
    have hP : va_P D cl [(qx, .inl (cI, nx, .inl X)), (qy, .inl (cI, nx, .inl Y)), (hp, .inr (5, [.ref qk, .ref qf, .ref qx, .ref qy, .int (nI pc_), .int (nI pn), .int (nI pb)])), (qk, .inl (cI, nk, .inl K)), (qf, .inl (cI, nk, .inl Fi))] H := hP
    have hD : va_D A [(qx, .inl (cI, nx, .inl X)), (qy, .inl (cI, nx, .inl Y)), (hp, .inr (5, [.ref qk, .ref qf, .ref qx, .ref qy, .int (nI pc_), .int (nI pn), .int (nI pb)])), (qk, .inl (cI, nk, .inl K)), (qf, .inl (cI, nk, .inl Fi))] := hD
    refine W.eq (g2 := F0 m 35 ls [.int (nI (if K (e_ - 2) = 2 then fo (e_ - 2) + 2 else fo (e_ - 2)))]) rfl ?_
    refine lv_istore (lv' := [(5, .int (nI (if K (e_ - 2) = 2 then fo (e_ - 2) + 2 else fo (e_ - 2)))), (4, .int (nI (fo f))), (3, .int (nI (e_ - 2))), (0, .ref hp), (1, .int (nI f)), (2, .int (nI e_))]) hx hb d_Path_turnSubpath_35 hl (by decide) rfl (fun ls hl => ?_)
    refine lv_aload_n hx hb d_Path_turnSubpath_37 rfl (lv_at hl 3 rfl) ?_
    refine va_get (D := D) (ci := 5) (v := .ref qx) (C := R_Path) (T := T_Path) (N := 7) hx hb hts (ui_Path _) hown hK hP 2 rfl rfl 2 (by decide) (hts _ (gwc gw_111)) (fun _ h9 => h9) rfl d_Path_turnSubpath_38 ?_
    refine lv_iload hx hb d_Path_turnSubpath_41 (lv_at hl 1 rfl) ?_
    refine lv_iload hx hb d_Path_turnSubpath_43 (lv_at hl 0 rfl) ?_
    refine ct_callSN (av := [.ref qx, .int (nI (fo f)), .int (nI (if K (e_ - 2) = 2 then fo (e_ - 2) + 2 else fo (e_ - 2)))]) (rest := []) (wr := [(qy, .inl (cI, nx, .inl Y)), (hp, .inr (5, [.ref qk, .ref qf, .ref qx, .ref qy, .int (nI pc_), .int (nI pn), .int (nI pb)])), (qk, .inl (cI, nk, .inl K)), (qf, .inl (cI, nk, .inl Fi))]) (n := 3) (c_CP_turnRow l D cI cB cJ qQ  qx nx X (fo f) (if K (e_ - 2) = 2 then fo (e_ - 2) + 2 else fo (e_ - 2)) (by rw [← hz]; exact hzn) (by rw [← hz]; omega) (by omega)) hx hb hml hown hts (amb_ok qQ) hK hP hD hS hA hM (gi_N gw_317) rfl (amb_nw_7 hM) (hts _ (gwc gw_28)) (hts _ (gwc gw_316)) (by decide +kernel) ⟨by omega, by omega⟩ [0] [1, 2, 3, 4] rfl rfl rfl rfl (by decide) rfl hl.1 rfl (Nat.le_of_ble_eq_true rfl) d_Path_turnSubpath_45 ⟨by omega, by omega⟩ (fun u_3 H locs hok hP hD hS => ?_)
    obtain ⟨X_, eX_⟩ : ∃ z, z = u_3 := ⟨_, rfl⟩
    subst eX_
    have hX : ∀ k, X_ k = tr X (fo f) (if K (e_ - 2) = 2 then fo (e_ - 2) + 2 else fo (e_ - 2)) k := hok
    have hP : va_P D cl [(qy, .inl (cI, nx, .inl Y)), (hp, .inr (5, [.ref qk, .ref qf, .ref qx, .ref qy, .int (nI pc_), .int (nI pn), .int (nI pb)])), (qk, .inl (cI, nk, .inl K)), (qf, .inl (cI, nk, .inl Fi)), (qx, .inl (cI, nx, .inl X_))] H := hP
    have hD : va_D A [(qy, .inl (cI, nx, .inl Y)), (hp, .inr (5, [.ref qk, .ref qf, .ref qx, .ref qy, .int (nI pc_), .int (nI pn), .int (nI pb)])), (qk, .inl (cI, nk, .inl K)), (qf, .inl (cI, nk, .inl Fi)), (qx, .inl (cI, nx, .inl X_))] := hD
    refine W.eq (g2 := F0 m 48 ls []) rfl ?_
    refine lv_aload_n hx hb d_Path_turnSubpath_48 rfl (lv_at hl 3 rfl) ?_
    refine va_get (D := D) (ci := 5) (v := .ref qy) (C := R_Path) (T := T_Path) (N := 7) hx hb hts (ui_Path _) hown hK hP 1 rfl rfl 3 (by decide) (hts _ (gwc gw_114)) (fun _ h9 => h9) rfl d_Path_turnSubpath_49 ?_
    refine lv_iload hx hb d_Path_turnSubpath_52 (lv_at hl 1 rfl) ?_
    refine lv_iload hx hb d_Path_turnSubpath_54 (lv_at hl 0 rfl) ?_
    refine ct_callSN (av := [.ref qy, .int (nI (fo f)), .int (nI (if K (e_ - 2) = 2 then fo (e_ - 2) + 2 else fo (e_ - 2)))]) (rest := []) (wr := [(hp, .inr (5, [.ref qk, .ref qf, .ref qx, .ref qy, .int (nI pc_), .int (nI pn), .int (nI pb)])), (qk, .inl (cI, nk, .inl K)), (qf, .inl (cI, nk, .inl Fi)), (qx, .inl (cI, nx, .inl X_))]) (n := 3) (c_CP_turnRow l D cI cB cJ qQ  qy nx Y (fo f) (if K (e_ - 2) = 2 then fo (e_ - 2) + 2 else fo (e_ - 2)) (by rw [← hz]; exact hzn) (by rw [← hz]; omega) (by omega)) hx hb hml hown hts (amb_ok qQ) hK hP hD hS hA hM (gi_N gw_317) rfl (amb_nw_7 hM) (hts _ (gwc gw_28)) (hts _ (gwc gw_316)) (by decide +kernel) ⟨by omega, by omega⟩ [0] [1, 2, 3, 4] rfl rfl rfl rfl (by decide) rfl hl.1 rfl (Nat.le_of_ble_eq_true rfl) d_Path_turnSubpath_56 ⟨by omega, by omega⟩ (fun u_4 H locs hok hP hD hS => ?_)
    obtain ⟨Y_, eY_⟩ : ∃ z, z = u_4 := ⟨_, rfl⟩
    subst eY_
    have hY : ∀ k, Y_ k = tr Y (fo f) (if K (e_ - 2) = 2 then fo (e_ - 2) + 2 else fo (e_ - 2)) k := hok
    have hP : va_P D cl [(hp, .inr (5, [.ref qk, .ref qf, .ref qx, .ref qy, .int (nI pc_), .int (nI pn), .int (nI pb)])), (qk, .inl (cI, nk, .inl K)), (qf, .inl (cI, nk, .inl Fi)), (qx, .inl (cI, nx, .inl X_)), (qy, .inl (cI, nx, .inl Y_))] H := hP
    have hD : va_D A [(hp, .inr (5, [.ref qk, .ref qf, .ref qx, .ref qy, .int (nI pc_), .int (nI pn), .int (nI pb)])), (qk, .inl (cI, nk, .inl K)), (qf, .inl (cI, nk, .inl Fi)), (qx, .inl (cI, nx, .inl X_)), (qy, .inl (cI, nx, .inl Y_))] := hD
    refine W.eq (g2 := F0 m 59 ls []) rfl ?_
    refine lv_aload_n hx hb d_Path_turnSubpath_59 rfl (lv_at hl 3 rfl) ?_
    refine va_get (D := D) (ci := 5) (v := .ref qk) (C := R_Path) (T := T_Path) (N := 7) hx hb hts (ui_Path _) hown hK hP 0 rfl rfl 0 (by decide) (hts _ (gwc gw_107)) (fun _ h9 => h9) rfl d_Path_turnSubpath_60 ?_
    refine lv_iload_n hx hb d_Path_turnSubpath_63 rfl (lv_at hl 4 rfl) ?_
    refine lv_iconst (v := 1) hx hb d_Path_turnSubpath_64 (by decide) ?_
    refine lv_iadd hx hb d_Path_turnSubpath_65 ?_
    refine tp_i (nI (f + 1)) (nI_add _ _) ?_
    refine lv_iload_n hx hb d_Path_turnSubpath_66 rfl (lv_at hl 2 rfl) ?_
    refine ct_callSN (av := [.ref qk, .int (nI (f + 1)), .int (nI (e_ - 2))]) (rest := []) (wr := [(hp, .inr (5, [.ref qk, .ref qf, .ref qx, .ref qy, .int (nI pc_), .int (nI pn), .int (nI pb)])), (qf, .inl (cI, nk, .inl Fi)), (qx, .inl (cI, nx, .inl X_)), (qy, .inl (cI, nx, .inl Y_))]) (n := 3) (c_CP_turnRow l D cI cB cJ qQ  qk nk K (f + 1) (e_ - 2) (by omega) (by omega) (by omega)) hx hb hml hown hts (amb_ok qQ) hK hP hD hS hA hM (gi_N gw_317) rfl (amb_nw_7 hM) (hts _ (gwc gw_28)) (hts _ (gwc gw_316)) (by decide +kernel) ⟨by omega, by omega⟩ [1] [0, 2, 3, 4] rfl rfl rfl rfl (by decide) rfl hl.1 rfl (Nat.le_of_ble_eq_true rfl) d_Path_turnSubpath_67 ⟨by omega, by omega⟩ (fun u_5 H locs hok hP hD hS => ?_)
    obtain ⟨K_, eK_⟩ : ∃ z, z = u_5 := ⟨_, rfl⟩
    subst eK_
    have hKt : ∀ k, K_ k = tr K (f + 1) (e_ - 2) k := hok
    have hP : va_P D cl [(hp, .inr (5, [.ref qk, .ref qf, .ref qx, .ref qy, .int (nI pc_), .int (nI pn), .int (nI pb)])), (qf, .inl (cI, nk, .inl Fi)), (qx, .inl (cI, nx, .inl X_)), (qy, .inl (cI, nx, .inl Y_)), (qk, .inl (cI, nk, .inl K_))] H := hP
    have hD : va_D A [(hp, .inr (5, [.ref qk, .ref qf, .ref qx, .ref qy, .int (nI pc_), .int (nI pn), .int (nI pb)])), (qf, .inl (cI, nk, .inl Fi)), (qx, .inl (cI, nx, .inl X_)), (qy, .inl (cI, nx, .inl Y_)), (qk, .inl (cI, nk, .inl K_))] := hD
    refine W.eq (g2 := F0 m 70 ls []) rfl ?_
    refine lv_iload hx hb d_Path_turnSubpath_70 (lv_at hl 1 rfl) ?_
    refine lv_iconst (v := 1) hx hb d_Path_turnSubpath_72 (by decide) ?_
    refine lv_iadd hx hb d_Path_turnSubpath_73 ?_
    refine tp_i (nI (fo f + 1)) (nI_add _ _) ?_
    refine lv_istore (lv' := [(6, .int (nI (fo f + 1))), (5, .int (nI (if K (e_ - 2) = 2 then fo (e_ - 2) + 2 else fo (e_ - 2)))), (4, .int (nI (fo f))), (3, .int (nI (e_ - 2))), (0, .ref hp), (1, .int (nI f)), (2, .int (nI e_))]) hx hb d_Path_turnSubpath_74 hl (by decide) rfl (fun ls hl => ?_)
    refine lv_iload_n hx hb d_Path_turnSubpath_76 rfl (lv_at hl 5 rfl) ?_
    refine lv_iconst (v := 1) hx hb d_Path_turnSubpath_77 (by decide) ?_
    refine lv_iadd hx hb d_Path_turnSubpath_78 ?_
    refine tp_i (nI (f + 1)) (nI_add _ _) ?_
    refine lv_istore (lv' := [(7, .int (nI (f + 1))), (6, .int (nI (fo f + 1))), (5, .int (nI (if K (e_ - 2) = 2 then fo (e_ - 2) + 2 else fo (e_ - 2)))), (4, .int (nI (fo f))), (3, .int (nI (e_ - 2))), (0, .ref hp), (1, .int (nI f)), (2, .int (nI e_))]) hx hb d_Path_turnSubpath_79 hl (by decide) rfl (fun ls hl => ?_)
    have L_81 : ∀ (n_ : Nat) (i : Nat) (at_ : Nat) (F_ : Nat → Int32), e_ - 2 + 1 - i < n_ → (f + 1 ≤ i) → (i ≤ e_ - 2 + 1) → (at_ = fo f + 1 + sk K_ f (i - (f + 1))) → (∀ k, F_ k = if f < k ∧ k < i then nI (fo f + 1 + sk K_ f (k - (f + 1))) else Fi k) → ∀ (H : Heap) (locs : List Loc) (ls : Array Slot), va_P D cl [(hp, .inr (5, [.ref qk, .ref qf, .ref qx, .ref qy, .int (nI pc_), .int (nI pn), .int (nI pb)])), (qk, .inl (cI, nk, .inl K_)), (qf, .inl (cI, nk, .inl F_)), (qx, .inl (cI, nx, .inl X_)), (qy, .inl (cI, nx, .inl Y_))] H → va_D A [(hp, .inr (5, [.ref qk, .ref qf, .ref qx, .ref qy, .int (nI pc_), .int (nI pn), .int (nI pb)])), (qk, .inl (cI, nk, .inl K_)), (qf, .inl (cI, nk, .inl F_)), (qx, .inl (cI, nx, .inl X_)), (qy, .inl (cI, nx, .inl Y_))] → va_S A s.heap H locs → lv_has ls 8 [(0, .ref hp), (1, .int (nI f)), (2, .int (nI e_)), (3, .int (nI (e_ - 2))), (4, .int (nI (fo f))), (5, .int (nI (if K (e_ - 2) = 2 then fo (e_ - 2) + 2 else fo (e_ - 2)))), (6, .int (nI at_)), (7, .int (nI i))] → W p l e R s m args below meth c H locs (0) (0) Q (F0 m 81 ls []) := by
      intro n_
      induction n_ with
      | zero => intro i at_ F_ hm_; exact absurd hm_ (Nat.not_lt_zero _)
      | succ n_ ih_81 =>
        intro i at_ F_ hm_ hi1 hil hat hFi H locs ls hP hD hS hl
        refine lv_iload hx hb d_Path_turnSubpath_81 (lv_at hl 7 rfl) ?_
        refine lv_iload_n hx hb d_Path_turnSubpath_83 rfl (lv_at hl 3 rfl) ?_
        refine bn_gt (a1 := i) (b1 := e_ - 2) (tgt := 123) hx hb (by omega) (by omega) d_Path_turnSubpath_84 (by decide) (fun c_6 => ?_) (fun c_6 => ?_)
        · skip
          have hF9 : ∀ k, F_ k = if f < k ∧ k ≤ e_ - 2 then nI (fo f + 1 + sk K_ f (k - (f + 1))) else Fi k := fun k => by
            rw [hFi]
            by_cases h8 : f < k ∧ k < i
            · rw [if_pos h8, if_pos (by omega)]
            · rw [if_neg h8, if_neg (by omega)]
          exact ct_retv hQ hx hb hr hlocks hP hD hS (K_, F_, X_, Y_) [(hp, .inr (5, [.ref qk, .ref qf, .ref qx, .ref qy, .int (nI pc_), .int (nI pn), .int (nI pb)])), (qk, .inl (cI, nk, .inl K_)), (qf, .inl (cI, nk, .inl F_)), (qx, .inl (cI, nx, .inl X_)), (qy, .inl (cI, nx, .inl Y_))] [0, 1, 2, 3, 4] (rfl) (⟨hKt, by rw [hz]; exact hX, by rw [hz]; exact hY, hF9⟩) (rfl) rfl rfl (by omega) (by omega) d_Path_turnSubpath_123
        · skip
          refine lv_aload_n hx hb d_Path_turnSubpath_87 rfl (lv_at hl 0 rfl) ?_
          refine va_get (D := D) (ci := 5) (v := .ref qf) (C := R_Path) (T := T_Path) (N := 7) hx hb hts (ui_Path _) hown hK hP 0 rfl rfl 1 (by decide) (hts _ (gwc gw_109)) (fun _ h9 => h9) rfl d_Path_turnSubpath_88 ?_
          refine lv_iload hx hb d_Path_turnSubpath_91 (lv_at hl 7 rfl) ?_
          refine lv_iload hx hb d_Path_turnSubpath_93 (lv_at hl 6 rfl) ?_
          refine st_i hx hb hK hP hD hS 2 0 rfl rfl i (by omega) (by omega) d_Path_turnSubpath_95 (fun H locs hP hD hS => ?_)
          have hP : va_P D cl [(hp, .inr (5, [.ref qk, .ref qf, .ref qx, .ref qy, .int (nI pc_), .int (nI pn), .int (nI pb)])), (qk, .inl (cI, nk, .inl K_)), (qf, .inl (cI, nk, .inl (upd F_ i (nI at_)))), (qx, .inl (cI, nx, .inl X_)), (qy, .inl (cI, nx, .inl Y_))] H := hP
          have hD : va_D A [(hp, .inr (5, [.ref qk, .ref qf, .ref qx, .ref qy, .int (nI pc_), .int (nI pn), .int (nI pb)])), (qk, .inl (cI, nk, .inl K_)), (qf, .inl (cI, nk, .inl (upd F_ i (nI at_)))), (qx, .inl (cI, nx, .inl X_)), (qy, .inl (cI, nx, .inl Y_))] := hD
          refine lv_iload hx hb d_Path_turnSubpath_96 (lv_at hl 6 rfl) ?_
          refine lv_aload_n hx hb d_Path_turnSubpath_98 rfl (lv_at hl 0 rfl) ?_
          refine va_get (D := D) (ci := 5) (v := .ref qk) (C := R_Path) (T := T_Path) (N := 7) hx hb hts (ui_Path _) hown hK hP 0 rfl rfl 0 (by decide) (hts _ (gwc gw_107)) (fun _ h9 => h9) rfl d_Path_turnSubpath_99 ?_
          refine lv_iload hx hb d_Path_turnSubpath_102 (lv_at hl 7 rfl) ?_
          refine ld_i hx hb hK hP 1 0 rfl rfl i (by omega) (by omega) d_Path_turnSubpath_104 ?_
          refine lv_iconst (v := 2) hx hb d_Path_turnSubpath_105 (by decide) ?_
          refine lv_icmp_ne (tgt := 113) hx hb d_Path_turnSubpath_106 (by decide) (fun c_7 => ?_) (fun c_7 => ?_)
          · skip
            refine lv_iconst (v := 1) hx hb d_Path_turnSubpath_113 (by decide) ?_
            refine lv_iadd hx hb d_Path_turnSubpath_114 ?_
            refine tp_i (nI (at_ + 1)) (nI_add _ _) ?_
            refine lv_istore (lv' := [(6, .int (nI (at_ + 1))), (0, .ref hp), (1, .int (nI f)), (2, .int (nI e_)), (3, .int (nI (e_ - 2))), (4, .int (nI (fo f))), (5, .int (nI (if K (e_ - 2) = 2 then fo (e_ - 2) + 2 else fo (e_ - 2)))), (7, .int (nI i))]) hx hb d_Path_turnSubpath_115 hl (by decide) rfl (fun ls hl => ?_)
            refine lv_iinc (v := nI (i + 1)) (lv' := [(7, .int (nI (i + 1))), (6, .int (nI (at_ + 1))), (0, .ref hp), (1, .int (nI f)), (2, .int (nI e_)), (3, .int (nI (e_ - 2))), (4, .int (nI (fo f))), (5, .int (nI (if K (e_ - 2) = 2 then fo (e_ - 2) + 2 else fo (e_ - 2))))]) hx hb d_Path_turnSubpath_117 hl (k := 7) rfl (by first | exact nI_add _ 1 | rfl | decide) (by decide) rfl (fun ls hl => ?_)
            refine lv_goto (tgt := 81) hx hb d_Path_turnSubpath_120 (by decide) ?_
            exact ih_81 (i + 1) (at_ + 1) (upd F_ i (nI at_)) (by omega) (by omega) (by omega) (by rw [sk_n hi1 c_7, hat]; omega) (fun k => by
      by_cases h9 : k = i
      · rw [h9, up_s, if_pos (by omega), hat]
      · rw [up_n h9, hFi]; by_cases h8 : f < k ∧ k < i
        · rw [if_pos h8, if_pos (by omega)]
        · rw [if_neg h8, if_neg (by omega)]) _ _ _ hP hD hS (lv_sub hl [2, 3, 4, 5, 6, 7, 1, 0] rfl)
          · skip
            refine lv_iconst (v := 3) hx hb d_Path_turnSubpath_109 (by decide) ?_
            refine lv_goto (tgt := 114) hx hb d_Path_turnSubpath_110 (by decide) ?_
            refine lv_iadd hx hb d_Path_turnSubpath_114 ?_
            refine tp_i (nI (at_ + 3)) (nI_add _ _) ?_
            refine lv_istore (lv' := [(6, .int (nI (at_ + 3))), (0, .ref hp), (1, .int (nI f)), (2, .int (nI e_)), (3, .int (nI (e_ - 2))), (4, .int (nI (fo f))), (5, .int (nI (if K (e_ - 2) = 2 then fo (e_ - 2) + 2 else fo (e_ - 2)))), (7, .int (nI i))]) hx hb d_Path_turnSubpath_115 hl (by decide) rfl (fun ls hl => ?_)
            refine lv_iinc (v := nI (i + 1)) (lv' := [(7, .int (nI (i + 1))), (6, .int (nI (at_ + 3))), (0, .ref hp), (1, .int (nI f)), (2, .int (nI e_)), (3, .int (nI (e_ - 2))), (4, .int (nI (fo f))), (5, .int (nI (if K (e_ - 2) = 2 then fo (e_ - 2) + 2 else fo (e_ - 2))))]) hx hb d_Path_turnSubpath_117 hl (k := 7) rfl (by first | exact nI_add _ 1 | rfl | decide) (by decide) rfl (fun ls hl => ?_)
            refine lv_goto (tgt := 81) hx hb d_Path_turnSubpath_120 (by decide) ?_
            exact ih_81 (i + 1) (at_ + 3) (upd F_ i (nI at_)) (by omega) (by omega) (by omega) (by rw [sk_y hi1 c_7, hat]; omega) (fun k => by
      by_cases h9 : k = i
      · rw [h9, up_s, if_pos (by omega), hat]
      · rw [up_n h9, hFi]; by_cases h8 : f < k ∧ k < i
        · rw [if_pos h8, if_pos (by omega)]
        · rw [if_neg h8, if_neg (by omega)]) _ _ _ hP hD hS (lv_sub hl [2, 3, 4, 5, 6, 7, 1, 0] rfl)
    exact L_81 ((e_ - 2 + 1 - (f + 1)) + 1) (f + 1) (fo f + 1) Fi (Nat.lt_succ_self _) (by omega) (by omega) (by rw [Nat.sub_self]; rfl) (fun k => (if_neg (by omega)).symm) _ _ _ (hP.sub [0, 4, 1, 2, 3] rfl) (hD.sub [0, 4, 1, 2, 3] (by decide) rfl) hS (lv_sub hl [5, 6, 7, 4, 3, 2, 1, 0] rfl)
