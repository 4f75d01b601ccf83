set_option maxHeartbeats 40000000 in
set_option maxRecDepth 100000 in
/-- turnSubpaths -/
theorem c_Path_turnSubpaths (l : Launch) (D : va_G) (cI cB cJ : ClassId) (qQ : Nat) (hp : Nat) (qk : Nat) (qf : Nat) (qx : Nat) (qy : Nat) (pc_ : Nat) (pn : Nat) (pb : Nat) (nk : Nat) (nx : Nat) (K : Nat → Int32) (Fi : Nat → Int32) (X : Nat → Int32) (Y : Nat → Int32) (subs : List Sub) (hnk : nk ≤ 3000) (hnx : nx ≤ 9000) (hpk : pc_ ≤ nk) (hpn : pn ≤ nx) (hsb : ∀ q ∈ subs, sbo q) (hR0 : RIp pc_ pn pb K Fi X Y (subs.flatMap rend)) : ct l D cl [(cI, .int), (cB, .byte), (cJ, .long)] (amb qQ) y_Path_turnSubpaths w_Path_turnSubpaths 2 52 (0) (0) [.ref hp] [(hp, .inr (5, [.ref qk, .ref qf, .ref qx, .ref qy, .int (nI pc_), .int (nI pn), .int (nI pb)])), (qk, .inl (cI, nk, .inl K)), (qf, .inl (cI, nk, .inl Fi)), (qx, .inl (cI, nx, .inl X)), (qy, .inl (cI, nx, .inl Y))] (fun u_ : (Nat → Int32) × (Nat → Int32) × (Nat → Int32) × (Nat → Int32) => match u_ with | (K', F', X', Y') => RIp pc_ pn pb K' F' X' Y' (subs.flatMap renT)) (fun u_ : (Nat → Int32) × (Nat → Int32) × (Nat → Int32) × (Nat → Int32) => match u_ with | (K', F', X', Y') => none) (fun u_ : (Nat → Int32) × (Nat → Int32) × (Nat → Int32) × (Nat → Int32) => match u_ with | (K', F', X', Y') => [(hp, .inr (5, [.ref qk, .ref qf, .ref qx, .ref qy, .int (nI pc_), .int (nI pn), .int (nI pb)])), (qk, .inl (cI, nk, .inl K')), (qf, .inl (cI, nk, .inl F')), (qx, .inl (cI, nx, .inl X')), (qy, .inl (cI, nx, .inl Y'))]) := by
  refine ct_ofW (cc := b_Path_turnSubpaths) (maxL := 3) (ret := none) (by decide) rfl (Nat.le_of_ble_eq_true rfl) ?_
  intro p e R s m args below meth c A Q ls hx hb hr hml hts hown hlocks hname hRf hRc hRs hRl hQ hK hP hD hS hA hM hl
  have hl : lv_has ls 3 [(0, .ref hp)] := hl
  refine lv_iconst (v := 0) hx hb d_Path_turnSubpaths_0 (by decide) ?_
  refine lv_istore_n (lv' := [(1, .int 0), (0, .ref hp)]) hx hb d_Path_turnSubpaths_1 rfl hl (by decide) rfl (fun ls hl => ?_)
  refine lv_iconst (v := 1) hx hb d_Path_turnSubpaths_2 (by decide) ?_
  refine lv_istore_n (lv' := [(2, .int 1), (1, .int 0), (0, .ref hp)]) hx hb d_Path_turnSubpaths_3 rfl hl (by decide) rfl (fun ls hl => ?_)
  have L_4 : ∀ (n_ : Nat) (b_ : Nat) (j : Nat) (K_ : Nat → Int32) (F_ : Nat → Int32) (X_ : Nat → Int32) (Y_ : Nat → Int32) (Dn : List Sub) (rs : List Sub), pc_ + 1 - j < n_ → (subs = Dn ++ rs) → (RIp pc_ pn pb K_ F_ X_ Y_ ((Dn.flatMap renT) ++ rs.flatMap rend)) → (b_ = (Dn.flatMap renT).length) → (b_ < j) → (j ≤ pc_ + 1) → (∀ q r, rs = q :: r → j ≤ b_ + (rend q).length) → ∀ (H : Heap) (locs : List Loc) (ls : Array Slot), va_P D cl [(hp, .inr (5, [.ref qk, .ref qf, .ref qx, .ref qy, .int (nI pc_), .int (nI pn), .int (nI pb)])), (qk, .inl (cI, nk, .inl K_)), (qf, .inl (cI, nk, .inl F_)), (qx, .inl (cI, nx, .inl X_)), (qy, .inl (cI, nx, .inl Y_))] H → va_D A [(hp, .inr (5, [.ref qk, .ref qf, .ref qx, .ref qy, .int (nI pc_), .int (nI pn), .int (nI pb)])), (qk, .inl (cI, nk, .inl K_)), (qf, .inl (cI, nk, .inl F_)), (qx, .inl (cI, nx, .inl X_)), (qy, .inl (cI, nx, .inl Y_))] → va_S A s.heap H locs → lv_has ls 3 [(0, .ref hp), (1, .int (nI b_)), (2, .int (nI j))] → W p l e R s m args below meth c H locs (0) (0) Q (F0 m 4 ls []) := by
    intro n_
    induction n_ with
    | zero => intro b_ j K_ F_ X_ Y_ Dn rs hm_; exact absurd hm_ (Nat.not_lt_zero _)
    | succ n_ ih_4 =>
      intro b_ j K_ F_ X_ Y_ Dn rs hm_ hsub hRI hb_ hbj hj3 hjs H locs ls hP hD hS hl
      refine lv_iload_n hx hb d_Path_turnSubpaths_4 rfl (lv_at hl 2 rfl) ?_
      refine lv_aload_n hx hb d_Path_turnSubpaths_5 rfl (lv_at hl 0 rfl) ?_
      refine va_get (D := D) (ci := 5) (v := .int (nI pc_)) (C := R_Path) (T := T_Path) (N := 7) hx hb hts (ui_Path _) hown hK hP 0 rfl rfl 4 (by decide) (hts _ (gwc gw_117)) (fun _ h9 => h9) rfl d_Path_turnSubpaths_6 ?_
      refine bn_gt (a1 := j) (b1 := pc_) (tgt := 43) hx hb (by omega) (by omega) d_Path_turnSubpaths_9 (by decide) (fun c_1 => ?_) (fun c_1 => ?_)
      · skip
        have hend : RIp pc_ pn pb K_ F_ X_ Y_ (subs.flatMap renT) := by
          cases rs with
          | nil =>
            rw [hsub]
            simpa using hRI
          | cons q r =>
            exfalso
            have h9 := ts_len (R := (Dn.flatMap renT)) (s := q) (T := r.flatMap rend) hRI
            have h8 := hjs q r rfl
            omega
        exact ct_retv hQ hx hb hr hlocks hP hD hS (K_, F_, X_, Y_) [(hp, .inr (5, [.ref qk, .ref qf, .ref qx, .ref qy, .int (nI pc_), .int (nI pn), .int (nI pb)])), (qk, .inl (cI, nk, .inl K_)), (qf, .inl (cI, nk, .inl F_)), (qx, .inl (cI, nx, .inl X_)), (qy, .inl (cI, nx, .inl Y_))] [0, 1, 2, 3, 4] (rfl) (hend) (rfl) rfl rfl (by omega) (by omega) d_Path_turnSubpaths_43
      · skip
        obtain ⟨sb, rr, hrs⟩ : ∃ q r, rs = q :: r := by
          cases rs with
          | nil =>
            exfalso
            have h9 := hRI.1
            simp at h9
            rw [hb_] at hbj
            simp at hbj
            omega
          | cons q r => exact ⟨q, r, rfl⟩
        have hR1 : RIp pc_ pn pb K_ F_ X_ Y_ ((Dn.flatMap renT) ++ (rend sb ++ rr.flatMap rend)) := by rw [hrs] at hRI; exact hRI
        have hsbs : sbo sb := hsb sb (by rw [hsub, hrs]; simp)
        have hj8 := hjs sb rr hrs
        refine lv_iload_n hx hb d_Path_turnSubpaths_12 rfl (lv_at hl 2 rfl) ?_
        refine lv_aload_n hx hb d_Path_turnSubpaths_13 rfl (lv_at hl 0 rfl) ?_
        refine va_get (D := D) (ci := 5) (v := .int (nI pc_)) (C := R_Path) (T := T_Path) (N := 7) hx hb hts (ui_Path _) hown hK hP 0 rfl rfl 4 (by decide) (hts _ (gwc gw_117)) (fun _ h9 => h9) rfl d_Path_turnSubpaths_14 ?_
        refine bn_eq (a1 := j) (b1 := pc_) (tgt := 29) hx hb (by omega) (by omega) d_Path_turnSubpaths_17 (by decide) (fun c_2 => ?_) (fun c_2 => ?_)
        · skip
          have he : j = b_ + (rend sb).length := by
            rw [hb_] at hbj hj8 ⊢
            exact ts_stop hR1 hsbs hbj hj8 (Or.inl c_2)
          obtain ⟨fo, g1, g2, g3, g4, g5⟩ := ts_pre hR1 hsbs
          have hr1 := rend_1 (s := sb)
          refine lv_aload_n hx hb d_Path_turnSubpaths_29 rfl (lv_at hl 0 rfl) ?_
          refine lv_iload_n hx hb d_Path_turnSubpaths_30 rfl (lv_at hl 1 rfl) ?_
          refine lv_iload_n hx hb d_Path_turnSubpaths_31 rfl (lv_at hl 2 rfl) ?_
          cases hcl : sb.2.2
          · skip
            have hcn : (clo sb.1 sb.2.2).length = 0 := by rw [hcl]; rfl
            have hl9 : j - 1 = (Dn.flatMap renT).length + sb.2.1.length := by omega
            refine ct_callV (ci := 5) (q0 := 0) (As := [.int (nI b_), .int (nI j)]) (rest := []) (wr := []) (n := 2) (c_Path_turnSubpath0 l D cI cB cJ qQ  hp qk qf qx qy pc_ pn pb nk nx K_ F_ X_ Y_ fo b_ j ((pl (Dn.flatMap renT)).length + (pl sb.2.1).length) (hnk) (hnx) (by omega) (by omega) (by rw [he, hb_]; exact (RS_c hR1 hsbs).2 hcl) (by rw [hb_]; exact g2) (by rw [hl9]; exact g3) (by rw [hl9]; exact g4) (by rw [hb_, g1]; omega) (by omega)) hx hb hml hown hts (amb_ok qQ) hK hP hD hS hA hM (gi_V gw_363 gw_365 gw_10 gw_32 gw_366) rfl (by decide +kernel) ⟨by omega, by omega⟩ [0, 1, 2, 3, 4] [] rfl rfl rfl rfl (by decide) rfl rfl rfl hl.1 rfl (Nat.le_of_ble_eq_true rfl) d_Path_turnSubpaths_32 ⟨by omega, by omega⟩ (fun u_3 H locs hok hP hD hS => ?_)
            obtain ⟨K2, F2, X2, Y2⟩ := u_3
            have ht9 : (∀ k, K2 k = tr K_ (b_ + 1) (j - 1) k) ∧ (∀ k, X2 k = tr X_ (fo b_) ((pl (Dn.flatMap renT)).length + (pl sb.2.1).length) k) ∧ (∀ k, Y2 k = tr Y_ (fo b_) ((pl (Dn.flatMap renT)).length + (pl sb.2.1).length) k) ∧ ∀ k, F2 k = if b_ < k ∧ k ≤ j - 1 then nI (fo b_ + 1 + sk K2 b_ (k - (b_ + 1))) else F_ k := hok
            have hP : va_P D cl [(hp, .inr (5, [.ref qk, .ref qf, .ref qx, .ref qy, .int (nI pc_), .int (nI pn), .int (nI pb)])), (qk, .inl (cI, nk, .inl K2)), (qf, .inl (cI, nk, .inl F2)), (qx, .inl (cI, nx, .inl X2)), (qy, .inl (cI, nx, .inl Y2))] H := hP
            have hD : va_D A [(hp, .inr (5, [.ref qk, .ref qf, .ref qx, .ref qy, .int (nI pc_), .int (nI pn), .int (nI pb)])), (qk, .inl (cI, nk, .inl K2)), (qf, .inl (cI, nk, .inl F2)), (qx, .inl (cI, nx, .inl X2)), (qy, .inl (cI, nx, .inl Y2))] := hD
            refine W.eq (g2 := F0 m 35 ls []) rfl ?_
            have hR2 : RIp pc_ pn pb K2 F2 X2 Y2 ((Dn ++ [sb]).flatMap renT ++ rr.flatMap rend) := by
              have h9 := RI_turn hR1 hsbs (K' := K2) (F' := F2) (X' := X2) (Y' := Y2) (fun k => by rw [ht9.1 k, hl9, hb_]) (fun k => by rw [ht9.2.1 k, hb_, g1]) (fun k => by rw [ht9.2.2.1 k, hb_, g1]) (fun k => by rw [ht9.2.2.2 k, hl9, hb_, g1])
              simpa using h9
            refine lv_iload_n hx hb d_Path_turnSubpaths_35 rfl (lv_at hl 2 rfl) ?_
            refine lv_istore_n (lv' := [(1, .int (nI j)), (0, .ref hp), (2, .int (nI j))]) hx hb d_Path_turnSubpaths_36 rfl hl (by decide) rfl (fun ls hl => ?_)
            refine lv_iinc (v := nI (j + 1)) (lv' := [(2, .int (nI (j + 1))), (1, .int (nI j)), (0, .ref hp)]) hx hb d_Path_turnSubpaths_37 hl (k := 2) rfl (by first | exact nI_add _ 1 | rfl | decide) (by decide) rfl (fun ls hl => ?_)
            refine lv_goto (tgt := 4) hx hb d_Path_turnSubpaths_40 (by decide) ?_
            exact ih_4 j (j + 1) K2 F2 X2 Y2 (Dn ++ [sb]) rr (by omega) (by rw [hsub, hrs]; simp) (hR2) (by rw [he, hb_]; simp [ren_len]) (by omega) (by omega) (fun q r _ => by rw [rend_1]; omega) _ _ _ hP hD hS (lv_sub hl [2, 1, 0] rfl)
          · skip
            have hcn : (clo sb.1 sb.2.2).length = 1 := by rw [hcl]; rfl
            have hl9 : j - 2 = (Dn.flatMap renT).length + sb.2.1.length := by omega
            refine ct_callV (ci := 5) (q0 := 0) (As := [.int (nI b_), .int (nI j)]) (rest := []) (wr := []) (n := 2) (c_Path_turnSubpath1 l D cI cB cJ qQ  hp qk qf qx qy pc_ pn pb nk nx K_ F_ X_ Y_ fo b_ j ((pl (Dn.flatMap renT)).length + (pl sb.2.1).length) (hnk) (hnx) (by omega) (by omega) (by rw [he, hb_]; exact (RS_c hR1 hsbs).1 hcl) (by rw [hb_]; exact g2) (by rw [hl9]; exact g3) (by rw [hl9]; exact g4) (by rw [hb_, g1]; omega) (by omega)) hx hb hml hown hts (amb_ok qQ) hK hP hD hS hA hM (gi_V gw_363 gw_365 gw_10 gw_32 gw_366) rfl (by decide +kernel) ⟨by omega, by omega⟩ [0, 1, 2, 3, 4] [] rfl rfl rfl rfl (by decide) rfl rfl rfl hl.1 rfl (Nat.le_of_ble_eq_true rfl) d_Path_turnSubpaths_32 ⟨by omega, by omega⟩ (fun u_4 H locs hok hP hD hS => ?_)
            obtain ⟨K2, F2, X2, Y2⟩ := u_4
            have ht9 : (∀ k, K2 k = tr K_ (b_ + 1) (j - 2) k) ∧ (∀ k, X2 k = tr X_ (fo b_) ((pl (Dn.flatMap renT)).length + (pl sb.2.1).length) k) ∧ (∀ k, Y2 k = tr Y_ (fo b_) ((pl (Dn.flatMap renT)).length + (pl sb.2.1).length) k) ∧ ∀ k, F2 k = if b_ < k ∧ k ≤ j - 2 then nI (fo b_ + 1 + sk K2 b_ (k - (b_ + 1))) else F_ k := hok
            have hP : va_P D cl [(hp, .inr (5, [.ref qk, .ref qf, .ref qx, .ref qy, .int (nI pc_), .int (nI pn), .int (nI pb)])), (qk, .inl (cI, nk, .inl K2)), (qf, .inl (cI, nk, .inl F2)), (qx, .inl (cI, nx, .inl X2)), (qy, .inl (cI, nx, .inl Y2))] H := hP
            have hD : va_D A [(hp, .inr (5, [.ref qk, .ref qf, .ref qx, .ref qy, .int (nI pc_), .int (nI pn), .int (nI pb)])), (qk, .inl (cI, nk, .inl K2)), (qf, .inl (cI, nk, .inl F2)), (qx, .inl (cI, nx, .inl X2)), (qy, .inl (cI, nx, .inl Y2))] := hD
            refine W.eq (g2 := F0 m 35 ls []) rfl ?_
            have hR2 : RIp pc_ pn pb K2 F2 X2 Y2 ((Dn ++ [sb]).flatMap renT ++ rr.flatMap rend) := by
              have h9 := RI_turn hR1 hsbs (K' := K2) (F' := F2) (X' := X2) (Y' := Y2) (fun k => by rw [ht9.1 k, hl9, hb_]) (fun k => by rw [ht9.2.1 k, hb_, g1]) (fun k => by rw [ht9.2.2.1 k, hb_, g1]) (fun k => by rw [ht9.2.2.2 k, hl9, hb_, g1])
              simpa using h9
            refine lv_iload_n hx hb d_Path_turnSubpaths_35 rfl (lv_at hl 2 rfl) ?_
            refine lv_istore_n (lv' := [(1, .int (nI j)), (0, .ref hp), (2, .int (nI j))]) hx hb d_Path_turnSubpaths_36 rfl hl (by decide) rfl (fun ls hl => ?_)
            refine lv_iinc (v := nI (j + 1)) (lv' := [(2, .int (nI (j + 1))), (1, .int (nI j)), (0, .ref hp)]) hx hb d_Path_turnSubpaths_37 hl (k := 2) rfl (by first | exact nI_add _ 1 | rfl | decide) (by decide) rfl (fun ls hl => ?_)
            refine lv_goto (tgt := 4) hx hb d_Path_turnSubpaths_40 (by decide) ?_
            exact ih_4 j (j + 1) K2 F2 X2 Y2 (Dn ++ [sb]) rr (by omega) (by rw [hsub, hrs]; simp) (hR2) (by rw [he, hb_]; simp [ren_len]) (by omega) (by omega) (fun q r _ => by rw [rend_1]; omega) _ _ _ hP hD hS (lv_sub hl [2, 1, 0] rfl)
        · skip
          refine lv_aload_n hx hb d_Path_turnSubpaths_20 rfl (lv_at hl 0 rfl) ?_
          refine va_get (D := D) (ci := 5) (v := .ref qk) (C := R_Path) (T := T_Path) (N := 7) hx hb hts (ui_Path _) hown hK hP 0 rfl rfl 0 (by decide) (hts _ (gwc gw_107)) (fun _ h9 => h9) rfl d_Path_turnSubpaths_21 ?_
          refine lv_iload_n hx hb d_Path_turnSubpaths_24 rfl (lv_at hl 2 rfl) ?_
          refine ld_i hx hb hK hP 1 0 rfl rfl j (by omega) (by omega) d_Path_turnSubpaths_25 ?_
          refine lv_if_ne (tgt := 37) hx hb d_Path_turnSubpaths_26 (by decide) (fun c_5 => ?_) (fun c_5 => ?_)
          · skip
            refine lv_iinc (v := nI (j + 1)) (lv' := [(2, .int (nI (j + 1))), (0, .ref hp), (1, .int (nI b_))]) hx hb d_Path_turnSubpaths_37 hl (k := 2) rfl (by first | exact nI_add _ 1 | rfl | decide) (by decide) rfl (fun ls hl => ?_)
            refine lv_goto (tgt := 4) hx hb d_Path_turnSubpaths_40 (by decide) ?_
            exact ih_4 b_ (j + 1) K_ F_ X_ Y_ Dn rs (by omega) (hsub) (hRI) (hb_) (by omega) (by omega) (fun q r h => by
      have h9 : RIp pc_ pn pb K_ F_ X_ Y_ ((Dn.flatMap renT) ++ (rend q ++ r.flatMap rend)) := by rw [h] at hRI; exact hRI
      have h8 := hjs q r h
      rw [hb_] at h8 ⊢
      exact ts_go h9 h8 c_2 c_5) _ _ _ hP hD hS (lv_sub hl [1, 2, 0] rfl)
          · skip
            have he : j = b_ + (rend sb).length := by
              rw [hb_] at hbj hj8 ⊢
              exact ts_stop hR1 hsbs hbj hj8 (Or.inr c_5)
            obtain ⟨fo, g1, g2, g3, g4, g5⟩ := ts_pre hR1 hsbs
            have hr1 := rend_1 (s := sb)
            refine lv_aload_n hx hb d_Path_turnSubpaths_29 rfl (lv_at hl 0 rfl) ?_
            refine lv_iload_n hx hb d_Path_turnSubpaths_30 rfl (lv_at hl 1 rfl) ?_
            refine lv_iload_n hx hb d_Path_turnSubpaths_31 rfl (lv_at hl 2 rfl) ?_
            cases hcl : sb.2.2
            · skip
              have hcn : (clo sb.1 sb.2.2).length = 0 := by rw [hcl]; rfl
              have hl9 : j - 1 = (Dn.flatMap renT).length + sb.2.1.length := by omega
              refine ct_callV (ci := 5) (q0 := 0) (As := [.int (nI b_), .int (nI j)]) (rest := []) (wr := []) (n := 2) (c_Path_turnSubpath0 l D cI cB cJ qQ  hp qk qf qx qy pc_ pn pb nk nx K_ F_ X_ Y_ fo b_ j ((pl (Dn.flatMap renT)).length + (pl sb.2.1).length) (hnk) (hnx) (by omega) (by omega) (by rw [he, hb_]; exact (RS_c hR1 hsbs).2 hcl) (by rw [hb_]; exact g2) (by rw [hl9]; exact g3) (by rw [hl9]; exact g4) (by rw [hb_, g1]; omega) (by omega)) hx hb hml hown hts (amb_ok qQ) hK hP hD hS hA hM (gi_V gw_363 gw_365 gw_10 gw_32 gw_366) rfl (by decide +kernel) ⟨by omega, by omega⟩ [0, 1, 2, 3, 4] [] rfl rfl rfl rfl (by decide) rfl rfl rfl hl.1 rfl (Nat.le_of_ble_eq_true rfl) d_Path_turnSubpaths_32 ⟨by omega, by omega⟩ (fun u_6 H locs hok hP hD hS => ?_)
              obtain ⟨K2, F2, X2, Y2⟩ := u_6
              have ht9 : (∀ k, K2 k = tr K_ (b_ + 1) (j - 1) k) ∧ (∀ k, X2 k = tr X_ (fo b_) ((pl (Dn.flatMap renT)).length + (pl sb.2.1).length) k) ∧ (∀ k, Y2 k = tr Y_ (fo b_) ((pl (Dn.flatMap renT)).length + (pl sb.2.1).length) k) ∧ ∀ k, F2 k = if b_ < k ∧ k ≤ j - 1 then nI (fo b_ + 1 + sk K2 b_ (k - (b_ + 1))) else F_ k := hok
              have hP : va_P D cl [(hp, .inr (5, [.ref qk, .ref qf, .ref qx, .ref qy, .int (nI pc_), .int (nI pn), .int (nI pb)])), (qk, .inl (cI, nk, .inl K2)), (qf, .inl (cI, nk, .inl F2)), (qx, .inl (cI, nx, .inl X2)), (qy, .inl (cI, nx, .inl Y2))] H := hP
              have hD : va_D A [(hp, .inr (5, [.ref qk, .ref qf, .ref qx, .ref qy, .int (nI pc_), .int (nI pn), .int (nI pb)])), (qk, .inl (cI, nk, .inl K2)), (qf, .inl (cI, nk, .inl F2)), (qx, .inl (cI, nx, .inl X2)), (qy, .inl (cI, nx, .inl Y2))] := hD
              refine W.eq (g2 := F0 m 35 ls []) rfl ?_
              have hR2 : RIp pc_ pn pb K2 F2 X2 Y2 ((Dn ++ [sb]).flatMap renT ++ rr.flatMap rend) := by
                have h9 := RI_turn hR1 hsbs (K' := K2) (F' := F2) (X' := X2) (Y' := Y2) (fun k => by rw [ht9.1 k, hl9, hb_]) (fun k => by rw [ht9.2.1 k, hb_, g1]) (fun k => by rw [ht9.2.2.1 k, hb_, g1]) (fun k => by rw [ht9.2.2.2 k, hl9, hb_, g1])
                simpa using h9
              refine lv_iload_n hx hb d_Path_turnSubpaths_35 rfl (lv_at hl 2 rfl) ?_
              refine lv_istore_n (lv' := [(1, .int (nI j)), (0, .ref hp), (2, .int (nI j))]) hx hb d_Path_turnSubpaths_36 rfl hl (by decide) rfl (fun ls hl => ?_)
              refine lv_iinc (v := nI (j + 1)) (lv' := [(2, .int (nI (j + 1))), (1, .int (nI j)), (0, .ref hp)]) hx hb d_Path_turnSubpaths_37 hl (k := 2) rfl (by first | exact nI_add _ 1 | rfl | decide) (by decide) rfl (fun ls hl => ?_)
              refine lv_goto (tgt := 4) hx hb d_Path_turnSubpaths_40 (by decide) ?_
              exact ih_4 j (j + 1) K2 F2 X2 Y2 (Dn ++ [sb]) rr (by omega) (by rw [hsub, hrs]; simp) (hR2) (by rw [he, hb_]; simp [ren_len]) (by omega) (by omega) (fun q r _ => by rw [rend_1]; omega) _ _ _ hP hD hS (lv_sub hl [2, 1, 0] rfl)
            · skip
              have hcn : (clo sb.1 sb.2.2).length = 1 := by rw [hcl]; rfl
              have hl9 : j - 2 = (Dn.flatMap renT).length + sb.2.1.length := by omega
              refine ct_callV (ci := 5) (q0 := 0) (As := [.int (nI b_), .int (nI j)]) (rest := []) (wr := []) (n := 2) (c_Path_turnSubpath1 l D cI cB cJ qQ  hp qk qf qx qy pc_ pn pb nk nx K_ F_ X_ Y_ fo b_ j ((pl (Dn.flatMap renT)).length + (pl sb.2.1).length) (hnk) (hnx) (by omega) (by omega) (by rw [he, hb_]; exact (RS_c hR1 hsbs).1 hcl) (by rw [hb_]; exact g2) (by rw [hl9]; exact g3) (by rw [hl9]; exact g4) (by rw [hb_, g1]; omega) (by omega)) hx hb hml hown hts (amb_ok qQ) hK hP hD hS hA hM (gi_V gw_363 gw_365 gw_10 gw_32 gw_366) rfl (by decide +kernel) ⟨by omega, by omega⟩ [0, 1, 2, 3, 4] [] rfl rfl rfl rfl (by decide) rfl rfl rfl hl.1 rfl (Nat.le_of_ble_eq_true rfl) d_Path_turnSubpaths_32 ⟨by omega, by omega⟩ (fun u_7 H locs hok hP hD hS => ?_)
              obtain ⟨K2, F2, X2, Y2⟩ := u_7
              have ht9 : (∀ k, K2 k = tr K_ (b_ + 1) (j - 2) k) ∧ (∀ k, X2 k = tr X_ (fo b_) ((pl (Dn.flatMap renT)).length + (pl sb.2.1).length) k) ∧ (∀ k, Y2 k = tr Y_ (fo b_) ((pl (Dn.flatMap renT)).length + (pl sb.2.1).length) k) ∧ ∀ k, F2 k = if b_ < k ∧ k ≤ j - 2 then nI (fo b_ + 1 + sk K2 b_ (k - (b_ + 1))) else F_ k := hok
              have hP : va_P D cl [(hp, .inr (5, [.ref qk, .ref qf, .ref qx, .ref qy, .int (nI pc_), .int (nI pn), .int (nI pb)])), (qk, .inl (cI, nk, .inl K2)), (qf, .inl (cI, nk, .inl F2)), (qx, .inl (cI, nx, .inl X2)), (qy, .inl (cI, nx, .inl Y2))] H := hP
              have hD : va_D A [(hp, .inr (5, [.ref qk, .ref qf, .ref qx, .ref qy, .int (nI pc_), .int (nI pn), .int (nI pb)])), (qk, .inl (cI, nk, .inl K2)), (qf, .inl (cI, nk, .inl F2)), (qx, .inl (cI, nx, .inl X2)), (qy, .inl (cI, nx, .inl Y2))] := hD
              refine W.eq (g2 := F0 m 35 ls []) rfl ?_
              have hR2 : RIp pc_ pn pb K2 F2 X2 Y2 ((Dn ++ [sb]).flatMap renT ++ rr.flatMap rend) := by
                have h9 := RI_turn hR1 hsbs (K' := K2) (F' := F2) (X' := X2) (Y' := Y2) (fun k => by rw [ht9.1 k, hl9, hb_]) (fun k => by rw [ht9.2.1 k, hb_, g1]) (fun k => by rw [ht9.2.2.1 k, hb_, g1]) (fun k => by rw [ht9.2.2.2 k, hl9, hb_, g1])
                simpa using h9
              refine lv_iload_n hx hb d_Path_turnSubpaths_35 rfl (lv_at hl 2 rfl) ?_
              refine lv_istore_n (lv' := [(1, .int (nI j)), (0, .ref hp), (2, .int (nI j))]) hx hb d_Path_turnSubpaths_36 rfl hl (by decide) rfl (fun ls hl => ?_)
              refine lv_iinc (v := nI (j + 1)) (lv' := [(2, .int (nI (j + 1))), (1, .int (nI j)), (0, .ref hp)]) hx hb d_Path_turnSubpaths_37 hl (k := 2) rfl (by first | exact nI_add _ 1 | rfl | decide) (by decide) rfl (fun ls hl => ?_)
              refine lv_goto (tgt := 4) hx hb d_Path_turnSubpaths_40 (by decide) ?_
              exact ih_4 j (j + 1) K2 F2 X2 Y2 (Dn ++ [sb]) rr (by omega) (by rw [hsub, hrs]; simp) (hR2) (by rw [he, hb_]; simp [ren_len]) (by omega) (by omega) (fun q r _ => by rw [rend_1]; omega) _ _ _ hP hD hS (lv_sub hl [2, 1, 0] rfl)
  exact L_4 ((pc_ + 1 - 1) + 1) 0 1 K Fi X Y ([]) subs (Nat.lt_succ_self _) (rfl) (hR0) (rfl) (by omega) (by omega) (fun q r _ => by rw [rend_1]; omega) _ _ _ hP hD hS (lv_sub hl [2, 1, 0] rfl)
